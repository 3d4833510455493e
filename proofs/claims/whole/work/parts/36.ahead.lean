/-! WHAT WOULD BE: behind, goes, never, stop -/
section TR
variable {T : TA} {x m : Mem}
/-- the trial Market is a copy of now, and the reference holds its row -/
theorem b_trial (h : RA T x m) : ∃ x1 m1 made Y, X1_copyFrom 1 0 x = some x1 ∧ X6_remembers m = some m1 ∧ Y ≤ 99 ∧ ST T (-4) 1 x1 m1 (m1 20 4 0) made Y ∧ (∀ q, q ≠ 1 → x1 q = x q) ∧ (∀ f, f ≠ 13 → m1 20 f 0 = m 20 f 0) ∧ (∀ j, j < 55 → m1 20 13 0 j = m 20 4 0 j) ∧ RQ T (-4) (x 0) (m 20 4 0) made Y := by
  obtain ⟨made, Y, hY, hR, hM⟩ := RA_MS h
  obtain ⟨hB, p1, n1, hTM, hTX, hf⟩ := h.1
  obtain ⟨x1, e1, e2, e3⟩ := x_copy (μ := x) (q := 1) (q1 := 0) (by omega)
  have hm : ∀ f, f ≠ 13 → xa m 20 13 0 (cpF (m 20 4 0) 0 55 (m 20 13 0)) 20 f 0 = m 20 f 0 := fun f hf => xa_fr m (by omega)
  refine ⟨x1, _, made, Y, e1, m_remembers m, hY, ?_, e2, hm, fun j hj => by rw [xa_row, cpF_55 hj], hR⟩
  rw [hm 4 (by omega)]
  refine ⟨?_, by rw [hm 12 (by omega)]; exact hf, by rw [e2 13 (by omega)]; exact hTX, RQ_cong hB e3 (fun _ _ => rfl) hR⟩
  exact ⟨hB, by rw [xa4_2, hm 2 (by omega)]; exact hTM, by rw [xa4_4]; exact hR.2.2.2.2.2, by omega⟩
theorem RA_back {x1 m1 x' : Mem} {s' : Nat → Int32} (h : RA T x m) (hx : ∀ q, q ≠ 1 → x' q = x q) (hm : ∀ f, f ≠ 13 → m1 20 f 0 = m 20 f 0) (hs : ∀ j, j < 55 → s' j = m 20 4 0 j) : RR x' (xa m1 20 4 0 s') := by
  refine RR_frame (x := x) (m := m) ⟨T, h⟩ (fun q h1 _ _ => hx q h1) (fun f h1 h2 h3 h4 => ?_) (fun j hj => by rw [xa4_4]; exact hs j hj)
  rw [← hm f h4]
  exact xa_fr m1 (by omega)
end TR
theorem ge0 {v : Int32} (h : ¬ v < 0) : 0 ≤ v := Int32.not_lt.mp h
theorem op_behind (a n : Int32) : OP (X5_behind a n) (X6_behind a n) := by
  intro x m ⟨T, hA⟩
  have hA' : RA T x m := hA
  obtain ⟨hB, p1, n1, hTM, hTX, hf⟩ := hA'.1
  have b1 := hB.2.1
  unfold X5_behind X6_behind
  rcases b_thing n1 hB hTX hTM a with ⟨t, ht, rfl, e3, e4⟩ | ⟨e3, e4⟩
  · rw [e3, e4, bdO, bdO, if10, if10]
    by_cases c1 : n < 0
    · rw [if_pos c1, m_inL c1, bdO, if00]
      exact ⟨_, _, _, rfl, rfl, T, hA⟩
    rw [if_neg c1]
    by_cases c2 : n ≤ 9
    · rw [if_pos c2, m_in1 (ge0 c1) c2, bdO, if10]
      obtain ⟨k, k1, k2, rfl⟩ := rng0 (a := 0) (b := 9) (by omega) (by omega) c1 c2
      obtain ⟨x1, m1, made, Y, g1, g2, hY, hST, g3, g4, g5, -⟩ := b_trial hA'
      obtain ⟨s', f1⟩ := m_whoseBehind (by omega) hST k2 (by omega) ht
      rw [xa_me] at f1
      rw [g1, g2, bdvO, bdvO, x_holdFairs (by omega) hST k2 (by omega), f1, bdvO, bdO]
      simp (discharger := omega) only [giN, clN]
      exact ⟨_, _, _, rfl, rfl, RA_back (x1 := x1) hA' (fun q hq => by rw [(ST_seq (by omega) hST k (by omega)).2 q hq, g3 q hq]) g4 (fun j hj => by rw [cpF_55 hj]; exact g5 j hj)⟩
    · rw [if_neg c2, m_inH c2, bdO, if00]
      exact ⟨_, _, _, rfl, rfl, T, hA⟩
  · rw [e3, e4, bdO, bdO, if00, if00]
    exact ⟨_, _, _, rfl, rfl, T, hA⟩
theorem op_goes (a : Int32) : OP (X5_goes a) (X6_goes a) := by
  intro x m ⟨T, hA⟩
  have hA' : RA T x m := hA
  obtain ⟨hB, p1, n1, hTM, hTX, hf⟩ := hA'.1
  unfold X5_goes X6_goes
  rcases b_thing n1 hB hTX hTM a with ⟨t, ht, rfl, e3, e4⟩ | ⟨e3, e4⟩
  · rw [e3, e4, bdO, bdO, if10, if10]
    obtain ⟨x1, m1, made, Y, g1, g2, hY, hST, g3, g4, g5, -⟩ := b_trial hA'
    obtain ⟨s', f1⟩ := m_goesBehind (by omega) hST (by omega) ht
    obtain ⟨ν, h1, h2, -⟩ := x_tillGone (by omega) hST (by omega) ht
    rw [xa_me] at f1
    rw [g1, g2, bdvO, bdvO, h1, f1, bdO, bdO]
    exact ⟨_, _, _, rfl, rfl, RA_back (x1 := x1) hA' (fun q hq => by rw [h2 q hq, g3 q hq]) g4 (fun j hj => by rw [cpF_55 hj]; exact g5 j hj)⟩
  · rw [e3, e4, bdO, bdO, if00, if00]
    exact ⟨_, _, _, rfl, rfl, T, hA⟩
theorem op_never : OP X5_never X6_never := by
  intro x m ⟨T, hA⟩
  have hA' : RA T x m := hA
  obtain ⟨hB, p1, n1, hTM, hTX, hf⟩ := hA'.1
  have b1 := hB.2.1
  obtain ⟨x1, m1, made, Y, g1, g2, hY, hST, g3, g4, g5, -⟩ := b_trial hA'
  unfold X5_never X6_never
  rw [g1, bdvO, show (9 : Int32) = nI 9 from rfl, x_holdFairs (by omega) hST (by omega) (by omega), bdvO]
  have hT1 : TX (seqX 1 x1 9 13) T := by
    rw [(ST_seq (by omega) hST 9 (by omega)).2 13 (by omega), g3 13 (by omega)]
    exact hTX
  have hx : lo2 X5_never_b24 1000 0 0 (seqX 1 x1 9) = some (fo (fun t (a : Int32) => if seqX 1 x1 9 1 4 0 t = -4 then a ||| (1 <<< (nI t &&& 31)) else a) (T 1 0) 0, seqX 1 x1 9) := by
    refine lo2_eq (T 1 0) (fun k => fo (fun t (a : Int32) => if seqX 1 x1 9 1 4 0 t = -4 then a ||| (1 <<< (nI t &&& 31)) else a) k 0) (fun k => nI k) (fun _ => seqX 1 x1 9) ?_ ?_ 1000 (by omega)
    · intro k hk K
      unfold X5_never_b24 X5_never_b52
      dsimp only [fo]
      simp (discharger := omega) only [hT1.2.1, leN, x_isFree, bdO, nI_1]
      rw [if_neg (by omega)]
      by_cases c : seqX 1 x1 9 1 4 0 k = -4
      · rw [if_pos c, if10, if_pos c]
      · rw [if_neg c, if00, if_neg c]
    · intro K
      unfold X5_never_b24
      simp (discharger := omega) only [hT1.2.1, leN]
      rw [if_pos (Nat.le_refl _)]
  rw [hx]
  obtain ⟨a', b', ν, ⟨rfl, rfl, hI⟩, K9, e⟩ := lo2_inv (b := X6_never_b4) (T 1 0) (fun k a b ν => a = fo (fun t (a : Int32) => if seqX 1 x1 9 1 4 0 t = -4 then a ||| (1 <<< (nI t &&& 31)) else a) k 0 ∧ b = nI k ∧ RA T x ν) (fun k a b ν hk hI => by
    obtain ⟨rfl, rfl, hν⟩ := hI
    obtain ⟨hB', p1', n1', hTM', hTX', hf'⟩ := hν.1
    obtain ⟨y1, w1, made2, Y2, q1, q2, hY2, hST2, q3, q4, q5, -⟩ := b_trial hν
    rw [g1] at q1
    cases q1
    obtain ⟨s', f1⟩ := m_whoseBehind (n := 9) (by omega) hST2 (by omega) (by omega) hk
    rw [xa_me] at f1
    have hth : X6_isThing (nI k) ν = some (1, ν) := by
      rcases b_thing n1' hB' hTX' hTM' (nI k) with ⟨t, -, -, -, e4⟩ | ⟨e3, -⟩
      · exact e4
      · exfalso
        unfold X4_hasThing at e3
        rw [hTX'.2.1, if_neg (nN0 (by omega)), if_neg (show ¬ nI (T 1 0) ≤ nI k by rw [leN (by omega) (by omega)]; omega)] at e3
        cases e3
    have hbh : X6_behind (nI k) (nI 9) ν = some (seqX 1 x1 9 1 4 0 k, xa w1 20 4 0 (cpF (w1 20 13 0) 0 55 s')) := by
      unfold X6_behind
      rw [hth, bdO, if10, m_in1 (by decide) (by decide), bdO, if10, q2, bdvO, f1, bdO]
    have hRR := RA_back (x1 := x1) (x' := x) hν (fun q _ => rfl) q4 (s' := cpF (w1 20 13 0) 0 55 s') (fun j hj => by rw [cpF_55 hj]; exact q5 j hj)
    have hRA : RA T x (xa w1 20 4 0 (cpF (w1 20 13 0) 0 55 s')) := by
      obtain ⟨h0, hz, hh, hp, hn, ht⟩ := hν
      have fm : ∀ f, f ≠ 4 → f ≠ 13 → xa w1 20 4 0 (cpF (w1 20 13 0) 0 55 s') 20 f 0 = ν 20 f 0 := fun f h4 h13 => by
        rw [← q4 f h13]
        exact xa_fr w1 (by omega)
      refine ⟨R0_cong rfl (fm 2 (by omega) (by omega)) (fm 12 (by omega) (by omega)) h0, ?_, RH_cong rfl (fun _ _ _ => rfl) (fm 6 (by omega) (by omega)) (fm 5 (by omega) (by omega)) hh, RP_cong rfl (fun _ _ _ => rfl) (fm 8 (by omega) (by omega)) (fm 7 (by omega) (by omega)) hp, RN_cong rfl (fm 10 (by omega) (by omega)) (fm 9 (by omega) (by omega)) hn, RX_cong rfl rfl (fm 1 (by omega) (by omega)) (fm 0 (by omega) (by omega)) ht⟩
      rw [xa4_4]
      exact RZ_cong h0.1 (ZC_me _) (fun j hj => by rw [cpF_55 hj]; exact q5 j hj) hz
    refine ⟨_, _, _, ⟨rfl, rfl, hRA⟩, fun Kc => ?_⟩
    unfold X6_never_b4 X6_never_b34
    dsimp only [fo]
    rw [show (9 : Int32) = nI 9 from rfl]
    simp (discharger := omega) only [gl1, tc1, hTM'.2.1, leN, hbh, bdO, nI_1]
    rw [if_neg (by omega)]
    by_cases c : seqX 1 x1 9 1 4 0 k = -4
    · rw [if_pos c, if_pos c]
    · rw [if_neg c, if_neg c, Int32.or_zero]) 0 0 m ⟨rfl, rfl, hA'⟩ 1000 (by omega)
  rw [e]
  unfold X6_never_b4
  simp (discharger := omega) only [gl1, tc1, hI.1.2.2.2.1.2.1, leN]
  rw [if_pos (Nat.le_refl _)]
  refine ⟨_, _, _, rfl, rfl, RR_frame (x := x) (m := ν) ⟨T, hI⟩ (fun q h1 _ _ => ?_) (fun f _ _ _ _ => rfl) (fun j _ => rfl)⟩
  rw [(ST_seq (by omega) hST 9 (by omega)).2 q h1, g3 q h1]
