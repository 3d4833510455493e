/-! STOP -/
theorem lt31 : (31 : Int32) = nI 31 := rfl
section STOP
variable {T : TA} {x m1 : Mem} {h0 : Nat → Int32} {made : Nat → Nat → Nat} {Y i t : Nat} {v : Int32}
/-- what both sides keep over the tries -/
def SB (T : TA) (x m1 : Mem) (made : Nat → Nat → Nat) (Y : Nat) : Prop := TB T ∧ TM (m1 20 2 0) T ∧ m1 20 12 0 0 = -4 ∧ TX (x 13) T ∧ Y ≤ 99 ∧ RQ T (-4) (x 0) (m1 20 13 0) made Y
theorem SB_ST (h : SB T x m1 made Y) {ξ : Mem} {s : Nat → Int32} (hx : ∀ q, q ≠ 1 → ξ q = x q) (hz : ZC (ξ 1) (x 0)) (hs : ∀ j, j < 55 → s j = m1 20 13 0 j) : ST T (-4) 1 ξ m1 s made Y := by
  obtain ⟨a1, a2, a3, a4, a5, a6⟩ := h
  have hr := RQ_cong a1 hz hs a6
  exact ⟨⟨a1, by rw [xa4_2]; exact a2, by rw [xa4_4]; exact hr.2.2.2.2.2, by omega⟩, a3, by rw [hx 13 (by omega)]; exact a4, hr⟩
theorem ST_pauses {ξ : Mem} {s : Nat → Int32} (h : ST T (-4) 1 ξ m1 s made Y) (hi : i < T 0 0) (ht : t < T 1 0) {b : Nat} (hb1 : 1 ≤ b) (hb : b ≤ 30) : ∃ ν s', X1_addPause 1 (nI i) (nI t) (nI b) ξ = some ν ∧ X6_pauses (nI i) (nI t) (nI b) (xa m1 20 4 0 s) = some (xa m1 20 4 0 s') ∧ (∀ q', q' ≠ 1 → ν q' = ξ q') ∧ ST T (-4) 1 ν m1 s' (adM made i t b Y) Y := by
  obtain ⟨h1, h2, h3, h4⟩ := h
  obtain ⟨ν, s', e1, e2, e3, e4, e5⟩ := b_pauses (by omega) h1 h3 h4 hi ht hb1 hb
  exact ⟨ν, s', e1, e2, e3, e5, h2, by rw [e3 13 (by omega)]; exact h3, e4⟩
theorem stop_loop (h : SB T x m1 made Y) (hi : i < T 0 0) (ht : t < T 1 0) : ∀ d b f1 f2, b + d = 31 → 1 ≤ b → d < f1 → d < f2 → ∀ ξ s, (∀ q, q ≠ 1 → ξ q = x q) → (∀ j, j < 55 → s j = m1 20 13 0 j) → ∃ r ξ' s', lo1 (X5_stop_b36 (nI i) (nI t) v) f1 (nI b) ξ = some (r, ξ') ∧ lo1 (X6_stop_b59 (nI i) (nI t) v) f2 (nI b) (xa m1 20 4 0 s) = some (r, xa m1 20 4 0 s') ∧ (∀ q, q ≠ 1 → ξ' q = x q) ∧ ∀ j, j < 55 → s' j = m1 20 13 0 j := by
  have b0 := h.1.1
  have b1 := h.1.2.1
  have hY := h.2.2.2.2.1
  intro d
  induction d with
  | zero =>
    intro b f1 f2 hb hb1 hf1 hf2 ξ s hx hs
    obtain ⟨g1, rfl⟩ : ∃ f, f1 = f + 1 := ⟨f1 - 1, by omega⟩
    obtain ⟨g2, rfl⟩ : ∃ f, f2 = f + 1 := ⟨f2 - 1, by omega⟩
    have e : b = 31 := by omega
    subst e
    refine ⟨-4, ξ, s, ?_, ?_, hx, hs⟩
    · show X5_stop_b36 (nI i) (nI t) v (lo1 (X5_stop_b36 (nI i) (nI t) v) g1) (nI 31) ξ = _
      unfold X5_stop_b36
      rw [if_pos (show 30 < nI 31 by rw [lt30, ltN (by omega) (by omega)]; omega)]
    · show X6_stop_b59 (nI i) (nI t) v (lo1 (X6_stop_b59 (nI i) (nI t) v) g2) (nI 31) _ = _
      unfold X6_stop_b59
      rw [if_pos (show 31 ≤ nI 31 by rw [lt31, leN (by omega) (by omega)]; omega)]
  | succ d ih =>
    intro b f1 f2 hb hb1 hf1 hf2 ξ s hx hs
    obtain ⟨g1, rfl⟩ : ∃ f, f1 = f + 1 := ⟨f1 - 1, by omega⟩
    obtain ⟨g2, rfl⟩ : ∃ f, f2 = f + 1 := ⟨f2 - 1, by omega⟩
    obtain ⟨ξ1, e1, e2, e3⟩ := x_copy (μ := ξ) (q := 1) (q1 := 0) (by omega)
    rw [hx 0 (by omega)] at e3
    have hx1 : ∀ q, q ≠ 1 → ξ1 q = x q := fun q hq => by rw [e2 q hq, hx q hq]
    obtain ⟨ν, s2, p1, p2, p3, p4⟩ := ST_pauses (SB_ST h hx1 e3 hs) hi ht hb1 (by omega)
    obtain ⟨s3, w1⟩ := m_whoseBehind (n := 9) (by omega) p4 (by omega) (by omega) ht
    obtain ⟨ν', t1, t2, t3⟩ := x_tillGone (by omega) p4 (by omega) ht
    have hs3 : ∀ j, j < 55 → cpF (m1 20 13 0) 0 55 s3 j = m1 20 13 0 j := fun j hj => cpF_55 hj
    obtain ⟨ν2, s4, r1, r2, r3, r4⟩ := ST_pauses (SB_ST h hx1 e3 hs3) hi ht hb1 (by omega)
    rw [p1] at r1
    cases r1
    obtain ⟨s5, g⟩ := m_goesBehind (by omega) r4 (by omega) ht
    have hs5 : ∀ j, j < 55 → cpF (m1 20 13 0) 0 55 s5 j = m1 20 13 0 j := fun j hj => cpF_55 hj
    have hν' : ∀ q, q ≠ 1 → ν' q = x q := fun q hq => by rw [t2 q hq, p3 q hq, hx1 q hq]
    obtain ⟨r, ξ', s', k1, k2, k3, k4⟩ := ih (b + 1) g1 g2 (by omega) (by omega) (by omega) (by omega) ν' _ hν' hs5
    have hX : lo1 (X5_stop_b36 (nI i) (nI t) v) (g1 + 1) (nI b) ξ = if seqX 1 ν 9 1 4 0 t = nI i then (if v = 0 then some (nI b, ν') else some (gS (fun k => seqX 1 ν k 1 4 0 t) 10 0, ν')) else some (r, ξ') := by
      show X5_stop_b36 (nI i) (nI t) v (lo1 (X5_stop_b36 (nI i) (nI t) v) g1) (nI b) ξ = _
      generalize lo1 (X5_stop_b36 (nI i) (nI t) v) g1 = Kc at k1 ⊢
      unfold X5_stop_b36 X5_stop_b70
      rw [if_neg (show ¬ 30 < nI b by rw [lt30, ltN (by omega) (by omega)]; omega), e1, bdvO, if_neg (show ¬ nI b ≤ 0 by rw [lt0, leN (by omega) (by omega)]; omega), p1, bdvO, t1, bdO]
      simp (discharger := omega) only [giN, clN, t3, nI_1, k1]
    have hM : lo1 (X6_stop_b59 (nI i) (nI t) v) (g2 + 1) (nI b) (xa m1 20 4 0 s) = if seqX 1 ν 9 1 4 0 t = nI i then (if v = 0 then some (nI b, xa m1 20 4 0 (cpF (m1 20 13 0) 0 55 s5)) else some (gS (fun k => seqX 1 ν k 1 4 0 t) 10 0, xa m1 20 4 0 (cpF (m1 20 13 0) 0 55 s5))) else some (r, xa m1 20 4 0 s') := by
      show X6_stop_b59 (nI i) (nI t) v (lo1 (X6_stop_b59 (nI i) (nI t) v) g2) (nI b) _ = _
      generalize lo1 (X6_stop_b59 (nI i) (nI t) v) g2 = Kc at k2 ⊢
      unfold X6_stop_b59 X6_stop_b90
      rw [if_neg (show ¬ 31 ≤ nI b by rw [lt31, leN (by omega) (by omega)]; omega), p2, bdvO, show (9 : Int32) = nI 9 from rfl, w1, bdO]
      simp only [r2, bdvO, g, bdO, if10, if00, nI_1, k2, if_true]
    rw [hX, hM]
    by_cases c1 : seqX 1 ν 9 1 4 0 t = nI i
    · rw [if_pos c1, if_pos c1]
      by_cases c2 : v = 0
      · rw [if_pos c2, if_pos c2]
        exact ⟨_, _, _, rfl, rfl, hν', hs5⟩
      · rw [if_neg c2, if_neg c2]
        exact ⟨_, _, _, rfl, rfl, hν', hs5⟩
    · rw [if_neg c1, if_neg c1]
      exact ⟨_, _, _, rfl, rfl, k3, k4⟩
end STOP
theorem op_stop (a b v : Int32) : OP (X5_stop a b v) (X6_stop a b v) := by
  intro x m ⟨T, hA⟩
  have hA' : RA T x m := hA
  obtain ⟨hB, p1, n1, hTM, hTX, hf⟩ := hA'.1
  have b0 := hB.1
  have b1 := hB.2.1
  unfold X5_stop X6_stop
  rcases b_person p1 hB hTX hTM a with ⟨i, hi, rfl, e1, e2⟩ | ⟨e1, e2⟩
  · rw [e1, e2, bdO, bdO, if10, if10]
    rcases b_thing n1 hB hTX hTM b with ⟨t, ht, rfl, e3, e4⟩ | ⟨e3, e4⟩
    · rw [e3, e4, bdO, bdO, if10, if10]
      by_cases c1 : v < 0
      · rw [if_pos c1, m_inL c1, bdO, if00]
        exact ⟨_, _, _, rfl, rfl, T, hA⟩
      rw [if_neg c1]
      by_cases c2 : v ≤ 1
      · rw [if_pos c2, m_in1 (ge0 c1) c2, bdO, if10]
        obtain ⟨x1, m1, made, Y, g1, g2, hY, hST, g3, g4, g5, g6⟩ := b_trial hA'
        have hSB : SB T x m1 made Y := ⟨hB, by rw [g4 2 (by omega)]; exact hTM, by rw [g4 12 (by omega)]; exact hf, hTX, hY, RQ_cong hB (ZC_me _) g5 g6⟩
        obtain ⟨s', w1⟩ := m_whoseBehind (n := 9) (by omega) hST (by omega) (by omega) ht
        obtain ⟨ν, t1, t2, t3⟩ := x_tillGone (by omega) hST (by omega) ht
        have hν : ∀ q, q ≠ 1 → ν q = x q := fun q hq => by rw [t2 q hq, g3 q hq]
        have hs' : ∀ j, j < 55 → cpF (m1 20 13 0) 0 55 s' j = m1 20 13 0 j := fun j hj => cpF_55 hj
        rw [xa_me] at w1
        obtain ⟨r, ξ', s2, k1, k2, k3, k4⟩ := stop_loop (v := v) hSB hi ht 30 1 999 1000 rfl (by omega) (by omega) (by omega) ν _ hν hs'
        have hX : lo1 (X5_stop_b36 (nI i) (nI t) v) 1000 0 x = if seqX 1 x1 9 1 4 0 t = nI i then (if v = 0 then some (0, ν) else some (gS (fun k => seqX 1 x1 k 1 4 0 t) 10 0, ν)) else some (r, ξ') := by
          show X5_stop_b36 (nI i) (nI t) v (lo1 (X5_stop_b36 (nI i) (nI t) v) 999) 0 x = _
          generalize lo1 (X5_stop_b36 (nI i) (nI t) v) 999 = Kc at k1 ⊢
          unfold X5_stop_b36 X5_stop_b70
          rw [if_neg (show ¬ (30 : Int32) < 0 by decide), g1, bdvO, if_pos (show (0 : Int32) ≤ 0 by decide), t1, bdO]
          simp (discharger := omega) only [giN, clN, t3]
          rw [show (0 : Int32) + 1 = nI 1 from rfl, k1]
        rw [hX, g2, bdvO, show (9 : Int32) = nI 9 from rfl, w1, bdO]
        by_cases c3 : seqX 1 x1 9 1 4 0 t = nI i
        · rw [if_pos c3, if_pos c3]
          by_cases c4 : v = 0
          · rw [if_pos c4, if_pos c4]
            exact ⟨_, _, _, rfl, rfl, RA_back (x1 := x1) hA' hν g4 (fun j hj => by rw [hs' j hj]; exact g5 j hj)⟩
          · rw [if_neg c4, if_neg c4]
            have hST2 : ST T (-4) 1 x1 m1 (cpF (m1 20 13 0) 0 55 s') made Y := by
              obtain ⟨ξ1, z1, z2, z3⟩ := x_copy (μ := x) (q := 1) (q1 := 0) (by omega)
              rw [g1] at z1
              cases z1
              exact SB_ST hSB g3 z3 hs'
            obtain ⟨s5, g⟩ := m_goesBehind (by omega) hST2 (by omega) ht
            rw [g, bdO]
            exact ⟨_, _, _, rfl, rfl, RA_back (x1 := x1) hA' hν g4 (fun j hj => by rw [cpF_55 hj]; exact g5 j hj)⟩
        · rw [if_neg c3, if_neg c3, show (1 : Int32) = nI 1 from rfl, k2]
          exact ⟨_, _, _, rfl, rfl, RA_back (x1 := x1) hA' k3 g4 (fun j hj => by rw [k4 j hj]; exact g5 j hj)⟩
      · rw [if_neg c2, m_inH c2, bdO, if00]
        exact ⟨_, _, _, rfl, rfl, T, hA⟩
    · rw [e3, e4, bdO, bdO, if00, if00]
      exact ⟨_, _, _, rfl, rfl, T, hA⟩
  · rw [e1, e2, bdO, bdO, if00, if00]
    exact ⟨_, _, _, rfl, rfl, T, hA⟩
