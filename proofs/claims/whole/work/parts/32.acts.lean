/-! THE ACTS: pause, fair, give, undo, keep, back -/
def RA (T : TA) (x m : Mem) : Prop := R0 T x m ∧ RZ T (x 0) (m 20 4 0) ∧ RH T x m ∧ RP T x m ∧ RN T x m ∧ RX x m
theorem RA_now {T : TA} {x m x' : Mem} {s' : Nat → Int32} (h : RA T x m) (hx : ∀ q, q ≠ 0 → x' q = x q) (hz : RZ T (x' 0) s') : RA T x' (xa m 20 4 0 s') := by
  obtain ⟨h0, -, hh, hp, hn, ht⟩ := h
  have f : ∀ f, f ≠ 4 → xa m 20 4 0 s' 20 f 0 = m 20 f 0 := fun f hf => xa_fr m (by omega)
  refine ⟨R0_cong (hx 13 (by omega)) (f 2 (by omega)) (f 12 (by omega)) h0, by rw [xa4_4]; exact hz, RH_cong (hx 15 (by omega)) (fun q h1 _ => hx q (by omega)) (f 6 (by omega)) (f 5 (by omega)) hh, RP_cong (by rw [hx 17 (by omega)]) (fun q h1 _ => hx q (by omega)) (f 8 (by omega)) (f 7 (by omega)) hp, RN_cong (hx 16 (by omega)) (f 10 (by omega)) (f 9 (by omega)) hn, RX_cong (by rw [hx 17 (by omega)]) (by rw [hx 17 (by omega)]) (f 1 (by omega)) (f 0 (by omega)) ht⟩
theorem RA_MS {T : TA} {x m : Mem} (h : RA T x m) : ∃ made Y, Y ≤ 99 ∧ RQ T (-4) (x 0) (m 20 4 0) made Y ∧ MS m T made Y := by
  obtain ⟨h0, ⟨made, Y, hY, hR⟩, -⟩ := h
  exact ⟨made, Y, hY, hR, h0.1, h0.2.2.2.1, hR.2.2.2.2.2, by omega⟩
theorem RZ_of {T : TA} {z z' : Nat → Nat → Nat → Int32} {s s' : Nat → Int32} (hB : TB T) (hz : ZC z' z) (hs : ∀ k, k < 55 → s' k = s k) (h : RZ T z s) : RZ T z' s' := RZ_cong hB hz hs h
theorem b_remember {T : TA} {x m : Mem} (h : RA T x m) : ∃ x' m', X0_remember x = some x' ∧ X6_keeps m = some m' ∧ RA T x' m' := by
  obtain ⟨h0, hz, ⟨n, nx, a1, a2, a3, a4, a5, a6⟩, hp, hn, ht⟩ := h
  obtain ⟨x', e1, e2, e3, e4, e5⟩ := x_remember a3 a4 a2 a1
  obtain ⟨m', f1, f2, f3, f4, f5⟩ := m_keeps a5 a1
  have g : ∀ f, f ≠ 5 → f ≠ 6 → m' 20 f 0 = m 20 f 0 := fun f h1 h2 => f3 f 0 (by omega) (by omega)
  have hx : ∀ q, q < 2 ∨ 10 ≤ q → q ≠ 15 → x' q = x q := fun q h1 h2 => e5 q h2 (by omega)
  refine ⟨x', m', e1, f1, R0_cong (hx 13 (by omega) (by omega)) (g 2 (by omega) (by omega)) (g 12 (by omega) (by omega)) h0, ?_, ?_, RP_cong (by rw [hx 17 (by omega) (by omega)]) (fun q h1 _ => hx q (by omega) (by omega)) (g 8 (by omega) (by omega)) (g 7 (by omega) (by omega)) hp, RN_cong (hx 16 (by omega) (by omega)) (g 10 (by omega) (by omega)) (g 9 (by omega) (by omega)) hn, RX_cong (by rw [hx 17 (by omega) (by omega)]) (by rw [hx 17 (by omega) (by omega)]) (g 1 (by omega) (by omega)) (g 0 (by omega) (by omega)) ht⟩
  · rw [hx 0 (by omega) (by omega), g 4 (by omega) (by omega)]
    exact hz
  · refine ⟨min (n + 1) 8, (nx + 1) % 8, Nat.min_le_right _ _, by omega, e2, e3, f2, fun k hk => ?_⟩
    by_cases c : k + 1 = min (n + 1) 8
    · have e : 2 + ((nx + 1) % 8 + 8 - min (n + 1) 8 + k) % 8 = 2 + nx := by omega
      rw [e]
      refine RZ_cong h0.1 e4 (fun j hj => ?_) hz
      have f := f4 j hj
      rw [show min (n + 1) 8 - 1 = k by omega] at f
      exact f
    · have e : 2 + ((nx + 1) % 8 + 8 - min (n + 1) 8 + k) % 8 = 2 + (nx + 8 - n + (if n = 8 then k + 1 else k)) % 8 := by
        split <;> omega
      have ho := a6 (if n = 8 then k + 1 else k) (by split <;> omega)
      rw [e, e5 _ (by omega) (by split <;> omega)]
      exact RZ_cong h0.1 (ZC_me _) (fun j hj => f5 k (by omega) j hj) ho
theorem if10 {α : Type} {a b : α} : (if (1 : Int32) = 0 then a else b) = b := if_neg (by decide)
theorem if00 {α : Type} {a b : α} : (if (0 : Int32) = 0 then a else b) = a := if_pos rfl
theorem lt99 : (99 : Int32) = nI 99 := rfl
theorem m_in1 {v a b : Int32} {m : Mem} (h1 : a ≤ v) (h2 : v ≤ b) : X6_in v a b m = some (1, m) := by rw [m_in, if_pos ⟨h1, h2⟩]
theorem m_inL {v a b : Int32} {m : Mem} (h : v < a) : X6_in v a b m = some (0, m) := by rw [m_in, if_neg (fun w => Int32.not_le.mpr h w.1)]
theorem m_inH {v a b : Int32} {m : Mem} (h : ¬ v ≤ b) : X6_in v a b m = some (0, m) := by rw [m_in, if_neg (fun w => h w.2)]
theorem ge1 {v : Int32} : (¬ v < 1) ↔ 1 ≤ v := nlt
theorem rng {v : Int32} {n : Nat} (hn : n < 1000) (h1 : ¬ v < 1) (h2 : v ≤ nI n) : ∃ b, 1 ≤ b ∧ b ≤ n ∧ v = nI b := by
  rcases pk_ix v (n := n + 1) (by omega) with h | h | ⟨b, hb, rfl⟩
  · exact absurd (Int32.lt_of_lt_of_le h (by decide : (0 : Int32) ≤ 1)) h1
  · have := Int32.le_trans h h2
    rw [leN (by omega) (by omega)] at this
    omega
  · refine ⟨b, ?_, by omega, rfl⟩
    rw [lt1, ltN (by omega) (by omega)] at h1
    omega
theorem op_pause (a b c : Int32) : OP (X5_pause a b c) (X6_pause a b c) := by
  intro x m ⟨T, hA⟩
  obtain ⟨hB, p1, n1, hTM, hTX, hf⟩ := hA.1
  have b0 := hB.1
  have b1 := hB.2.1
  unfold X5_pause X6_pause
  rcases b_person p1 hB hTX hTM a with ⟨i, hi, rfl, e1, e2⟩ | ⟨e1, e2⟩
  · rw [e1, e2, bdO, bdO, if10, if10]
    rcases b_thing n1 hB hTX hTM b with ⟨t, ht, rfl, e3, e4⟩ | ⟨e3, e4⟩
    · rw [e3, e4, bdO, bdO, if10, if10]
      by_cases c1 : c < 1
      · rw [if_pos c1, m_inL c1, bdO, if00]
        exact ⟨_, _, _, rfl, rfl, T, hA⟩
      · rw [if_neg c1]
        by_cases c2 : c ≤ 30
        · obtain ⟨k, k1, k2, rfl⟩ := rng (n := 30) (by omega) c1 c2
          rw [if_pos c2, m_in1 (Int32.not_lt.mp c1) c2, bdO, if10]
          obtain ⟨x', m', g1, g2, hA'⟩ := b_remember hA
          obtain ⟨hB', p1', n1', hTM', hTX', hf'⟩ := hA'.1
          obtain ⟨made, Y, hY, hR, hM⟩ := RA_MS hA'
          have hM0 : MS (xa m' 20 4 0 (m' 20 4 0)) T made Y := by rw [xa_me]; exact hM
          obtain ⟨ν, s', q1, q2, q3, q4, q5⟩ := b_pauses (by omega) hM0 hTX' hR hi ht k1 k2
          rw [xa_me] at q2
          rw [g1, g2, bdvO, bdvO, q1, q2, bdvO, bdvO]
          simp (discharger := omega) only [giN, clN, m_countedNow q5 hi ht, bdO]
          have hcn := (q4.2.2.2.1 i hi t ht).2.2.1
          have hK : KM (xa m' 20 4 0 s') T (adM made i t k Y) Y = KK T (-4) (adM made i t k Y) Y := by rw [KM_4]; unfold KM; rw [hf']
          rw [hcn, hK]
          exact ⟨_, _, _, rfl, rfl, T, RA_now hA' q3 ⟨_, Y, hY, q4⟩⟩
        · rw [if_neg c2, m_inH c2, bdO, if00]
          exact ⟨_, _, _, rfl, rfl, T, hA⟩
    · rw [e3, e4, bdO, bdO, if00, if00]
      exact ⟨_, _, _, rfl, rfl, T, hA⟩
  · rw [e1, e2, bdO, bdO, if00, if00]
    exact ⟨_, _, _, rfl, rfl, T, hA⟩
theorem op_fair : OP X5_fair X6_fair := by
  intro x m ⟨T, hA⟩
  obtain ⟨made0, Y0, hY0, hR0, hM0⟩ := RA_MS hA
  unfold X5_fair X6_fair
  simp (discharger := omega) only [gl54, tc54, hR0.1, hR0.2.2.2.2.2.1]
  by_cases c : Y0 < 99
  · rw [if_pos (show nI Y0 < 99 by rw [lt99, ltN (by omega) (by omega)]; exact c), if_neg (show ¬ nI Y0 = 99 by rw [lt99, eqN (by omega) (by omega)]; omega)]
    obtain ⟨x', m', g1, g2, hA'⟩ := b_remember hA
    obtain ⟨hB', p1', n1', hTM', hTX', hf'⟩ := hA'.1
    have hY' : (x' 0 1 0 0 = nI Y0) := by
      obtain ⟨-, nx, -, -, -⟩ := hA.2.2.1
      obtain ⟨n, nx, a1, a2, a3, a4, a5, a6⟩ := hA.2.2.1
      obtain ⟨x2, e1, e2, e3, e4, e5⟩ := x_remember a3 a4 a2 a1
      rw [g1] at e1
      cases e1
      rw [e5 0 (by omega) (by omega)]
      exact hR0.1
    obtain ⟨made, Y, hY, hR, hM⟩ := RA_MS hA'
    have hYY : Y = Y0 := by
      have e := hR.1.symm.trans hY'
      rw [eqN (by omega) (by omega)] at e
      exact e
    have hMx : MS (xa m' 20 4 0 (m' 20 4 0)) T made Y := by rw [xa_me]; exact hM
    obtain ⟨n, ν, s', q1, q2, q3, q4, q5, -⟩ := b_fair (by omega) hMx hf' hTX' (by omega) hR
    rw [xa_me] at q2
    rw [g1, g2, bdvO, bdvO, q1, q2, bdO, bdO]
    exact ⟨_, _, _, rfl, rfl, T, RA_now hA' q3 ⟨_, Y + 1, by omega, q4⟩⟩
  · rw [if_neg (show ¬ nI Y0 < 99 by rw [lt99, ltN (by omega) (by omega)]; exact c), if_pos (show nI Y0 = 99 by rw [lt99, eqN (by omega) (by omega)]; omega)]
    exact ⟨_, _, _, rfl, rfl, T, hA⟩
theorem RQ_co {T : TA} {fe : Int32} {x : Mem} {s : Nat → Int32} {made : Nat → Nat → Nat} {Y k : Nat} {v : Int32} (hB : TB T) (hk : k < T 0 0) (h : RQ T fe (x 0) s made Y) : RQ T fe (xs x 0 3 0 k v 0) (upd s k v) made Y := by
  have b0 := hB.1
  obtain ⟨h1, h2, h3, h4, h5, h6⟩ := h
  have f6 : ∀ f, f ≠ 3 → xs x 0 3 0 k v 0 f = x 0 f := fun f hf => by
    funext i
    exact xs_fr x (by omega)
  refine ⟨by rw [f6 1 (by omega)]; exact h1, by rw [f6 2 (by omega)]; exact h2, ?_, ?_, h5, SY_up h6 (by omega)⟩
  · rw [xs_row, f6 4 (by omega), f6 5 (by omega)]
    exact RS_earn hB h3 hk
  · rw [f6 6 (by omega), f6 7 (by omega), f6 8 (by omega), f6 9 (by omega)]
    exact h4
theorem op_give (a b c : Int32) : OP (X5_give a b c) (X6_give a b c) := by
  intro x m ⟨T, hA⟩
  obtain ⟨hB, p1, n1, hTM, hTX, hf⟩ := hA.1
  have b0 := hB.1
  unfold X5_give X6_give
  rcases b_person p1 hB hTX hTM a with ⟨i, hi, rfl, e1, e2⟩ | ⟨e1, e2⟩
  · rw [e1, e2, bdO, bdO, if10, if10]
    rcases b_person p1 hB hTX hTM b with ⟨j, hj, rfl, e3, e4⟩ | ⟨e3, e4⟩
    · rw [e3, e4, bdO, bdO, if10, if10]
      by_cases c0 : nI i = nI j
      · rw [if_pos c0, if_pos c0]
        exact ⟨_, _, _, rfl, rfl, T, hA⟩
      rw [if_neg c0, if_neg c0]
      by_cases c1 : c < 1
      · rw [if_pos c1, m_inL c1, bdO, if00]
        exact ⟨_, _, _, rfl, rfl, T, hA⟩
      rw [if_neg c1]
      by_cases c2 : c ≤ 99
      · rw [if_pos c2, m_in1 (Int32.not_lt.mp c1) c2, bdO, if10]
        obtain ⟨made0, Y0, hY0, hR0, hM0⟩ := RA_MS hA
        have s1 := hR0.2.2.1.1 i hi
        have s2 := hR0.2.2.1.1 j hj
        dsimp only at s1 s2
        simp (discharger := omega) only [giN, clN, s1, s2]
        by_cases c3 : c ≤ x 0 3 0 i
        · rw [if_pos c3, if_pos c3]
          by_cases c4 : x 0 3 0 j + c ≤ 999
          · rw [if_pos c4, if_pos c4]
            obtain ⟨x', m', g1, g2, hA'⟩ := b_remember hA
            obtain ⟨made, Y, hY, hR, hM⟩ := RA_MS hA'
            have r1 := hR.2.2.1.1 i hi
            have r2 := hR.2.2.1.1 j hj
            dsimp only at r1 r2
            rw [g1, g2, bdvO, bdvO]
            have hne : ¬ i = j := fun e => c0 (by rw [e])
            have hne' : ¬ j = i := fun e => hne e.symm
            have hx : ∀ u w, xs (xs x' 0 3 0 i u) 0 3 0 j w 0 3 0 i = u := fun u w => by
              rw [xs_row, upd_at, if_neg hne, xs_row, upd_at, if_pos rfl]
            have hx2 : ∀ u, xs x' 0 3 0 i u 0 3 0 j = x' 0 3 0 j := fun u => by
              rw [xs_row, upd_at, if_neg hne']
            have hm2 : ∀ u, xs m' 20 4 0 i u 20 4 0 j = m' 20 4 0 j := fun u => by
              rw [xs_row, upd_at, if_neg hne']
            have hm : ∀ u w, xs (xs m' 20 4 0 i u) 20 4 0 j w 20 4 0 i = u := fun u w => by
              rw [xs_row, upd_at, if_neg hne, xs_row, upd_at, if_pos rfl]
            have hm3 : ∀ u w, xs (xs m' 20 4 0 i u) 20 4 0 j w = xa m' 20 4 0 (upd (upd (m' 20 4 0) i u) j w) := fun u w => by
              rw [xs_xa, xs_xa, xa_xa, xa_row]
            simp only [hx, hx2, hm2, hm, r1, r2]
            refine ⟨_, _, _, rfl, rfl, T, ?_⟩
            rw [hm3]
            refine RA_now hA' (fun q hq => ?_) ⟨made, Y, hY, RQ_co hB hj (RQ_co (x := x') hB hi hR)⟩
            funext f k
            simp (discharger := omega) only [xs_fr]
          · rw [if_neg c4, if_neg c4]
            exact ⟨_, _, _, rfl, rfl, T, hA⟩
        · rw [if_neg c3, if_neg c3]
          exact ⟨_, _, _, rfl, rfl, T, hA⟩
      · rw [if_neg c2, m_inH c2, bdO, if00]
        exact ⟨_, _, _, rfl, rfl, T, hA⟩
    · rw [e3, e4, bdO, bdO, if00, if00]
      exact ⟨_, _, _, rfl, rfl, T, hA⟩
  · rw [e1, e2, bdO, bdO, if00, if00]
    exact ⟨_, _, _, rfl, rfl, T, hA⟩
