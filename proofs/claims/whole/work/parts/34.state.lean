/-! STATE: write, wipe, seen, forget, undo, keep, back -/
theorem op_wipe : OP X5_wipe X6_wipe := by
  intro x m ⟨T, hA⟩
  obtain ⟨h0, hz, hh, hp, hn, nt, f1, f2, f3, f4⟩ := hA
  unfold X5_wipe X6_wipe
  rw [f2, f3]
  have ex : ∀ q, q ≠ 17 → xs x 17 9 0 0 0 q = x q := fun q hq => by
    funext f i
    exact xs_fr x (by omega)
  have em : ∀ f, f ≠ 1 → xs m 20 1 0 0 0 20 f 0 = m 20 f 0 := fun f hf => xs_fr m (by omega)
  refine ⟨_, _, _, rfl, rfl, T, R0_cong (ex 13 (by omega)) (em 2 (by omega)) (em 12 (by omega)) h0, ?_, RH_cong (ex 15 (by omega)) (fun q _ _ => ex q (by omega)) (em 6 (by omega)) (em 5 (by omega)) hh, RP_cong (by funext i; exact xs_fr x (by omega)) (fun q _ _ => ex q (by omega)) (em 8 (by omega)) (em 7 (by omega)) hp, RN_cong (ex 16 (by omega)) (em 10 (by omega)) (em 9 (by omega)) hn, 0, by omega, ?_, ?_, fun k hk => absurd hk (by omega)⟩
  · rw [ex 0 (by omega), em 4 (by omega)]
    exact hz
  · rw [xs_self]
    rfl
  · rw [xs_self]
    rfl
theorem rng0 {v : Int32} {a b : Nat} (ha : a < 1000) (hb : b < 1000) (h1 : ¬ v < nI a) (h2 : v ≤ nI b) : ∃ c, a ≤ c ∧ c ≤ b ∧ v = nI c := by
  rcases pk_ix v (n := b + 1) (by omega) with h | h | ⟨c, hc, rfl⟩
  · have h0 : (0 : Int32) ≤ nI a := by rw [lt0, leN (by omega) (by omega)]; omega
    exact absurd (Int32.lt_of_lt_of_le h h0) h1
  · have := Int32.le_trans h h2
    rw [leN (by omega) (by omega)] at this
    omega
  · rw [ltN (by omega) (by omega)] at h1
    exact ⟨c, by omega, by omega, rfl⟩
theorem lt126 : (126 : Int32) = nI 126 := rfl
theorem op_write (v : Int32) : OP (X5_write v) (X6_write v) := by
  intro x m ⟨T, hA⟩
  have hA' := hA
  obtain ⟨h0, hz, hh, hp, hn, nt, f1, f2, f3, f4⟩ := hA
  unfold X5_write X6_write
  by_cases c1 : v < 32
  · rw [if_pos c1, m_inL c1, bdO, if00]
    exact ⟨_, _, _, rfl, rfl, T, hA'⟩
  rw [if_neg c1]
  by_cases c2 : v ≤ 126
  · rw [if_pos c2, m_in1 (Int32.not_lt.mp c1) c2, bdO, if10, f2, f3]
    obtain ⟨c, k1, k2, rfl⟩ := rng0 (a := 32) (b := 126) (by omega) (by omega) c1 c2
    by_cases c3 : nt < 200
    · rw [if_pos (show nI nt < 200 by rw [lt200, ltN (by omega) (by omega)]; exact c3), if_neg (show ¬ nI nt = 200 by rw [lt200, eqN (by omega) (by omega)]; omega)]
      simp (discharger := omega) only [giN, clN, xs_self, xs_fr, f2, f3, nI_1]
      have ex : ∀ q, q ≠ 17 → xs (xs x 17 0 0 nt (nI c)) 17 9 0 0 (nI (nt + 1)) q = x q := fun q hq => by
        funext f i
        simp (discharger := omega) only [xs_fr]
      have em : ∀ f, f ≠ 1 → f ≠ 0 → xs (xs m 20 0 0 nt (nI c)) 20 1 0 0 (nI (nt + 1)) 20 f 0 = m 20 f 0 := fun f hf hg => by
        simp (discharger := omega) only [xs_fr]
      refine ⟨_, _, _, rfl, rfl, T, R0_cong (ex 13 (by omega)) (em 2 (by omega) (by omega)) (em 12 (by omega) (by omega)) h0, ?_, RH_cong (ex 15 (by omega)) (fun q _ _ => ex q (by omega)) (em 6 (by omega) (by omega)) (em 5 (by omega) (by omega)) hh, RP_cong (by funext i; simp (discharger := omega) only [xs_fr]) (fun q _ _ => ex q (by omega)) (em 8 (by omega) (by omega)) (em 7 (by omega) (by omega)) hp, RN_cong (ex 16 (by omega)) (em 10 (by omega) (by omega)) (em 9 (by omega) (by omega)) hn, nt + 1, by omega, ?_, ?_, fun k hk => ?_⟩
      · rw [ex 0 (by omega), em 4 (by omega) (by omega)]
        exact hz
      · simp (discharger := omega) only [xs_self]
      · simp (discharger := omega) only [xs_self]
      · simp (discharger := omega) only [xs_fr, xs_row, upd_at]
        by_cases e : k = nt
        · rw [if_pos e, if_pos e]
          exact ⟨rfl, c, k1, k2, rfl⟩
        · rw [if_neg e, if_neg e]
          exact f4 k (by omega)
    · rw [if_neg (show ¬ nI nt < 200 by rw [lt200, ltN (by omega) (by omega)]; exact c3), if_pos (show nI nt = 200 by rw [lt200, eqN (by omega) (by omega)]; omega)]
      exact ⟨_, _, _, rfl, rfl, T, hA'⟩
  · rw [if_neg c2, m_inH c2, bdO, if00]
    exact ⟨_, _, _, rfl, rfl, T, hA'⟩
theorem op_forget : OP X5_forget X6_forget := by
  intro x m ⟨T, hA⟩
  obtain ⟨h0, hz, hh, hp, ⟨nn, d1, d2, d3, d4⟩, ht⟩ := hA
  unfold X5_forget X6_forget
  rw [d2, d3]
  have ex : ∀ q, q ≠ 16 → xs x 16 3 0 0 0 q = x q := fun q hq => by
    funext f i
    exact xs_fr x (by omega)
  have em : ∀ f, f ≠ 10 → xs m 20 10 0 0 0 20 f 0 = m 20 f 0 := fun f hf => xs_fr m (by omega)
  refine ⟨_, _, _, rfl, rfl, T, R0_cong (ex 13 (by omega)) (em 2 (by omega)) (em 12 (by omega)) h0, ?_, RH_cong (ex 15 (by omega)) (fun q _ _ => ex q (by omega)) (em 6 (by omega)) (em 5 (by omega)) hh, RP_cong (by rw [ex 17 (by omega)]) (fun q _ _ => ex q (by omega)) (em 8 (by omega)) (em 7 (by omega)) hp, ⟨0, by omega, by rw [xs_self]; rfl, by rw [xs_self]; rfl, fun k hk => absurd hk (by omega)⟩, RX_cong (by rw [ex 17 (by omega)]) (by rw [ex 17 (by omega)]) (em 1 (by omega)) (em 0 (by omega)) ht⟩
  rw [ex 0 (by omega), em 4 (by omega)]
  exact hz
theorem op_seen (a b c : Int32) : OP (X5_seen a b c) (X6_seen a b c) := by
  intro x m ⟨T, hA⟩
  have hA' := hA
  obtain ⟨h0, hz, hh, hp, ⟨nn, d1, d2, d3, d4⟩, ht⟩ := hA
  obtain ⟨hB, p1, n1, hTM, hTX, hf⟩ := id h0
  have b0 := hB.1
  have b1 := hB.2.1
  unfold X5_seen X6_seen
  rcases b_thing n1 hB hTX hTM a with ⟨t, htt, rfl, e3, e4⟩ | ⟨e3, e4⟩
  · rw [e3, e4, bdO, bdO, if10, if10]
    rcases b_person p1 hB hTX hTM b with ⟨i, hi, rfl, e1, e2⟩ | ⟨e1, e2⟩
    · rw [e1, e2, bdO, bdO, if10, if10]
      by_cases c1 : c < 1
      · rw [if_pos c1, m_inL c1, bdO, if00]
        exact ⟨_, _, _, rfl, rfl, T, hA'⟩
      rw [if_neg c1]
      by_cases c2 : c ≤ 9
      · rw [if_pos c2, m_in1 (Int32.not_lt.mp c1) c2, bdO, if10, d2, d3]
        obtain ⟨f, k1, k2, rfl⟩ := rng (n := 9) (by omega) c1 c2
        by_cases c3 : nn < 6
        · rw [if_pos (show nI nn < 6 by rw [lt6, ltN (by omega) (by omega)]; exact c3), if_neg (show ¬ nI nn = 6 by rw [lt6, eqN (by omega) (by omega)]; omega)]
          have hx : X3_add (nI t) (nI i) (nI f) x = some (xs (xs (xs (xs x 16 0 0 nn (nI t)) 16 1 0 nn (nI i)) 16 2 0 nn (nI f)) 16 3 0 0 (nI (nn + 1))) := by
            unfold X3_add
            rw [d2, if_neg (show ¬ 6 ≤ nI nn by rw [lt6, leN (by omega) (by omega)]; omega)]
            simp (discharger := omega) only [giN, clN, xs_fr, d2, nI_1]
          have hv : 100 * nI f + 10 * nI t + nI i = nI (100 * f + 10 * t + i) := by
            rw [show (100 : Int32) = nI 100 from rfl, show (10 : Int32) = nI 10 from rfl, pk_mul, pk_mul, nI_add, nI_add]
          rw [hx, bdvO]
          simp (discharger := omega) only [giN, clN, xs_self, xs_fr, d3, nI_1, hv]
          have ex : ∀ q, q ≠ 16 → xs (xs (xs (xs x 16 0 0 nn (nI t)) 16 1 0 nn (nI i)) 16 2 0 nn (nI f)) 16 3 0 0 (nI (nn + 1)) q = x q := fun q hq => by
            funext f2 i2
            simp (discharger := omega) only [xs_fr]
          have em : ∀ f2, f2 ≠ 9 → f2 ≠ 10 → xs (xs m 20 9 0 nn (nI (100 * f + 10 * t + i))) 20 10 0 0 (nI (nn + 1)) 20 f2 0 = m 20 f2 0 := fun f2 hf hg => by
            simp (discharger := omega) only [xs_fr]
          refine ⟨_, _, _, rfl, rfl, T, R0_cong (ex 13 (by omega)) (em 2 (by omega) (by omega)) (em 12 (by omega) (by omega)) h0, ?_, RH_cong (ex 15 (by omega)) (fun q _ _ => ex q (by omega)) (em 6 (by omega) (by omega)) (em 5 (by omega) (by omega)) hh, RP_cong (by rw [ex 17 (by omega)]) (fun q _ _ => ex q (by omega)) (em 8 (by omega) (by omega)) (em 7 (by omega) (by omega)) hp, ⟨nn + 1, by omega, ?_, ?_, fun k hk => ?_⟩, RX_cong (by rw [ex 17 (by omega)]) (by rw [ex 17 (by omega)]) (em 1 (by omega) (by omega)) (em 0 (by omega) (by omega)) ht⟩
          · rw [ex 0 (by omega), em 4 (by omega) (by omega)]
            exact hz
          · rw [xs_self]
          · rw [xs_self]
          · simp (discharger := omega) only [xs_fr, xs_row, upd_at]
            by_cases e : k = nn
            · simp only [if_pos e]
              exact ⟨t, i, f, htt, hi, k1, k2, rfl, rfl, rfl, rfl⟩
            · simp only [if_neg e]
              exact d4 k (by omega)
        · rw [if_neg (show ¬ nI nn < 6 by rw [lt6, ltN (by omega) (by omega)]; exact c3), if_pos (show nI nn = 6 by rw [lt6, eqN (by omega) (by omega)]; omega)]
          exact ⟨_, _, _, rfl, rfl, T, hA'⟩
      · rw [if_neg c2, m_inH c2, bdO, if00]
        exact ⟨_, _, _, rfl, rfl, T, hA'⟩
    · rw [e1, e2, bdO, bdO, if00, if00]
      exact ⟨_, _, _, rfl, rfl, T, hA'⟩
  · rw [e3, e4, bdO, bdO, if00, if00]
    exact ⟨_, _, _, rfl, rfl, T, hA'⟩
/-! undo, keep, back -/
theorem m_undo1 {m : Mem} {h : Nat} (hk : m 20 6 0 0 = nI h) (hh : h < 8) : lo1 (X6_undo_b22) 1000 0 m = some (nI h, xa m 20 4 0 (cpF (fun j => m 20 5 0 (55 * h + j)) 0 55 (m 20 4 0))) := by
  have e := lo1_eq (b := X6_undo_b22) (E := some (nI h, xa m 20 4 0 (cpF (fun j => m 20 5 0 (55 * h + j)) 0 55 (m 20 4 0)))) 55 (fun k => nI k) (fun k => xa m 20 4 0 (cpF (fun j => m 20 5 0 (55 * h + j)) 0 k (m 20 4 0))) (fun k hk2 K => by
    unfold X6_undo_b22
    simp (discharger := omega) only [lt55, leN, xa_fr, hk]
    simp (discharger := omega) only [← lt55, mu55, nI_add, giN, clN, xs_xa, xa_xa, xa_row, nI_1]
    rw [if_neg (by omega)]
    have h9 := cpF_s (fun j => m 20 5 0 (55 * h + j)) 0 k (m 20 4 0)
    rw [Nat.zero_add] at h9
    rw [h9]) (fun K => by
    unfold X6_undo_b22
    simp (discharger := omega) only [lt55, leN, xa_fr, hk]
    rw [if_pos (Nat.le_refl _)]) 1000 (by omega)
  rw [cpF_0, xa_me] at e
  exact e
theorem m_back1 {m : Mem} {h : Nat} (hk : m 20 8 0 0 = nI h) (hh : h < 2) : lo1 (X6_back_b22) 1000 0 m = some (nI h, xs (xa m 20 4 0 (cpF (fun j => m 20 7 0 (55 * h + j)) 0 55 (m 20 4 0))) 20 6 0 0 0) := by
  have e := lo1_eq (b := X6_back_b22) (E := some (nI h, xs (xa m 20 4 0 (cpF (fun j => m 20 7 0 (55 * h + j)) 0 55 (m 20 4 0))) 20 6 0 0 0)) 55 (fun k => nI k) (fun k => xa m 20 4 0 (cpF (fun j => m 20 7 0 (55 * h + j)) 0 k (m 20 4 0))) (fun k hk2 K => by
    unfold X6_back_b22
    simp (discharger := omega) only [lt55, leN, xa_fr, hk]
    simp (discharger := omega) only [← lt55, mu55, nI_add, giN, clN, xs_xa, xa_xa, xa_row, nI_1]
    rw [if_neg (by omega)]
    have h9 := cpF_s (fun j => m 20 7 0 (55 * h + j)) 0 k (m 20 4 0)
    rw [Nat.zero_add] at h9
    rw [h9]) (fun K => by
    unfold X6_back_b22
    simp (discharger := omega) only [lt55, leN, xs_fr, xa_fr, hk]
    rw [if_pos (Nat.le_refl _)]) 1000 (by omega)
  rw [cpF_0, xa_me] at e
  exact e
theorem m_keep1 {m : Mem} {h : Nat} (hk : m 20 8 0 0 = nI h) (hh : h < 2) : lo1 (X6_keep_b13) 1000 0 m = some (nI (h + 1), xs (xa m 20 7 0 (cpF (m 20 4 0) (55 * h) 55 (m 20 7 0))) 20 8 0 0 (nI (h + 1))) := by
  have e := lo1_eq (b := X6_keep_b13) (E := some (nI (h + 1), xs (xa m 20 7 0 (cpF (m 20 4 0) (55 * h) 55 (m 20 7 0))) 20 8 0 0 (nI (h + 1)))) 55 (fun k => nI k) (fun k => xa m 20 7 0 (cpF (m 20 4 0) (55 * h) k (m 20 7 0))) (fun k hk2 K => by
    unfold X6_keep_b13
    simp (discharger := omega) only [lt55, leN, xa_fr, hk]
    simp (discharger := omega) only [← lt55, mu55, nI_add, giN, clN, xs_xa, xa_xa, xa_row, nI_1]
    rw [if_neg (by omega), cpF_s]) (fun K => by
    unfold X6_keep_b13
    simp (discharger := omega) only [lt55, leN, xa_fr, hk, nI_1, xs_self]
    rw [if_pos (Nat.le_refl _)]) 1000 (by omega)
  rw [cpF_0, xa_me] at e
  exact e
theorem cpF_55 {f g : Nat → Int32} {j : Nat} (h : j < 55) : cpF f 0 55 g j = f j := by
  have := cpF_in f 0 55 g h
  rw [Nat.zero_add] at this
  exact this
theorem op_undo : OP X5_undo X6_undo := by
  intro x m ⟨T, hA⟩
  have hA' := hA
  obtain ⟨h0, hz, ⟨n, nx, a1, a2, a3, a4, a5, a6⟩, hp, hn, ht⟩ := hA
  unfold X5_undo X6_undo
  rw [a4, a5]
  by_cases c : n = 0
  · subst c
    rw [if_pos (show nI 0 = 0 from rfl), if_pos (show nI 0 = 0 from rfl)]
    exact ⟨_, _, _, rfl, rfl, T, hA'⟩
  · have c' : ¬ nI n = 0 := by rw [lt0, eqN (by omega) (by omega)]; exact c
    rw [if_neg c', if_neg c']
    obtain ⟨x', e1, e2, e3, e4, e5⟩ := x_restore a3 a4 a2 a1 (by omega)
    have hs : nI n - 1 = nI (n - 1) := by rw [lt1, pk_sub (by omega)]
    rw [hs, e1, bdvO, e3, m_undo1 (h := n - 1) (xs_self _ _ _ _ _ _) (by omega)]
    have em : ∀ f, f ≠ 4 → f ≠ 6 → xa (xs m 20 6 0 0 (nI (n - 1))) 20 4 0 (cpF (fun j => xs m 20 6 0 0 (nI (n - 1)) 20 5 0 (55 * (n - 1) + j)) 0 55 (xs m 20 6 0 0 (nI (n - 1)) 20 4 0)) 20 f 0 = m 20 f 0 := fun f hf hg => by
      simp (discharger := omega) only [xs_fr, xa_fr]
    refine ⟨_, _, _, rfl, rfl, T, R0_cong (e5 13 (by omega) (by omega)) (em 2 (by omega) (by omega)) (em 12 (by omega) (by omega)) h0, ?_, ?_, RP_cong (by rw [e5 17 (by omega) (by omega)]) (fun q _ _ => e5 q (by omega) (by omega)) (em 8 (by omega) (by omega)) (em 7 (by omega) (by omega)) hp, RN_cong (e5 16 (by omega) (by omega)) (em 10 (by omega) (by omega)) (em 9 (by omega) (by omega)) hn, RX_cong (by rw [e5 17 (by omega) (by omega)]) (by rw [e5 17 (by omega) (by omega)]) (em 1 (by omega) (by omega)) (em 0 (by omega) (by omega)) ht⟩
    · have h9 := a6 (n - 1) (by omega)
      rw [show 2 + (nx + 8 - n + (n - 1)) % 8 = 2 + (nx + 7) % 8 by omega] at h9
      refine RZ_cong h0.1 e4 (fun j hj => ?_) h9
      rw [xa_row, cpF_55 hj]
      simp (discharger := omega) only [xs_fr]
    · refine ⟨n - 1, (nx + 7) % 8, by omega, by omega, e2, e3, ?_, fun k hk => ?_⟩
      · simp (discharger := omega) only [xa_fr, xs_self]
      · rw [e5 _ (by omega) (by omega), em 5 (by omega) (by omega)]
        have h9 := a6 k (by omega)
        rw [show 2 + (nx + 8 - n + k) % 8 = 2 + ((nx + 7) % 8 + 8 - (n - 1) + k) % 8 by omega] at h9
        exact h9
theorem op_keep : OP X5_keep X6_keep := by
  intro x m ⟨T, hA⟩
  have hA' := hA
  obtain ⟨h0, hz, hh, ⟨c, c1, c2, c3, c4⟩, hn, ht⟩ := hA
  unfold X5_keep X6_keep
  rw [c2, c3]
  by_cases d : c < 2
  · rw [if_pos (show nI c < 2 by rw [lt2, ltN (by omega) (by omega)]; exact d), if_neg (show ¬ nI c = 2 by rw [lt2, eqN (by omega) (by omega)]; omega)]
    obtain ⟨x', e1, e2, e3⟩ := x_copy (μ := x) (q := 10 + c) (q1 := 0) (by omega)
    have g17 : x' 17 10 0 0 = nI c := by rw [e2 17 (by omega)]; exact c2
    rw [m_keep1 c3 d]
    simp (discharger := omega) only [giN, clN, e1, bdvO, g17, nI_1, xs_self]
    have ex : ∀ q, q ≠ 17 → q ≠ 10 + c → xs x' 17 10 0 0 (nI (c + 1)) q = x q := fun q hq hq2 => by
      rw [← e2 q hq2]
      funext f i
      exact xs_fr x' (by omega)
    have ex17 : ∀ f, f ≠ 10 → xs x' 17 10 0 0 (nI (c + 1)) 17 f = x 17 f := fun f hf => by
      rw [← e2 17 (by omega)]
      funext i
      exact xs_fr x' (by omega)
    have em : ∀ f, f ≠ 7 → f ≠ 8 → xs (xa m 20 7 0 (cpF (m 20 4 0) (55 * c) 55 (m 20 7 0))) 20 8 0 0 (nI (c + 1)) 20 f 0 = m 20 f 0 := fun f hf hg => by
      simp (discharger := omega) only [xs_fr, xa_fr]
    refine ⟨_, _, _, rfl, rfl, T, R0_cong (ex 13 (by omega) (by omega)) (em 2 (by omega) (by omega)) (em 12 (by omega) (by omega)) h0, ?_, RH_cong (ex 15 (by omega) (by omega)) (fun q _ _ => ex q (by omega) (by omega)) (em 6 (by omega) (by omega)) (em 5 (by omega) (by omega)) hh, ⟨c + 1, by omega, xs_self _ _ _ _ _ _, xs_self _ _ _ _ _ _, fun k hk => ?_⟩, RN_cong (ex 16 (by omega) (by omega)) (em 10 (by omega) (by omega)) (em 9 (by omega) (by omega)) hn, RX_cong (ex17 9 (by omega)) (ex17 0 (by omega)) (em 1 (by omega) (by omega)) (em 0 (by omega) (by omega)) ht⟩
    · rw [ex 0 (by omega) (by omega), em 4 (by omega) (by omega)]
      exact hz
    · have hf : xs (xa m 20 7 0 (cpF (m 20 4 0) (55 * c) 55 (m 20 7 0))) 20 8 0 0 (nI (c + 1)) 20 7 0 = cpF (m 20 4 0) (55 * c) 55 (m 20 7 0) := by
        simp (discharger := omega) only [xs_fr, xa_row]
      rw [hf]
      by_cases e : k = c
      · subst e
        have hx : xs x' 17 10 0 0 (nI (k + 1)) (10 + k) = x' (10 + k) := by
          funext f i
          exact xs_fr x' (by omega)
        rw [hx]
        exact RZ_cong h0.1 e3 (fun j hj => cpF_in _ _ _ _ hj) hz
      · rw [ex _ (by omega) (by omega)]
        exact RZ_cong h0.1 (ZC_me _) (fun j hj => cpF_out _ _ _ _ (by omega)) (c4 k (by omega))
  · rw [if_neg (show ¬ nI c < 2 by rw [lt2, ltN (by omega) (by omega)]; exact d), if_pos (show nI c = 2 by rw [lt2, eqN (by omega) (by omega)]; omega)]
    exact ⟨_, _, _, rfl, rfl, T, hA'⟩
theorem op_back : OP X5_back X6_back := by
  intro x m ⟨T, hA⟩
  have hA' := hA
  obtain ⟨h0, hz, ⟨n, nx, a1, a2, a3, a4, a5, a6⟩, ⟨c, c1, c2, c3, c4⟩, hn, ht⟩ := hA
  unfold X5_back X6_back
  rw [c2, c3]
  by_cases d : c = 0
  · subst d
    rw [if_pos (show nI 0 = 0 from rfl), if_pos (show nI 0 = 0 from rfl)]
    exact ⟨_, _, _, rfl, rfl, T, hA'⟩
  · have d' : ¬ nI c = 0 := by rw [lt0, eqN (by omega) (by omega)]; exact d
    have hs : nI c - 1 = nI (c - 1) := by rw [lt1, pk_sub (by omega)]
    rw [if_neg d', if_neg d', hs]
    have g0 : ∀ q, q ≠ 17 → xs x 17 10 0 0 (nI (c - 1)) q = x q := fun q hq => by
      funext f i
      exact xs_fr x (by omega)
    have g17 : ∀ f, f ≠ 10 → xs x 17 10 0 0 (nI (c - 1)) 17 f = x 17 f := fun f hf => by
      funext i
      exact xs_fr x (by omega)
    obtain ⟨x', e1, e2, e3⟩ := x_copy (μ := xs x 17 10 0 0 (nI (c - 1))) (q := 0) (q1 := 10 + (c - 1)) (by omega)
    rw [g0 _ (by omega)] at e3
    have k17 : x' 17 10 0 0 = nI (c - 1) := by rw [e2 17 (by omega), xs_self]
    rw [m_back1 (h := c - 1) (xs_self _ _ _ _ _ _) (by omega)]
    simp (discharger := omega) only [xs_self, giN, clN, e1, bdvO, xs_fr, k17]
    have ex : ∀ q, q ≠ 17 → q ≠ 0 → q ≠ 15 → xs x' 15 2 0 0 0 q = x q := fun q hq hq2 hq3 => by
      rw [← g0 q hq, ← e2 q hq2]
      funext f i
      exact xs_fr x' (by omega)
    have ex17 : ∀ f, f ≠ 10 → xs x' 15 2 0 0 0 17 f = x 17 f := fun f hf => by
      rw [← g17 f hf, ← e2 17 (by omega)]
      funext i
      exact xs_fr x' (by omega)
    have ex0 : xs x' 15 2 0 0 0 0 = x' 0 := by
      funext f i
      exact xs_fr x' (by omega)
    generalize hm' : xs (xa (xs m 20 8 0 0 (nI (c - 1))) 20 4 0 (cpF (fun j => m 20 7 0 (55 * (c - 1) + j)) 0 55 (m 20 4 0))) 20 6 0 0 0 = m'
    have em : ∀ f, f ≠ 4 → f ≠ 6 → f ≠ 8 → m' 20 f 0 = m 20 f 0 := fun f hf hg hh => by
      rw [← hm']
      simp (discharger := omega) only [xs_fr, xa_fr]
    have em4 : m' 20 4 0 = cpF (fun j => m 20 7 0 (55 * (c - 1) + j)) 0 55 (m 20 4 0) := by
      rw [← hm']
      simp (discharger := omega) only [xs_fr, xa_row]
    refine ⟨_, _, _, rfl, rfl, T, R0_cong (ex 13 (by omega) (by omega) (by omega)) (em 2 (by omega) (by omega) (by omega)) (em 12 (by omega) (by omega) (by omega)) h0, ?_, ⟨0, nx, by omega, a2, ?_, ?_, ?_, fun k hk => absurd hk (by omega)⟩, ⟨c - 1, by omega, ?_, ?_, fun k hk => ?_⟩, RN_cong (ex 16 (by omega) (by omega) (by omega)) (em 10 (by omega) (by omega) (by omega)) (em 9 (by omega) (by omega) (by omega)) hn, RX_cong (ex17 9 (by omega)) (ex17 0 (by omega)) (em 1 (by omega) (by omega) (by omega)) (em 0 (by omega) (by omega) (by omega)) ht⟩
    · rw [ex0, em4]
      exact RZ_cong h0.1 e3 (fun j hj => cpF_55 hj) (c4 (c - 1) (by omega))
    · have : xs x' 15 2 0 0 0 15 1 = x' 15 1 := by
        funext i
        exact xs_fr x' (by omega)
      rw [this, e2 15 (by omega), g0 15 (by omega)]
      exact a3
    · rw [xs_self]
      rfl
    · rw [← hm', xs_self]
      rfl
    · have : xs x' 15 2 0 0 0 17 = x' 17 := by
        funext f i
        exact xs_fr x' (by omega)
      rw [this]
      exact k17
    · rw [← hm']
      simp (discharger := omega) only [xs_fr, xa_fr, xs_self]
    · rw [ex _ (by omega) (by omega) (by omega), em 7 (by omega) (by omega) (by omega)]
      exact c4 k (by omega)
