/-! GREENS -/
theorem lN32 (w : Nat) : (lN w).toInt32 = nI w := by
  unfold lN nI
  exact Int64.toInt32_ofNat
theorem nI64 {z : Nat} (h : z < 100000) : (nI z).toInt64 = lN z := by
  apply Int64.toInt_inj.mp
  rw [Int32.toInt_toInt64, nI_toInt (by omega), pk_lT (by omega)]
def dr0 (z k : Nat) : Nat := 7919 * z + 6151 * k + 1
def dr (z k : Nat) : Nat := dr0 z k * dr0 z k % 65521
theorem dr_lt (z k : Nat) : dr z k < 65521 := Nat.mod_lt _ (by omega)
theorem dr_l {z k : Nat} (hz : z ≤ 9999) (hk : k < 9) : ((((7919 * (nI z).toInt64) + (6151 * (nI k).toInt64)) + 1) * (((7919 * (nI z).toInt64) + (6151 * (nI k).toInt64)) + 1)) - ((((7919 * (nI z).toInt64) + (6151 * (nI k).toInt64)) + 1) * (((7919 * (nI z).toInt64) + (6151 * (nI k).toInt64)) + 1)) / 65521 * 65521 = lN (dr z k) := by
  have h1 : dr0 z k ≤ 79300000 := by unfold dr0; omega
  have h2 : dr0 z k * dr0 z k ≤ 79300000 * 79300000 := Nat.mul_le_mul h1 h1
  rw [nI64 (by omega), nI64 (by omega), show (7919 : Int64) = lN 7919 from rfl, show (6151 : Int64) = lN 6151 from rfl, show (1 : Int64) = lN 1 from rfl, show (65521 : Int64) = lN 65521 from rfl, lN_mul, lN_mul, lN_add, lN_add, lN_mul, show 7919 * z + 6151 * k + 1 = dr0 z k from rfl, pk_lRem (by omega) (by omega) (by omega)]
  rfl
section GR
variable {T : TA} {x m1 : Mem} {made : Nat → Nat → Nat} {Y z n : Nat} {v : Int32}
theorem x_draw {z k : Nat} (hz : z ≤ 9999) (hk : k < 9) : X5_draw (nI z) (nI k) x = some (nI (dr z k / 4), x) := by
  unfold X5_draw
  have := dr_lt z k
  rw [dr_l hz hk, show (4 : Int64) = lN 4 from rfl, pk_lDiv (by omega) (by omega) (by omega), lN32]
theorem greens_loop (hz : z ≤ 9999) (hn : n ≤ 9) : ∀ d k f1 f2, k + d = n → d < f1 → d < f2 → ∀ ξ s made Y, Y + d < 128 → ST T (-4) 1 ξ m1 s made Y → 1 ≤ T 0 0 → 1 ≤ T 1 0 → ∃ r ξ' s', lo1 (X5_greens_b47 (nI z) (nI n) v) f1 (nI k) ξ = some (r, ξ') ∧ lo1 (X6_greens_b39 (nI z) (nI n) v) f2 (nI k) (xa m1 20 4 0 s) = some (r, xa m1 20 4 0 (cpF (m1 20 13 0) 0 55 s')) ∧ ∀ q, q ≠ 1 → ξ' q = ξ q := by
  intro d
  induction d with
  | zero =>
    intro k f1 f2 hk hf1 hf2 ξ s made Y hY h p1 n1
    obtain ⟨g1, rfl⟩ : ∃ f, f1 = f + 1 := ⟨f1 - 1, by omega⟩
    obtain ⟨g2, rfl⟩ : ∃ f, f2 = f + 1 := ⟨f2 - 1, by omega⟩
    obtain ⟨hM, hf, hX, hR⟩ := h
    have hB := hM.1
    have e : k = n := by omega
    subst e
    have hl : nI k ≤ nI k := by rw [leN (by omega) (by omega)]; omega
    have hS := hR.2.2.1
    by_cases c : v = 0
    · refine ⟨fo (fun t a => if ξ 1 4 0 t = -4 then a else a + 1) (T 1 0) 0, ξ, s, ?_, ?_, fun q _ => rfl⟩
      · show X5_greens_b47 (nI z) (nI k) v (lo1 (X5_greens_b47 (nI z) (nI k) v) g1) (nI k) ξ = _
        unfold X5_greens_b47
        rw [if_pos hl, if_pos c, x_gone hB hX, bdO]
      · show X6_greens_b39 (nI z) (nI k) v (lo1 (X6_greens_b39 (nI z) (nI k) v) g2) (nI k) _ = _
        unfold X6_greens_b39 X6_greens_b138
        rw [if_pos hl, if_pos c, m_taken hB hM.2.1, bdO, m_lets4, bdvO, xa4_4, ← b_gone hS]
    · refine ⟨fo (fun i a => a + ξ 1 3 0 i) (T 0 0) 0, ξ, s, ?_, ?_, fun q _ => rfl⟩
      · show X5_greens_b47 (nI z) (nI k) v (lo1 (X5_greens_b47 (nI z) (nI k) v) g1) (nI k) ξ = _
        unfold X5_greens_b47
        rw [if_pos hl, if_neg c, x_coins hB hX, bdO]
      · show X6_greens_b39 (nI z) (nI k) v (lo1 (X6_greens_b39 (nI z) (nI k) v) g2) (nI k) _ = _
        unfold X6_greens_b39 X6_greens_b138
        rw [if_pos hl, if_neg c, m_coins hB hM.2.1, bdO, m_lets4, bdvO, xa4_4, ← b_coins hS]
  | succ d ih =>
    intro k f1 f2 hk hf1 hf2 ξ s made Y hY h p1 n1
    obtain ⟨g1, rfl⟩ : ∃ f, f1 = f + 1 := ⟨f1 - 1, by omega⟩
    obtain ⟨g2, rfl⟩ : ∃ f, f2 = f + 1 := ⟨f2 - 1, by omega⟩
    have hB := h.1.1
    have b0 := hB.1
    have b1 := hB.2.1
    have hX := h.2.2.1
    have hTM := h.1.2.1
    have hd := dr_lt z k
    have hi : dr z k / 4 % T 0 0 < T 0 0 := Nat.mod_lt _ p1
    have ht : dr z k / 4 / 8 % T 1 0 < T 1 0 := Nat.mod_lt _ n1
    have hb : dr z k / 4 / 64 % 12 < 12 := Nat.mod_lt _ (by omega)
    obtain ⟨ν, s2, q1, q2, q3, q4⟩ := ST_pauses h hi ht (b := 1 + dr z k / 4 / 64 % 12) (by omega) (by omega)
    obtain ⟨r9, w1, w2, w3, w4, -⟩ := ST_step (by omega) q4 (by omega)
    obtain ⟨r, ξ', s', k1, k2, k3⟩ := ih (k + 1) g1 g2 (by omega) (by omega) (by omega) _ _ _ _ (by omega) w3 p1 n1
    have hl : ¬ nI n ≤ nI k := by rw [leN (by omega) (by omega)]; omega
    have hP : nI (dr z k / 4) - nI (dr z k / 4) / nI (T 0 0) * nI (T 0 0) = nI (dr z k / 4 % T 0 0) := pk_rem (by omega) (by omega) (by omega)
    have h8 : nI (dr z k / 4) / 8 = nI (dr z k / 4 / 8) := by rw [lt8, pk_div (by omega) (by omega) (by omega)]
    have hQ : nI (dr z k / 4 / 8) - nI (dr z k / 4 / 8) / nI (T 1 0) * nI (T 1 0) = nI (dr z k / 4 / 8 % T 1 0) := pk_rem (by omega) (by omega) (by omega)
    have h64 : nI (dr z k / 4) / 64 = nI (dr z k / 4 / 64) := by rw [show (64 : Int32) = nI 64 from rfl, pk_div (by omega) (by omega) (by omega)]
    have h12 : 1 + (nI (dr z k / 4 / 64) - nI (dr z k / 4 / 64) / 12 * 12) = nI (1 + dr z k / 4 / 64 % 12) := by rw [lt12, pk_rem (by omega) (by omega) (by omega), lt1, nI_add]
    have z0 : ¬ nI (T 0 0) = 0 := by rw [lt0, eqN (by omega) (by omega)]; omega
    have z1 : ¬ nI (T 1 0) = 0 := by rw [lt0, eqN (by omega) (by omega)]; omega
    refine ⟨r, ξ', s', ?_, ?_, fun q hq => by rw [k3 q hq, w4 q hq, q3 q hq]⟩
    · show X5_greens_b47 (nI z) (nI n) v (lo1 (X5_greens_b47 (nI z) (nI n) v) g1) (nI k) ξ = _
      generalize lo1 (X5_greens_b47 (nI z) (nI n) v) g1 = K at k1 ⊢
      unfold X5_greens_b47 X5_addDrawnPause
      rw [if_neg hl, x_draw hz (by omega), bdO, hX.1, hX.2.1, if_neg (show ¬ nI (T 0 0) ≤ 0 by rw [lt0, leN (by omega) (by omega)]; omega), if_neg (show ¬ nI (T 1 0) ≤ 0 by rw [lt0, leN (by omega) (by omega)]; omega), gz_ok z0, gz_ok z1, hP, h8, hQ, h64, h12, q1, bdvO, bdvO, w1, bdO, nI_1, k1]
    · show X6_greens_b39 (nI z) (nI n) v (lo1 (X6_greens_b39 (nI z) (nI n) v) g2) (nI k) _ = _
      generalize lo1 (X6_greens_b39 (nI z) (nI n) v) g2 = K at k2 ⊢
      unfold X6_greens_b39
      rw [if_neg hl, dr_l hz (by omega), lN32, lt4, pk_div (by omega) (by omega) (by omega), gl0 (by omega) (by omega), gl1 (by omega) (by omega), tc0, tc1, hTM.1, hTM.2.1, gz_ok z0, gz_ok z1, hP, h8, hQ, h64, h12, q2, bdvO, w2, bdO, nI_1, k2]
end GR
theorem op_greens (a b v : Int32) : OP (X5_greens a b v) (X6_greens a b v) := by
  intro x m ⟨T, hA⟩
  have hA' : RA T x m := hA
  obtain ⟨hB, p1, n1, hTM, hTX, hf⟩ := hA'.1
  unfold X5_greens X6_greens
  by_cases c1 : a < 0
  · rw [if_pos c1, m_inL c1, bdO, if00]
    exact ⟨_, _, _, rfl, rfl, T, hA⟩
  rw [if_neg c1]
  by_cases c2 : 9999 < a
  · rw [if_pos c2, m_inH (nle.mpr c2), bdO, if00]
    exact ⟨_, _, _, rfl, rfl, T, hA⟩
  rw [if_neg c2, m_in1 (ge0 c1) (nlt.mp c2), bdO, if10]
  by_cases c3 : b < 1
  · rw [if_pos c3, m_inL c3, bdO, if00]
    exact ⟨_, _, _, rfl, rfl, T, hA⟩
  rw [if_neg c3]
  by_cases c4 : 9 < b
  · rw [if_pos c4, m_inH (nle.mpr c4), bdO, if00]
    exact ⟨_, _, _, rfl, rfl, T, hA⟩
  rw [if_neg c4, m_in1 (nlt.mp c3) (nlt.mp c4), bdO, if10]
  by_cases c5 : v < 0
  · rw [if_pos c5, m_inL c5, bdO, if00]
    exact ⟨_, _, _, rfl, rfl, T, hA⟩
  rw [if_neg c5]
  by_cases c6 : v ≤ 1
  · rw [if_pos c6, m_in1 (ge0 c5) c6, bdO, if10]
    obtain ⟨n, hn1, hn, rfl⟩ := rng (n := 9) (by omega) c3 (nlt.mp c4)
    obtain ⟨z, hz, rfl⟩ : ∃ z, z ≤ 9999 ∧ a = nI z := by
      rcases pk_ix a (n := 10000) (by omega) with h | h | ⟨c, hc, rfl⟩
      · exact absurd h c1
      · have := Int32.le_trans h (nlt.mp c2)
        rw [show (9999 : Int32) = nI 9999 from rfl, leN (by omega) (by omega)] at this
        omega
      · exact ⟨c, by omega, rfl⟩
    obtain ⟨x1, m1, made, Y, g1, g2, hY, hST, g3, g4, g5, -⟩ := b_trial hA'
    obtain ⟨r, ξ', s', k1, k2, k3⟩ := greens_loop (v := v) hz hn n 0 1000 1000 (by omega) (by omega) (by omega) _ _ _ _ (by omega) hST p1 n1
    rw [xa_me] at k2
    rw [g1, g2, bdvO, bdvO, show (0 : Int32) = nI 0 from rfl, k1, k2]
    exact ⟨_, _, _, rfl, rfl, RA_back (x1 := x1) hA' (fun q hq => by rw [k3 q hq, g3 q hq]) g4 (fun j hj => by rw [cpF_55 hj]; exact g5 j hj)⟩
  · rw [if_neg c6, m_inH c6, bdO, if00]
    exact ⟨_, _, _, rfl, rfl, T, hA⟩
