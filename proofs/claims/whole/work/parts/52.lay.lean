/-! LAY -/
theorem m_lays {m : Mem} {T : TA} (hB : TB T) (hM : TM (m 20 3 0) T) : ∃ m' s, X6_lays m = some m' ∧ TM (m' 20 2 0) T ∧ m' 20 4 0 = s ∧ S0 T s ∧ m' 20 6 0 0 = 0 ∧ m' 20 8 0 0 = 0 ∧ m' 20 10 0 0 = 0 ∧ ∀ f, f ≠ 2 → f ≠ 4 → f ≠ 6 → f ≠ 8 → f ≠ 10 → m' 20 f 0 = m 20 f 0 := by
  have hT2 : TM (xa m 20 2 0 (cpF (m 20 3 0) 0 59 (m 20 2 0)) 20 2 0) T := by
    rw [xa_row]
    obtain ⟨b0, b1, b2, b3, b4, b5, b6, b7⟩ := hM
    obtain ⟨a0, a1, a2, -⟩ := hB
    have o : ∀ j, j < 59 → cpF (m 20 3 0) 0 59 (m 20 2 0) j = m 20 3 0 j := fun j hj => cpF_0n hj
    refine ⟨by rw [o _ (by omega)]; exact b0, by rw [o _ (by omega)]; exact b1, by rw [o _ (by omega)]; exact b2, by rw [o _ (by omega)]; exact b3, by rw [o _ (by omega)]; exact b4, fun i hi => ?_, fun t ht => ?_, fun a ha => ?_⟩
    · rw [o _ (by omega), o _ (by omega)]; exact b5 i hi
    · rw [o _ (by omega)]; exact b6 t ht
    · rw [o _ (by omega), o _ (by omega), o _ (by omega), o _ (by omega)]; exact b7 a ha
  obtain ⟨s, e0, hS⟩ := m_starts (m := xa m 20 2 0 (cpF (m 20 3 0) 0 59 (m 20 2 0))) hB hT2
  generalize hm1 : xa m 20 2 0 (cpF (m 20 3 0) 0 59 (m 20 2 0)) = m1 at e0 hT2
  have f1 : ∀ f, f ≠ 2 → m1 20 f 0 = m 20 f 0 := fun f hf => by rw [← hm1, xa_fr m (by omega)]
  have e := lo1_eq (b := X6_lays_b2) (E := some (xs (xs (xs (xa m1 20 4 0 s) 20 6 0 0 0) 20 8 0 0 0) 20 10 0 0 0)) 59 (fun k => nI k) (fun k => xa m 20 2 0 (cpF (m 20 3 0) 0 k (m 20 2 0))) (fun k hk K => by
    unfold X6_lays_b2
    have h := cpF_s (m 20 3 0) 0 k (m 20 2 0)
    rw [Nat.zero_add] at h
    rw [if_neg (show ¬ 59 ≤ nI k by rw [lt59, leN (by omega) (by omega)]; omega), giN (by omega) (by omega), giN (by omega) (by omega), clN (by omega), xa_fr m (by omega), xs_xa, xa_xa, xa_row, nI_1, ← h]) (fun K => by
    unfold X6_lays_b2
    rw [if_pos (show 59 ≤ nI 59 by rw [lt59, leN (by omega) (by omega)]; omega), hm1, e0, bdvO]) 1000 (by omega)
  rw [cpF_0, xa_me] at e
  have fr : ∀ f, f ≠ 4 → f ≠ 6 → f ≠ 8 → f ≠ 10 → xs (xs (xs (xa m1 20 4 0 s) 20 6 0 0 0) 20 8 0 0 0) 20 10 0 0 0 20 f 0 = m1 20 f 0 := fun f h1 h2 h3 h4 => by
    rw [xs_fr _ (by omega), xs_fr _ (by omega), xs_fr _ (by omega), xa_fr m1 (by omega)]
  refine ⟨_, s, e, by rw [fr 2 (by omega) (by omega) (by omega) (by omega)]; exact hT2, ?_, hS, ?_, ?_, ?_, fun f h1 h2 h3 h4 h5 => by rw [fr f h2 h3 h4 h5, f1 f h1]⟩
  · rw [xs_fr _ (by omega), xs_fr _ (by omega), xs_fr _ (by omega), xa_row]
  · rw [xs_fr _ (by omega), xs_fr _ (by omega), xs_self]
  · rw [xs_fr _ (by omega), xs_self]
  · rw [xs_self]
/-- both sides lay a text that is without fault -/
theorem b_lay {x m : Mem} (hx15 : ∃ nx : Nat, nx < 8 ∧ x 15 1 0 0 = nI nx) (hX : RX x m) (h12 : m 20 12 0 0 = -4) {m' : Mem} (hm : X6_readsAll m = some (-4, m')) {T : TA} (hB : TB T) (hT : TM (m' 20 3 0) T) (p1 : 1 ≤ T 0 0) (n1 : 1 ≤ T 1 0) : ∃ y w, X5_layTheText x = some y ∧ X6_lays m' = some w ∧ RR y w ∧ y 13 1 0 0 = w 20 2 0 1 := by
  obtain ⟨r, x2, m2, w1, w2, w3, w4, w5⟩ := b_read (q := 13) (Or.inr rfl) hX
  rw [hm] at w2
  cases w2
  obtain ⟨T', hB', hX', hM'⟩ := w5 rfl
  obtain ⟨y, s, k1, k2, k3, k4, k5, k6, k7, k8⟩ := m_lays hB' hM'
  have p1' : 1 ≤ T' 0 0 := by
    have a := hM'.1
    rw [hT.1, eqN (by have := hB.1; omega) (by have := hB'.1; omega)] at a
    omega
  have n1' : 1 ≤ T' 1 0 := by
    have a := hM'.2.1
    rw [hT.2.1, eqN (by have := hB.2.1; omega) (by have := hB'.2.1; omega)] at a
    omega
  obtain ⟨ν, g1, g2, g3⟩ := x_begin (μ := x2) (q := 0) (fe := -4) (by omega) hB' hX' k4
  obtain ⟨nx, hnx, hx15⟩ := hx15
  have a15 : x2 15 = x 15 := w3 15 (by omega) (by omega)
  have a17 : x2 17 = x 17 := w3 17 (by omega) (by omega)
  have fy : ∀ q', q' ≠ 15 → q' ≠ 16 → q' ≠ 17 → xs (xs (xs ν 15 2 0 0 0) 17 10 0 0 0) 16 3 0 0 0 q' = ν q' := fun q' h1 h2 h3 => by
    funext f i
    rw [xs_fr _ (by omega), xs_fr _ (by omega), xs_fr _ (by omega)]
  refine ⟨xs (xs (xs ν 15 2 0 0 0) 17 10 0 0 0) 16 3 0 0 0, y, ?_, k1, ⟨T', ⟨hB', p1', n1', k2, ?_, ?_⟩, ⟨fun _ _ => 127, 0, by omega, ?_⟩, ⟨0, nx, by omega, hnx, ?_, ?_, k5, fun k hk => absurd hk (Nat.not_lt_zero k)⟩, ⟨0, by omega, ?_, k6, fun k hk => absurd hk (Nat.not_lt_zero k)⟩, ⟨0, by omega, xs_self .., k7, fun k hk => absurd hk (Nat.not_lt_zero k)⟩, ?_⟩, ?_⟩
  · unfold X5_layTheText
    rw [w1, bdO, g1, bdvO]
  · rw [fy 13 (by omega) (by omega) (by omega), g2 13 (by omega)]
    exact hX'
  · rw [k8 12 (by omega) (by omega) (by omega) (by omega) (by omega), w4 12 (by omega) (by omega)]
    exact h12
  · rw [fy 0 (by omega) (by omega) (by omega), k3]
    exact g3
  · rw [xs_fr _ (by omega), xs_fr _ (by omega), xs_fr _ (by omega), g2 15 (by omega), a15]
    exact hx15
  · rw [xs_fr _ (by omega), xs_fr _ (by omega), xs_self]
    rfl
  · rw [xs_fr _ (by omega), xs_self]
    rfl
  · refine RX_cong ?_ ?_ ?_ ?_ hX
    · funext i
      rw [xs_fr _ (by omega), xs_fr _ (by omega), xs_fr _ (by omega), g2 17 (by omega), a17]
    · funext i
      rw [xs_fr _ (by omega), xs_fr _ (by omega), xs_fr _ (by omega), g2 17 (by omega), a17]
    · rw [k8 1 (by omega) (by omega) (by omega) (by omega) (by omega), w4 1 (by omega) (by omega)]
    · rw [k8 0 (by omega) (by omega) (by omega) (by omega) (by omega), w4 0 (by omega) (by omega)]
  · rw [fy 13 (by omega) (by omega) (by omega), g2 13 (by omega), hX'.2.1, k2.2.1]
theorem op_lay : OP X5_lay X6_lay := by
  intro x m ⟨T, hA⟩
  obtain ⟨r, x1, m1, w1, w2, w3, w4, w5⟩ := b_read (q := 12) (Or.inl rfl) hA.2.2.2.2.2
  have hback : RR x1 m1 := RR_frame (x := x) (m := m) ⟨T, hA⟩ (fun q h1 h2 h3 => w3 q h2 h3) (fun f h1 h2 h3 h4 => w4 f h1 h3) (fun j hj => by rw [w4 4 (by omega) (by omega)])
  unfold X5_lay X6_lay
  rw [w1, w2, bdO, bdO]
  by_cases c : r = -4
  · subst c
    rw [if_pos rfl, if_pos rfl]
    obtain ⟨T', hB', hX', hM'⟩ := w5 rfl
    have b0 := hB'.1
    have b1 := hB'.2.1
    unfold X4_canBeLaid
    rw [hX'.1, hX'.2.1, gl0 (by omega) (by omega), tc0, hM'.1]
    by_cases c0 : T' 0 0 = 0
    · rw [c0, if_pos (show nI 0 ≤ 0 by decide), bdO, if00, if_pos (show nI 0 = 0 from rfl)]
      exact ⟨_, _, _, rfl, rfl, hback⟩
    rw [if_neg (show ¬ nI (T' 0 0) ≤ 0 by rw [lt0, leN (by omega) (by omega)]; omega), if_neg (show ¬ nI (T' 0 0) = 0 by rw [lt0, eqN (by omega) (by omega)]; exact c0), gl1 (by omega) (by omega), tc1, hM'.2.1]
    by_cases c1 : T' 1 0 = 0
    · rw [c1, if_pos (show nI 0 ≤ 0 by decide), bdO, if00, if_pos (show nI 0 = 0 from rfl)]
      exact ⟨_, _, _, rfl, rfl, hback⟩
    rw [if_neg (show ¬ nI (T' 1 0) ≤ 0 by rw [lt0, leN (by omega) (by omega)]; omega), if_neg (show ¬ nI (T' 1 0) = 0 by rw [lt0, eqN (by omega) (by omega)]; exact c1), bdO, if10]
    have e1 : RX x1 m := RX_cong (by rw [w3 17 (by omega) (by omega)]) (by rw [w3 17 (by omega) (by omega)]) rfl rfl hA.2.2.2.2.2
    obtain ⟨h0, nx, -, hnx, hx15, -⟩ := hA.2.2.1
    obtain ⟨y, w, g1, g2, g3, g4⟩ := b_lay (x := x1) (m := m) ⟨nx, hnx, by rw [w3 15 (by omega) (by omega)]; exact hx15⟩ e1 hA.1.2.2.2.2.2 w2 hB' hM' (by omega) (by omega)
    rw [g1, bdvO, g2, bdvO, gl1 (by omega) (by omega), g4]
    exact ⟨_, _, _, rfl, rfl, g3⟩
  · rw [if_neg c, if_neg c]
    exact ⟨_, _, _, rfl, rfl, hback⟩
