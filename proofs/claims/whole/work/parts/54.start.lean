/-! THE START: both sides behind their constructors -/
theorem first_let : ∀ k, k < 107 → 32 ≤ ftL.getD k 0 ∧ ftL.getD k 0 ≤ 126 := by decide +kernel
theorem first_m : ∃ m', X6_readsAll mv = some (-4, m') ∧ ∀ j, j < 59 → m' 20 3 0 j = nI (frL.getD j 0) := by
  have h := first_read
  cases e : X6_readsAll mv with
  | none =>
    rw [e] at h
    exact absurd (show false = true from h) (by decide)
  | some y =>
    obtain ⟨r, m'⟩ := y
    rw [e] at h
    have h' : (decide (r = -4) && (List.range 59).all (fun j => decide (m' 20 3 0 j = nI (frL.getD j 0)))) = true := h
    rw [Bool.and_eq_true] at h'
    obtain ⟨h1, h2⟩ := h'
    have h1 := of_decide_eq_true h1
    rw [List.all_eq_true] at h2
    refine ⟨m', by rw [h1], fun j hj => of_decide_eq_true (h2 j (List.mem_range.mpr hj))⟩
theorem TM_cong {d d' : Nat → Int32} {T : TA} (hB : TB T) (h : ∀ j, j < 59 → d' j = d j) (hM : TM d T) : TM d' T := by
  obtain ⟨b0, b1, b2, b3, b4, b5, b6, b7⟩ := hM
  obtain ⟨a0, a1, a2, -⟩ := hB
  refine ⟨by rw [h _ (by omega)]; exact b0, by rw [h _ (by omega)]; exact b1, by rw [h _ (by omega)]; exact b2, by rw [h _ (by omega)]; exact b3, by rw [h _ (by omega)]; exact b4, fun i hi => ?_, fun t ht => ?_, fun a ha => ?_⟩
  · rw [h _ (by omega), h _ (by omega)]; exact b5 i hi
  · rw [h _ (by omega)]; exact b6 t ht
  · rw [h _ (by omega), h _ (by omega), h _ (by omega), h _ (by omega)]; exact b7 a ha
theorem first_RR {x μ : Mem} {nx : Nat} (hnx : nx < 8) (hx15 : x 15 1 0 0 = nI nx) (e9 : x 17 9 0 0 = nI 107) (et : ∀ k, k < 107 → x 17 0 0 k = nI (ftL.getD k 0)) (hr : ∀ j, j < 59 → μ 20 3 0 j = nI (frL.getD j 0)) (h12 : μ 20 12 0 0 = -4) (h1 : μ 20 1 0 0 = 0) : ∃ y w, X5_layTheText x = some y ∧ X6_lays μ = some w ∧ RR (xs y 17 9 0 0 0) w := by
  have hRX : RX x mv := ⟨107, by omega, e9, rfl, fun k hk => ⟨et k hk, ftL.getD k 0, (first_let k hk).1, (first_let k hk).2, rfl⟩⟩
  obtain ⟨m', hm, hrow⟩ := first_m
  obtain ⟨r, x2, m2, w1, w2, w3, w4, w5⟩ := b_read (q := 13) (Or.inr rfl) hRX
  rw [hm] at w2
  cases w2
  obtain ⟨T', hB', hX', hM0⟩ := w5 rfl
  have hM' : TM (μ 20 3 0) T' := TM_cong hB' (fun j hj => by rw [hr j hj, hrow j hj]) hM0
  obtain ⟨y, s, k1, k2, k3, k4, k5, k6, k7, k8⟩ := m_lays hB' hM'
  have p1' : 1 ≤ T' 0 0 := by
    have a := hM0.1
    rw [hrow 0 (by omega), eqN (by decide) (by have := hB'.1; omega)] at a
    rw [← a]
    decide
  have n1' : 1 ≤ T' 1 0 := by
    have a := hM0.2.1
    rw [hrow 1 (by omega), eqN (by decide) (by have := hB'.2.1; omega)] at a
    rw [← a]
    decide
  obtain ⟨ν, g1, g2, g3⟩ := x_begin (μ := x2) (q := 0) (fe := -4) (by omega) hB' hX' k4
  have a15 : x2 15 = x 15 := w3 15 (by omega) (by omega)
  have fy : ∀ q', q' ≠ 15 → q' ≠ 16 → q' ≠ 17 → xs (xs (xs (xs ν 15 2 0 0 0) 17 10 0 0 0) 16 3 0 0 0) 17 9 0 0 0 q' = ν q' := fun q' h1 h2 h3 => by
    funext f i
    rw [xs_fr _ (by omega), xs_fr _ (by omega), xs_fr _ (by omega), xs_fr _ (by omega)]
  refine ⟨xs (xs (xs ν 15 2 0 0 0) 17 10 0 0 0) 16 3 0 0 0, y, ?_, k1, T', ⟨hB', p1', n1', k2, ?_, ?_⟩, ⟨fun _ _ => 127, 0, by omega, ?_⟩, ⟨0, nx, by omega, hnx, ?_, ?_, k5, fun k hk => absurd hk (Nat.not_lt_zero k)⟩, ⟨0, by omega, ?_, k6, fun k hk => absurd hk (Nat.not_lt_zero k)⟩, ⟨0, by omega, ?_, k7, fun k hk => absurd hk (Nat.not_lt_zero k)⟩, ⟨0, by omega, ?_, ?_, fun k hk => absurd hk (Nat.not_lt_zero k)⟩⟩
  · unfold X5_layTheText
    rw [w1, bdO, g1, bdvO]
  · rw [fy 13 (by omega) (by omega) (by omega), g2 13 (by omega)]
    exact hX'
  · rw [k8 12 (by omega) (by omega) (by omega) (by omega) (by omega)]
    exact h12
  · rw [fy 0 (by omega) (by omega) (by omega), k3]
    exact g3
  · rw [xs_fr _ (by omega), xs_fr _ (by omega), xs_fr _ (by omega), xs_fr _ (by omega), g2 15 (by omega), a15]
    exact hx15
  · rw [xs_fr _ (by omega), xs_fr _ (by omega), xs_fr _ (by omega), xs_self]
    rfl
  · rw [xs_fr _ (by omega), xs_fr _ (by omega), xs_self]
    rfl
  · rw [xs_fr _ (by omega), xs_self]
    rfl
  · rw [xs_self]
    rfl
  · rw [k8 1 (by omega) (by omega) (by omega) (by omega) (by omega)]
    exact h1
