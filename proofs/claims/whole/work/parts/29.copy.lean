/-! copies of Markets; begin -/
section MKA
variable {μ : Mem} {q : Nat} {y si : Int32} {co ow mi : Nat → Int32} {br sn cn pr : Nat → Nat → Int32} {g : Nat → Int32} {k : Nat}
theorem MKa_co : xa (MK μ q y si co ow mi br sn cn pr) q 3 0 g = MK μ q y si g ow mi br sn cn pr := by
  funext q' f i j
  by_cases h : q' = q
  · subst h
    by_cases h3 : f = 3 ∧ i = 0
    · obtain ⟨rfl, rfl⟩ := h3
      simp [xa, MK]
    · simp [xa, MK, h3]
  · simp [xa, MK, h]
theorem MKa_ow : xa (MK μ q y si co ow mi br sn cn pr) q 4 0 g = MK μ q y si co g mi br sn cn pr := by
  funext q' f i j
  by_cases h : q' = q
  · subst h
    by_cases h3 : f = 4 ∧ i = 0
    · obtain ⟨rfl, rfl⟩ := h3
      simp [xa, MK]
    · simp [xa, MK, h3]
  · simp [xa, MK, h]
theorem MKa_mi : xa (MK μ q y si co ow mi br sn cn pr) q 5 0 g = MK μ q y si co ow g br sn cn pr := by
  funext q' f i j
  by_cases h : q' = q
  · subst h
    by_cases h3 : f = 5 ∧ i = 0
    · obtain ⟨rfl, rfl⟩ := h3
      simp [xa, MK]
    · simp [xa, MK, h3]
  · simp [xa, MK, h]
theorem MKa_br : xa (MK μ q y si co ow mi br sn cn pr) q 6 k g = MK μ q y si co ow mi (upr br k g) sn cn pr := by
  funext q' f i j
  by_cases h : q' = q
  · subst h
    by_cases h3 : f = 6 ∧ i = k
    · obtain ⟨rfl, rfl⟩ := h3
      simp [xa, MK, upr]
    · by_cases h4 : f = 6
      · have h5 : ¬ i = k := fun e => h3 ⟨h4, e⟩
        simp [xa, MK, upr, h4, h5]
      · simp [xa, MK, h4]
  · simp [xa, MK, h]
theorem MKa_sn : xa (MK μ q y si co ow mi br sn cn pr) q 7 k g = MK μ q y si co ow mi br (upr sn k g) cn pr := by
  funext q' f i j
  by_cases h : q' = q
  · subst h
    by_cases h3 : f = 7 ∧ i = k
    · obtain ⟨rfl, rfl⟩ := h3
      simp [xa, MK, upr]
    · by_cases h4 : f = 7
      · have h5 : ¬ i = k := fun e => h3 ⟨h4, e⟩
        simp [xa, MK, upr, h4, h5]
      · simp [xa, MK, h4]
  · simp [xa, MK, h]
theorem MKa_cn : xa (MK μ q y si co ow mi br sn cn pr) q 8 k g = MK μ q y si co ow mi br sn (upr cn k g) pr := by
  funext q' f i j
  by_cases h : q' = q
  · subst h
    by_cases h3 : f = 8 ∧ i = k
    · obtain ⟨rfl, rfl⟩ := h3
      simp [xa, MK, upr]
    · by_cases h4 : f = 8
      · have h5 : ¬ i = k := fun e => h3 ⟨h4, e⟩
        simp [xa, MK, upr, h4, h5]
      · simp [xa, MK, h4]
  · simp [xa, MK, h]
theorem MKa_pr : xa (MK μ q y si co ow mi br sn cn pr) q 9 k g = MK μ q y si co ow mi br sn cn (upr pr k g) := by
  funext q' f i j
  by_cases h : q' = q
  · subst h
    by_cases h3 : f = 9 ∧ i = k
    · obtain ⟨rfl, rfl⟩ := h3
      simp [xa, MK, upr]
    · by_cases h4 : f = 9
      · have h5 : ¬ i = k := fun e => h3 ⟨h4, e⟩
        simp [xa, MK, upr, h4, h5]
      · simp [xa, MK, h4]
  · simp [xa, MK, h]
end MKA
/-- a Market is a copy of another, where it is looked at -/
def ZC (z z' : Nat → Nat → Nat → Int32) : Prop := z 1 0 0 = z' 1 0 0 ∧ z 2 0 0 = z' 2 0 0 ∧ (∀ j, j < 6 → z 3 0 j = z' 3 0 j ∧ z 4 0 j = z' 4 0 j ∧ z 5 0 j = z' 5 0 j) ∧ ∀ i, i < 6 → ∀ j, j < 6 → z 6 i j = z' 6 i j ∧ z 7 i j = z' 7 i j ∧ z 8 i j = z' 8 i j ∧ z 9 i j = z' 9 i j
theorem cpy6 (f g : Nat → Int32) {j : Nat} (h : j < 6) : va_cpy f g 0 0 6 j = f j := by
  rw [pk_cpy_in (by omega) (by omega), Nat.sub_zero, Nat.zero_add]
theorem x_copy0 {μ : Mem} {q q1 : Nat} (hq : q1 ≠ q) {y si : Int32} {co ow mi : Nat → Int32} {br sn cn pr : Nat → Nat → Int32} : X1_copyFrom q q1 (MK μ q y si co ow mi br sn cn pr) = lo1 (X1_copyFrom_b63 q q1) 1000 0 (MK μ q (μ q1 1 0 0) (μ q1 2 0 0) (va_cpy (μ q1 3 0) co 0 0 6) (va_cpy (μ q1 4 0) ow 0 0 6) (va_cpy (μ q1 5 0) mi 0 0 6) br sn cn pr) := by
  unfold X1_copyFrom
  simp only [MK_o hq, MKs_y, MKs_si, MK_co, MKa_co]
  rw [mltE]
  simp only [MK_o hq, MK_ow, MKa_ow]
  rw [mltE]
  simp only [MK_o hq, MK_mi, MKa_mi]
  rw [mltE]
theorem x_copy1 {μ : Mem} {q q1 : Nat} (hq : q1 ≠ q) {y si : Int32} {co ow mi : Nat → Int32} {br sn cn pr : Nat → Nat → Int32} {k : Nat} (hk : k < 6) (Kc : Int32 → Mem → Option Mem) : X1_copyFrom_b63 q q1 Kc (nI k) (MK μ q y si co ow mi br sn cn pr) = Kc (nI (k + 1)) (MK μ q y si co ow mi (upr br k (va_cpy (μ q1 6 k) (br k) 0 0 6)) (upr sn k (va_cpy (μ q1 7 k) (sn k) 0 0 6)) (upr cn k (va_cpy (μ q1 8 k) (cn k) 0 0 6)) (upr pr k (va_cpy (μ q1 9 k) (pr k) 0 0 6))) := by
  unfold X1_copyFrom_b63
  simp (discharger := omega) only [giN, clN, MK_o hq, MK_br, MKa_br, lt6, leN, nI_1]
  rw [if_neg (by omega), mltE]
  simp only [MK_o hq, MK_sn, MKa_sn]
  rw [mltE]
  simp only [MK_o hq, MK_cn, MKa_cn]
  rw [mltE]
  simp only [MK_o hq, MK_pr, MKa_pr]
  rw [mltE]
theorem x_copy {μ : Mem} {q q1 : Nat} (hq : q1 ≠ q) : ∃ ν, X1_copyFrom q q1 μ = some ν ∧ (∀ q', q' ≠ q → ν q' = μ q') ∧ ZC (ν q) (μ q1) := by
  have e0 := x_copy0 (μ := μ) (q := q) hq (y := μ q 1 0 0) (si := μ q 2 0 0) (co := μ q 3 0) (ow := μ q 4 0) (mi := μ q 5 0) (br := μ q 6) (sn := μ q 7) (cn := μ q 8) (pr := μ q 9)
  rw [MK_me] at e0
  obtain ⟨a', ν, ⟨rfl, br', sn', cn', pr', rfl, hI⟩, K9, e⟩ := lo1_inv (b := X1_copyFrom_b63 q q1) 6 (fun k a ν => a = nI k ∧ ∃ br sn cn pr, ν = MK μ q (μ q1 1 0 0) (μ q1 2 0 0) (va_cpy (μ q1 3 0) (μ q 3 0) 0 0 6) (va_cpy (μ q1 4 0) (μ q 4 0) 0 0 6) (va_cpy (μ q1 5 0) (μ q 5 0) 0 0 6) br sn cn pr ∧ ∀ i, i < k → ∀ j, j < 6 → br i j = μ q1 6 i j ∧ sn i j = μ q1 7 i j ∧ cn i j = μ q1 8 i j ∧ pr i j = μ q1 9 i j) (fun k a ν hk hI => by
    obtain ⟨rfl, br, sn, cn, pr, rfl, hI⟩ := hI
    refine ⟨nI (k + 1), _, ⟨rfl, _, _, _, _, rfl, fun i hi j hj => ?_⟩, fun Kc => x_copy1 hq hk Kc⟩
    unfold upr
    by_cases e : i = k
    · subst e
      simp only [if_true]
      rw [cpy6 _ _ hj, cpy6 _ _ hj, cpy6 _ _ hj, cpy6 _ _ hj]
      exact ⟨rfl, rfl, rfl, rfl⟩
    · simp only [if_neg e]
      exact hI i (by omega) j hj) 0 (MK μ q (μ q1 1 0 0) (μ q1 2 0 0) (va_cpy (μ q1 3 0) (μ q 3 0) 0 0 6) (va_cpy (μ q1 4 0) (μ q 4 0) 0 0 6) (va_cpy (μ q1 5 0) (μ q 5 0) 0 0 6) (μ q 6) (μ q 7) (μ q 8) (μ q 9)) ⟨rfl, _, _, _, _, rfl, fun i hi => absurd hi (by omega)⟩ 1000 (by omega)
  refine ⟨MK μ q (μ q1 1 0 0) (μ q1 2 0 0) (va_cpy (μ q1 3 0) (μ q 3 0) 0 0 6) (va_cpy (μ q1 4 0) (μ q 4 0) 0 0 6) (va_cpy (μ q1 5 0) (μ q 5 0) 0 0 6) br' sn' cn' pr', ?_, fun q' hq' => MK_o hq', ?_⟩
  · refine e0.trans (e.trans ?_)
    unfold X1_copyFrom_b63
    simp (discharger := omega) only [lt6, leN]
    rw [if_pos (Nat.le_refl _)]
  · refine ⟨MK_y, MK_si, fun j hj => ?_, fun i hi j hj => ?_⟩
    · rw [MK_co, MK_ow, MK_mi, cpy6 _ _ hj, cpy6 _ _ hj, cpy6 _ _ hj]
      exact ⟨rfl, rfl, rfl⟩
    · rw [MK_br, MK_sn, MK_cn, MK_pr]
      exact hI i hi j hj
theorem RS_cong {s s' : Nat → Int32} {T : TA} {σ σ' : S3} (hB : TB T) (hs : ∀ k, k < 55 → s' k = s k) (hσ : ∀ j, j < 6 → σ'.1 j = σ.1 j ∧ σ'.2.1 j = σ.2.1 j ∧ σ'.2.2 j = σ.2.2 j) (h : RS s T σ) : RS s' T σ' := by
  have b0 := hB.1
  have b1 := hB.2.1
  obtain ⟨h1, h2, h3⟩ := h
  refine ⟨fun i hi => ?_, fun t ht => ?_, fun t ht => ?_⟩
  · rw [hs i (by omega), (hσ i (by omega)).1, h1 i hi]
  · rw [hs _ (by omega), (hσ t (by omega)).2.1, h2 t ht]
  · rw [hs _ (by omega), (hσ t (by omega)).2.2]
    exact h3 t ht
theorem SY_cong {s s' : Nat → Int32} {Y : Nat} {made : Nat → Nat → Nat} (hs : ∀ k, k < 55 → s' k = s k) (h : SY s Y made) : SY s' Y made := by
  refine ⟨by rw [hs 54 (by omega)]; exact h.1, fun i hi t ht => ?_⟩
  rw [hs _ (by omega)]
  exact h.2 i hi t ht
theorem RQ_cong {T : TA} {fe : Int32} {z z' : Nat → Nat → Nat → Int32} {s s' : Nat → Int32} {made : Nat → Nat → Nat} {Y : Nat} (hB : TB T) (hz : ZC z' z) (hs : ∀ k, k < 55 → s' k = s k) (h : RQ T fe z s made Y) : RQ T fe z' s' made Y := by
  have b0 := hB.1
  have b1 := hB.2.1
  obtain ⟨h1, h2, h3, h4, h5, h6⟩ := h
  obtain ⟨z1, z2, z3, z4⟩ := hz
  refine ⟨z1.trans h1, z2.trans h2, RS_cong hB hs (fun j hj => z3 j hj) h3, fun i hi t ht => ?_, h5, SY_cong hs h6⟩
  obtain ⟨a1, a2, a3, a4⟩ := z4 i (by omega) t (by omega)
  rw [a1, a2, a3, a4]
  exact h4 i hi t ht
theorem ZC_me (z : Nat → Nat → Nat → Int32) : ZC z z := ⟨rfl, rfl, fun _ _ => ⟨rfl, rfl, rfl⟩, fun _ _ _ _ => ⟨rfl, rfl, rfl, rfl⟩⟩
