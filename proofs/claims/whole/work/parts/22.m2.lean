/-! counted, price, claim, dearest: the reference's, over keys K -/
def MS (m : Mem) (T : TA) (made : Nat → Nat → Nat) (Y : Nat) : Prop := TB T ∧ TM (m 20 2 0) T ∧ SY (m 20 4 0) Y made ∧ Y < 128
abbrev KM (m : Mem) (T : TA) (made : Nat → Nat → Nat) (Y : Nat) : Nat → Nat → Nat := KK T (m 20 12 0 0) made Y
def CT (T : TA) (K : Nat → Nat → Nat) (i t : Nat) : Nat := cnt (T 5 i) (K i t / 128)
def PR (T : TA) (K : Nat → Nat → Nat) (i t : Nat) : Nat := if T 5 i = 3 then (T 7 t + T 4 0 * (127 - K i t % 128)) / 2 else T 7 t + T 4 0 * (127 - K i t % 128)
def ZZ (T : TA) (K : Nat → Nat → Nat) (i t : Nat) : Int32 := if 8 < CT T K i t then nI (PR T K i t) else -4
theorem cnt_le {k b : Nat} : cnt k b ≤ 3 * b := by unfold cnt; split <;> (try split) <;> (try split) <;> omega
theorem cost_lt {T : TA} (hB : TB T) {t y : Nat} (ht : t < T 1 0) (hy : y < 128) : T 7 t + T 4 0 * y < 2000 := by
  obtain ⟨-, -, -, -, b4, -, b6, -⟩ := hB
  have h1 := (b6 t ht).2
  have h2 : T 4 0 * y ≤ 9 * 127 := Nat.mul_le_mul b4 (by omega)
  omega
theorem PR_lt {T : TA} (hB : TB T) {K : Nat → Nat → Nat} {i t : Nat} (ht : t < T 1 0) : PR T K i t < 2000 := by
  have := cost_lt hB (t := t) (y := 127 - K i t % 128) ht (by omega)
  unfold PR
  split <;> omega
theorem m_countedOf {k b : Nat} (hk : k < 1000) (hb : b < 1000) (m : Mem) : X6_countedOf (nI k) (nI b) m = some (nI (cnt k b), m) := by
  unfold X6_countedOf cnt
  simp (discharger := omega) only [lt1, lt2, lt3, eqN, leN, pk_mul]
  by_cases h1 : k = 1
  · rw [if_pos h1, if_pos h1]
    by_cases h2 : 2 ≤ b
    · rw [if_pos h2, pk_sub h2]
    · rw [if_neg h2]
      have e : b - 2 = 0 := by omega
      rw [e]
      rfl
  · rw [if_neg h1, if_neg h1]
    by_cases h2 : k = 2
    · rw [if_pos h2, if_pos h2]
    · rw [if_neg h2, if_neg h2]
      by_cases h3 : k = 3
      · rw [if_pos h3, if_pos h3]
      · rw [if_neg h3, if_neg h3]
section MM
variable {T : TA} {m : Mem} {Y i t : Nat} {made : Nat → Nat → Nat}
theorem MS_K (hM : MS m T made Y) (hi : i < T 0 0) (ht : t < T 1 0) : KM m T made Y i t < 4096 := by
  obtain ⟨hB, hT, hS, hY⟩ := hM
  exact KK_lt hB (hS.2 i (by have := hB.1; omega) t (by have := hB.2.1; omega)).2
theorem m_pn (hM : MS m T made Y) (hi : i < T 0 0) (ht : t < T 1 0) : X6_pauseNow (nI i) (nI t) m = some (nI (unk (KM m T made Y i t)), m) := m_pauseNow hM.1 hM.2.1 hM.2.2.1 hM.2.2.2 hi ht
theorem m_countedNow (hM : MS m T made Y) (hi : i < T 0 0) (ht : t < T 1 0) : X6_countedNow (nI i) (nI t) m = some (nI (CT T (KM m T made Y) i t), m) := by
  have hK := MS_K hM hi ht
  have hu := unk_lt hK
  have b0 := hM.1.1
  have b5 := hM.1.2.2.2.2.2.1 i hi
  have t5 := hM.2.1.2.2.2.2.2.1 i hi
  unfold X6_countedNow
  simp (discharger := omega) only [ad5, giN, clN, m_pn hM hi ht, bdO, t5.1, dv128, unk_d]
  rw [m_countedOf (by omega) (by omega)]
  rfl
theorem CT_lt (hM : MS m T made Y) (hi : i < T 0 0) (ht : t < T 1 0) : CT T (KM m T made Y) i t < 1000 := by
  have hK := MS_K hM hi ht
  have := @cnt_le (T 5 i) (KM m T made Y i t / 128)
  unfold CT
  omega
theorem m_isNearly (hM : MS m T made Y) (hi : i < T 0 0) (ht : t < T 1 0) : X6_isNearly (nI i) (nI t) m = some (if 8 < CT T (KM m T made Y) i t then 1 else 0, m) := by
  have hC := CT_lt hM hi ht
  unfold X6_isNearly
  simp (discharger := omega) only [m_countedNow hM hi ht, bdO, lt8, leN]
  by_cases h : 8 < CT T (KM m T made Y) i t
  · rw [if_pos h, if_neg (by omega)]
  · rw [if_neg h, if_pos (by omega)]
theorem m_costs (hB : TB T) (hT : TM (m 20 2 0) T) (ht : t < T 1 0) {y : Nat} : X6_costs (nI t) (nI y) m = some (nI (T 7 t + T 4 0 * y), m) := by
  have b1 := hB.2.1
  have t7 := hT.2.2.2.2.2.2.1 t ht
  have t4 := hT.2.2.2.2.1
  unfold X6_costs
  simp (discharger := omega) only [ad17, gl4, tc4, giN, clN, t7, t4, pk_mul, nI_add]
theorem m_priceOf (hM : MS m T made Y) (hi : i < T 0 0) (ht : t < T 1 0) : X6_priceOf (nI i) (nI t) m = some (nI (PR T (KM m T made Y) i t), m) := by
  have hK := MS_K hM hi ht
  have hu := unk_lt hK
  have b0 := hM.1.1
  have b5 := hM.1.2.2.2.2.2.1 i hi
  have t5 := hM.2.1.2.2.2.2.2.1 i hi
  have hc := cost_lt hM.1 (y := 127 - KM m T made Y i t % 128) ht (by omega)
  unfold X6_priceOf
  simp (discharger := omega) only [m_pn hM hi ht, bdO, dv128, rmB]
  simp (discharger := omega) only [unk_m, m_costs hM.1 hM.2.1 ht, bdO, ad5, giN, clN, t5.1, lt3, eqN]
  unfold PR
  by_cases h : T 5 i = 3
  · rw [if_pos h, if_pos h, lt2, pk_div (by omega) (by omega) (by omega)]
  · rw [if_neg h, if_neg h]
end MM
/-- the claim: who, and how many counted -/
def clm (C : Nat → Nat → Nat) (P t : Nat) : Int32 × Nat := fo (fun i a => if a.2 < C i t then (nI i, C i t) else a) P (-4, 8)
theorem clm_or (C : Nat → Nat → Nat) (P t : Nat) : ((clm C P t).1 = -4 ∧ (clm C P t).2 = 8) ∨ ∃ i, i < P ∧ (clm C P t).1 = nI i ∧ 8 < C i t := by
  have h := fo_inv (f := fun i (a : Int32 × Nat) => if a.2 < C i t then (nI i, C i t) else a) (a := (-4, 8)) (fun k a => 8 ≤ a.2 ∧ ((a.1 = -4 ∧ a.2 = 8) ∨ ∃ i, i < k ∧ a.1 = nI i ∧ 8 < C i t)) ⟨Nat.le_refl _, Or.inl ⟨rfl, rfl⟩⟩ P (fun k a hk ha => by
    by_cases c : a.2 < C k t
    · rw [if_pos c]
      exact ⟨by dsimp only; omega, Or.inr ⟨k, by omega, rfl, by omega⟩⟩
    · rw [if_neg c]
      refine ⟨ha.1, ?_⟩
      rcases ha.2 with h | ⟨i, h1, h2, h3⟩
      · exact Or.inl h
      · exact Or.inr ⟨i, by omega, h2, h3⟩)
  exact h.2
theorem clm_lt {C : Nat → Nat → Nat} {P t n : Nat} (hC : ∀ i, i < P → C i t < n) (hn : 8 < n) : ∀ k, k ≤ P → (fo (fun i (a : Int32 × Nat) => if a.2 < C i t then (nI i, C i t) else a) k (-4, 8)).2 < n := fun k hk =>
  fo_inv (f := fun i (a : Int32 × Nat) => if a.2 < C i t then (nI i, C i t) else a) (a := (-4, 8)) (fun _ a => a.2 < n) hn k (fun j a hj ha => by
    by_cases c : a.2 < C j t
    · rw [if_pos c]; exact hC j (by omega)
    · rw [if_neg c]; exact ha)
def dear (Z : Nat → Nat → Int32) (N i : Nat) : Int32 := fo (fun t a => if a < Z i t then Z i t else a) N (-4)
section MN
variable {T : TA} {m : Mem} {Y i t : Nat} {made : Nat → Nat → Nat}
theorem m_claim (hM : MS m T made Y) (ht : t < T 1 0) : X6_claim (nI t) m = some ((clm (CT T (KM m T made Y)) (T 0 0) t).1, m) := by
  have b0 := hM.1.1
  have t0 := hM.2.1.1
  have hl := clm_lt (P := T 0 0) (t := t) (n := 1000) (fun i hi => CT_lt hM hi ht) (by omega)
  unfold X6_claim
  refine lo3_eq (T 0 0) (fun k => (fo (fun i (a : Int32 × Nat) => if a.2 < CT T (KM m T made Y) i t then (nI i, CT T (KM m T made Y) i t) else a) k (-4, 8)).1) (fun k => nI (fo (fun i (a : Int32 × Nat) => if a.2 < CT T (KM m T made Y) i t then (nI i, CT T (KM m T made Y) i t) else a) k (-4, 8)).2) (fun k => nI k) (fun _ => m) ?_ ?_ 1000 (by omega)
  · intro k hk K
    have h1 := hl k (by omega)
    have h2 := CT_lt hM hk ht
    unfold X6_claim_b9 X6_claim_b41 X6_claim_b54
    dsimp only [fo]
    generalize fo (fun i (a : Int32 × Nat) => if a.2 < CT T (KM m T made Y) i t then (nI i, CT T (KM m T made Y) i t) else a) k (-4, 8) = a at h1 ⊢
    simp (discharger := omega) only [gl0, tc0, t0, leN, m_countedNow hM hk ht, bdO, nI_1]
    rw [if_neg (by omega)]
    by_cases c : a.2 < CT T (KM m T made Y) k t
    · rw [if_neg (by omega), if_pos c, if_neg (by omega)]
    · rw [if_pos (by omega), if_neg c, if_pos (by omega)]
  · intro K
    unfold X6_claim_b9
    simp (discharger := omega) only [gl0, tc0, t0, leN]
    rw [if_pos (Nat.le_refl _)]
    rfl
theorem m_dearest (hM : MS m T made Y) (hi : i < T 0 0) : X6_dearest (nI i) m = some (dear (ZZ T (KM m T made Y)) (T 1 0) i, m) := by
  have b1 := hM.1.2.1
  have t1 := hM.2.1.2.1
  unfold X6_dearest
  refine lo2_eq (T 1 0) (fun k => fo (fun t a => if a < ZZ T (KM m T made Y) i t then ZZ T (KM m T made Y) i t else a) k (-4)) (fun k => nI k) (fun _ => m) ?_ ?_ 1000 (by omega)
  · intro k hk K
    unfold X6_dearest_b5 X6_dearest_b35 X6_dearest_b49
    dsimp only [fo]
    generalize fo (fun t a => if a < ZZ T (KM m T made Y) i t then ZZ T (KM m T made Y) i t else a) k (-4) = a
    simp (discharger := omega) only [gl1, tc1, t1, leN, m_isNearly hM hi hk, m_priceOf hM hi hk, bdO, nI_1]
    rw [if_neg (by omega)]
    unfold ZZ
    by_cases c : 8 < CT T (KM m T made Y) i k
    · rw [if_pos c, if_pos c, if_neg (by decide)]
      by_cases c2 : a < nI (PR T (KM m T made Y) i k)
      · rw [if_pos c2, if_neg (Int32.not_le.mpr c2)]
      · rw [if_neg c2, if_pos (Int32.not_lt.mp c2)]
    · rw [if_neg c, if_neg c, if_pos rfl]
      by_cases c2 : a < -4
      · rw [if_pos c2, if_neg (Int32.not_le.mpr c2)]
      · rw [if_neg c2, if_pos (Int32.not_lt.mp c2)]
  · intro K
    unfold X6_dearest_b5
    simp (discharger := omega) only [gl1, tc1, t1, leN]
    rw [if_pos (Nat.le_refl _)]
    rfl
end MN
