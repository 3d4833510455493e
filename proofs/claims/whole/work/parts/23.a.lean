/-! THE CLASS'S MARKET as a lens, and its small methods -/
def TX (z : Nat → Nat → Nat → Int32) (T : TA) : Prop := z 0 0 0 = nI (T 0 0) ∧ z 1 0 0 = nI (T 1 0) ∧ z 2 0 0 = nI (T 2 0) ∧ z 3 0 0 = nI (T 3 0) ∧ z 4 0 0 = nI (T 4 0) ∧ (∀ i, i < T 0 0 → z 5 0 i = nI (T 5 i) ∧ z 6 0 i = nI (T 6 i)) ∧ (∀ t, t < T 1 0 → z 7 0 t = nI (T 7 t)) ∧ ∀ a, a < T 2 0 → z 8 0 a = nI (T 8 a) ∧ z 9 0 a = nI (T 9 a) ∧ z 10 0 a = nI (T 10 a) ∧ z 11 0 a = nI (T 11 a)
def up2 (b : Nat → Nat → Int32) (i j : Nat) (v : Int32) : Nat → Nat → Int32 := fun i' j' => if i' = i ∧ j' = j then v else b i' j'
def upr (b : Nat → Nat → Int32) (i : Nat) (g : Nat → Int32) : Nat → Nat → Int32 := fun i' => if i' = i then g else b i'
/-- the Market q: year, silent, coins, owner, missed, breaths, since, counted, price -/
def MK (μ : Mem) (q : Nat) (y si : Int32) (co ow mi : Nat → Int32) (br sn cn pr : Nat → Nat → Int32) : Mem := fun q' f i j => if q' = q then (if f = 1 ∧ i = 0 ∧ j = 0 then y else if f = 2 ∧ i = 0 ∧ j = 0 then si else if f = 3 ∧ i = 0 then co j else if f = 4 ∧ i = 0 then ow j else if f = 5 ∧ i = 0 then mi j else if f = 6 then br i j else if f = 7 then sn i j else if f = 8 then cn i j else if f = 9 then pr i j else μ q' f i j) else μ q' f i j
section MKL
variable {μ : Mem} {q : Nat} {y si : Int32} {co ow mi : Nat → Int32} {br sn cn pr : Nat → Nat → Int32}
theorem MK_me (μ : Mem) (q : Nat) : MK μ q (μ q 1 0 0) (μ q 2 0 0) (μ q 3 0) (μ q 4 0) (μ q 5 0) (μ q 6) (μ q 7) (μ q 8) (μ q 9) = μ := by
  funext q' f i j
  unfold MK
  by_cases h : q' = q
  · subst h
    rw [if_pos rfl]
    repeat' split
    all_goals first | rfl | simp_all
  · rw [if_neg h]
theorem MK_y : MK μ q y si co ow mi br sn cn pr q 1 0 0 = y := by simp [MK]
theorem MK_si : MK μ q y si co ow mi br sn cn pr q 2 0 0 = si := by simp [MK]
theorem MK_co : MK μ q y si co ow mi br sn cn pr q 3 0 = co := by funext j; simp [MK]
theorem MK_ow : MK μ q y si co ow mi br sn cn pr q 4 0 = ow := by funext j; simp [MK]
theorem MK_mi : MK μ q y si co ow mi br sn cn pr q 5 0 = mi := by funext j; simp [MK]
theorem MK_br : MK μ q y si co ow mi br sn cn pr q 6 = br := by funext i j; simp [MK]
theorem MK_sn : MK μ q y si co ow mi br sn cn pr q 7 = sn := by funext i j; simp [MK]
theorem MK_cn : MK μ q y si co ow mi br sn cn pr q 8 = cn := by funext i j; simp [MK]
theorem MK_pr : MK μ q y si co ow mi br sn cn pr q 9 = pr := by funext i j; simp [MK]
theorem MK_o {q' : Nat} (h : q' ≠ q) : MK μ q y si co ow mi br sn cn pr q' = μ q' := by funext f i j; simp [MK, h]
theorem MK_13 (h : q < 12) : MK μ q y si co ow mi br sn cn pr 13 = μ 13 := MK_o (by omega)
theorem MKs_y {v : Int32} : xs (MK μ q y si co ow mi br sn cn pr) q 1 0 0 v = MK μ q v si co ow mi br sn cn pr := by
  funext q' f i j
  unfold xs MK
  by_cases h : q' = q
  · subst h
    simp only [if_pos, true_and]
    repeat' split
    all_goals first | rfl | simp_all
  · simp [h]
theorem MKs_si {v : Int32} : xs (MK μ q y si co ow mi br sn cn pr) q 2 0 0 v = MK μ q y v co ow mi br sn cn pr := by
  funext q' f i j
  unfold xs MK
  by_cases h : q' = q
  · subst h
    simp only [if_pos, true_and]
    repeat' split
    all_goals first | rfl | simp_all
  · simp [h]
theorem MKs_co {k : Nat} {v : Int32} : xs (MK μ q y si co ow mi br sn cn pr) q 3 0 k v = MK μ q y si (upd co k v) ow mi br sn cn pr := by
  funext q' f i j
  unfold xs MK upd
  by_cases h : q' = q
  · subst h
    simp only [if_pos, true_and]
    repeat' split
    all_goals first | rfl | simp_all
  · simp [h]
theorem MKs_ow {k : Nat} {v : Int32} : xs (MK μ q y si co ow mi br sn cn pr) q 4 0 k v = MK μ q y si co (upd ow k v) mi br sn cn pr := by
  funext q' f i j
  unfold xs MK upd
  by_cases h : q' = q
  · subst h
    simp only [if_pos, true_and]
    repeat' split
    all_goals first | rfl | simp_all
  · simp [h]
theorem MKs_mi {k : Nat} {v : Int32} : xs (MK μ q y si co ow mi br sn cn pr) q 5 0 k v = MK μ q y si co ow (upd mi k v) br sn cn pr := by
  funext q' f i j
  unfold xs MK upd
  by_cases h : q' = q
  · subst h
    simp only [if_pos, true_and]
    repeat' split
    all_goals first | rfl | simp_all
  · simp [h]
theorem MKs_br {k l : Nat} {v : Int32} : xs (MK μ q y si co ow mi br sn cn pr) q 6 k l v = MK μ q y si co ow mi (up2 br k l v) sn cn pr := by
  funext q' f i j
  unfold xs MK up2
  by_cases h : q' = q
  · subst h
    simp only [if_pos, true_and]
    repeat' split
    all_goals first | rfl | simp_all
  · simp [h]
theorem MKs_sn {k l : Nat} {v : Int32} : xs (MK μ q y si co ow mi br sn cn pr) q 7 k l v = MK μ q y si co ow mi br (up2 sn k l v) cn pr := by
  funext q' f i j
  unfold xs MK up2
  by_cases h : q' = q
  · subst h
    simp only [if_pos, true_and]
    repeat' split
    all_goals first | rfl | simp_all
  · simp [h]
theorem MKs_cn {k l : Nat} {v : Int32} : xs (MK μ q y si co ow mi br sn cn pr) q 8 k l v = MK μ q y si co ow mi br sn (up2 cn k l v) pr := by
  funext q' f i j
  unfold xs MK up2
  by_cases h : q' = q
  · subst h
    simp only [if_pos, true_and]
    repeat' split
    all_goals first | rfl | simp_all
  · simp [h]
theorem MKs_pr {k l : Nat} {v : Int32} : xs (MK μ q y si co ow mi br sn cn pr) q 9 k l v = MK μ q y si co ow mi br sn cn (up2 pr k l v) := by
  funext q' f i j
  unfold xs MK up2
  by_cases h : q' = q
  · subst h
    simp only [if_pos, true_and]
    repeat' split
    all_goals first | rfl | simp_all
  · simp [h]
end MKL
