/-! THE CELLS: what each key's cell holds, out of the one memory of ints (its places: object, field, row, index) -/
abbrev G3 : Type := ClassId × ClassId × ClassId
def xs (μ : Mem) (q f i j : Nat) (v : Int32) : Mem := fun q' f' i' j' => if q' = q ∧ f' = f ∧ i' = i ∧ j' = j then v else μ q' f' i' j'
def xa (μ : Mem) (q f i : Nat) (g : Nat → Int32) : Mem := fun q' f' i' j' => if q' = q ∧ f' = f ∧ i' = i then g j' else μ q' f' i' j'
theorem xs_row (μ : Mem) (q f i j : Nat) (v : Int32) : xs μ q f i j v q f i = upd (μ q f i) j v := by
  funext j'
  simp [xs, upd]
theorem xa_row (μ : Mem) (q f i : Nat) (g : Nat → Int32) : xa μ q f i g q f i = g := by
  funext j'
  simp [xa]
theorem xs_self (μ : Mem) (q f i j : Nat) (v : Int32) : xs μ q f i j v q f i j = v := if_pos ⟨rfl, rfl, rfl, rfl⟩
theorem xs_f (μ : Mem) {q f i j q' f' i' j' : Nat} {v : Int32} (h : f' ≠ f) : xs μ q f i j v q' f' i' j' = μ q' f' i' j' := if_neg (fun e => h e.2.1)
theorem xs_fr (μ : Mem) {q f i j q' f' i' : Nat} {v : Int32} (h : ¬ (q' = q ∧ f' = f ∧ i' = i)) : xs μ q f i j v q' f' i' = μ q' f' i' := by
  funext j'
  exact if_neg (fun e => h ⟨e.1, e.2.1, e.2.2.1⟩)
theorem xa_fr (μ : Mem) {q f i q' f' i' : Nat} {g : Nat → Int32} (h : ¬ (q' = q ∧ f' = f ∧ i' = i)) : xa μ q f i g q' f' i' = μ q' f' i' := by
  funext j'
  exact if_neg h
def arrX (q f : Nat) : Bool := if q < 12 then decide (3 ≤ f) && decide (f ≤ 9) else if q < 14 then decide (5 ≤ f) && decide (f ≤ 11) else if q = 14 then f == 0 else if q = 15 then f == 0 else if q = 16 then decide (f ≤ 2) else if q = 17 then f == 0 || f == 7 else f == 0 || f == 2 || f == 3 || f == 4 || f == 5 || f == 7 || f == 9 || f == 13
def scX (q f : Nat) : Bool := if q < 12 then f == 1 || f == 2 else if q < 14 then decide (f ≤ 4) else if q = 14 then f == 1 else if q = 15 then f == 1 || f == 2 else if q = 16 then f == 3 else if q = 17 then f == 9 || f == 10 else f == 1 || f == 6 || f == 8 || f == 10 || f == 11 || f == 12
def lX (q f : Nat) : Nat := if q < 12 then 6 else if q < 14 then (if f < 8 then 6 else 9) else if q = 14 then 4 else if q = 16 then 6 else if q = 17 then 200 else if f = 0 then 200 else if f = 2 then 59 else if f = 3 then 59 else if f = 4 then 55 else if f = 5 then 440 else if f = 7 then 110 else if f = 9 then 6 else 55
def oX (ad : Ky → Nat) (μ : Mem) (q : Nat) : va_E :=
  if q < 12 then .inr (1, [.ref (ad (13,50,0)), .int (μ q 1 0 0), .int (μ q 2 0 0), .ref (ad (q,3,0)), .ref (ad (q,4,0)), .ref (ad (q,5,0)), .ref (ad (q,6,50)), .ref (ad (q,7,50)), .ref (ad (q,8,50)), .ref (ad (q,9,50))]) else
  if q < 14 then .inr (4, [.int (μ q 0 0 0), .int (μ q 1 0 0), .int (μ q 2 0 0), .int (μ q 3 0 0), .int (μ q 4 0 0), .ref (ad (q,5,0)), .ref (ad (q,6,0)), .ref (ad (q,7,0)), .ref (ad (q,8,0)), .ref (ad (q,9,0)), .ref (ad (q,10,0)), .ref (ad (q,11,0))]) else
  if q = 14 then .inr (2, [.ref (ad (14,0,0)), .int (μ q 1 0 0)]) else
  if q = 15 then .inr (0, [.ref (ad (15,0,50)), .int (μ q 1 0 0), .int (μ q 2 0 0)]) else
  if q = 16 then .inr (3, [.ref (ad (16,0,0)), .ref (ad (16,1,0)), .ref (ad (16,2,0)), .int (μ q 3 0 0)]) else
  if q = 17 then .inr (5, [.ref (ad (17,0,0)), .ref (ad (14,50,0)), .ref (ad (12,50,0)), .ref (ad (13,50,0)), .ref (ad (0,50,0)), .ref (ad (1,50,0)), .ref (ad (15,50,0)), .ref (ad (17,7,50)), .ref (ad (16,50,0)), .int (μ q 9 0 0), .int (μ q 10 0 0)]) else
  .inr (6, [.ref (ad (20,0,0)), .int (μ q 1 0 0), .ref (ad (20,2,0)), .ref (ad (20,3,0)), .ref (ad (20,4,0)), .ref (ad (20,5,0)), .int (μ q 6 0 0), .ref (ad (20,7,0)), .int (μ q 8 0 0), .ref (ad (20,9,0)), .int (μ q 10 0 0), .int (μ q 11 0 0), .int (μ q 12 0 0), .ref (ad (20,13,0))])
def rfX (g : Nat → Nat) : (Nat → Int32) ⊕ (Nat → Int64) ⊕ (Nat → UInt32) ⊕ (Nat → UInt64) ⊕ (Nat → Option Nat) := .inr (.inr (.inr (.inr (fun j => some (g j)))))
def cX (g : G3) (ad : Ky → Nat) (μ : Mem) : Ky → va_E := fun k =>
  if k.2.1 = 50 then oX ad μ k.1
  else if k.2.2 = 50 then (if k.1 = 15 then .inl (g.2.2, 8, rfX (fun j => ad (2 + j, 50, 0))) else if k.1 = 17 then .inl (g.2.2, 2, rfX (fun j => ad (10 + j, 50, 0))) else .inl (g.2.1, 6, rfX (fun j => ad (k.1, k.2.1, j))))
  else .inl (g.1, lX k.1 k.2.1, .inl (μ k.1 k.2.1 k.2.2))
def tysX (g : G3) : List (ClassId × FieldType) := [(g.1, .int), (g.2.1, .array .int), (g.2.2, .object "NearlyBought$Market")]
abbrev WX (D : va_G) (g : G3) (ks : List Ky) (ad : Ky → Nat) (A : Nat → Prop) (s : State) (H0 : Heap) (μ : Mem) (H : Heap) (locs : List Loc) : Prop := Wo D (tysX g) ks ad A s H0 (cX g ad μ) H locs
def okX (k : Ky) : Bool := (k.2.1 == 50 && k.2.2 == 0) || (k.2.1 != 50 && k.2.2 == 50) || arrX k.1 k.2.1
def keysX : List Ky := (List.range 12).flatMap (fun q => [(q, 50, 0), (q, 3, 0), (q, 4, 0), (q, 5, 0)] ++ [6, 7, 8, 9].flatMap (fun f => (q, f, 50) :: (List.range 6).map (fun i => (q, f, i)))) ++ [12, 13].flatMap (fun q => (q, 50, 0) :: [5, 6, 7, 8, 9, 10, 11].map (fun f => (q, f, 0))) ++ [(14, 50, 0), (14, 0, 0), (15, 50, 0), (15, 0, 50), (16, 50, 0), (16, 0, 0), (16, 1, 0), (16, 2, 0), (17, 50, 0), (17, 0, 0), (17, 7, 50)]
def keysM : List Ky := [(20, 50, 0), (20, 0, 0), (20, 2, 0), (20, 3, 0), (20, 4, 0), (20, 5, 0), (20, 7, 0), (20, 9, 0), (20, 13, 0)]
theorem keysX_nd : keysX.Nodup := by decide +kernel
theorem keysM_nd : keysM.Nodup := by decide +kernel
theorem keysX_ok : ∀ k ∈ keysX, okX k = true := by decide +kernel
theorem keysM_ok : ∀ k ∈ keysM, okX k = true := by decide +kernel
theorem arX_s {q f f' : Nat} (h : arrX q f = true) (h' : scX q f' = true) : f' ≠ f := by
  intro e
  subst e
  unfold arrX at h
  unfold scX at h'
  repeat' split at h
  all_goals simp_all
  all_goals omega
theorem arX_50 {q f : Nat} (h : arrX q f = true) : f ≠ 50 := by
  intro e
  subst e
  unfold arrX at h
  repeat' split at h
  all_goals simp_all
theorem oX_congr {ad : Ky → Nat} {μ μ' : Mem} {q : Nat} (h : ∀ f, scX q f = true → μ' q f 0 0 = μ q f 0 0) : oX ad μ' q = oX ad μ q := by
  unfold oX
  unfold scX at h
  by_cases h1 : q < 12
  · simp only [h1, if_true] at h ⊢
    rw [h 1 rfl, h 2 rfl]
  by_cases h2 : q < 14
  · simp only [h1, h2, if_true, if_false] at h ⊢
    rw [h 0 rfl, h 1 rfl, h 2 rfl, h 3 rfl, h 4 rfl]
  by_cases h3 : q = 14
  · simp only [h1, h2, if_false, if_pos h3] at h ⊢
    rw [h 1 rfl]
  by_cases h4 : q = 15
  · simp only [h1, h2, h3, if_false, if_pos h4] at h ⊢
    rw [h 1 rfl, h 2 rfl]
  by_cases h5 : q = 16
  · simp only [h1, h2, h3, h4, if_false, if_pos h5] at h ⊢
    rw [h 3 rfl]
  by_cases h6 : q = 17
  · simp only [h1, h2, h3, h4, h5, if_false, if_pos h6] at h ⊢
    rw [h 9 rfl, h 10 rfl]
  · simp only [h1, h2, h3, h4, h5, h6, if_false] at h ⊢
    rw [h 1 rfl, h 6 rfl, h 8 rfl, h 10 rfl, h 11 rfl, h 12 rfl]
theorem cX_a {g : G3} {ad : Ky → Nat} {μ μ' : Mem} {q f i : Nat} (ha : arrX q f = true) (hμ : ∀ q' f' i', ¬ (q' = q ∧ f' = f ∧ i' = i) → μ' q' f' i' = μ q' f' i') {k : Ky} (hne : k ≠ (q, f, i)) : cX g ad μ' k = cX g ad μ k := by
  obtain ⟨q', f', i'⟩ := k
  unfold cX
  dsimp only
  by_cases h1 : f' = 50
  · rw [if_pos h1, if_pos h1]
    exact oX_congr (fun f2 h2 => congrFun (hμ q' f2 0 (fun e => arX_s ha (e.1 ▸ h2) e.2.1)) 0)
  · rw [if_neg h1, if_neg h1]
    by_cases h2 : i' = 50
    · rw [if_pos h2, if_pos h2]
    · rw [if_neg h2, if_neg h2, hμ q' f' i' (fun e => hne (by rw [e.1, e.2.1, e.2.2]))]
theorem cX_s {g : G3} {ad : Ky → Nat} {μ : Mem} {q f : Nat} {v : Int32} (hs : scX q f = true) {k : Ky} (hok : okX k = true) (hne : k ≠ (q, 50, 0)) : cX g ad (xs μ q f 0 0 v) k = cX g ad μ k := by
  obtain ⟨q', f', i'⟩ := k
  unfold cX
  dsimp only
  by_cases h1 : f' = 50
  · rw [if_pos h1, if_pos h1]
    subst h1
    have hi : i' = 0 := by
      simp only [okX, Bool.or_eq_true, Bool.and_eq_true, beq_iff_eq, bne_iff_ne, ne_eq, not_true_eq_false, false_and, or_false, true_and] at hok
      rcases hok with h | h
      · exact h
      · exact absurd rfl (arX_50 h)
    subst hi
    have hq : q' ≠ q := fun e => hne (by rw [e])
    exact oX_congr (fun f2 h2 => if_neg (fun e => hq e.1))
  · rw [if_neg h1, if_neg h1]
    by_cases h2 : i' = 50
    · rw [if_pos h2, if_pos h2]
    · rw [if_neg h2, if_neg h2]
      have ha : arrX q' f' = true := by
        simp only [okX, Bool.or_eq_true, Bool.and_eq_true, beq_iff_eq] at hok
        rcases hok with (h | h) | h
        · exact absurd h.1 h1
        · exact absurd h.2 h2
        · exact h
      rw [xs_fr μ (fun e => arX_s ha (by rw [e.1]; exact hs) e.2.1.symm)]
/-! evidence for the keys -/
theorem km_o : ∀ q, q < 12 → (q, 50, 0) ∈ keysX := by decide +kernel
theorem km_a : ∀ q, q < 12 → ∀ f, f < 6 → 3 ≤ f → (q, f, 0) ∈ keysX := by
  have h : ∀ q, q < 12 → ∀ f, f < 6 → 3 ≤ f → keysX.elem (q, f, 0) = true := by decide +kernel
  intro q a1 f a2 a3
  exact List.mem_of_elem_eq_true (h q a1 f a2 a3)
theorem km_q : ∀ q, q < 12 → ∀ f, f < 10 → 6 ≤ f → (q, f, 50) ∈ keysX := by
  have h : ∀ q, q < 12 → ∀ f, f < 10 → 6 ≤ f → keysX.elem (q, f, 50) = true := by decide +kernel
  intro q a1 f a2 a3
  exact List.mem_of_elem_eq_true (h q a1 f a2 a3)
theorem km_r : ∀ q, q < 12 → ∀ f, f < 10 → 6 ≤ f → ∀ i, i < 6 → (q, f, i) ∈ keysX := by
  have h : ∀ q, q < 12 → ∀ f, f < 10 → 6 ≤ f → ∀ i, i < 6 → keysX.elem (q, f, i) = true := by decide +kernel
  intro q a1 f a2 a3 i a4
  exact List.mem_of_elem_eq_true (h q a1 f a2 a3 i a4)
theorem kt_o : ∀ q, q < 14 → 12 ≤ q → (q, 50, 0) ∈ keysX := by decide +kernel
theorem kt_a : ∀ q, q < 14 → 12 ≤ q → ∀ f, f < 12 → 5 ≤ f → (q, f, 0) ∈ keysX := by
  have h : ∀ q, q < 14 → 12 ≤ q → ∀ f, f < 12 → 5 ≤ f → keysX.elem (q, f, 0) = true := by decide +kernel
  intro q a1 a2 f a3 a4
  exact List.mem_of_elem_eq_true (h q a1 a2 f a3 a4)
theorem am_a : ∀ q, q < 12 → ∀ f, f < 10 → 3 ≤ f → arrX q f = true := by decide +kernel
theorem at_a : ∀ q, q < 14 → 12 ≤ q → ∀ f, f < 12 → 5 ≤ f → arrX q f = true := by decide +kernel
theorem sm_s : ∀ q, q < 12 → ∀ f, f < 3 → 1 ≤ f → scX q f = true := by decide +kernel
theorem st_s : ∀ q, q < 14 → 12 ≤ q → ∀ f, f < 5 → scX q f = true := by decide +kernel
section EV
variable {g : G3} {ad : Ky → Nat} {μ : Mem} {q f i : Nat}
theorem cm_o (hq : q < 12) : cX g ad μ (q, 50, 0) = .inr (1, [.ref (ad (13,50,0)), .int (μ q 1 0 0), .int (μ q 2 0 0), .ref (ad (q,3,0)), .ref (ad (q,4,0)), .ref (ad (q,5,0)), .ref (ad (q,6,50)), .ref (ad (q,7,50)), .ref (ad (q,8,50)), .ref (ad (q,9,50))]) := if_pos hq
theorem cm_a (hq : q < 12) (hf : f < 50) : cX g ad μ (q, f, 0) = .inl (g.1, 6, .inl (μ q f 0)) := by
  unfold cX lX
  dsimp only
  rw [if_neg (by omega), if_neg (by omega), if_pos hq]
theorem cm_r (hq : q < 12) (hf : f < 50) (hi : i < 6) : cX g ad μ (q, f, i) = .inl (g.1, 6, .inl (μ q f i)) := by
  unfold cX lX
  dsimp only
  rw [if_neg (by omega), if_neg (by omega), if_pos hq]
theorem cm_q (hq : q < 12) (hf : f < 50) : cX g ad μ (q, f, 50) = .inl (g.2.1, 6, rfX (fun j => ad (q, f, j))) := by
  unfold cX
  dsimp only
  rw [if_neg (by omega), if_pos rfl, if_neg (by omega), if_neg (by omega)]
theorem ct_o (h2 : q < 14) (h1 : 12 ≤ q) : cX g ad μ (q, 50, 0) = .inr (4, [.int (μ q 0 0 0), .int (μ q 1 0 0), .int (μ q 2 0 0), .int (μ q 3 0 0), .int (μ q 4 0 0), .ref (ad (q,5,0)), .ref (ad (q,6,0)), .ref (ad (q,7,0)), .ref (ad (q,8,0)), .ref (ad (q,9,0)), .ref (ad (q,10,0)), .ref (ad (q,11,0))]) := by
  show oX ad μ q = _
  unfold oX
  rw [if_neg (by omega), if_pos h2]
theorem ct_6 (h2 : q < 14) (h1 : 12 ≤ q) (hf : f < 8) : cX g ad μ (q, f, 0) = .inl (g.1, 6, .inl (μ q f 0)) := by
  unfold cX lX
  dsimp only
  rw [if_neg (by omega), if_neg (by omega), if_neg (by omega), if_pos h2, if_pos hf]
theorem ct_9 (h2 : q < 14) (h1 : 12 ≤ q) (hf : 8 ≤ f) (hg : f < 50) : cX g ad μ (q, f, 0) = .inl (g.1, 9, .inl (μ q f 0)) := by
  unfold cX lX
  dsimp only
  rw [if_neg (by omega), if_neg (by omega), if_neg (by omega), if_pos h2, if_neg (by omega)]
theorem cr_o : cX g ad μ (14, 50, 0) = .inr (2, [.ref (ad (14,0,0)), .int (μ 14 1 0 0)]) := rfl
theorem ch_o : cX g ad μ (15, 50, 0) = .inr (0, [.ref (ad (15,0,50)), .int (μ 15 1 0 0), .int (μ 15 2 0 0)]) := rfl
theorem cs_o : cX g ad μ (16, 50, 0) = .inr (3, [.ref (ad (16,0,0)), .ref (ad (16,1,0)), .ref (ad (16,2,0)), .int (μ 16 3 0 0)]) := rfl
theorem cn_o : cX g ad μ (17, 50, 0) = .inr (5, [.ref (ad (17,0,0)), .ref (ad (14,50,0)), .ref (ad (12,50,0)), .ref (ad (13,50,0)), .ref (ad (0,50,0)), .ref (ad (1,50,0)), .ref (ad (15,50,0)), .ref (ad (17,7,50)), .ref (ad (16,50,0)), .int (μ 17 9 0 0), .int (μ 17 10 0 0)]) := rfl
theorem co_o : cX g ad μ (20, 50, 0) = .inr (6, [.ref (ad (20,0,0)), .int (μ 20 1 0 0), .ref (ad (20,2,0)), .ref (ad (20,3,0)), .ref (ad (20,4,0)), .ref (ad (20,5,0)), .int (μ 20 6 0 0), .ref (ad (20,7,0)), .int (μ 20 8 0 0), .ref (ad (20,9,0)), .int (μ 20 10 0 0), .int (μ 20 11 0 0), .int (μ 20 12 0 0), .ref (ad (20,13,0))]) := rfl
theorem pm_1 (hq : q < 12) (v : Int32) : cX g ad (xs μ q 1 0 0 v) (q, 50, 0) = .inr (1, [.ref (ad (13,50,0)), .int (μ q 1 0 0), .int (μ q 2 0 0), .ref (ad (q,3,0)), .ref (ad (q,4,0)), .ref (ad (q,5,0)), .ref (ad (q,6,50)), .ref (ad (q,7,50)), .ref (ad (q,8,50)), .ref (ad (q,9,50))].set 1 (.int v)) := by
  rw [cm_o hq]
  simp [xs]
theorem pm_2 (hq : q < 12) (v : Int32) : cX g ad (xs μ q 2 0 0 v) (q, 50, 0) = .inr (1, [.ref (ad (13,50,0)), .int (μ q 1 0 0), .int (μ q 2 0 0), .ref (ad (q,3,0)), .ref (ad (q,4,0)), .ref (ad (q,5,0)), .ref (ad (q,6,50)), .ref (ad (q,7,50)), .ref (ad (q,8,50)), .ref (ad (q,9,50))].set 2 (.int v)) := by
  rw [cm_o hq]
  simp [xs]
theorem pt_0 (h2 : q < 14) (h1 : 12 ≤ q) (v : Int32) : cX g ad (xs μ q 0 0 0 v) (q, 50, 0) = .inr (4, [.int (μ q 0 0 0), .int (μ q 1 0 0), .int (μ q 2 0 0), .int (μ q 3 0 0), .int (μ q 4 0 0), .ref (ad (q,5,0)), .ref (ad (q,6,0)), .ref (ad (q,7,0)), .ref (ad (q,8,0)), .ref (ad (q,9,0)), .ref (ad (q,10,0)), .ref (ad (q,11,0))].set 0 (.int v)) := by
  rw [ct_o h2 h1]
  simp [xs]
theorem pt_1 (h2 : q < 14) (h1 : 12 ≤ q) (v : Int32) : cX g ad (xs μ q 1 0 0 v) (q, 50, 0) = .inr (4, [.int (μ q 0 0 0), .int (μ q 1 0 0), .int (μ q 2 0 0), .int (μ q 3 0 0), .int (μ q 4 0 0), .ref (ad (q,5,0)), .ref (ad (q,6,0)), .ref (ad (q,7,0)), .ref (ad (q,8,0)), .ref (ad (q,9,0)), .ref (ad (q,10,0)), .ref (ad (q,11,0))].set 1 (.int v)) := by
  rw [ct_o h2 h1]
  simp [xs]
theorem pt_2 (h2 : q < 14) (h1 : 12 ≤ q) (v : Int32) : cX g ad (xs μ q 2 0 0 v) (q, 50, 0) = .inr (4, [.int (μ q 0 0 0), .int (μ q 1 0 0), .int (μ q 2 0 0), .int (μ q 3 0 0), .int (μ q 4 0 0), .ref (ad (q,5,0)), .ref (ad (q,6,0)), .ref (ad (q,7,0)), .ref (ad (q,8,0)), .ref (ad (q,9,0)), .ref (ad (q,10,0)), .ref (ad (q,11,0))].set 2 (.int v)) := by
  rw [ct_o h2 h1]
  simp [xs]
theorem pt_3 (h2 : q < 14) (h1 : 12 ≤ q) (v : Int32) : cX g ad (xs μ q 3 0 0 v) (q, 50, 0) = .inr (4, [.int (μ q 0 0 0), .int (μ q 1 0 0), .int (μ q 2 0 0), .int (μ q 3 0 0), .int (μ q 4 0 0), .ref (ad (q,5,0)), .ref (ad (q,6,0)), .ref (ad (q,7,0)), .ref (ad (q,8,0)), .ref (ad (q,9,0)), .ref (ad (q,10,0)), .ref (ad (q,11,0))].set 3 (.int v)) := by
  rw [ct_o h2 h1]
  simp [xs]
theorem pt_4 (h2 : q < 14) (h1 : 12 ≤ q) (v : Int32) : cX g ad (xs μ q 4 0 0 v) (q, 50, 0) = .inr (4, [.int (μ q 0 0 0), .int (μ q 1 0 0), .int (μ q 2 0 0), .int (μ q 3 0 0), .int (μ q 4 0 0), .ref (ad (q,5,0)), .ref (ad (q,6,0)), .ref (ad (q,7,0)), .ref (ad (q,8,0)), .ref (ad (q,9,0)), .ref (ad (q,10,0)), .ref (ad (q,11,0))].set 4 (.int v)) := by
  rw [ct_o h2 h1]
  simp [xs]
theorem pr_1 (v : Int32) : cX g ad (xs μ 14 1 0 0 v) (14, 50, 0) = .inr (2, [.ref (ad (14,0,0)), .int (μ 14 1 0 0)].set 1 (.int v)) := by
  rw [cr_o]
  simp [xs]
theorem ph_1 (v : Int32) : cX g ad (xs μ 15 1 0 0 v) (15, 50, 0) = .inr (0, [.ref (ad (15,0,50)), .int (μ 15 1 0 0), .int (μ 15 2 0 0)].set 1 (.int v)) := by
  rw [ch_o]
  simp [xs]
theorem ph_2 (v : Int32) : cX g ad (xs μ 15 2 0 0 v) (15, 50, 0) = .inr (0, [.ref (ad (15,0,50)), .int (μ 15 1 0 0), .int (μ 15 2 0 0)].set 2 (.int v)) := by
  rw [ch_o]
  simp [xs]
theorem ps_3 (v : Int32) : cX g ad (xs μ 16 3 0 0 v) (16, 50, 0) = .inr (3, [.ref (ad (16,0,0)), .ref (ad (16,1,0)), .ref (ad (16,2,0)), .int (μ 16 3 0 0)].set 3 (.int v)) := by
  rw [cs_o]
  simp [xs]
theorem pn_9 (v : Int32) : cX g ad (xs μ 17 9 0 0 v) (17, 50, 0) = .inr (5, [.ref (ad (17,0,0)), .ref (ad (14,50,0)), .ref (ad (12,50,0)), .ref (ad (13,50,0)), .ref (ad (0,50,0)), .ref (ad (1,50,0)), .ref (ad (15,50,0)), .ref (ad (17,7,50)), .ref (ad (16,50,0)), .int (μ 17 9 0 0), .int (μ 17 10 0 0)].set 9 (.int v)) := by
  rw [cn_o]
  simp [xs]
theorem pn_10 (v : Int32) : cX g ad (xs μ 17 10 0 0 v) (17, 50, 0) = .inr (5, [.ref (ad (17,0,0)), .ref (ad (14,50,0)), .ref (ad (12,50,0)), .ref (ad (13,50,0)), .ref (ad (0,50,0)), .ref (ad (1,50,0)), .ref (ad (15,50,0)), .ref (ad (17,7,50)), .ref (ad (16,50,0)), .int (μ 17 9 0 0), .int (μ 17 10 0 0)].set 10 (.int v)) := by
  rw [cn_o]
  simp [xs]
theorem po_1 (v : Int32) : cX g ad (xs μ 20 1 0 0 v) (20, 50, 0) = .inr (6, [.ref (ad (20,0,0)), .int (μ 20 1 0 0), .ref (ad (20,2,0)), .ref (ad (20,3,0)), .ref (ad (20,4,0)), .ref (ad (20,5,0)), .int (μ 20 6 0 0), .ref (ad (20,7,0)), .int (μ 20 8 0 0), .ref (ad (20,9,0)), .int (μ 20 10 0 0), .int (μ 20 11 0 0), .int (μ 20 12 0 0), .ref (ad (20,13,0))].set 1 (.int v)) := by
  rw [co_o]
  simp [xs]
theorem po_6 (v : Int32) : cX g ad (xs μ 20 6 0 0 v) (20, 50, 0) = .inr (6, [.ref (ad (20,0,0)), .int (μ 20 1 0 0), .ref (ad (20,2,0)), .ref (ad (20,3,0)), .ref (ad (20,4,0)), .ref (ad (20,5,0)), .int (μ 20 6 0 0), .ref (ad (20,7,0)), .int (μ 20 8 0 0), .ref (ad (20,9,0)), .int (μ 20 10 0 0), .int (μ 20 11 0 0), .int (μ 20 12 0 0), .ref (ad (20,13,0))].set 6 (.int v)) := by
  rw [co_o]
  simp [xs]
theorem po_8 (v : Int32) : cX g ad (xs μ 20 8 0 0 v) (20, 50, 0) = .inr (6, [.ref (ad (20,0,0)), .int (μ 20 1 0 0), .ref (ad (20,2,0)), .ref (ad (20,3,0)), .ref (ad (20,4,0)), .ref (ad (20,5,0)), .int (μ 20 6 0 0), .ref (ad (20,7,0)), .int (μ 20 8 0 0), .ref (ad (20,9,0)), .int (μ 20 10 0 0), .int (μ 20 11 0 0), .int (μ 20 12 0 0), .ref (ad (20,13,0))].set 8 (.int v)) := by
  rw [co_o]
  simp [xs]
theorem po_10 (v : Int32) : cX g ad (xs μ 20 10 0 0 v) (20, 50, 0) = .inr (6, [.ref (ad (20,0,0)), .int (μ 20 1 0 0), .ref (ad (20,2,0)), .ref (ad (20,3,0)), .ref (ad (20,4,0)), .ref (ad (20,5,0)), .int (μ 20 6 0 0), .ref (ad (20,7,0)), .int (μ 20 8 0 0), .ref (ad (20,9,0)), .int (μ 20 10 0 0), .int (μ 20 11 0 0), .int (μ 20 12 0 0), .ref (ad (20,13,0))].set 10 (.int v)) := by
  rw [co_o]
  simp [xs]
theorem po_11 (v : Int32) : cX g ad (xs μ 20 11 0 0 v) (20, 50, 0) = .inr (6, [.ref (ad (20,0,0)), .int (μ 20 1 0 0), .ref (ad (20,2,0)), .ref (ad (20,3,0)), .ref (ad (20,4,0)), .ref (ad (20,5,0)), .int (μ 20 6 0 0), .ref (ad (20,7,0)), .int (μ 20 8 0 0), .ref (ad (20,9,0)), .int (μ 20 10 0 0), .int (μ 20 11 0 0), .int (μ 20 12 0 0), .ref (ad (20,13,0))].set 11 (.int v)) := by
  rw [co_o]
  simp [xs]
theorem po_12 (v : Int32) : cX g ad (xs μ 20 12 0 0 v) (20, 50, 0) = .inr (6, [.ref (ad (20,0,0)), .int (μ 20 1 0 0), .ref (ad (20,2,0)), .ref (ad (20,3,0)), .ref (ad (20,4,0)), .ref (ad (20,5,0)), .int (μ 20 6 0 0), .ref (ad (20,7,0)), .int (μ 20 8 0 0), .ref (ad (20,9,0)), .int (μ 20 10 0 0), .int (μ 20 11 0 0), .int (μ 20 12 0 0), .ref (ad (20,13,0))].set 12 (.int v)) := by
  rw [co_o]
  simp [xs]
end EV
section XW
variable {p : Program} {l : Launch} {e : Env} {R : Room} {s : State} {m : MethodId} {args : Array Value} {below : List Frame} {meth : Method} {c : Code} {H : Heap} {locs : List Loc} {cells slots : Nat} {Q : State → Prop}
variable {cc : ByteArray} {pc : Nat} {ls : Array Slot} {rest : List Value} {D : va_G} {A : Nat → Prop} {g : G3} {H0 : Heap} {ks : List Ky} {ad : Ky → Nat} {μ : Mem}
theorem xw_ald (hexec : p.tables.exec = Jvm.exec) (hb : c.code = cc) (hW : WX D g ks ad A s H0 μ H locs) {q f i n : Nat} (hk : (q, f, i) ∈ ks) (hc : cX g ad μ (q, f, i) = .inl (g.1, n, .inl (μ q f i))) {j : Int32} (hin : vp_in j n) (hdg : decode cc pc = .ok (.iaload, 1))
    (kk : W p l e R s m args below meth c H locs cells slots Q (F0 m (pc + 1) ls (.int (μ q f i j.toNatClampNeg) :: rest))) : W p l e R s m args below meth c H locs cells slots Q (F0 m pc ls (.int j :: .ref (ad (q, f, i)) :: rest)) :=
  wo_ald hexec hb hW hk 0 hc rfl hin hdg kk
theorem xw_ast (hexec : p.tables.exec = Jvm.exec) (hb : c.code = cc) (hW : WX D g ks ad A s H0 μ H locs) {q f i n : Nat} (hk : (q, f, i) ∈ ks) (hc : ∀ μ, cX g ad μ (q, f, i) = .inl (g.1, n, .inl (μ q f i))) (ha : arrX q f = true) {j x : Int32} (hin : vp_in j n) (hdg : decode cc pc = .ok (.iastore, 1))
    (kk : ∀ (H1 : Heap) (locs1 : List Loc), WX D g ks ad A s H0 (xs μ q f i j.toNatClampNeg x) H1 locs1 → W p l e R s m args below meth c H1 locs1 cells slots Q (F0 m (pc + 1) ls rest)) : W p l e R s m args below meth c H locs cells slots Q (F0 m pc ls (.int x :: .int j :: .ref (ad (q, f, i)) :: rest)) :=
  wo_ast hexec hb hW hk 0 (hc μ) rfl hin (by rw [hc, xs_row]) (fun k' _ hne => cX_a ha (fun q' f' i' h => xs_fr μ h) hne) hdg kk
theorem xw_cpy (hexec : p.tables.exec = Jvm.exec) (hb : c.code = cc) (hml : c.maxLocals = ls.size) {own : String} {index : Nat} (hown : s.vm.findClass own = some m.cls) (hlink : (Cond.methodLink own index arraycopyName).before args s = true) (hnat : (Cond.native arraycopyName).before args s = true) (hstat : (Cond.static arraycopyName).before args s = true) (hini : (Cond.initialized "java/lang/System").before args s = true)
    (hW : WX D g ks ad A s H0 μ H locs) {q0 f0 i0 q f i n0 n1 : Nat} (hk0 : (q0, f0, i0) ∈ ks) (hk : (q, f, i) ∈ ks) (hc0 : cX g ad μ (q0, f0, i0) = .inl (g.1, n0, .inl (μ q0 f0 i0))) (hc : ∀ μ, cX g ad μ (q, f, i) = .inl (g.1, n1, .inl (μ q f i))) (ha : arrX q f = true) {n : Int32} {n' : Nat} (h3 : ¬ n < 0) (hn' : n.toNatClampNeg = n') (h4 : n' ≤ n0) (h5 : n' ≤ n1)
    (hframes : 1 ≤ R.frames) (hlocals : (rest.map fun v => v.category).sum + (nativeFrameWords "java/lang/System" "arraycopy" 5 + 11) ≤ R.locals) (hdg : decode cc pc = .ok (.invokestatic index, 3))
    (kk : ∀ (H1 : Heap) (locs1 : List Loc), WX D g ks ad A s H0 (xa μ q f i (va_cpy (μ q0 f0 i0) (μ q f i) 0 0 n')) H1 locs1 → W p l e R s m args below meth c H1 locs1 cells slots Q (F0 m (pc + 3) ls rest)) : W p l e R s m args below meth c H locs cells slots Q (F0 m pc ls (.int n :: .int 0 :: .ref (ad (q, f, i)) :: .int 0 :: .ref (ad (q0, f0, i0)) :: rest)) :=
  wo_cpy hexec hb hml hown hlink hnat hstat hini hW hk0 hk 0 hc0 (hc μ) rfl h3 hn' h4 h5 (by rw [hc, xa_row]) (fun k' _ hne => cX_a ha (fun q' f' i' h => xa_fr μ h) hne) hframes hlocals hdg kk
theorem xw_put (hexec : p.tables.exec = Jvm.exec) (hb : c.code = cc) {own ref C : String} {T : u_T} {N ci index : Nat} {Ts : List Cond} (hts : ∀ w ∈ Ts, w.before args s = true) (hin : ∀ w ∈ u_ws C T N, w ∈ Ts) (ty0 : Nat → FieldType) (hty : ∀ k, k < N → parseFieldDescriptor (T k).2.2.1 = some (ty0 k)) (hnm : ∀ a, a < N → ∀ b, b < N → a ≠ b → (T a).2.1 ≠ (T b).2.1) (hown : s.vm.findClass own = some m.cls) (hW : WX D g ks ad A s H0 μ H locs) {q : Nat} (hk : (q, 50, 0) ∈ ks) {fs : List Value} (hce : cX g ad μ (q, 50, 0) = .inr (ci, fs)) (hc : vwCl[ci]? = some (C, T, N)) (j : Nat) (hj : j < N) (hlink : (Cond.fieldLink own index ref (T j).2.1 (T j).2.2.1).before args s = true) (hsame : ∀ x, s.fieldFound? (T j).1 (T j).2.1 (T j).2.2.1 = some x → s.fieldFound? ref (T j).2.1 (T j).2.2.1 = some x) (hfin : (T j).2.2.2 = false) {v : Int32} (hd : parseFieldDescriptor (T j).2.2.1 = some .int) (hl : j < fs.length)
    (hok : ∀ k ∈ ks, okX k = true) (hs : scX q j = true) (he : cX g ad (xs μ q j 0 0 v) (q, 50, 0) = .inr (ci, fs.set j (.int v))) (hdg : decode cc pc = .ok (.putfield index, 3))
    (kk : ∀ (H1 : Heap) (locs1 : List Loc), WX D g ks ad A s H0 (xs μ q j 0 0 v) H1 locs1 → W p l e R s m args below meth c H1 locs1 cells slots Q (F0 m (pc + 3) ls rest)) : W p l e R s m args below meth c H locs cells slots Q (F0 m pc ls (.int v :: .ref (ad (q, 50, 0)) :: rest)) :=
  wo_put hexec hb hts hin ty0 hty hnm hown hW hk hce hc j hj hlink hsame hfin hd hl he (fun k' hk' hne => cX_s hs (hok k' hk') hne) hdg kk
end XW
