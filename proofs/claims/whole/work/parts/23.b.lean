/-! the sale, as both sides do it -/
abbrev S3 : Type := (Nat → Int32) × (Nat → Int32) × (Nat → Int32)
def buy (Z : Nat → Nat → Int32) (N P : Nat) (co : Nat → Int32) (c a : Int32) : Int32 × Int32 := fo (fun i x => if ¬ nI i = c ∧ a ≤ co i ∧ x.2 < dear Z N i then (nI i, dear Z N i) else x) P (-4, a)
def misT (x : Int32) : Int32 := if 3 < x + 1 then 3 else x + 1
def pay (σ : S3) (b : Int32) (t : Nat) (a : Int32) : S3 := (upd σ.1 b.toNatClampNeg (σ.1 b.toNatClampNeg - a), upd σ.2.1 t b, σ.2.2)
def sellS (C : Nat → Nat → Nat) (Z : Nat → Nat → Int32) (P N t : Nat) (σ : S3) : Int32 × S3 :=
  if (clm C P t).1 = -4 then (0, σ)
  else if Z (clm C P t).1.toNatClampNeg t ≤ σ.1 (clm C P t).1.toNatClampNeg then (1, pay σ (clm C P t).1 t (Z (clm C P t).1.toNatClampNeg t))
  else if misT (σ.2.2 t) = 3 ∧ ¬ (buy Z N P σ.1 (clm C P t).1 (Z (clm C P t).1.toNatClampNeg t)).1 = -4 then (1, pay (σ.1, σ.2.1, upd σ.2.2 t (misT (σ.2.2 t))) (buy Z N P σ.1 (clm C P t).1 (Z (clm C P t).1.toNatClampNeg t)).1 t (Z (clm C P t).1.toNatClampNeg t))
  else (0, (σ.1, σ.2.1, upd σ.2.2 t (misT (σ.2.2 t))))
theorem buy_or (Z : Nat → Nat → Int32) (N P : Nat) (co : Nat → Int32) (c a : Int32) : (buy Z N P co c a).1 = -4 ∨ ∃ i, i < P ∧ (buy Z N P co c a).1 = nI i := by
  have h := fo_inv (f := fun i (x : Int32 × Int32) => if ¬ nI i = c ∧ a ≤ co i ∧ x.2 < dear Z N i then (nI i, dear Z N i) else x) (a := (-4, a)) (fun k x => x.1 = -4 ∨ ∃ i, i < k ∧ x.1 = nI i) (Or.inl rfl) P (fun k x hk hx => by
    by_cases d : ¬ nI k = c ∧ a ≤ co k ∧ x.2 < dear Z N k
    · rw [if_pos d]
      exact Or.inr ⟨k, by omega, rfl⟩
    · rw [if_neg d]
      rcases hx with h | ⟨i, h1, h2⟩
      · exact Or.inl h
      · exact Or.inr ⟨i, by omega, h2⟩)
  exact h
section X1
variable {μ : Mem} {q : Nat} {y si : Int32} {co ow mi : Nat → Int32} {br sn cn pr : Nat → Nat → Int32} {T : TA} {C : Nat → Nat → Nat} {Z : Nat → Nat → Int32}
/-- the Market's tables of counted and price -/
def TC (T : TA) (C : Nat → Nat → Nat) (Z : Nat → Nat → Int32) (cn pr : Nat → Nat → Int32) : Prop := ∀ i, i < T 0 0 → ∀ t, t < T 1 0 → cn i t = nI (C i t) ∧ pr i t = Z i t ∧ C i t < 1000
theorem x_claim (hq : q < 12) (hB : TB T) (hT : TX (μ 13) T) (hC : TC T C Z cn pr) {t : Nat} (ht : t < T 1 0) : X1_claimantOf q (nI t) (MK μ q y si co ow mi br sn cn pr) = some ((clm C (T 0 0) t).1, MK μ q y si co ow mi br sn cn pr) := by
  have b0 := hB.1
  have b1 := hB.2.1
  have t0 := hT.1
  have hl := clm_lt (C := C) (P := T 0 0) (t := t) (n := 1000) (fun i hi => (hC i hi t ht).2.2) (by omega)
  unfold X1_claimantOf
  refine lo3_eq (T 0 0) (fun k => (fo (fun i (a : Int32 × Nat) => if a.2 < C i t then (nI i, C i t) else a) k (-4, 8)).1) (fun k => nI (fo (fun i (a : Int32 × Nat) => if a.2 < C i t then (nI i, C i t) else a) k (-4, 8)).2) (fun k => nI k) (fun _ => MK μ q y si co ow mi br sn cn pr) ?_ ?_ 1000 (by omega)
  · intro k hk K
    have h1 := hl k (by omega)
    obtain ⟨h2, -, h3⟩ := hC k hk t ht
    unfold X1_claimantOf_b9 X1_claimantOf_b47
    dsimp only [fo]
    generalize fo (fun i (a : Int32 × Nat) => if a.2 < C i t then (nI i, C i t) else a) k (-4, 8) = a at h1 ⊢
    simp (discharger := omega) only [MK_13 hq, MK_cn, t0, leN, giN, clN, h2, nI_1]
    rw [if_neg (by omega)]
    by_cases c : a.2 < C k t
    · rw [if_neg (by omega), if_pos c]
    · rw [if_pos (by omega), if_neg c]
  · intro K
    unfold X1_claimantOf_b9
    simp (discharger := omega) only [MK_13 hq, t0, leN]
    rw [if_pos (Nat.le_refl _)]
    rfl
theorem x_dear (hq : q < 12) (hB : TB T) (hT : TX (μ 13) T) (hC : TC T C Z cn pr) {i : Nat} (hi : i < T 0 0) : X1_dearestOf q (nI i) (MK μ q y si co ow mi br sn cn pr) = some (dear Z (T 1 0) i, MK μ q y si co ow mi br sn cn pr) := by
  have b0 := hB.1
  have b1 := hB.2.1
  have t1 := hT.2.1
  unfold X1_dearestOf
  refine lo2_eq (T 1 0) (fun k => fo (fun t a => if a < Z i t then Z i t else a) k (-4)) (fun k => nI k) (fun _ => MK μ q y si co ow mi br sn cn pr) ?_ ?_ 1000 (by omega)
  · intro k hk K
    obtain ⟨-, h2, -⟩ := hC i hi k hk
    unfold X1_dearestOf_b5 X1_dearestOf_b37
    dsimp only [fo]
    generalize fo (fun t a => if a < Z i t then Z i t else a) k (-4) = a
    simp (discharger := omega) only [MK_13 hq, MK_pr, t1, leN, giN, clN, h2, nI_1]
    rw [if_neg (by omega)]
    by_cases c : a < Z i k
    · rw [if_neg (Int32.not_le.mpr c), if_pos c]
    · rw [if_pos (Int32.not_lt.mp c), if_neg c]
  · intro K
    unfold X1_dearestOf_b5
    simp (discharger := omega) only [MK_13 hq, t1, leN]
    rw [if_pos (Nat.le_refl _)]
    rfl
theorem x_buy (hq : q < 12) (hB : TB T) (hT : TX (μ 13) T) (hC : TC T C Z cn pr) {c a : Int32} : X1_buyerInsteadOf q c a (MK μ q y si co ow mi br sn cn pr) = some ((buy Z (T 1 0) (T 0 0) co c a).1, MK μ q y si co ow mi br sn cn pr) := by
  have b0 := hB.1
  have t0 := hT.1
  unfold X1_buyerInsteadOf
  refine lo3_eq (T 0 0) (fun k => (fo (fun i (x : Int32 × Int32) => if ¬ nI i = c ∧ a ≤ co i ∧ x.2 < dear Z (T 1 0) i then (nI i, dear Z (T 1 0) i) else x) k (-4, a)).1) (fun k => (fo (fun i (x : Int32 × Int32) => if ¬ nI i = c ∧ a ≤ co i ∧ x.2 < dear Z (T 1 0) i then (nI i, dear Z (T 1 0) i) else x) k (-4, a)).2) (fun k => nI k) (fun _ => MK μ q y si co ow mi br sn cn pr) ?_ ?_ 1000 (by omega)
  · intro k hk K
    unfold X1_buyerInsteadOf_b9 X1_buyerInsteadOf_b60
    dsimp only [fo]
    generalize fo (fun i (x : Int32 × Int32) => if ¬ nI i = c ∧ a ≤ co i ∧ x.2 < dear Z (T 1 0) i then (nI i, dear Z (T 1 0) i) else x) k (-4, a) = x
    simp (discharger := omega) only [MK_13 hq, MK_co, t0, leN, giN, clN, x_dear hq hB hT hC hk, bdO, nI_1]
    rw [if_neg (by omega)]
    by_cases d1 : nI k = c
    · rw [if_pos d1, if_neg (fun e => e.1 d1)]
    · rw [if_neg d1]
      by_cases d2 : co k < a
      · rw [if_pos d2, if_neg (fun e => Int32.not_lt.mpr e.2.1 d2)]
      · rw [if_neg d2]
        by_cases d3 : x.2 < dear Z (T 1 0) k
        · rw [if_neg (Int32.not_le.mpr d3), if_pos ⟨d1, Int32.not_lt.mp d2, d3⟩]
        · rw [if_pos (Int32.not_lt.mp d3), if_neg (fun e => d3 e.2.2)]
  · intro K
    unfold X1_buyerInsteadOf_b9
    simp (discharger := omega) only [MK_13 hq, t0, leN]
    rw [if_pos (Nat.le_refl _)]
    rfl
theorem x_free (t : Nat) (ht : t < 6) : X1_isFree q (nI t) (MK μ q y si co ow mi br sn cn pr) = some (if ow t = -4 then 1 else 0, MK μ q y si co ow mi br sn cn pr) := by
  unfold X1_isFree
  simp (discharger := omega) only [MK_ow, giN, clN]
  by_cases c : ow t = -4
  · rw [if_pos c, if_pos c]
  · rw [if_neg c, if_neg c]
theorem x_sell (hq : q < 12) (hB : TB T) (hT : TX (μ 13) T) (hC : TC T C Z cn pr) {t : Nat} (ht : t < T 1 0) : X1_sell q (nI t) (MK μ q y si co ow mi br sn cn pr) = some ((sellS C Z (T 0 0) (T 1 0) t (co, ow, mi)).1, MK μ q y si (sellS C Z (T 0 0) (T 1 0) t (co, ow, mi)).2.1 (sellS C Z (T 0 0) (T 1 0) t (co, ow, mi)).2.2.1 (sellS C Z (T 0 0) (T 1 0) t (co, ow, mi)).2.2.2 br sn cn pr) := by
  have b0 := hB.1
  have b1 := hB.2.1
  unfold X1_sell X1_sell_b75 X1_sell_b77
  rw [x_claim hq hB hT hC ht, bdO]
  rcases clm_or C (T 0 0) t with ⟨h, -⟩ | ⟨i, hi, h, -⟩
  · unfold sellS
    rw [if_pos h, if_pos h]
  · unfold sellS
    rw [h]
    have hz := (hC i hi t ht).2.1
    have hne : ¬ nI i = -4 := neM (by omega)
    simp (discharger := omega) only [if_neg hne, giN, clN, MK_pr, MK_co, hz]
    by_cases c1 : Z i t ≤ co i
    · rw [if_pos c1, if_pos c1]
      simp (discharger := omega) only [MKs_co, MKs_ow, pay, clN]
    · rw [if_neg c1, if_neg c1]
      simp (discharger := omega) only [MKs_mi, MK_mi]
      have hu : upd mi t (if 3 < mi t + 1 then 3 else mi t + 1) t = misT (mi t) := by simp [upd, misT]
      have hm : (if 3 < mi t + 1 then 3 else mi t + 1) = misT (mi t) := rfl
      rw [hu, hm]
      by_cases c2 : misT (mi t) = 3
      · rw [if_pos c2, x_buy hq hB hT hC, bdO]
        rcases buy_or Z (T 1 0) (T 0 0) co (nI i) (Z i t) with h9 | ⟨j, hj, h9⟩
        · rw [if_pos h9, if_neg (fun e => e.2 h9)]
        · have hne2 : ¬ nI j = -4 := neM (by omega)
          rw [h9, if_neg hne2, if_pos ⟨c2, hne2⟩]
          simp (discharger := omega) only [giN, clN, MK_co, MKs_co, MKs_ow, pay]
      · rw [if_neg c2, if_pos trivial, if_neg (fun e => c2 e.1)]
end X1
