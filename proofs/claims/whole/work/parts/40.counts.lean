/-! COUNTS -/
/-- draws of a person of this kind that don't count enough -/
def fewK (k n : Nat) : Nat := cb (fun d => decide (cnt k (d + 1) < 9)) n
/-- Euclid, with fuel -/
def eu : Nat → Nat → Nat → Option Nat
  | 0, _, _ => none
  | f + 1, a, b => if b = 0 then some a else eu f b (a % b)
theorem few_ok : ∀ k, k < 4 → ∀ n, n < 5 → fewK k 12 ≤ 12 ∧ fewK k 12 ^ n ≤ 12 ^ n ∧ 12 ^ n < 100000 ∧ ∃ r, r < 100000 ∧ 1 ≤ r ∧ eu 60 (12 ^ n) (12 ^ n - fewK k 12 ^ n) = some r ∧ eu 60 (12 ^ n - fewK k 12 ^ n) (12 ^ n) = some r := by
  have h : ∀ k, k < 4 → ∀ n, n < 5 → fewK k 12 ≤ 12 ∧ fewK k 12 ^ n ≤ 12 ^ n ∧ 12 ^ n < 100000 ∧ (match eu 60 (12 ^ n) (12 ^ n - fewK k 12 ^ n) with | some r => decide (r < 100000 ∧ 1 ≤ r ∧ eu 60 (12 ^ n - fewK k 12 ^ n) (12 ^ n) = some r) | none => false) = true := by decide +kernel
  intro k hk n hn
  obtain ⟨h1, h2, h3, h4⟩ := h k hk n hn
  refine ⟨h1, h2, h3, ?_⟩
  cases e : eu 60 (12 ^ n) (12 ^ n - fewK k 12 ^ n) with
  | none => rw [e] at h4; exact absurd (show false = true from h4) (by decide)
  | some r =>
    rw [e] at h4
    have h5 := of_decide_eq_true h4
    exact ⟨r, h5.1, h5.2.1, rfl, h5.2.2⟩
theorem lt100 : (100 : Int32) = nI 100 := rfl
theorem lt13 : (13 : Int32) = nI 13 := rfl
theorem x_eu {x : Mem} : ∀ f a b j F r, a < 100000 → b < 100000 → eu f a b = some r → j + f ≤ 100 → f ≤ F → lo3 X5_greatestDivisor_b7 F (nI a) (nI b) (nI j) x = some (nI r, x) := by
  intro f
  induction f with
  | zero => intro a b j F r _ _ h; exact absurd h (by intro e; cases e)
  | succ f ih =>
    intro a b j F r ha hb h hj hF
    obtain ⟨G, rfl⟩ : ∃ G, F = G + 1 := ⟨F - 1, by omega⟩
    show X5_greatestDivisor_b7 (lo3 X5_greatestDivisor_b7 G) (nI a) (nI b) (nI j) x = _
    have h' : (if b = 0 then some a else eu f b (a % b)) = some r := h
    by_cases c : b = 0
    · rw [if_pos c] at h'
      cases h'
      subst c
      generalize lo3 X5_greatestDivisor_b7 G = K
      unfold X5_greatestDivisor_b7
      rw [if_neg (show ¬ 100 ≤ nI j by rw [lt100, leN (by omega) (by omega)]; omega), if_pos (show nI 0 = 0 from rfl)]
    · rw [if_neg c] at h'
      have hm : a % b < b := Nat.mod_lt _ (by omega)
      have := ih b (a % b) (j + 1) G r hb (by omega) h' (by omega) (by omega)
      generalize lo3 X5_greatestDivisor_b7 G = K at this ⊢
      unfold X5_greatestDivisor_b7
      rw [if_neg (show ¬ 100 ≤ nI j by rw [lt100, leN (by omega) (by omega)]; omega), if_neg (show ¬ nI b = 0 by rw [lt0, eqN (by omega) (by omega)]; exact c), gz_ok (show ¬ nI b = 0 by rw [lt0, eqN (by omega) (by omega)]; exact c), pk_rem (by omega) (by omega) (by omega), nI_1, this]
theorem m_eu {m : Mem} {v3 v6 v7 : Int32} : ∀ f a b F r, a < 100000 → b < 100000 → eu f a b = some r → r < 100000 → 1 ≤ r → f ≤ F → lo2 (X6_counts_b126 v3 v6 v7) F (nI a) (nI b) m = if v3 = 0 then some (v7 / nI r, m) else some (v6 / nI r, m) := by
  intro f
  induction f with
  | zero => intro a b F r _ _ h; exact absurd h (by intro e; cases e)
  | succ f ih =>
    intro a b F r ha hb h hr h1 hF
    obtain ⟨G, rfl⟩ : ∃ G, F = G + 1 := ⟨F - 1, by omega⟩
    show X6_counts_b126 v3 v6 v7 (lo2 (X6_counts_b126 v3 v6 v7) G) (nI a) (nI b) m = _
    have h' : (if b = 0 then some a else eu f b (a % b)) = some r := h
    by_cases c : b = 0
    · rw [if_pos c] at h'
      cases h'
      subst c
      have hz : ¬ nI a = 0 := by rw [lt0, eqN (by omega) (by omega)]; omega
      generalize lo2 (X6_counts_b126 v3 v6 v7) G = K
      unfold X6_counts_b126
      rw [if_pos (show nI 0 ≤ 0 by decide), gz_ok hz, gz_ok hz]
    · rw [if_neg c] at h'
      have hm : a % b < b := Nat.mod_lt _ (by omega)
      have := ih b (a % b) G r hb (by omega) h' hr h1 (by omega)
      generalize lo2 (X6_counts_b126 v3 v6 v7) G = K at this ⊢
      unfold X6_counts_b126
      rw [if_neg (show ¬ nI b ≤ 0 by rw [lt0, leN (by omega) (by omega)]; omega), gz_ok (show ¬ nI b = 0 by rw [lt0, eqN (by omega) (by omega)]; exact c), pk_rem (by omega) (by omega) (by omega), this]
theorem x_few {T : TA} {x : Mem} (hB : TB T) (hT : TX (x 13) T) {i : Nat} (hi : i < T 0 0) : X5_uncountedDraws (nI i) x = some (nI (fewK (T 5 i) 12), x) := by
  unfold X5_uncountedDraws
  refine lo2_eq 12 (fun k => nI (fewK (T 5 i) k)) (fun k => nI (k + 1)) (fun _ => x) ?_ ?_ 1000 (by omega)
  · intro k hk K
    have hc := cb_le (fun d => decide (cnt (T 5 i) (d + 1) < 9)) k
    have hl : cnt (T 5 i) (k + 1) ≤ 3 * (k + 1) := cnt_le
    unfold X5_uncountedDraws_b4 X5_uncountedDraws_b27 fewK
    rw [cb_s, if_neg (show ¬ 12 < nI (k + 1) by rw [lt12, ltN (by omega) (by omega)]; omega), x_counted hT hB hi (by omega), bdO, nI_1, nI_1]
    simp only [decide_eq_true_eq]
    by_cases d : cnt (T 5 i) (k + 1) < 9
    · rw [if_neg (show ¬ 9 ≤ nI (cnt (T 5 i) (k + 1)) by rw [lt9, leN (by omega) (by omega)]; omega), if_pos d]
    · rw [if_pos (show 9 ≤ nI (cnt (T 5 i) (k + 1)) by rw [lt9, leN (by omega) (by omega)]; omega), if_neg d]
  · intro K
    unfold X5_uncountedDraws_b4
    rw [if_pos (show 12 < nI (12 + 1) by rw [lt12, ltN (by omega) (by omega)]; omega)]
theorem op_counts (a b v : Int32) : OP (X5_counts a b v) (X6_counts a b v) := by
  intro x m ⟨T, hA⟩
  have hA' : RA T x m := hA
  obtain ⟨hB, p1, n1, hTM, hTX, hf⟩ := hA'.1
  have b0 := hB.1
  unfold X5_counts X6_counts
  rcases b_person p1 hB hTX hTM a with ⟨i, hi, rfl, e1, e2⟩ | ⟨e1, e2⟩
  · rw [e1, e2, bdO, bdO, if10, if10]
    by_cases c1 : b < 0
    · rw [if_pos c1, m_inL c1, bdO, if00]
      exact ⟨_, _, _, rfl, rfl, T, hA⟩
    rw [if_neg c1]
    by_cases c2 : 4 < b
    · rw [if_pos c2, m_inH (nle.mpr c2), bdO, if00]
      exact ⟨_, _, _, rfl, rfl, T, hA⟩
    rw [if_neg c2]
    have c2' : b ≤ 4 := nlt.mp c2
    rw [m_in1 (ge0 c1) c2', bdO, if10]
    obtain ⟨n, -, hn, rfl⟩ := rng0 (a := 0) (b := 4) (by omega) (by omega) c1 c2'
    by_cases c3 : v < 0
    · rw [if_pos c3, m_inL c3, bdO, if00]
      exact ⟨_, _, _, rfl, rfl, T, hA⟩
    rw [if_neg c3]
    by_cases c4 : v ≤ 1
    · rw [if_pos c4, m_in1 (ge0 c3) c4, bdO, if10]
      have b5 := (hB.2.2.2.2.2.1 i hi).1
      have t5 : m 20 2 0 (5 + i) = nI (T 5 i) := (hTM.2.2.2.2.2.1 i hi).1
      obtain ⟨g1, g2, g3, r, g4, g5, g6, g7⟩ := few_ok (T 5 i) (by omega) n (by omega)
      generalize hF : fewK (T 5 i) 12 = F at g1 g2 g6 g7
      have hle : ∀ k, k ≤ n → F ^ k ≤ 12 ^ k := fun k _ => Nat.pow_le_pow_left g1 k
      have hE : ∀ w : Int32, (if 1 < nI r then nI r else 1) = nI r ∧ ¬ nI r = 0 := fun _ => ⟨by
        by_cases d : 1 < nI r
        · rw [if_pos d]
        · rw [if_neg d]
          rw [lt1, ltN (by omega) (by omega)] at d
          rw [show r = 1 by omega]
          rfl, by rw [lt0, eqN (by omega) (by omega)]; omega⟩
      have hX : lo3 (X5_counts_b40 (nI i) (nI n) v) 1000 1 1 0 x = if v = 0 then some ((nI (12 ^ n - F ^ n)) / nI r, x) else some (nI (12 ^ n) / nI r, x) := by
        refine lo3_eq n (fun k => nI (12 ^ k)) (fun k => nI (F ^ k)) (fun k => nI k) (fun _ => x) ?_ ?_ 1000 (by omega)
        · intro k hk K
          unfold X5_counts_b40
          rw [if_neg (show ¬ nI n ≤ nI k by rw [leN (by omega) (by omega)]; omega), x_few hB hTX hi, bdO, hF, lt12, pk_mul, pk_mul, nI_1, Nat.pow_succ, Nat.pow_succ]
        · intro K
          unfold X5_counts_b40 X5_greatestDivisor
          rw [if_pos (show nI n ≤ nI n by rw [leN (by omega) (by omega)]; omega), pk_sub (hle n (Nat.le_refl n)), show (0 : Int32) = nI 0 from rfl, x_eu 60 _ _ 0 1000 r g3 (by omega) g6 (by omega) (by omega), bdO, (hE 0).1, gz_ok (hE 0).2, gz_ok (hE 0).2]
      have hM : lo2 (X6_counts_b34 (nI i) (nI n) v) 1000 0 1 m = if v = 0 then some ((nI (12 ^ n - F ^ n)) / nI r, m) else some (nI (12 ^ n) / nI r, m) := by
        refine lo2_eq 12 (fun k => nI (fewK (T 5 i) k)) (fun k => nI (k + 1)) (fun _ => m) ?_ ?_ 1000 (by omega)
        · intro k hk K
          have hc := cb_le (fun d => decide (cnt (T 5 i) (d + 1) < 9)) k
          have hl : cnt (T 5 i) (k + 1) ≤ 3 * (k + 1) := cnt_le
          unfold X6_counts_b34 X6_counts_b67 fewK
          rw [cb_s, if_neg (show ¬ 13 ≤ nI (k + 1) by rw [lt13, leN (by omega) (by omega)]; omega), ad5, giN (by omega) (by omega), clN (by omega), t5, m_countedOf (by omega) (by omega), bdO]
          simp only [decide_eq_true_eq]
          by_cases d : cnt (T 5 i) (k + 1) < 9
          · rw [if_neg (show ¬ 9 ≤ nI (cnt (T 5 i) (k + 1)) by rw [lt9, leN (by omega) (by omega)]; omega), if_pos d, nI_1, nI_1]
          · rw [if_pos (show 9 ≤ nI (cnt (T 5 i) (k + 1)) by rw [lt9, leN (by omega) (by omega)]; omega), if_neg d, nI_1, Int32.add_zero]
        · intro K
          unfold X6_counts_b34
          rw [if_pos (show 13 ≤ nI (12 + 1) by rw [lt13, leN (by omega) (by omega)]; omega), hF]
          refine lo3_eq n (fun k => nI (F ^ k)) (fun k => nI (12 ^ k)) (fun k => nI k) (fun _ => m) ?_ ?_ 1000 (by omega)
          · intro k hk K
            unfold X6_counts_b85
            rw [if_neg (show ¬ nI n ≤ nI k by rw [leN (by omega) (by omega)]; omega), lt12, pk_mul, pk_mul, nI_1, Nat.pow_succ, Nat.pow_succ]
          · intro K
            unfold X6_counts_b85
            rw [if_pos (show nI n ≤ nI n by rw [leN (by omega) (by omega)]; omega), pk_sub (hle n (Nat.le_refl n)), m_eu 60 _ _ 1000 r (by omega) g3 g7 g4 g5 (by omega)]
      rw [hX, hM]
      by_cases c5 : v = 0
      · rw [if_pos c5, if_pos c5]
        exact ⟨_, _, _, rfl, rfl, T, hA⟩
      · rw [if_neg c5, if_neg c5]
        exact ⟨_, _, _, rfl, rfl, T, hA⟩
    · rw [if_neg c4, m_inH c4, bdO, if00]
      exact ⟨_, _, _, rfl, rfl, T, hA⟩
  · rw [e1, e2, bdO, bdO, if00, if00]
    exact ⟨_, _, _, rfl, rfl, T, hA⟩
