/-! THE TEXT: letters, numbers -/
def TXT (ch : Nat → Nat) (N : Nat) (x m : Mem) : Prop := N ≤ 200 ∧ m 20 1 0 0 = nI N ∧ (∀ k, k < N → x 17 0 0 k = nI (ch k) ∧ m 20 0 0 k = nI (ch k)) ∧ (∀ k, ch k ≤ 126) ∧ ∀ k, N ≤ k → ch k = 0
def fig (c : Nat) : Prop := 48 ≤ c ∧ c ≤ 57
noncomputable def pp (y : Mem) (p : Nat) : Mem := xs y 14 1 0 0 (nI p)
noncomputable def mm (w : Mem) (p : Nat) : Mem := xs w 20 11 0 0 (nI p)
theorem xs_xs (μ : Mem) (q f i j : Nat) (v v' : Int32) : xs (xs μ q f i j v) q f i j v' = xs μ q f i j v' := by
  rw [xs_xa, xs_xa, xs_xa, xa_xa, xa_row]
  congr 1
  funext k
  rw [upd_at, upd_at, upd_at]
  split <;> rfl
theorem pp_at (y : Mem) (p : Nat) : pp y p 14 1 0 0 = nI p := xs_self ..
theorem pp_pp (y : Mem) (p p' : Nat) : xs (pp y p) 14 1 0 0 (nI p') = pp y p' := xs_xs ..
theorem pp_o (y : Mem) {p q f i : Nat} (h : ¬ (q = 14 ∧ f = 1 ∧ i = 0)) : pp y p q f i = y q f i := xs_fr y h
theorem mm_at (y : Mem) (p : Nat) : mm y p 20 11 0 0 = nI p := xs_self ..
theorem mm_mm (y : Mem) (p p' : Nat) : xs (mm y p) 20 11 0 0 (nI p') = mm y p' := xs_xs ..
theorem mm_o (y : Mem) {p q f i : Nat} (h : ¬ (q = 20 ∧ f = 11 ∧ i = 0)) : mm y p q f i = y q f i := xs_fr y h
/-- one or two figures at p: their number, and where the next letter stands -/
def num (ch : Nat → Nat) (p : Nat) : Option (Nat × Nat) := if 48 ≤ ch p ∧ ch p ≤ 57 then (if 48 ≤ ch (p + 1) ∧ ch (p + 1) ≤ 57 then some (10 * (ch p - 48) + (ch (p + 1) - 48), p + 2) else some (ch p - 48, p + 1)) else none
/-- a number and the letter behind it -/
def fld (ch : Nat → Nat) (sep p : Nat) : Option (Nat × Nat) := match num ch p with
  | some a => if ch a.2 = sep then some (a.1, a.2 + 1) else none
  | none => none
section NUM
variable {ch : Nat → Nat} {N : Nat} {x m : Mem}
theorem num_lt {p v p' : Nat} (h : num ch p = some (v, p')) : v < 100 ∧ p < p' ∧ p' ≤ p + 2 := by
  unfold num at h
  by_cases c : 48 ≤ ch p ∧ ch p ≤ 57
  · rw [if_pos c] at h
    by_cases d : 48 ≤ ch (p + 1) ∧ ch (p + 1) ≤ 57
    · rw [if_pos d] at h
      cases h
      omega
    · rw [if_neg d] at h
      cases h
      omega
  · rw [if_neg c] at h
    cases h
theorem fld_lt {sep p v p' : Nat} (hs : sep ≠ 0) (hc : ∀ k, N ≤ k → ch k = 0) (h : fld ch sep p = some (v, p')) : v < 100 ∧ p < p' ∧ p' ≤ N := by
  unfold fld at h
  cases e : num ch p with
  | none => rw [e] at h; cases h
  | some a =>
    obtain ⟨u, w⟩ := a
    rw [e] at h
    obtain ⟨h1, h2, h3⟩ := num_lt e
    by_cases c : ch w = sep
    · have h' : some (u, w + 1) = some (v, p') := by rw [← h]; exact (if_pos c).symm
      cases h'
      have : ¬ N ≤ w := fun q => hs (by rw [← c, hc w q])
      omega
    · have h' : (none : Option (Nat × Nat)) = some (v, p') := by rw [← h]; exact (if_neg c).symm
      cases h'
theorem x_letter (h : TXT ch N x m) {p : Nat} (hp : p < 1000) : X2_letterAt (nI N) (pp x p) = some (nI (ch p), pp x p) := by
  obtain ⟨h1, h2, h3, h4, h5⟩ := h
  unfold X2_letterAt
  rw [pp_at, if_neg (nN0 (by omega))]
  by_cases c : N ≤ p
  · rw [if_pos (show nI N ≤ nI p by rw [leN (by omega) (by omega)]; exact c), h5 p c]
    rfl
  · rw [if_neg (show ¬ nI N ≤ nI p by rw [leN (by omega) (by omega)]; exact c), if_neg (show ¬ 200 ≤ nI p by rw [lt200, leN (by omega) (by omega)]; omega), giN (by omega) (by omega), clN (by omega), pp_o x (by omega), (h3 p (by omega)).1]
theorem m_letter (h : TXT ch N x m) {p p' : Nat} (hp : p < 1000) : X6_letterAt (nI p) (mm m p') = some (if p < N then nI (ch p) else -1, mm m p') := by
  obtain ⟨h1, h2, h3, h4, h5⟩ := h
  unfold X6_letterAt
  rw [mm_o m (by omega), h2]
  by_cases c : N ≤ p
  · rw [if_pos (show nI N ≤ nI p by rw [leN (by omega) (by omega)]; exact c), if_neg (by omega)]
  · rw [if_neg (show ¬ nI N ≤ nI p by rw [leN (by omega) (by omega)]; exact c), if_pos (by omega), giN (by omega) (by omega), clN (by omega), mm_o m (by omega), (h3 p (by omega)).2]
theorem lt48 : (48 : Int32) = nI 48 := rfl
theorem lt57 : (57 : Int32) = nI 57 := rfl
theorem m_fig (h : TXT ch N x m) {p : Nat} (ω : Mem) : X6_isFigure (if p < N then nI (ch p) else -1) ω = some (if 48 ≤ ch p ∧ ch p ≤ 57 then 1 else 0, ω) := by
  have h4 := h.2.2.2.1 p
  have h5 := h.2.2.2.2 p
  unfold X6_isFigure
  by_cases c : p < N
  · rw [if_pos c]
    by_cases d : 48 ≤ ch p ∧ ch p ≤ 57
    · rw [m_in1 (by rw [lt48, leN (by omega) (by omega)]; exact d.1) (by rw [lt57, leN (by omega) (by omega)]; exact d.2), bdO, gb1, if_pos d]
    · rw [m_in, if_neg (by rw [lt48, lt57, leN (by omega) (by omega), leN (by omega) (by omega)]; exact d), bdO, gb0, if_neg d]
  · rw [if_neg c, m_inL (by decide), bdO, gb0, if_neg (by have := h5 (by omega); omega)]
theorem x_num (h : TXT ch N x m) {p : Nat} (hp : p < 900) : X2_readNumber (nI N) (pp x p) = match num ch p with
    | some a => some (nI a.1, pp x a.2)
    | none => some (-1, pp x p) := by
  have h4 := h.2.2.2.1
  have q0 := h4 p
  have q1 := h4 (p + 1)
  unfold X2_readNumber
  show X2_readNumber_b5 (nI N) (X2_readNumber_b5 (nI N) (X2_readNumber_b5 (nI N) (lo2 (X2_readNumber_b5 (nI N)) 997))) (-1) 0 (pp x p) = _
  generalize lo2 (X2_readNumber_b5 (nI N)) 997 = K
  have step3 : ∀ v y, X2_readNumber_b5 (nI N) K v (0 + 1 + 1) y = some (v, y) := fun v y => by
    unfold X2_readNumber_b5
    rw [if_pos (by decide)]
  have step2 : ∀ v, v ≤ 9 → X2_readNumber_b5 (nI N) (X2_readNumber_b5 (nI N) K) (nI v) (0 + 1) (pp x (p + 1)) = if 48 ≤ ch (p + 1) ∧ ch (p + 1) ≤ 57 then some (nI (10 * v + (ch (p + 1) - 48)), pp x (p + 2)) else some (nI v, pp x (p + 1)) := fun v hv => by
    generalize hK : X2_readNumber_b5 (nI N) K = K2 at step3 ⊢
    unfold X2_readNumber_b5
    rw [if_neg (by decide), x_letter h (by omega), bdO]
    by_cases c : ch (p + 1) < 48
    · rw [if_pos (show nI (ch (p + 1)) < 48 by rw [lt48, ltN (by omega) (by omega)]; exact c), if_neg (by omega)]
    · rw [if_neg (show ¬ nI (ch (p + 1)) < 48 by rw [lt48, ltN (by omega) (by omega)]; exact c)]
      by_cases d : ch (p + 1) ≤ 57
      · have e1 : (if 0 < nI v then nI v else 0) = nI v := by
          by_cases z : v = 0
          · subst z; rfl
          · rw [if_pos (show 0 < nI v by rw [lt0, ltN (by omega) (by omega)]; omega)]
        rw [if_pos (show nI (ch (p + 1)) ≤ 57 by rw [lt57, leN (by omega) (by omega)]; exact d), if_pos (show 48 ≤ ch (p + 1) ∧ ch (p + 1) ≤ 57 from ⟨by omega, d⟩), e1, lt10, pk_mul, nI_add, lt48, pk_sub (by omega), pp_at, nI_1, pp_pp, step3, show v * 10 + ch (p + 1) - 48 = 10 * v + (ch (p + 1) - 48) by omega]
      · rw [if_neg (show ¬ nI (ch (p + 1)) ≤ 57 by rw [lt57, leN (by omega) (by omega)]; exact d), if_neg (by omega)]
  generalize X2_readNumber_b5 (nI N) (X2_readNumber_b5 (nI N) K) = K2 at step2 ⊢
  unfold X2_readNumber_b5 num
  rw [if_neg (by decide), x_letter h (by omega), bdO]
  by_cases c : ch p < 48
  · rw [if_pos (show nI (ch p) < 48 by rw [lt48, ltN (by omega) (by omega)]; exact c), if_neg (by omega)]
  · rw [if_neg (show ¬ nI (ch p) < 48 by rw [lt48, ltN (by omega) (by omega)]; exact c)]
    by_cases d : ch p ≤ 57
    · have e1 : ((if (0 : Int32) < -1 then -1 else 0) * 10) = nI 0 := by decide
      rw [if_pos (show nI (ch p) ≤ 57 by rw [lt57, leN (by omega) (by omega)]; exact d), if_pos (show 48 ≤ ch p ∧ ch p ≤ 57 from ⟨by omega, d⟩), e1, nI_add, lt48, pk_sub (by omega), pp_at, nI_1, pp_pp, Nat.zero_add, step2 _ (by omega)]
      split <;> rfl
    · rw [if_neg (show ¬ nI (ch p) ≤ 57 by rw [lt57, leN (by omega) (by omega)]; exact d), if_neg (by omega)]
end NUM
