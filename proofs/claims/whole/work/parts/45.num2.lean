/-! THE TEXT: the reference's numbers; the class's rows of numbers -/
section NUM2
variable {ch : Nat → Nat} {N : Nat} {x m : Mem}
theorem mm_up (y : Mem) (p : Nat) : xs (mm y p) 20 11 0 0 (mm y p 20 11 0 0 + 1) = mm y (p + 1) := by rw [mm_at, nI_1, mm_mm]
theorem pp_up (y : Mem) (p : Nat) : xs (pp y p) 14 1 0 0 (pp y p 14 1 0 0 + 1) = pp y (p + 1) := by rw [pp_at, nI_1, pp_pp]
theorem m_b82 (h : TXT ch N x m) {p v sep : Nat} {lo hi : Int32} (hp : p < 900) (hs : 0 < sep) (hs2 : sep < 200) : X6_number_b82 lo hi (nI sep) (nI v) (mm m p) = some (if ch p = sep ∧ lo ≤ nI v ∧ nI v ≤ hi then nI v else -1, mm m (p + 1)) := by
  have h4 := h.2.2.2.1 p
  have h5 := h.2.2.2.2 p
  unfold X6_number_b82 X6_number_b108 X6_number_b109
  rw [mm_at, m_letter h (by omega), bdO]
  have hiff : ((if p < N then nI (ch p) else -1) = nI sep) ↔ ch p = sep := by
    by_cases c : p < N
    · rw [if_pos c, eqN (by omega) (by omega)]
    · rw [if_neg c]
      have e0 := h5 (by omega)
      constructor
      · intro e
        have := nN0 (k := sep) (by omega)
        rw [← e] at this
        exact absurd (by decide) this
      · intro e
        omega
  by_cases c : ch p = sep
  · rw [if_pos (hiff.mpr c), m_in]
    by_cases d : lo ≤ nI v ∧ nI v ≤ hi
    · rw [if_pos d, bdO, if10, if10, mm_up, if_pos ⟨c, d⟩]
    · rw [if_neg d, bdO, if00, if00, mm_up, if_neg (fun q => d q.2)]
  · rw [if_neg (fun q => c (hiff.mp q)), if00, mm_up, if_neg (fun q => c q.1)]
theorem m_num (h : TXT ch N x m) {p sep : Nat} {lo hi : Int32} (hp : p < 800) (hs : 0 < sep) (hs2 : sep < 200) : (∀ v p', fld ch sep p = some (v, p') → X6_number lo hi (nI sep) (mm m p) = some (if lo ≤ nI v ∧ nI v ≤ hi then nI v else -1, mm m p')) ∧ (fld ch sep p = none → ∃ p', X6_number lo hi (nI sep) (mm m p) = some (-1, mm m p')) := by
  have q0 := h.2.2.2.1 p
  have q1 := h.2.2.2.1 (p + 1)
  have hfl : fld ch sep p = match num ch p with
    | some a => if ch a.2 = sep then some (a.1, a.2 + 1) else none
    | none => none := rfl
  have key : X6_number lo hi (nI sep) (mm m p) = match num ch p with
    | some a => some (if ch a.2 = sep ∧ lo ≤ nI a.1 ∧ nI a.1 ≤ hi then nI a.1 else -1, mm m (a.2 + 1))
    | none => some (-1, mm m p) := by
    unfold X6_number num
    rw [mm_at, m_letter h (by omega), bdO, m_fig h, bdO]
    by_cases c : 48 ≤ ch p ∧ ch p ≤ 57
    · have hpN : p < N := by
        have := h.2.2.2.2 p
        omega
      rw [if_pos c, if10, mm_at, m_letter h (by omega), bdO, mm_up, mm_at, m_letter h (by omega), bdO, m_fig h, bdO, if_pos c, if_pos hpN, lt48, pk_sub (by omega)]
      by_cases d : 48 ≤ ch (p + 1) ∧ ch (p + 1) ≤ 57
      · have hpN1 : p + 1 < N := by
          have := h.2.2.2.2 (p + 1)
          omega
        rw [if_pos d, if10, mm_at, m_letter h (by omega), bdO, mm_up, if_pos d, if_pos hpN1, lt10, pk_mul, nI_add, pk_sub (by omega), m_b82 h (by omega) hs hs2, show 10 * (ch p - 48) + ch (p + 1) - 48 = 10 * (ch p - 48) + (ch (p + 1) - 48) by omega]
      · rw [if_neg d, if00, if_neg d, m_b82 h (by omega) hs hs2]
    · rw [if_neg c, if00, if_neg c]
  rw [hfl, key]
  cases e : num ch p with
  | none => exact ⟨fun v p' hh => (by cases hh), fun _ => ⟨p, rfl⟩⟩
  | some a =>
    obtain ⟨u, w⟩ := a
    refine ⟨fun v p' hh => ?_, fun hh => ⟨w + 1, ?_⟩⟩
    · by_cases c : ch w = sep
      · have hh' : some (u, w + 1) = some (v, p') := by rw [← hh]; exact (if_pos c).symm
        cases hh'
        show some (if ch w = sep ∧ lo ≤ nI u ∧ nI u ≤ hi then nI u else -1, mm m (w + 1)) = _
        by_cases d : lo ≤ nI u ∧ nI u ≤ hi
        · rw [if_pos ⟨c, d⟩, if_pos d]
        · rw [if_neg (fun q => d q.2), if_neg d]
      · have hh' : (none : Option (Nat × Nat)) = some (v, p') := by rw [← hh]; exact (if_neg c).symm
        cases hh'
    · have c : ¬ ch w = sep := fun c => by
        have hh' : some (u, w + 1) = (none : Option (Nat × Nat)) := by rw [← hh]; exact (if_pos c).symm
        cases hh'
      show some (if ch w = sep ∧ lo ≤ nI u ∧ nI u ≤ hi then nI u else -1, mm m (w + 1)) = _
      rw [if_neg (fun q => c q.1)]
/-- the class's place of number v: one number, its letter -/
theorem x_fld (h : TXT ch N x m) {p k due : Nat} (hp : p < 800) (hd : due ≤ 4) (hk : k < due) (K : Int32 → Mem → Option (Int32 × Mem)) : (∀ v p', fld ch (if k + 1 = due then 59 else 44) p = some (v, p') → X2_readItem_b23 (nI N) (nI due) K (nI k) (pp x p) = K (nI (k + 1)) (pp (xs x 14 0 0 k (nI v)) p')) ∧ (fld ch (if k + 1 = due then 59 else 44) p = none → ∃ p', X2_readItem_b23 (nI N) (nI due) K (nI k) (pp x p) = some (0, pp x p')) := by
  generalize hsep : (if k + 1 = due then 59 else 44) = sep
  have hfl : fld ch sep p = match num ch p with
    | some a => if ch a.2 = sep then some (a.1, a.2 + 1) else none
    | none => none := rfl
  have hb : ∀ v w, w < 900 → X2_readItem_b77 K (nI N) (nI due) (nI k) v (nI (ch w)) (nI sep) (pp x (w + 1)) = if ch w = sep then K (nI (k + 1)) (xs (pp x (w + 1)) 14 0 0 k v) else some (0, pp x (w + 1)) := fun v w hw => by
    have h4 := h.2.2.2.1 w
    have hs : sep < 200 := by rw [← hsep]; split <;> omega
    unfold X2_readItem_b77
    by_cases c : ch w = sep
    · rw [if_pos (by rw [eqN (by omega) (by omega)]; exact c), if_pos c, giN (by omega) (by omega), clN (by omega), nI_1]
    · rw [if_neg (by rw [eqN (by omega) (by omega)]; exact c), if_neg c]
  have key : X2_readItem_b23 (nI N) (nI due) K (nI k) (pp x p) = match num ch p with
    | some a => if ch a.2 = sep then K (nI (k + 1)) (xs (pp x (a.2 + 1)) 14 0 0 k (nI a.1)) else some (0, pp x (a.2 + 1))
    | none => some (0, pp x (p + 1)) := by
    unfold X2_readItem_b23
    rw [if_neg (show ¬ nI due ≤ nI k by rw [leN (by omega) (by omega)]; omega), x_num h (by omega)]
    cases e : num ch p with
    | none =>
      show bd (some (-1, pp x p)) _ = _
      rw [bdO, x_letter h (by omega), bdO, if_pos (by decide), pp_up]
    | some a =>
      obtain ⟨u, w⟩ := a
      obtain ⟨g1, g2, g3⟩ := num_lt e
      show bd (some (nI u, pp x w)) _ = _
      rw [bdO, x_letter h (by omega), bdO, if_neg (nN0 (by omega)), pp_up]
      have he : nI due - 1 = nI (due - 1) := by rw [lt1, pk_sub (by omega)]
      rw [he]
      by_cases c : k = due - 1
      · rw [if_pos (show k + 1 = due by omega)] at hsep
        rw [if_pos (show nI k = nI (due - 1) by rw [← c]), show (59 : Int32) = nI sep by rw [← hsep]; rfl]
        exact hb _ _ (by omega)
      · rw [if_neg (show ¬ k + 1 = due by omega)] at hsep
        rw [if_neg (show ¬ nI k = nI (due - 1) by rw [eqN (by omega) (by omega)]; exact c), show (44 : Int32) = nI sep by rw [← hsep]; rfl]
        exact hb _ _ (by omega)
  have hcom : ∀ v p', xs (pp x p') 14 0 0 k v = pp (xs x 14 0 0 k v) p' := fun v p' => by
    unfold pp
    funext q f i j
    simp only [xs]
    by_cases c : q = 14 ∧ f = 0 ∧ i = 0 ∧ j = k
    · obtain ⟨rfl, rfl, rfl, rfl⟩ := c
      simp
    · simp only [if_neg c]
  rw [hfl, key]
  cases e : num ch p with
  | none => exact ⟨fun v p' hh => (by cases hh), fun _ => ⟨p + 1, rfl⟩⟩
  | some a =>
    obtain ⟨u, w⟩ := a
    refine ⟨fun v p' hh => ?_, fun hh => ⟨w + 1, ?_⟩⟩
    · by_cases c : ch w = sep
      · have hh' : some (u, w + 1) = some (v, p') := by rw [← hh]; exact (if_pos c).symm
        cases hh'
        show (if ch w = sep then _ else _) = _
        rw [if_pos c, hcom]
      · have hh' : (none : Option (Nat × Nat)) = some (v, p') := by rw [← hh]; exact (if_neg c).symm
        cases hh'
    · have c : ¬ ch w = sep := fun c => by
        have hh' : some (u, w + 1) = (none : Option (Nat × Nat)) := by rw [← hh]; exact (if_pos c).symm
        cases hh'
      show (if ch w = sep then _ else _) = _
      rw [if_neg c]
end NUM2
