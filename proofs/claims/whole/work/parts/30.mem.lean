/-! what is remembered, kept, undone: both sides' copies -/
def cpF (f : Nat → Int32) (a n : Nat) (g : Nat → Int32) : Nat → Int32 := fun j => if a ≤ j ∧ j < a + n then f (j - a) else g j
theorem cpF_0 (f : Nat → Int32) (a : Nat) (g : Nat → Int32) : cpF f a 0 g = g := by
  funext j
  unfold cpF
  rw [if_neg (by omega)]
theorem cpF_s (f : Nat → Int32) (a k : Nat) (g : Nat → Int32) : upd (cpF f a k g) (a + k) (f k) = cpF f a (k + 1) g := by
  funext j
  simp only [upd, cpF]
  by_cases h : j = a + k
  · subst h
    rw [if_pos rfl, if_pos (by omega)]
    congr 1
    omega
  · rw [if_neg h]
    by_cases h2 : a ≤ j ∧ j < a + k
    · rw [if_pos h2, if_pos (by omega)]
    · rw [if_neg h2, if_neg (by omega)]
theorem cpF_in (f : Nat → Int32) (a n : Nat) (g : Nat → Int32) {j : Nat} (h : j < n) : cpF f a n g (a + j) = f j := by
  unfold cpF
  rw [if_pos (by omega)]
  congr 1
  omega
theorem cpF_out (f : Nat → Int32) (a n : Nat) (g : Nat → Int32) {j : Nat} (h : j < a) : cpF f a n g j = g j := by
  unfold cpF
  rw [if_neg (by omega)]
theorem m_remembers (m : Mem) : X6_remembers m = some (xa m 20 13 0 (cpF (m 20 4 0) 0 55 (m 20 13 0))) := by
  have e := lo1_eq (b := X6_remembers_b2) (E := some (xa m 20 13 0 (cpF (m 20 4 0) 0 55 (m 20 13 0)))) 55 (fun k => nI k) (fun k => xa m 20 13 0 (cpF (m 20 4 0) 0 k (m 20 13 0))) (fun k hk K => by
    unfold X6_remembers_b2
    simp (discharger := omega) only [lt55, leN, giN, clN, xa_fr, xs_xa, xa_xa, xa_row, nI_1]
    rw [if_neg (by omega)]
    have h := cpF_s (m 20 4 0) 0 k (m 20 13 0)
    rw [Nat.zero_add] at h
    rw [h]) (fun K => by
    unfold X6_remembers_b2
    simp (discharger := omega) only [lt55, leN]
    rw [if_pos (Nat.le_refl _)]) 1000 (by omega)
  rw [cpF_0, xa_me] at e
  exact e
theorem m_lets (m : Mem) : X6_lets m = some (xa m 20 4 0 (cpF (m 20 13 0) 0 55 (m 20 4 0))) := by
  have e := lo1_eq (b := X6_lets_b2) (E := some (xa m 20 4 0 (cpF (m 20 13 0) 0 55 (m 20 4 0)))) 55 (fun k => nI k) (fun k => xa m 20 4 0 (cpF (m 20 13 0) 0 k (m 20 4 0))) (fun k hk K => by
    unfold X6_lets_b2
    simp (discharger := omega) only [lt55, leN, giN, clN, xa_fr, xs_xa, xa_xa, xa_row, nI_1]
    rw [if_neg (by omega)]
    have h := cpF_s (m 20 13 0) 0 k (m 20 4 0)
    rw [Nat.zero_add] at h
    rw [h]) (fun K => by
    unfold X6_lets_b2
    simp (discharger := omega) only [lt55, leN]
    rw [if_pos (Nat.le_refl _)]) 1000 (by omega)
  rw [cpF_0, xa_me] at e
  exact e
def shF (p : Nat → Int32) (k : Nat) : Nat → Int32 := fun j => if j < k then p (j + 55) else p j
theorem m_keeps0 {m : Mem} {h : Nat} (hk : m 20 6 0 0 = nI h) (hh : h < 8) : X6_keeps_b49 m = some (xs (xa m 20 5 0 (cpF (m 20 4 0) (55 * h) 55 (m 20 5 0))) 20 6 0 0 (nI (h + 1))) := by
  unfold X6_keeps_b49
  have e := lo1_eq (b := X6_keeps_b51) (E := some (xs (xa m 20 5 0 (cpF (m 20 4 0) (55 * h) 55 (m 20 5 0))) 20 6 0 0 (nI (h + 1)))) 55 (fun k => nI k) (fun k => xa m 20 5 0 (cpF (m 20 4 0) (55 * h) k (m 20 5 0))) (fun k hk2 K => by
    unfold X6_keeps_b51
    simp (discharger := omega) only [lt55, leN, xa_fr, hk]
    simp (discharger := omega) only [← lt55, mu55, nI_add, giN, clN, xs_xa, xa_xa, xa_row, nI_1]
    rw [if_neg (by omega), cpF_s]) (fun K => by
    unfold X6_keeps_b51
    simp (discharger := omega) only [lt55, leN, xa_fr, hk, nI_1]
    rw [if_pos (Nat.le_refl _)]) 1000 (by omega)
  rw [cpF_0, xa_me] at e
  exact e
theorem m_keeps1 {m : Mem} (hk : m 20 6 0 0 = nI 8) : lo1 (X6_keeps_b11) 1000 0 m = X6_keeps_b49 (xs (xa m 20 5 0 (shF (m 20 5 0) 385)) 20 6 0 0 (nI 7)) := by
  have e := lo1_eq (b := X6_keeps_b11) (E := X6_keeps_b49 (xs (xa m 20 5 0 (shF (m 20 5 0) 385)) 20 6 0 0 (nI 7))) 385 (fun k => nI k) (fun k => xa m 20 5 0 (shF (m 20 5 0) k)) (fun k hk2 K => by
    unfold X6_keeps_b11
    simp (discharger := omega) only [lt385, leN]
    simp (discharger := omega) only [lt55, nI_add, giN, clN, xs_xa, xa_xa, xa_row, nI_1]
    rw [if_neg (by omega)]
    have h1 : upd (shF (m 20 5 0) k) k (shF (m 20 5 0) k (k + 55)) = shF (m 20 5 0) (k + 1) := by
      funext j
      simp only [upd, shF]
      by_cases c : j = k
      · subst c
        rw [if_pos rfl, if_neg (by omega), if_pos (by omega)]
      · rw [if_neg c]
        by_cases d : j < k
        · rw [if_pos d, if_pos (by omega)]
        · rw [if_neg d, if_neg (by omega)]
    rw [h1]) (fun K => by
    unfold X6_keeps_b11
    simp (discharger := omega) only [lt385, leN, xa_fr, hk]
    rw [if_pos (Nat.le_refl _)]
    rfl) 1000 (by omega)
  have e0 : shF (m 20 5 0) 0 = m 20 5 0 := by funext j; simp [shF]
  rw [e0, xa_me] at e
  exact e
/-- the reference remembers: what is behind -/
theorem m_keeps {m : Mem} {h : Nat} (hk : m 20 6 0 0 = nI h) (hh : h ≤ 8) : ∃ m', X6_keeps m = some m' ∧ m' 20 6 0 0 = nI (min (h + 1) 8) ∧ (∀ f i, ¬ (f = 5 ∧ i = 0) → ¬ (f = 6 ∧ i = 0) → m' 20 f i = m 20 f i) ∧ (∀ j, j < 55 → m' 20 5 0 (55 * (min (h + 1) 8 - 1) + j) = m 20 4 0 j) ∧ ∀ k, k + 1 < min (h + 1) 8 → ∀ j, j < 55 → m' 20 5 0 (55 * k + j) = m 20 5 0 (55 * (if h = 8 then k + 1 else k) + j) := by
  unfold X6_keeps
  rw [hk]
  by_cases c : h = 8
  · subst c
    rw [lt8, if_pos rfl, m_keeps1 hk]
    rw [m_keeps0 (h := 7) (by simp (discharger := omega) only [xs_self]) (by omega)]
    refine ⟨_, rfl, ?_, fun f i h1 h2 => ?_, fun j hj => ?_, fun k hk2 j hj => ?_⟩
    · simp (discharger := omega) only [xs_self]
      rfl
    · simp (discharger := omega) only [xs_fr, xa_fr]
    · simp (discharger := omega) only [xs_fr, xa_row, xa_fr]
      exact cpF_in _ _ _ _ hj
    · simp (discharger := omega) only [xs_fr, xa_row, xa_fr]
      rw [cpF_out _ _ _ _ (by omega), if_pos trivial]
      unfold shF
      rw [if_pos (by omega)]
      congr 1
      omega
  · have c' : ¬ nI h = 8 := by rw [lt8, eqN (by omega) (by omega)]; exact c
    rw [if_neg c', m_keeps0 hk (by omega), Nat.min_eq_left (by omega)]
    refine ⟨_, rfl, ?_, fun f i h1 h2 => ?_, fun j hj => ?_, fun k hk2 j hj => ?_⟩
    · simp (discharger := omega) only [xs_self]
    · simp (discharger := omega) only [xs_fr, xa_fr]
    · simp (discharger := omega) only [xs_fr, xa_row]
      rw [Nat.add_sub_cancel]
      exact cpF_in _ _ _ _ hj
    · simp (discharger := omega) only [xs_fr, xa_row]
      rw [cpF_out _ _ _ _ (by omega), if_neg c]
theorem x_remember {μ : Mem} {nx h : Nat} (h1 : μ 15 1 0 0 = nI nx) (h2 : μ 15 2 0 0 = nI h) (hn : nx < 8) (hh : h ≤ 8) : ∃ ν, X0_remember μ = some ν ∧ ν 15 1 0 0 = nI ((nx + 1) % 8) ∧ ν 15 2 0 0 = nI (min (h + 1) 8) ∧ ZC (ν (2 + nx)) (μ 0) ∧ ∀ q, q ≠ 15 → q ≠ 2 + nx → ν q = μ q := by
  obtain ⟨ν, e1, e2, e3⟩ := x_copy (μ := μ) (q := 2 + nx) (q1 := 0) (by omega)
  have g1 : ν 15 1 0 0 = nI nx := by rw [e2 15 (by omega)]; exact h1
  have g2 : ν 15 2 0 0 = nI h := by rw [e2 15 (by omega)]; exact h2
  have hm : (if 8 < nI h + 1 then 8 else nI h + 1) = nI (min (h + 1) 8) := by
    simp (discharger := omega) only [lt8, nI_1, ltN]
    by_cases c : 8 < h + 1
    · rw [if_pos c, Nat.min_eq_right (by omega)]
    · rw [if_neg c, Nat.min_eq_left (by omega)]
  have hr : nI nx + 1 - (nI nx + 1) / 8 * 8 = nI ((nx + 1) % 8) := by rw [nI_1, lt8, pk_rem (by omega) (by omega) (by omega)]
  unfold X0_remember
  simp (discharger := omega) only [h1, giN, clN, e1, bdvO]
  simp (discharger := omega) only [xs_fr, g1, g2, hm, hr]
  refine ⟨_, rfl, ?_, ?_, ?_, fun q hq1 hq2 => ?_⟩
  · simp (discharger := omega) only [xs_fr, xs_self]
  · simp (discharger := omega) only [xs_self]
  · have hx : ∀ w w', xs (xs ν 15 1 0 0 w) 15 2 0 0 w' (2 + nx) = ν (2 + nx) := fun w w' => by
      funext f i
      simp (discharger := omega) only [xs_fr]
    rw [hx]
    exact e3
  · rw [← e2 q hq2]
    funext f i
    simp (discharger := omega) only [xs_fr]
theorem x_restore {μ : Mem} {nx h : Nat} (h1 : μ 15 1 0 0 = nI nx) (h2 : μ 15 2 0 0 = nI h) (hn : nx < 8) (hh : h ≤ 8) (hp : 1 ≤ h) : ∃ ν, X0_restore μ = some ν ∧ ν 15 1 0 0 = nI ((nx + 7) % 8) ∧ ν 15 2 0 0 = nI (h - 1) ∧ ZC (ν 0) (μ (2 + (nx + 7) % 8)) ∧ ∀ q, q ≠ 15 → q ≠ 0 → ν q = μ q := by
  have hr : nI nx + 8 - 1 - (nI nx + 8 - 1) / 8 * 8 = nI ((nx + 7) % 8) := by
    have e : nI nx + 8 - 1 = nI (nx + 7) := by rw [lt8, lt1, nI_add, pk_sub (by omega)]; rfl
    rw [e, lt8, pk_rem (by omega) (by omega) (by omega)]
  have hm : (if nI h - 1 < 0 then 0 else nI h - 1) = nI (h - 1) := by
    have e : nI h - 1 = nI (h - 1) := by rw [lt1, pk_sub hp]
    rw [e, if_neg (nN0 (by omega))]
  have h8 : (nx + 7) % 8 < 8 := by omega
  unfold X0_restore
  simp (discharger := omega) only [h1, hr, xs_fr, h2, hm, xs_self, giN, clN]
  generalize hν0 : xs (xs μ 15 1 0 0 (nI ((nx + 7) % 8))) 15 2 0 0 (nI (h - 1)) = ν0
  obtain ⟨ν, e1, e2, e3⟩ := x_copy (μ := ν0) (q := 0) (q1 := 2 + (nx + 7) % 8) (by omega)
  rw [e1, bdvO]
  have hx : ∀ q, q ≠ 15 → ν0 q = μ q := fun q hq => by
    rw [← hν0]
    funext f i
    simp (discharger := omega) only [xs_fr]
  refine ⟨ν, rfl, ?_, ?_, ?_, fun q hq1 hq2 => by rw [e2 q hq2, hx q hq1]⟩
  · rw [e2 15 (by omega), ← hν0]
    simp (discharger := omega) only [xs_fr, xs_self]
  · rw [e2 15 (by omega), ← hν0]
    simp (discharger := omega) only [xs_self]
  · rw [hx _ (by omega)] at e3
    exact e3
