/-! FAIRS ahead, as a row of states on both sides -/
noncomputable def nxX (q : Nat) (μ : Mem) : Mem := match X1_holdFair q μ with
  | some y => y.2
  | none => μ
noncomputable def nxM (m : Mem) (s : Nat → Int32) : Nat → Int32 := match X6_holds (xa m 20 4 0 s) with
  | some y => y.2 20 4 0
  | none => s
noncomputable def seqX (q : Nat) (μ : Mem) : Nat → Mem
  | 0 => μ
  | k + 1 => nxX q (seqX q μ k)
noncomputable def seqM (m : Mem) (s : Nat → Int32) : Nat → Nat → Int32
  | 0 => s
  | k + 1 => nxM m (seqM m s k)
section SEQ
variable {T : TA} {m μ : Mem} {q Y : Nat} {made : Nat → Nat → Nat} {s : Nat → Int32} {fe : Int32}
/-- what both sides need at a start -/
def ST (T : TA) (fe : Int32) (q : Nat) (μ m : Mem) (s : Nat → Int32) (made : Nat → Nat → Nat) (Y : Nat) : Prop := MS (xa m 20 4 0 s) T made Y ∧ m 20 12 0 0 = fe ∧ TX (μ 13) T ∧ RQ T fe (μ q) s made Y
theorem ST_step (hq : q < 12) (h : ST T fe q μ m s made Y) (hY : Y + 1 < 128) : ∃ n, X1_holdFair q μ = some (n, nxX q μ) ∧ X6_holds (xa m 20 4 0 s) = some (n, xa m 20 4 0 (nxM m s)) ∧ ST T fe q (nxX q μ) m (nxM m s) made (Y + 1) ∧ (∀ q', q' ≠ q → nxX q μ q' = μ q') ∧ ∀ t, ¬ μ q 4 0 t = -4 → nxX q μ q 4 0 t = μ q 4 0 t := by
  obtain ⟨h1, h2, h3, h4⟩ := h
  obtain ⟨n, ν, s', e1, e2, e3, e4, e5, e6⟩ := b_fair hq h1 h2 h3 hY h4
  have a1 : nxX q μ = ν := by unfold nxX; rw [e1]
  have a2 : nxM m s = s' := by unfold nxM; rw [e2]; exact xa4_4 (m := m)
  rw [a1, a2]
  exact ⟨n, e1, e2, ⟨e5, h2, by rw [e3 13 (by omega)]; exact h3, e4⟩, e3, e6⟩
theorem ST_seq (hq : q < 12) (h : ST T fe q μ m s made Y) : ∀ k, Y + k < 128 → ST T fe q (seqX q μ k) m (seqM m s k) made (Y + k) ∧ ∀ q', q' ≠ q → seqX q μ k q' = μ q'
  | 0, _ => ⟨h, fun _ _ => rfl⟩
  | k + 1, hk => by
    obtain ⟨h1, h2⟩ := ST_seq hq h k (by omega)
    obtain ⟨n, -, -, h3, h4, -⟩ := ST_step hq h1 (by omega)
    exact ⟨h3, fun q' hq' => (h4 q' hq').trans (h2 q' hq')⟩
theorem ST_fair (hq : q < 12) (h : ST T fe q μ m s made Y) {k : Nat} (hk : Y + k + 1 < 128) : ∃ n, X1_holdFair q (seqX q μ k) = some (n, seqX q μ (k + 1)) ∧ X6_holds (xa m 20 4 0 (seqM m s k)) = some (n, xa m 20 4 0 (seqM m s (k + 1))) := by
  obtain ⟨n, h1, h2, -⟩ := ST_step hq (ST_seq hq h k (by omega)).1 (by omega)
  exact ⟨n, h1, h2⟩
theorem ST_own (hq : q < 12) (h : ST T fe q μ m s made Y) {k t : Nat} (hk : Y + k < 128) (ht : t < T 1 0) : seqM m s k (6 + t) = seqX q μ k q 4 0 t := (ST_seq hq h k hk).1.2.2.2.2.2.1.2.1 t ht
theorem ST_stay (hq : q < 12) (h : ST T fe q μ m s made Y) {k t : Nat} (hn : ¬ seqX q μ k q 4 0 t = -4) : ∀ d, Y + k + d < 128 → seqX q μ (k + d) q 4 0 t = seqX q μ k q 4 0 t
  | 0, _ => rfl
  | d + 1, hd => by
    have ih := ST_stay hq h hn d (by omega)
    obtain ⟨n, -, -, -, -, h6⟩ := ST_step hq (ST_seq hq h (k + d) (by omega)).1 (by omega)
    have := h6 t (by rw [ih]; exact hn)
    exact this.trans ih
/-- behind how many fairs first, by the owners -/
def gS (o : Nat → Int32) : Nat → Nat → Int32
  | 0, _ => -4
  | d + 1, k => if o k = -4 then gS o d (k + 1) else nI k
theorem gS_or (o : Nat → Int32) : ∀ d k, (gS o d k = -4 ∧ ∀ j, k ≤ j → j < k + d → o j = -4) ∨ ∃ j, k ≤ j ∧ j < k + d ∧ gS o d k = nI j ∧ ¬ o j = -4
  | 0, k => Or.inl ⟨rfl, fun j h1 h2 => absurd h1 (by omega)⟩
  | d + 1, k => by
    unfold gS
    by_cases c : o k = -4
    · rw [if_pos c]
      rcases gS_or o d (k + 1) with ⟨h1, h2⟩ | ⟨j, h1, h2, h3, h4⟩
      · refine Or.inl ⟨h1, fun j hj1 hj2 => ?_⟩
        by_cases e : j = k
        · rw [e]; exact c
        · exact h2 j (by omega) (by omega)
      · exact Or.inr ⟨j, by omega, by omega, h3, h4⟩
    · rw [if_neg c]
      exact Or.inr ⟨k, by omega, by omega, rfl, c⟩
/-- the class's search: what it answers, and whose the thing is then -/
theorem x_tillGone (hq : q < 12) (h : ST T fe q μ m s made Y) (hY : Y + 10 < 128) {t : Nat} (ht : t < T 1 0) : ∃ ν, X1_fairsTillGone q (nI t) μ = some (gS (fun k => seqX q μ k q 4 0 t) 10 0, ν) ∧ (∀ q', q' ≠ q → ν q' = μ q') ∧ ν q 4 0 t = seqX q μ 9 q 4 0 t := by
  have b1 := h.1.1.2.1
  have main : ∀ d k fuel, k + d = 9 → d < fuel → ∃ ν, lo1 (X1_fairsTillGone_b2 q (nI t)) fuel (nI k) (seqX q μ k) = some (gS (fun k => seqX q μ k q 4 0 t) (d + 1) k, ν) ∧ (∀ q', q' ≠ q → ν q' = μ q') ∧ ν q 4 0 t = seqX q μ 9 q 4 0 t := by
    intro d
    induction d with
    | zero =>
      intro k fuel hk hf
      obtain ⟨f, rfl⟩ : ∃ f, fuel = f + 1 := ⟨fuel - 1, by omega⟩
      have e : k = 9 := by omega
      subst e
      refine ⟨seqX q μ 9, ?_, (ST_seq hq h 9 (by omega)).2, rfl⟩
      show X1_fairsTillGone_b2 q (nI t) (lo1 (X1_fairsTillGone_b2 q (nI t)) f) (nI 9) (seqX q μ 9) = _
      unfold X1_fairsTillGone_b2 X1_fairsTillGone_b27
      rw [if_pos (show 9 ≤ nI 9 by rw [lt9, leN (by omega) (by omega)]; omega), x_isFree (by omega), bdO]
      unfold gS
      by_cases c : seqX q μ 9 q 4 0 t = -4
      · rw [if_pos c, if10, if_pos c]
        rfl
      · rw [if_neg c, if00, if_neg c]
    | succ d ih =>
      intro k fuel hk hf
      obtain ⟨f, rfl⟩ : ∃ f, fuel = f + 1 := ⟨fuel - 1, by omega⟩
      have hun : lo1 (X1_fairsTillGone_b2 q (nI t)) (f + 1) (nI k) (seqX q μ k) = X1_fairsTillGone_b2 q (nI t) (lo1 (X1_fairsTillGone_b2 q (nI t)) f) (nI k) (seqX q μ k) := rfl
      rw [hun]
      unfold X1_fairsTillGone_b2 X1_fairsTillGone_b27
      rw [if_neg (show ¬ 9 ≤ nI k by rw [lt9, leN (by omega) (by omega)]; omega), x_isFree (by omega), bdO]
      by_cases c : seqX q μ k q 4 0 t = -4
      · obtain ⟨n, e1, -⟩ := ST_fair hq h (k := k) (by omega)
        obtain ⟨ν, g1, g2⟩ := ih (k + 1) f (by omega) (by omega)
        rw [if_pos c, if10, e1, bdO, nI_1]
        have hg : gS (fun k => seqX q μ k q 4 0 t) (d + 1 + 1) k = gS (fun k => seqX q μ k q 4 0 t) (d + 1) (k + 1) := by
          show (if _ then _ else _) = _
          rw [if_pos c]
        rw [hg]
        exact ⟨ν, g1, g2⟩
      · rw [if_neg c, if00, x_isFree (by omega), bdO, if_neg c, if00]
        have hg : gS (fun k => seqX q μ k q 4 0 t) (d + 1 + 1) k = nI k := by
          show (if _ then _ else _) = _
          rw [if_neg c]
        rw [hg]
        refine ⟨seqX q μ k, rfl, (ST_seq hq h k (by omega)).2, ?_⟩
        have := ST_stay hq h c (d + 1) (by omega)
        rw [show k + (d + 1) = 9 by omega] at this
        exact this.symm
  unfold X1_fairsTillGone
  exact main 9 0 1000 rfl (by omega)
theorem m_lets4 : X6_lets (xa m 20 4 0 s) = some (xa m 20 4 0 (cpF (m 20 13 0) 0 55 s)) := by
  rw [m_lets, xa_xa, xa4_4]
  congr 3
theorem m_goesBehind (hq : q < 12) (h : ST T fe q μ m s made Y) (hY : Y + 10 < 128) {t : Nat} (ht : t < T 1 0) : ∃ s', X6_goesBehind (nI t) (xa m 20 4 0 s) = some (gS (fun k => seqX q μ k q 4 0 t) 10 0, xa m 20 4 0 (cpF (m 20 13 0) 0 55 s')) := by
  have b1 := h.1.1.2.1
  have main : ∀ d k fuel, k + d = 10 → d < fuel → ∃ s', lo2 (X6_goesBehind_b5 (nI t)) fuel (-4) (nI k) (xa m 20 4 0 (seqM m s k)) = some (gS (fun k => seqX q μ k q 4 0 t) d k, xa m 20 4 0 (cpF (m 20 13 0) 0 55 s')) := by
    intro d
    induction d with
    | zero =>
      intro k fuel hk hf
      obtain ⟨f, rfl⟩ : ∃ f, fuel = f + 1 := ⟨fuel - 1, by omega⟩
      have e : k = 10 := by omega
      subst e
      refine ⟨seqM m s 10, ?_⟩
      show X6_goesBehind_b5 (nI t) (lo2 (X6_goesBehind_b5 (nI t)) f) (-4) (nI 10) _ = _
      unfold X6_goesBehind_b5 X6_goesBehind_b49
      rw [if_pos (show 9 < nI 10 by rw [lt9, ltN (by omega) (by omega)]; omega), m_lets4, bdvO]
      rfl
    | succ d ih =>
      intro k fuel hk hf
      obtain ⟨f, rfl⟩ : ∃ f, fuel = f + 1 := ⟨fuel - 1, by omega⟩
      have hun : lo2 (X6_goesBehind_b5 (nI t)) (f + 1) (-4) (nI k) (xa m 20 4 0 (seqM m s k)) = X6_goesBehind_b5 (nI t) (lo2 (X6_goesBehind_b5 (nI t)) f) (-4) (nI k) (xa m 20 4 0 (seqM m s k)) := rfl
      rw [hun]
      obtain ⟨n, -, e2⟩ := ST_fair hq h (k := k) (by omega)
      have ho := ST_own hq h (k := k) (by omega) ht
      have ih' := ih (k + 1) f (by omega) (by omega)
      have hKK : ∀ v, ∃ f', f = f' + 1 ∧ lo2 (X6_goesBehind_b5 (nI t)) f v = fun w μ => X6_goesBehind_b5 (nI t) (lo2 (X6_goesBehind_b5 (nI t)) f') v w μ := fun v => by
        obtain ⟨f', rfl⟩ : ∃ f', f = f' + 1 := ⟨f - 1, by omega⟩
        exact ⟨f', rfl, rfl⟩
      obtain ⟨f', -, hK9⟩ := hKK (nI k)
      generalize lo2 (X6_goesBehind_b5 (nI t)) f = Kc at ih' hK9 ⊢
      unfold X6_goesBehind_b5 X6_goesBehind_b37 X6_goesBehind_b49
      rw [if_neg (show ¬ 9 < nI k by rw [lt9, ltN (by omega) (by omega)]; omega), if_pos rfl]
      simp (discharger := omega) only [ad6, giN, clN, xa4_4, ho, e2, bdO, nI_1]
      by_cases c : seqX q μ k q 4 0 t = -4
      · rw [if_pos c]
        have hg : gS (fun k => seqX q μ k q 4 0 t) (d + 1) k = gS (fun k => seqX q μ k q 4 0 t) d (k + 1) := by
          show (if _ then _ else _) = _
          rw [if_pos c]
        rw [hg]
        exact ih'
      · rw [if_neg c]
        have hg : gS (fun k => seqX q μ k q 4 0 t) (d + 1) k = nI k := by
          show (if _ then _ else _) = _
          rw [if_neg c]
        rw [hg, hK9]
        refine ⟨seqM m s (k + 1), ?_⟩
        generalize lo2 (X6_goesBehind_b5 (nI t)) f' = Kd
        show X6_goesBehind_b5 (nI t) Kd (nI k) (nI (k + 1)) (xa m 20 4 0 (seqM m s (k + 1))) = _
        unfold X6_goesBehind_b5 X6_goesBehind_b49
        by_cases c9 : 9 < nI (k + 1)
        · rw [if_pos c9, m_lets4, bdvO]
        · rw [if_neg c9, if_neg (neM (by omega)), m_lets4, bdvO]
  unfold X6_goesBehind
  exact main 10 0 1000 rfl (by omega)
theorem m_whoseBehind (hq : q < 12) (h : ST T fe q μ m s made Y) {n : Nat} (hn : n ≤ 9) (hY : Y + 9 < 128) {t : Nat} (ht : t < T 1 0) : ∃ s', X6_whoseBehind (nI t) (nI n) (xa m 20 4 0 s) = some (seqX q μ n q 4 0 t, xa m 20 4 0 (cpF (m 20 13 0) 0 55 s')) := by
  have b1 := h.1.1.2.1
  unfold X6_whoseBehind
  refine ⟨seqM m s n, ?_⟩
  refine lo1_eq n (fun k => nI k) (fun k => xa m 20 4 0 (seqM m s k)) (fun k hk K => ?_) (fun K => ?_) 1000 (by omega)
  · obtain ⟨c, -, e2⟩ := ST_fair hq h (k := k) (by omega)
    unfold X6_whoseBehind_b2
    rw [if_neg (show ¬ nI n ≤ nI k by rw [leN (by omega) (by omega)]; omega), e2, bdO, nI_1]
  · have ho := ST_own hq h (k := n) (by omega) ht
    unfold X6_whoseBehind_b2
    rw [if_pos (show nI n ≤ nI n by rw [leN (by omega) (by omega)]; omega)]
    simp (discharger := omega) only [ad6, giN, clN, xa4_4, ho, m_lets4, bdvO]
theorem x_holdFairs (hq : q < 12) (h : ST T fe q μ m s made Y) {n : Nat} (hn : n ≤ 9) (hY : Y + 9 < 128) : X1_holdFairs q (nI n) μ = some (seqX q μ n) := by
  unfold X1_holdFairs
  refine lo1_eq n (fun k => nI k) (fun k => seqX q μ k) (fun k hk K => ?_) (fun K => ?_) 1000 (by omega)
  · obtain ⟨c, e1, -⟩ := ST_fair hq h (k := k) (by omega)
    unfold X1_holdFairs_b2
    rw [if_neg (show ¬ nI n ≤ nI k by rw [leN (by omega) (by omega)]; omega), e1, bdO, nI_1]
  · unfold X1_holdFairs_b2
    rw [if_pos (show nI n ≤ nI n by rw [leN (by omega) (by omega)]; omega)]
end SEQ
