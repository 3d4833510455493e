/-! BOTH SIDES: a fair -/
def fm (p : Nat → Bool) (f : Nat → Nat) (n x : Nat) : Nat := fo (fun a m => if p a = true then max (f a) m else m) n x
theorem fm_x (p : Nat → Bool) (f : Nat → Nat) : ∀ n x, fm p f n x = max x (fm p f n 0)
  | 0, x => (Nat.max_eq_left (Nat.zero_le x)).symm
  | n + 1, x => by
    have h := fm_x p f n x
    show (if p n = true then max (f n) (fm p f n x) else fm p f n x) = max x (if p n = true then max (f n) (fm p f n 0) else fm p f n 0)
    split <;> omega
theorem fm_or {p q r : Nat → Bool} {f : Nat → Nat} : ∀ n, (∀ a, a < n → (r a = true ↔ p a = true ∨ q a = true)) → fm r f n 0 = max (fm p f n 0) (fm q f n 0)
  | 0, _ => rfl
  | n + 1, h => by
    have ih := fm_or (f := f) n (fun a ha => h a (by omega))
    have hn := h n (by omega)
    show (if r n = true then max (f n) (fm r f n 0) else fm r f n 0) = max (if p n = true then max (f n) (fm p f n 0) else fm p f n 0) (if q n = true then max (f n) (fm q f n 0) else fm q f n 0)
    by_cases h1 : p n = true <;> by_cases h2 : q n = true
    · rw [if_pos (hn.mpr (Or.inl h1)), if_pos h1, if_pos h2]; omega
    · rw [if_pos (hn.mpr (Or.inl h1)), if_pos h1, if_neg h2]; omega
    · rw [if_pos (hn.mpr (Or.inr h2)), if_neg h1, if_pos h2]; omega
    · rw [if_neg (fun e => (hn.mp e).elim h1 h2), if_neg h1, if_neg h2]; omega
theorem tk_fm (T : TA) (Y i t made n : Nat) : tk T Y i t made n = fm (fun a => decide (T 8 a = i ∧ T 9 a = t ∧ T 11 a ≤ Y)) (fun a => ky (T 10 a) (T 11 a)) n made := by
  unfold tk fm
  exact fo_cong (fun a m _ => by simp only [decide_eq_true_eq])
theorem tdK_at (T : TA) (si : Int32) (Y : Nat) (K : Nat → Nat → Nat) (i t : Nat) : ∀ n, tdK T si Y K n i t = if nI i = si then K i t else fm (fun a => decide (T 8 a = i ∧ T 9 a = t ∧ T 11 a = Y)) (fun a => ky (T 10 a) (T 11 a)) n (K i t)
  | 0 => by
    show K i t = _
    split <;> rfl
  | n + 1 => by
    have ih := tdK_at T si Y K i t n
    have hst : tdK T si Y K (n + 1) = if T 11 n = Y ∧ ¬ nI (T 8 n) = si then adK (tdK T si Y K n) (T 8 n) (T 9 n) (T 10 n) Y else tdK T si Y K n := rfl
    have hfm : fm (fun a => decide (T 8 a = i ∧ T 9 a = t ∧ T 11 a = Y)) (fun a => ky (T 10 a) (T 11 a)) (n + 1) (K i t) = if decide (T 8 n = i ∧ T 9 n = t ∧ T 11 n = Y) = true then max (ky (T 10 n) (T 11 n)) (fm (fun a => decide (T 8 a = i ∧ T 9 a = t ∧ T 11 a = Y)) (fun a => ky (T 10 a) (T 11 a)) n (K i t)) else fm (fun a => decide (T 8 a = i ∧ T 9 a = t ∧ T 11 a = Y)) (fun a => ky (T 10 a) (T 11 a)) n (K i t) := rfl
    rw [hst, hfm]
    simp only [decide_eq_true_eq]
    by_cases c : T 11 n = Y ∧ ¬ nI (T 8 n) = si
    · rw [if_pos c]
      unfold adK
      rw [ih]
      by_cases d : T 8 n = i ∧ T 9 n = t
      · rw [if_pos d, if_neg (by rw [← d.1]; exact c.2), if_neg (by rw [← d.1]; exact c.2), if_pos ⟨d.1, d.2, c.1⟩, c.1]
      · rw [if_neg d]
        by_cases e : nI i = si
        · rw [if_pos e, if_pos e]
        · rw [if_neg e, if_neg e, if_neg (fun x => d ⟨x.1, x.2.1⟩)]
    · rw [if_neg c, ih]
      by_cases e : nI i = si
      · rw [if_pos e, if_pos e]
      · rw [if_neg e, if_neg e, if_neg (fun x => c ⟨x.2.2, by rw [x.1]; exact e⟩)]
theorem tdK_KK (T : TA) (fe : Int32) (made : Nat → Nat → Nat) (Y i t : Nat) : tdK T fe (Y + 1) (KK T fe made Y) (T 2 0) i t = KK T fe made (Y + 1) i t := by
  rw [tdK_at]
  unfold KK
  by_cases e : nI i = fe
  · rw [if_pos e, if_pos e, if_pos e]
  · rw [if_neg e, if_neg e, if_neg e, tk_fm, tk_fm, fm_x, fm_x (n := T 2 0) (x := made i t), fm_x (n := T 2 0) (x := made i t)]
    rw [fm_or (p := fun a => decide (T 8 a = i ∧ T 9 a = t ∧ T 11 a ≤ Y)) (q := fun a => decide (T 8 a = i ∧ T 9 a = t ∧ T 11 a = Y + 1)) (r := fun a => decide (T 8 a = i ∧ T 9 a = t ∧ T 11 a ≤ Y + 1)) (T 2 0) (fun a _ => by simp only [decide_eq_true_eq]; omega)]
    omega
/-- the class's Market z against the reference's row s: the same tale, the same silent person, the same year, the same pauses made -/
def RQ (T : TA) (fe : Int32) (z : Nat → Nat → Nat → Int32) (s : Nat → Int32) (made : Nat → Nat → Nat) (Y : Nat) : Prop :=
  z 1 0 0 = nI Y ∧ z 2 0 0 = fe ∧ RS s T (z 3 0, z 4 0, z 5 0) ∧ TT T (KK T fe made Y) (z 6) (z 7) (z 8) (z 9) ∧ KI T (KK T fe made Y) Y ∧ SY s Y made
theorem sell_keep {C : Nat → Nat → Nat} {Z : Nat → Nat → Int32} {P N t : Nat} {σ : S3} {t' : Nat} (h : t' ≠ t) : (sellS C Z P N t σ).2.2.1 t' = σ.2.1 t' := by
  unfold sellS
  split
  · rfl
  · split
    · show upd σ.2.1 t _ t' = _
      rw [upd_at, if_neg h]
    · split
      · show upd σ.2.1 t _ t' = _
        rw [upd_at, if_neg h]
      · rfl
theorem sales_keep {C : Nat → Nat → Nat} {Z : Nat → Nat → Int32} {P N : Nat} {σ : S3} {t' : Nat} (h : ¬ σ.2.1 t' = -4) : ∀ n, (salesS C Z P N n σ).2.2.1 t' = σ.2.1 t'
  | 0 => rfl
  | n + 1 => by
    have ih := sales_keep (C := C) (Z := Z) (P := P) (N := N) h n
    have hst : salesS C Z P N (n + 1) σ = if (salesS C Z P N n σ).2.2.1 n = -4 then (if (sellS C Z P N n (salesS C Z P N n σ).2).1 = 0 then (salesS C Z P N n σ).1 else (salesS C Z P N n σ).1 + 1, (sellS C Z P N n (salesS C Z P N n σ).2).2) else salesS C Z P N n σ := rfl
    rw [hst]
    by_cases c : (salesS C Z P N n σ).2.2.1 n = -4
    · rw [if_pos c]
      have hne : t' ≠ n := fun e => h (by rw [← ih, e]; exact c)
      exact (sell_keep hne).trans ih
    · rw [if_neg c]
      exact ih
section BOTH
variable {T : TA} {m μ : Mem} {q Y : Nat} {made : Nat → Nat → Nat} {s : Nat → Int32} {fe : Int32}
theorem b_fair (hq : q < 12) (hM : MS (xa m 20 4 0 s) T made Y) (hf : m 20 12 0 0 = fe) (hX : TX (μ 13) T) (hY : Y + 1 < 128) (hR : RQ T fe (μ q) s made Y) :
    ∃ n ν s', X1_holdFair q μ = some (n, ν) ∧ X6_holds (xa m 20 4 0 s) = some (n, xa m 20 4 0 s') ∧ (∀ q', q' ≠ q → ν q' = μ q') ∧ RQ T fe (ν q) s' made (Y + 1) ∧ MS (xa m 20 4 0 s') T made (Y + 1) ∧ ∀ t, ¬ μ q 4 0 t = -4 → ν q 4 0 t = μ q 4 0 t := by
  obtain ⟨r1, r2, r3, r4, r5, r6⟩ := hR
  have hB := hM.1
  obtain ⟨s', h1, h2, h3⟩ := m_holds hM r3
  have hKM : KM m T made Y = KK T fe made Y := by unfold KM; rw [hf]
  rw [hKM] at h1 h2
  obtain ⟨br, sn, cn, pr, g1, g2, g3⟩ := x_fair (μ := μ) (q := q) (si := fe) (co := μ q 3 0) (ow := μ q 4 0) (mi := μ q 5 0) hq hB hX hY r4 r5
  rw [← r1, ← r2, MK_me, r2] at g1
  refine ⟨_, _, s', g1, h1, fun q' hq' => MK_o hq', ⟨MK_y, MK_si, ?_, ?_, ?_, h3⟩, ?_, fun t ht => ?_⟩
  · rw [MK_co, MK_ow, MK_mi]
    exact h2
  · rw [MK_br, MK_sn, MK_cn, MK_pr]
    exact TT_cong (fun i _ t _ => (tdK_KK T fe made Y i t).symm) g2
  · exact KI_cong (fun i _ t _ => (tdK_KK T fe made Y i t).symm) g3
  · obtain ⟨a1, a2, -, -⟩ := MS_44 hM (s2 := s) (by have := hM.2.2.1; rw [xa4_4] at this; exact this)
    exact ⟨a1, by rw [xa4_2]; rw [xa4_2] at a2; exact a2, by rw [xa4_4]; exact h3, hY⟩
  · rw [MK_ow]
    exact sales_keep ht _
end BOTH
