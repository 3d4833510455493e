/-! THE SPEC, over numbers: a tale T (field, place), keys of pauses; and the reference's small methods -/
abbrev TA : Type := Nat → Nat → Nat
/-- the bounds of a tale -/
def TB (T : TA) : Prop := T 0 0 ≤ 6 ∧ T 1 0 ≤ 6 ∧ T 2 0 ≤ 9 ∧ T 3 0 ≤ 30 ∧ T 4 0 ≤ 9 ∧ (∀ i, i < T 0 0 → T 5 i ≤ 3 ∧ T 6 i ≤ 99) ∧ (∀ t, t < T 1 0 → 1 ≤ T 7 t ∧ T 7 t ≤ 60) ∧ ∀ a, a < T 2 0 → T 8 a < T 0 0 ∧ T 9 a < T 1 0 ∧ 1 ≤ T 10 a ∧ T 10 a ≤ 30 ∧ T 11 a ≤ 9
/-- the reference's row of a tale -/
def TM (d : Nat → Int32) (T : TA) : Prop := d 0 = nI (T 0 0) ∧ d 1 = nI (T 1 0) ∧ d 2 = nI (T 2 0) ∧ d 3 = nI (T 3 0) ∧ d 4 = nI (T 4 0) ∧ (∀ i, i < T 0 0 → d (5 + i) = nI (T 5 i) ∧ d (11 + i) = nI (T 6 i)) ∧ (∀ t, t < T 1 0 → d (17 + t) = nI (T 7 t)) ∧ ∀ a, a < T 2 0 → d (23 + a) = nI (T 8 a) ∧ d (32 + a) = nI (T 9 a) ∧ d (41 + a) = nI (T 10 a) ∧ d (50 + a) = nI (T 11 a)
def cnt (k b : Nat) : Nat := if k = 1 then b - 2 else if k = 2 then 3 * b else if k = 3 then 2 * b else b
def ky (b y : Nat) : Nat := 128 * b + (127 - y)
def unk (K : Nat) : Nat := 128 * (K / 128) + (127 - K % 128)
theorem unk_d (K : Nat) : unk K / 128 = K / 128 := by unfold unk; omega
theorem unk_m (K : Nat) : unk K % 128 = 127 - K % 128 := by unfold unk; omega
theorem unk_lt {K : Nat} (h : K < 4096) : unk K < 4096 := by unfold unk; omega
theorem unk_ky {b y : Nat} (h : y ≤ 127) : unk (ky b y) = 128 * b + y := by unfold unk ky; omega
theorem ky_lt {b y : Nat} (h : b ≤ 30) : ky b y < 4096 := by unfold ky; omega
/-- the pauses told, up to the year Y, beside those made -/
def tk (T : TA) (Y i t : Nat) (made : Nat) (n : Nat) : Nat := fo (fun a m => if T 8 a = i ∧ T 9 a = t ∧ T 11 a ≤ Y then max (ky (T 10 a) (T 11 a)) m else m) n made
/-- the key of the pause that stands -/
def KK (T : TA) (fe : Int32) (made : Nat → Nat → Nat) (Y i t : Nat) : Nat := if nI i = fe then 127 else tk T Y i t (made i t) (T 2 0)
theorem tk_lt {T : TA} (hB : TB T) {Y i t made : Nat} (hm : made < 4096) : ∀ n, n ≤ T 2 0 → tk T Y i t made n < 4096 := by
  intro n
  induction n with
  | zero => intro _; exact hm
  | succ n ih =>
    intro hn
    have h1 := ih (by omega)
    have h2 := (hB.2.2.2.2.2.2.2 n (by omega)).2.2.2.1
    have h3 := ky_lt (y := T 11 n) h2
    show (if _ then max _ (tk T Y i t made n) else tk T Y i t made n) < 4096
    split
    · exact Nat.max_lt.mpr ⟨h3, h1⟩
    · exact h1
theorem KK_lt {T : TA} (hB : TB T) {fe : Int32} {Y i t : Nat} {made : Nat → Nat → Nat} (hm : made i t < 4096) : KK T fe made Y i t < 4096 := by
  unfold KK
  split
  · omega
  · exact tk_lt hB hm _ (Nat.le_refl _)
theorem m_in (v a b : Int32) (m : Mem) : X6_in v a b m = some (if a ≤ v ∧ v ≤ b then 1 else 0, m) := by
  unfold X6_in
  by_cases h1 : v < a
  · rw [if_pos h1, if_neg (fun e => Int32.not_le.mpr h1 e.1)]
  · by_cases h2 : b < v
    · rw [if_neg h1, if_pos h2, if_neg (fun e => Int32.not_le.mpr h2 e.2)]
    · rw [if_neg h1, if_neg h2, if_pos ⟨Int32.not_lt.mp h1, Int32.not_lt.mp h2⟩]
theorem m_better {a b : Nat} (ha : a < 4096) (hb : b < 4096) (m : Mem) : X6_better (nI (unk a)) (nI (unk b)) m = some (nI (unk (max a b)), m) := by
  have h1 := unk_lt ha
  have h2 := unk_lt hb
  unfold X6_better X6_better_b39 X6_better_b43 X6_better_b44
  simp (discharger := omega) only [dv128, rmB]
  simp (discharger := omega) only [ltN, eqN, unk_d, unk_m]
  by_cases c1 : b / 128 < a / 128
  · rw [if_pos c1, Nat.max_eq_left (by omega)]
    simp
  · rw [if_neg c1]
    by_cases c2 : a / 128 = b / 128
    · rw [if_pos c2]
      by_cases c3 : 127 - b % 128 < 127 - a % 128
      · rw [if_pos c3, Nat.max_eq_right (by omega)]
        simp
      · rw [if_neg c3, Nat.max_eq_left (by omega)]
        simp
    · rw [if_neg c2, Nat.max_eq_right (by omega)]
      simp
/-- the reference's row of the state: the year, the keys of the pauses made -/
def SY (s : Nat → Int32) (Y : Nat) (made : Nat → Nat → Nat) : Prop := s 54 = nI Y ∧ ∀ i, i < 6 → ∀ t, t < 6 → s (18 + 6 * i + t) = nI (unk (made i t)) ∧ made i t < 4096
theorem m_pauseNow {T : TA} {m : Mem} {Y i t : Nat} {made : Nat → Nat → Nat} (hB : TB T) (hT : TM (m 20 2 0) T) (hS : SY (m 20 4 0) Y made) (hY : Y < 128) (hi : i < T 0 0) (ht : t < T 1 0) : X6_pauseNow (nI i) (nI t) m = some (nI (unk (KK T (m 20 12 0 0) made Y i t)), m) := by
  obtain ⟨b0, b1, b2, -, -, -, -, b8⟩ := id hB
  obtain ⟨t0, t1, t2, -, -, -, -, t8⟩ := hT
  obtain ⟨hs1, hs2⟩ := hS
  obtain ⟨hs3, hs4⟩ := hs2 i (by omega) t (by omega)
  unfold X6_pauseNow
  simp (discharger := omega) only [mu6, ad18, nI_add, giN, clN]
  rw [hs3]
  refine lo2_eq (T 2 0) (fun k => nI (unk (tk T Y i t (made i t) k))) (fun k => nI k) (fun _ => m) ?_ ?_ 1000 (by omega)
  · intro k hk K
    obtain ⟨e1, e2, e3, e4⟩ := t8 k hk
    obtain ⟨c1, c2, c3, c4, c5⟩ := b8 k hk
    have hk1 := tk_lt hB (Y := Y) (i := i) (t := t) hs4 k (by omega)
    have hk2 := ky_lt (y := T 11 k) c4
    have hu : 128 * T 10 k + T 11 k = unk (ky (T 10 k) (T 11 k)) := (unk_ky (by omega)).symm
    unfold X6_pauseNow_b18 X6_pauseNow_b107
    simp (discharger := omega) only [gl2, gl54, tc2, tc54, t2, ad23, ad32, ad41, ad50, giN, clN, e1, e2, e3, e4, hs1, leN, eqN, ltN, mu128, nI_add, nI_1, hu]
    rw [if_neg (by omega)]
    have hst : tk T Y i t (made i t) (k + 1) = if T 8 k = i ∧ T 9 k = t ∧ T 11 k ≤ Y then max (ky (T 10 k) (T 11 k)) (tk T Y i t (made i t) k) else tk T Y i t (made i t) k := rfl
    by_cases a1 : T 8 k = i
    · rw [if_pos a1]
      by_cases a2 : T 9 k = t
      · rw [if_pos a2]
        by_cases a3 : Y < T 11 k
        · rw [if_pos a3, hst, if_neg (by omega)]
        · rw [if_neg a3, m_better hk2 hk1, bdO, hst, if_pos ⟨a1, a2, by omega⟩]
      · rw [if_neg a2, hst, if_neg (fun e => a2 e.2.1)]
    · rw [if_neg a1, hst, if_neg (fun e => a1 e.1)]
  · intro K
    unfold X6_pauseNow_b18
    simp (discharger := omega) only [gl2, tc2, t2, leN]
    rw [if_pos (Nat.le_refl _)]
    unfold KK
    by_cases h : nI i = m 20 12 0 0
    · rw [if_pos h, if_pos h]
      rfl
    · rw [if_neg h, if_neg h]
