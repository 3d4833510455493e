/-! THE RELATION between the class's memory and the reference's -/
def RZ (T : TA) (z : Nat → Nat → Nat → Int32) (s : Nat → Int32) : Prop := ∃ made Y, Y ≤ 99 ∧ RQ T (-4) z s made Y
def RH (T : TA) (x m : Mem) : Prop := ∃ h nx : Nat, h ≤ 8 ∧ nx < 8 ∧ x 15 1 0 0 = nI nx ∧ x 15 2 0 0 = nI h ∧ m 20 6 0 0 = nI h ∧ ∀ k, k < h → RZ T (x (2 + (nx + 8 - h + k) % 8)) (fun j => m 20 5 0 (55 * k + j))
def RP (T : TA) (x m : Mem) : Prop := ∃ c : Nat, c ≤ 2 ∧ x 17 10 0 0 = nI c ∧ m 20 8 0 0 = nI c ∧ ∀ k, k < c → RZ T (x (10 + k)) (fun j => m 20 7 0 (55 * k + j))
def RN (T : TA) (x m : Mem) : Prop := ∃ n : Nat, n ≤ 6 ∧ x 16 3 0 0 = nI n ∧ m 20 10 0 0 = nI n ∧ ∀ k, k < n → ∃ t i f : Nat, t < T 1 0 ∧ i < T 0 0 ∧ 1 ≤ f ∧ f ≤ 9 ∧ x 16 0 0 k = nI t ∧ x 16 1 0 k = nI i ∧ x 16 2 0 k = nI f ∧ m 20 9 0 k = nI (100 * f + 10 * t + i)
def RX (x m : Mem) : Prop := ∃ n : Nat, n ≤ 200 ∧ x 17 9 0 0 = nI n ∧ m 20 1 0 0 = nI n ∧ ∀ k, k < n → x 17 0 0 k = m 20 0 0 k ∧ ∃ c, 32 ≤ c ∧ c ≤ 126 ∧ m 20 0 0 k = nI c
def R0 (T : TA) (x m : Mem) : Prop := TB T ∧ 1 ≤ T 0 0 ∧ 1 ≤ T 1 0 ∧ TM (m 20 2 0) T ∧ TX (x 13) T ∧ m 20 12 0 0 = -4
def RR (x m : Mem) : Prop := ∃ T, R0 T x m ∧ RZ T (x 0) (m 20 4 0) ∧ RH T x m ∧ RP T x m ∧ RN T x m ∧ RX x m
def OP (fx fm : Mem → Option (Int32 × Mem)) : Prop := ∀ x m, RR x m → ∃ r x' m', fx x = some (r, x') ∧ fm m = some (r, m') ∧ RR x' m'
theorem RZ_cong {T : TA} {z z' : Nat → Nat → Nat → Int32} {s s' : Nat → Int32} (hB : TB T) (hz : ZC z' z) (hs : ∀ k, k < 55 → s' k = s k) (h : RZ T z s) : RZ T z' s' := by
  obtain ⟨made, Y, hY, h⟩ := h
  exact ⟨made, Y, hY, RQ_cong hB hz hs h⟩
theorem RH_cong {T : TA} {x m x' m' : Mem} (h15 : x' 15 = x 15) (hx : ∀ q, 2 ≤ q → q < 10 → x' q = x q) (hm6 : m' 20 6 0 = m 20 6 0) (hm5 : m' 20 5 0 = m 20 5 0) (h : RH T x m) : RH T x' m' := by
  obtain ⟨n, nx, h1, h2, h3, h4, h5, h6⟩ := h
  refine ⟨n, nx, h1, h2, by rw [h15]; exact h3, by rw [h15]; exact h4, by rw [hm6]; exact h5, fun k hk => ?_⟩
  rw [hx _ (by omega) (by omega), hm5]
  exact h6 k hk
theorem RP_cong {T : TA} {x m x' m' : Mem} (h17 : x' 17 10 = x 17 10) (hx : ∀ q, 10 ≤ q → q < 12 → x' q = x q) (hm8 : m' 20 8 0 = m 20 8 0) (hm7 : m' 20 7 0 = m 20 7 0) (h : RP T x m) : RP T x' m' := by
  obtain ⟨c, h1, h2, h3, h4⟩ := h
  refine ⟨c, h1, by rw [h17]; exact h2, by rw [hm8]; exact h3, fun k hk => ?_⟩
  rw [hx _ (by omega) (by omega), hm7]
  exact h4 k hk
theorem RN_cong {T : TA} {x m x' m' : Mem} (h16 : x' 16 = x 16) (hm10 : m' 20 10 0 = m 20 10 0) (hm9 : m' 20 9 0 = m 20 9 0) (h : RN T x m) : RN T x' m' := by
  obtain ⟨n, h1, h2, h3, h4⟩ := h
  refine ⟨n, h1, by rw [h16]; exact h2, by rw [hm10]; exact h3, fun k hk => ?_⟩
  rw [h16, hm9]
  exact h4 k hk
theorem RX_cong {x m x' m' : Mem} (h17 : x' 17 9 = x 17 9) (h170 : x' 17 0 = x 17 0) (hm1 : m' 20 1 0 = m 20 1 0) (hm0 : m' 20 0 0 = m 20 0 0) (h : RX x m) : RX x' m' := by
  obtain ⟨n, h1, h2, h3, h4⟩ := h
  refine ⟨n, h1, by rw [h17]; exact h2, by rw [hm1]; exact h3, fun k hk => ?_⟩
  rw [h170, hm0]
  exact h4 k hk
theorem R0_cong {T : TA} {x m x' m' : Mem} (h13 : x' 13 = x 13) (hm2 : m' 20 2 0 = m 20 2 0) (hm12 : m' 20 12 0 = m 20 12 0) (h : R0 T x m) : R0 T x' m' := by
  obtain ⟨h1, h2, h3, h4, h5, h6⟩ := h
  exact ⟨h1, h2, h3, by rw [hm2]; exact h4, by rw [h13]; exact h5, by rw [hm12]; exact h6⟩
/-- what is tried alone: the trial Market, the draft, the reader; the reference's draft, held, at, and its row put back -/
theorem RR_frame {x m x' m' : Mem} (h : RR x m) (hx : ∀ q, q ≠ 1 → q ≠ 12 → q ≠ 14 → x' q = x q) (hm : ∀ f, f ≠ 3 → f ≠ 4 → f ≠ 11 → f ≠ 13 → m' 20 f 0 = m 20 f 0) (hs : ∀ j, j < 55 → m' 20 4 0 j = m 20 4 0 j) : RR x' m' := by
  obtain ⟨T, h0, hz, hh, hp, hn, ht⟩ := h
  have e17 := hx 17 (by omega) (by omega) (by omega)
  refine ⟨T, R0_cong (hx 13 (by omega) (by omega) (by omega)) (hm 2 (by omega) (by omega) (by omega) (by omega)) (hm 12 (by omega) (by omega) (by omega) (by omega)) h0, ?_, RH_cong (hx 15 (by omega) (by omega) (by omega)) (fun q h1 h2 => hx q (by omega) (by omega) (by omega)) (hm 6 (by omega) (by omega) (by omega) (by omega)) (hm 5 (by omega) (by omega) (by omega) (by omega)) hh, RP_cong (by rw [e17]) (fun q h1 h2 => hx q (by omega) (by omega) (by omega)) (hm 8 (by omega) (by omega) (by omega) (by omega)) (hm 7 (by omega) (by omega) (by omega) (by omega)) hp, RN_cong (hx 16 (by omega) (by omega) (by omega)) (hm 10 (by omega) (by omega) (by omega) (by omega)) (hm 9 (by omega) (by omega) (by omega) (by omega)) hn, RX_cong (by rw [e17]) (by rw [e17]) (hm 1 (by omega) (by omega) (by omega) (by omega)) (hm 0 (by omega) (by omega) (by omega) (by omega)) ht⟩
  rw [hx 0 (by omega) (by omega) (by omega)]
  exact RZ_cong h0.1 (ZC_me _) hs hz
section ARG
variable {T : TA} {x m : Mem} {z : Nat}
theorem b_person (h1 : 1 ≤ T 0 0) (hB : TB T) (hX : TX (x z) T) (hM : TM (m 20 2 0) T) (v : Int32) : (∃ i, i < T 0 0 ∧ v = nI i ∧ X4_hasPerson z v x = some (1, x) ∧ X6_isPerson v m = some (1, m)) ∨ (X4_hasPerson z v x = some (0, x) ∧ X6_isPerson v m = some (0, m)) := by
  have b0 := hB.1
  have e : nI (T 0 0) - 1 = nI (T 0 0 - 1) := by rw [lt1, pk_sub h1]
  unfold X4_hasPerson X6_isPerson
  simp (discharger := omega) only [hX.1, gl0, tc0, hM.1, m_in, bdO, e]
  rcases pk_ix v (n := T 0 0) (by omega) with h | h | ⟨i, hi, rfl⟩
  · right
    rw [if_pos h, if_neg (fun a => Int32.not_le.mpr h a.1), gb0]
    exact ⟨rfl, rfl⟩
  · right
    have h0 : ¬ v < 0 := fun a => by
      have := Int32.lt_of_le_of_lt h a
      exact nN0 (k := T 0 0) (by omega) this
    have h9 : ¬ v ≤ nI (T 0 0 - 1) := fun a => by
      have := Int32.le_trans h a
      rw [leN (by omega) (by omega)] at this
      omega
    rw [if_neg h0, if_pos h, if_neg (fun a => h9 a.2), gb0]
    exact ⟨rfl, rfl⟩
  · left
    refine ⟨i, hi, rfl, ?_, ?_⟩
    · rw [if_neg (nN0 (by omega)), if_neg (by rw [leN (by omega) (by omega)]; omega)]
    · rw [if_pos ⟨by rw [lt0, leN (by omega) (by omega)]; omega, by rw [leN (by omega) (by omega)]; omega⟩, gb1]
theorem b_thing (h1 : 1 ≤ T 1 0) (hB : TB T) (hX : TX (x z) T) (hM : TM (m 20 2 0) T) (v : Int32) : (∃ i, i < T 1 0 ∧ v = nI i ∧ X4_hasThing z v x = some (1, x) ∧ X6_isThing v m = some (1, m)) ∨ (X4_hasThing z v x = some (0, x) ∧ X6_isThing v m = some (0, m)) := by
  have b0 := hB.2.1
  have e : nI (T 1 0) - 1 = nI (T 1 0 - 1) := by rw [lt1, pk_sub h1]
  unfold X4_hasThing X6_isThing
  simp (discharger := omega) only [hX.2.1, gl1, tc1, hM.2.1, m_in, bdO, e]
  rcases pk_ix v (n := T 1 0) (by omega) with h | h | ⟨i, hi, rfl⟩
  · right
    rw [if_pos h, if_neg (fun a => Int32.not_le.mpr h a.1), gb0]
    exact ⟨rfl, rfl⟩
  · right
    have h0 : ¬ v < 0 := fun a => by
      have := Int32.lt_of_le_of_lt h a
      exact nN0 (k := T 1 0) (by omega) this
    have h9 : ¬ v ≤ nI (T 1 0 - 1) := fun a => by
      have := Int32.le_trans h a
      rw [leN (by omega) (by omega)] at this
      omega
    rw [if_neg h0, if_pos h, if_neg (fun a => h9 a.2), gb0]
    exact ⟨rfl, rfl⟩
  · left
    refine ⟨i, hi, rfl, ?_, ?_⟩
    · rw [if_neg (nN0 (by omega)), if_neg (by rw [leN (by omega) (by omega)]; omega)]
    · rw [if_pos ⟨by rw [lt0, leN (by omega) (by omega)]; omega, by rw [leN (by omega) (by omega)]; omega⟩, gb1]
end ARG
/-! a pause on both sides -/
def adM (made : Nat → Nat → Nat) (i t b Y : Nat) : Nat → Nat → Nat := fun i' t' => if i = i' ∧ t = t' then max (ky b Y) (made i' t') else made i' t'
theorem KK_adM (T : TA) (made : Nat → Nat → Nat) (Y i t b : Nat) {i' t' : Nat} (hi : i' < 100000) : KK T (-4) (adM made i t b Y) Y i' t' = adK (KK T (-4) made Y) i t b Y i' t' := by
  have e : ¬ nI i' = -4 := neM hi
  unfold KK adK adM
  simp only [if_neg e]
  by_cases c : i = i' ∧ t = t'
  · rw [if_pos c, if_pos c, tk_fm, tk_fm, fm_x, fm_x (x := made i' t')]
    omega
  · rw [if_neg c, if_neg c]
section BP
variable {T : TA} {m μ : Mem} {q Y : Nat} {made : Nat → Nat → Nat} {s : Nat → Int32}
theorem b_pauses (hq : q < 12) (hM : MS (xa m 20 4 0 s) T made Y) (hX : TX (μ 13) T) (hR : RQ T (-4) (μ q) s made Y) {i t b : Nat} (hi : i < T 0 0) (ht : t < T 1 0) (hb1 : 1 ≤ b) (hb : b ≤ 30) :
    ∃ ν s', X1_addPause q (nI i) (nI t) (nI b) μ = some ν ∧ X6_pauses (nI i) (nI t) (nI b) (xa m 20 4 0 s) = some (xa m 20 4 0 s') ∧ (∀ q', q' ≠ q → ν q' = μ q') ∧ RQ T (-4) (ν q) s' (adM made i t b Y) Y ∧ MS (xa m 20 4 0 s') T (adM made i t b Y) Y := by
  obtain ⟨r1, r2, r3, r4, r5, r6⟩ := hR
  obtain ⟨hB, hT, hS, hY⟩ := id hM
  rw [xa4_2] at hT
  have b0 := hB.1
  have b1 := hB.2.1
  obtain ⟨e1, e2⟩ := r6.2 i (by omega) t (by omega)
  obtain ⟨br, sn, cn, pr, g1, g2, g3⟩ := x_addPause (μ := μ) (q := q) (si := -4) (co := μ q 3 0) (ow := μ q 4 0) (mi := μ q 5 0) hq hB hX hY r4 r5 hi ht hb1 hb
  rw [← r1, ← r2, MK_me, r1, r2] at g1
  have hky := ky_lt (y := Y) hb
  have hkey : 128 * b + Y = unk (ky b Y) := (unk_ky (by omega)).symm
  have hS2 : SY (upd s (18 + 6 * i + t) (nI (unk (max (ky b Y) (made i t))))) Y (adM made i t b Y) := by
    refine ⟨by rw [upd_at, if_neg (by omega)]; exact r6.1, fun i' hi' t' ht' => ?_⟩
    unfold adM
    obtain ⟨f1, f2⟩ := r6.2 i' hi' t' ht'
    by_cases c : i = i' ∧ t = t'
    · obtain ⟨rfl, rfl⟩ := c
      rw [upd_at, if_pos rfl, if_pos ⟨rfl, rfl⟩]
      exact ⟨rfl, by omega⟩
    · rw [upd_at, if_neg c, if_neg (by omega)]
      exact ⟨f1, f2⟩
  have hRS : RS (upd s (18 + 6 * i + t) (nI (unk (max (ky b Y) (made i t))))) T (μ q 3 0, μ q 4 0, μ q 5 0) := by
    obtain ⟨q1, q2, q3⟩ := r3
    refine ⟨fun j hj => ?_, fun j hj => ?_, fun j hj => ?_⟩
    · rw [upd_at, if_neg (by omega)]; exact q1 j hj
    · rw [upd_at, if_neg (by omega)]; exact q2 j hj
    · rw [upd_at, if_neg (by omega)]; exact q3 j hj
  have hm : X6_pauses (nI i) (nI t) (nI b) (xa m 20 4 0 s) = some (xa m 20 4 0 (upd s (18 + 6 * i + t) (nI (unk (max (ky b Y) (made i t)))))) := by
    have hu := unk_lt e2
    unfold X6_pauses X6_pauses_b59
    simp (discharger := omega) only [gl54, tc54, mu6, ad18, nI_add, giN, clN, xa4_4, e1, r6.1, mu128, hkey, m_better e2 hky, bdO, xs4]
    by_cases c : unk (made i t) = 0
    · have hm127 : made i t = 127 := by unfold unk at c; omega
      have hmx : max (ky b Y) (made i t) = ky b Y := by rw [hm127]; unfold ky; omega
      rw [if_pos (by rw [c]; rfl), hmx]
    · have c' : ¬ nI (unk (made i t)) = 0 := by rw [lt0, eqN (by omega) (by omega)]; exact c
      rw [if_neg c', Nat.max_comm]
  refine ⟨_, _, g1, hm, fun q' hq' => MK_o hq', ⟨MK_y, MK_si, ?_, ?_, ?_, hS2⟩, ⟨hB, by rw [xa4_2]; exact hT, by rw [xa4_4]; exact hS2, hY⟩⟩
  · rw [MK_co, MK_ow, MK_mi]
    exact hRS
  · rw [MK_br, MK_sn, MK_cn, MK_pr]
    exact TT_cong (fun i' hi' t' ht' => KK_adM T made Y i t b (by omega)) g2
  · exact KI_cong (fun i' hi' t' ht' => KK_adM T made Y i t b (by omega)) g3
end BP
