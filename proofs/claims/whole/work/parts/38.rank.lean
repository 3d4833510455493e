/-! WANTED, RANK, CHEAPEST -/
def cb (p : Nat → Bool) (n : Nat) : Nat := fo (fun u a => if p u = true then a + 1 else a) n 0
theorem cb_s (p : Nat → Bool) (n : Nat) : cb p (n + 1) = if p n = true then cb p n + 1 else cb p n := rfl
theorem cb_le (p : Nat → Bool) : ∀ n, cb p n ≤ n
  | 0 => Nat.le_refl 0
  | n + 1 => by
    have := cb_le p n
    rw [cb_s]
    split <;> omega
theorem cb_mono {p q : Nat → Bool} : ∀ n, (∀ u, u < n → p u = true → q u = true) → cb p n ≤ cb q n
  | 0, _ => Nat.le_refl 0
  | n + 1, h => by
    have ih := cb_mono n (fun u hu => h u (by omega))
    have hn := h n (by omega)
    rw [cb_s, cb_s]
    by_cases c : p n = true
    · rw [if_pos c, if_pos (hn c)]; omega
    · rw [if_neg c]
      split <;> omega
theorem cb_lt {p q : Nat → Bool} {w : Nat} (hw1 : q w = true) (hw2 : ¬ p w = true) : ∀ n, (∀ u, u < n → p u = true → q u = true) → w < n → cb p n < cb q n
  | 0, _, h => absurd h (by omega)
  | n + 1, h, hw => by
    rw [cb_s, cb_s]
    by_cases e : w = n
    · subst e
      have := cb_mono w (fun u hu => h u (by omega))
      rw [if_neg hw2, if_pos hw1]
      omega
    · have ih := cb_lt hw1 hw2 n (fun u hu => h u (by omega)) (by omega)
      have hn := h n (by omega)
      by_cases c : p n = true
      · rw [if_pos c, if_pos (hn c)]; omega
      · rw [if_neg c]
        split <;> omega
section RK
variable {T : TA} {x m : Mem} {made : Nat → Nat → Nat} {Y : Nat}
/-- near, in the class's table and in the reference's words -/
def nr (T : TA) (made : Nat → Nat → Nat) (Y i t : Nat) : Bool := decide (8 < CT T (KK T (-4) made Y) i t)
theorem nr_z (hB : TB T) {i t : Nat} (ht : t < T 1 0) : (ZZ T (KK T (-4) made Y) i t = -4) ↔ ¬ nr T made Y i t = true := by
  unfold nr ZZ
  simp only [decide_eq_true_eq]
  have hpl := PR_lt hB (K := KK T (-4) made Y) (i := i) ht
  by_cases d : 8 < CT T (KK T (-4) made Y) i t
  · rw [if_pos d]
    exact ⟨fun e => absurd e (neM (by omega)), fun e => absurd d e⟩
  · rw [if_neg d]
    exact ⟨fun _ => d, fun _ => rfl⟩
theorem nr_m (hM : MS m T made Y) (hf : m 20 12 0 0 = -4) {i t : Nat} (hi : i < T 0 0) (ht : t < T 1 0) : X6_isNearly (nI i) (nI t) m = some (if nr T made Y i t = true then 1 else 0, m) := by
  have hK : KM m T made Y = KK T (-4) made Y := by unfold KM; rw [hf]
  rw [m_isNearly hM hi ht, hK]
  unfold nr
  simp only [decide_eq_true_eq]
theorem pr_m (hM : MS m T made Y) (hf : m 20 12 0 0 = -4) {i t : Nat} (hi : i < T 0 0) (ht : t < T 1 0) : X6_priceOf (nI i) (nI t) m = some (nI (PR T (KK T (-4) made Y) i t), m) := by
  have hK : KM m T made Y = KK T (-4) made Y := by unfold KM; rw [hf]
  rw [m_priceOf hM hi ht, hK]
theorem ZZ_n {i t : Nat} (h : nr T made Y i t = true) : ZZ T (KK T (-4) made Y) i t = nI (PR T (KK T (-4) made Y) i t) := by
  unfold nr at h
  unfold ZZ
  rw [if_pos (of_decide_eq_true h)]
theorem x_wants (hB : TB T) (hT : TX (x 13) T) (hR : RQ T (-4) (x 0) (m 20 4 0) made Y) {t : Nat} (ht : t < T 1 0) : X1_wantersOf 0 (nI t) x = some (nI (cb (fun i => nr T made Y i t) (T 0 0)), x) := by
  have b0 := hB.1
  have b1 := hB.2.1
  have t0 := hT.1
  unfold X1_wantersOf
  refine lo2_eq (T 0 0) (fun k => nI (cb (fun i => nr T made Y i t) k)) (fun k => nI k) (fun _ => x) ?_ ?_ 1000 (by omega)
  · intro k hk K
    have hz := (hR.2.2.2.1 k hk t ht).2.2.2
    have hn := nr_z (made := made) (Y := Y) hB (i := k) ht
    have hc := cb_le (fun i => nr T made Y i t) k
    unfold X1_wantersOf_b4 X1_wantersOf_b31
    rw [cb_s]
    simp (discharger := omega) only [t0, leN, giN, clN, hz, nI_1]
    rw [if_neg (by omega)]
    by_cases c : nr T made Y k t = true
    · rw [if_neg (fun e => hn.mp e c), if_pos c]
    · rw [if_pos (hn.mpr c), if_neg c]
  · intro K
    unfold X1_wantersOf_b4
    simp (discharger := omega) only [t0, leN]
    rw [if_pos (Nat.le_refl _)]
theorem m_wants (hM : MS m T made Y) (hf : m 20 12 0 0 = -4) {t : Nat} (ht : t < T 1 0) : X6_wants (nI t) m = some (nI (cb (fun i => nr T made Y i t) (T 0 0)), m) := by
  have b0 := hM.1.1
  have t0 := hM.2.1.1
  unfold X6_wants
  refine lo2_eq (T 0 0) (fun k => nI (cb (fun i => nr T made Y i t) k)) (fun k => nI k) (fun _ => m) ?_ ?_ 1000 (by omega)
  · intro k hk K
    have hc := cb_le (fun i => nr T made Y i t) k
    unfold X6_wants_b4 X6_wants_b29
    rw [cb_s]
    simp (discharger := omega) only [gl0, tc0, t0, leN, nr_m hM hf hk ht, bdO, nI_1]
    rw [if_neg (by omega)]
    by_cases c : nr T made Y k t = true
    · rw [if_pos c, if10, if_pos c]
    · rw [if_neg c, if00, if_neg c, Int32.add_zero]
  · intro K
    unfold X6_wants_b4
    simp (discharger := omega) only [gl0, tc0, t0, leN]
    rw [if_pos (Nat.le_refl _)]
end RK
theorem op_wanted (v : Int32) : OP (X5_wanted v) (X6_wanted v) := by
  intro x m ⟨T, hA⟩
  have hA' : RA T x m := hA
  obtain ⟨hB, p1, n1, hTM, hTX, hf⟩ := hA'.1
  obtain ⟨made, Y, hY, hR, hM⟩ := RA_MS hA'
  have b0 := hB.1
  have b1 := hB.2.1
  unfold X5_wanted X6_wanted
  by_cases c1 : v < 0
  · rw [if_pos c1, m_inL c1, bdO, if00]
    exact ⟨_, _, _, rfl, rfl, T, hA⟩
  rw [if_neg c1]
  by_cases c2 : v ≤ 1
  · rw [if_pos c2, m_in1 (ge0 c1) c2, bdO, if10]
    have hcl : ∀ t, cb (fun i => nr T made Y i t) (T 0 0) ≤ 6 := fun t => Nat.le_trans (cb_le _ _) b0
    let W : Nat → Nat := fun t => cb (fun i => nr T made Y i t) (T 0 0)
    let bt : Nat → Nat := fun n => fo (fun k b => if W (k + 1) ≤ W b then b else k + 1) n 0
    have hbt : ∀ n, n < T 1 0 → bt n < T 1 0 := fun n hn => by
      have := fo_inv (f := fun k b => if W (k + 1) ≤ W b then b else k + 1) (a := 0) (fun k b => b ≤ k) (Nat.le_refl 0) n (fun k a hk ha => by
        by_cases c : W (k + 1) ≤ W a
        · rw [if_pos c]; omega
        · rw [if_neg c]; omega)
      exact Nat.lt_of_le_of_lt this hn
    have hX : lo2 (X5_wanted_b15 v) 1000 0 1 x = if v = 0 then some (nI (bt (T 1 0 - 1)), x) else some (nI (W (bt (T 1 0 - 1))), x) := by
      refine lo2_eq (T 1 0 - 1) (fun k => nI (bt k)) (fun k => nI (k + 1)) (fun _ => x) ?_ ?_ 1000 (by omega)
      · intro k hk K
        have hb := hbt k (by omega)
        have hst : bt (k + 1) = if W (k + 1) ≤ W (bt k) then bt k else k + 1 := rfl
        have w1 := hcl (k + 1)
        have w2 := hcl (bt k)
        unfold X5_wanted_b15 X5_wanted_b47
        rw [hst, hTX.2.1, if_neg (show ¬ nI (T 1 0) ≤ nI (k + 1) by rw [leN (by omega) (by omega)]; omega), x_wants hB hTX hR (by omega : k + 1 < T 1 0), bdO, x_wants hB hTX hR hb, bdO, nI_1]
        by_cases c : W (k + 1) ≤ W (bt k)
        · rw [if_pos c, if_pos (show nI (cb (fun i => nr T made Y i (k + 1)) (T 0 0)) ≤ nI (cb (fun i => nr T made Y i (bt k)) (T 0 0)) by rw [leN (by omega) (by omega)]; exact c)]
        · rw [if_neg c, if_neg (show ¬ nI (cb (fun i => nr T made Y i (k + 1)) (T 0 0)) ≤ nI (cb (fun i => nr T made Y i (bt k)) (T 0 0)) by rw [leN (by omega) (by omega)]; exact c)]
      · intro K
        unfold X5_wanted_b15
        rw [hTX.2.1, if_pos (show nI (T 1 0) ≤ nI (T 1 0 - 1 + 1) by rw [leN (by omega) (by omega)]; omega), x_wants hB hTX hR (hbt _ (by omega)), bdO]
    have hMl : lo2 (X6_wanted_b15 v) 1000 0 1 m = if v = 0 then some (nI (bt (T 1 0 - 1)), m) else some (nI (W (bt (T 1 0 - 1))), m) := by
      refine lo2_eq (T 1 0 - 1) (fun k => nI (bt k)) (fun k => nI (k + 1)) (fun _ => m) ?_ ?_ 1000 (by omega)
      · intro k hk K
        have hb := hbt k (by omega)
        have hst : bt (k + 1) = if W (k + 1) ≤ W (bt k) then bt k else k + 1 := rfl
        have w1 := hcl (k + 1)
        have w2 := hcl (bt k)
        unfold X6_wanted_b15 X6_wanted_b43
        rw [gl1 (by omega) (by omega), tc1, hst, hTM.2.1, if_neg (show ¬ nI (T 1 0) ≤ nI (k + 1) by rw [leN (by omega) (by omega)]; omega), m_wants hM hf (by omega : k + 1 < T 1 0), bdO, m_wants hM hf hb, bdO, nI_1]
        by_cases c : W (k + 1) ≤ W (bt k)
        · rw [if_pos c, if_pos (show nI (cb (fun i => nr T made Y i (k + 1)) (T 0 0)) ≤ nI (cb (fun i => nr T made Y i (bt k)) (T 0 0)) by rw [leN (by omega) (by omega)]; exact c)]
        · rw [if_neg c, if_neg (show ¬ nI (cb (fun i => nr T made Y i (k + 1)) (T 0 0)) ≤ nI (cb (fun i => nr T made Y i (bt k)) (T 0 0)) by rw [leN (by omega) (by omega)]; exact c)]
      · intro K
        unfold X6_wanted_b15
        rw [gl1 (by omega) (by omega), tc1, hTM.2.1, if_pos (show nI (T 1 0) ≤ nI (T 1 0 - 1 + 1) by rw [leN (by omega) (by omega)]; omega), m_wants hM hf (hbt _ (by omega)), bdO]
    rw [hX, hMl]
    by_cases c3 : v = 0
    · rw [if_pos c3, if_pos c3]
      exact ⟨_, _, _, rfl, rfl, T, hA⟩
    · rw [if_neg c3, if_neg c3]
      exact ⟨_, _, _, rfl, rfl, T, hA⟩
  · rw [if_neg c2, m_inH c2, bdO, if00]
    exact ⟨_, _, _, rfl, rfl, T, hA⟩
/-- the first in price, of several the lowest -/
def leastAt (T : TA) (made : Nat → Nat → Nat) (Y t lo hi i0 : Nat) : Prop := lo ≤ i0 ∧ i0 < hi ∧ nr T made Y i0 t = true ∧ ∀ j, lo ≤ j → j < hi → nr T made Y j t = true → PR T (KK T (-4) made Y) i0 t ≤ PR T (KK T (-4) made Y) j t ∧ (j < i0 → PR T (KK T (-4) made Y) i0 t < PR T (KK T (-4) made Y) j t)
theorem leastAt_one {T : TA} {made : Nat → Nat → Nat} {Y t lo hi i j : Nat} (h1 : leastAt T made Y t lo hi i) (h2 : leastAt T made Y t lo hi j) : i = j := by
  obtain ⟨a1, a2, a3, a4⟩ := h1
  obtain ⟨b1, b2, b3, b4⟩ := h2
  have h3 := a4 j b1 b2 b3
  have h4 := b4 i a1 a2 a3
  rcases Nat.lt_trichotomy i j with h | h | h
  · have := h4.2 h
    omega
  · exact h
  · have := h3.2 h
    omega
theorem op_cheapest (a v : Int32) : OP (X5_cheapest a v) (X6_cheapest a v) := by
  intro x m ⟨T, hA⟩
  have hA' : RA T x m := hA
  obtain ⟨hB, p1, n1, hTM, hTX, hf⟩ := hA'.1
  obtain ⟨made, Y, hY, hR, hM⟩ := RA_MS hA'
  have b0 := hB.1
  have b1 := hB.2.1
  unfold X5_cheapest X6_cheapest
  rcases b_thing n1 hB hTX hTM a with ⟨t, ht, rfl, e3, e4⟩ | ⟨e3, e4⟩
  · rw [e3, e4, bdO, bdO, if10, if10]
    by_cases c1 : v < 0
    · rw [if_pos c1, m_inL c1, bdO, if00]
      exact ⟨_, _, _, rfl, rfl, T, hA⟩
    rw [if_neg c1]
    by_cases c2 : v ≤ 1
    · rw [if_pos c2, m_in1 (ge0 c1) c2, bdO, if10]
      have hpl : ∀ i, PR T (KK T (-4) made Y) i t < 2000 := fun i => PR_lt hB ht
      -- the class, upward
      obtain ⟨u1, u2, u3, ν, ⟨rfl, hu3, hI⟩, K9, e⟩ := lo3_inv (b := X5_cheapest_b32 (nI t) v) (T 0 0) (fun k u1 u2 u3 ν => ν = x ∧ u3 = nI k ∧ ((u1 = -4 ∧ u2 = -4 ∧ ∀ j, j < k → ¬ nr T made Y j t = true) ∨ ∃ i0, u1 = nI i0 ∧ u2 = nI (PR T (KK T (-4) made Y) i0 t) ∧ leastAt T made Y t 0 k i0)) (fun k u1 u2 u3 ν hk hI => by
        obtain ⟨rfl, rfl, hI⟩ := hI
        have hz := (hR.2.2.2.1 k hk t ht).2.2.2
        have hn := nr_z (made := made) (Y := Y) hB (i := k) ht
        by_cases c : nr T made Y k t = true
        · have hzz := ZZ_n c
          have hkeep : ∀ i0, leastAt T made Y t 0 k i0 → PR T (KK T (-4) made Y) i0 t ≤ PR T (KK T (-4) made Y) k t → leastAt T made Y t 0 (k + 1) i0 := fun i0 ⟨q1, q2, q3, q4⟩ hle => ⟨q1, by omega, q3, fun j h1 h2 h3 => by
            by_cases e : j = k
            · subst e; exact ⟨hle, fun h => by omega⟩
            · exact q4 j h1 (by omega) h3⟩
          have hnew : (∀ j, j < k → nr T made Y j t = true → PR T (KK T (-4) made Y) k t < PR T (KK T (-4) made Y) j t) → leastAt T made Y t 0 (k + 1) k := fun hh => ⟨by omega, by omega, c, fun j h1 h2 h3 => by
            by_cases e : j = k
            · subst e; exact ⟨Nat.le_refl _, fun h => by omega⟩
            · have := hh j (by omega) h3
              exact ⟨by omega, fun _ => this⟩⟩
          rcases hI with ⟨rfl, rfl, h0⟩ | ⟨i0, rfl, rfl, hl⟩
          · refine ⟨nI k, nI (PR T (KK T (-4) made Y) k t), nI (k + 1), ν, ⟨rfl, rfl, Or.inr ⟨k, rfl, rfl, hnew (fun j hj h3 => absurd h3 (h0 j hj))⟩⟩, fun Kc => ?_⟩
            unfold X5_cheapest_b32 X5_cheapest_b78 X5_cheapest_b85
            simp (discharger := omega) only [hTX.1, leN, giN, clN, hz, hzz, nI_1]
            rw [if_neg (by omega), if_neg (neM (by have := hpl k; omega)), if_pos trivial]
          · have hi0 := hl.2.1
            by_cases d : PR T (KK T (-4) made Y) i0 t ≤ PR T (KK T (-4) made Y) k t
            · refine ⟨nI i0, nI (PR T (KK T (-4) made Y) i0 t), nI (k + 1), ν, ⟨rfl, rfl, Or.inr ⟨i0, rfl, rfl, hkeep i0 hl d⟩⟩, fun Kc => ?_⟩
              have g1 := hpl i0
              have g2 := hpl k
              unfold X5_cheapest_b32 X5_cheapest_b85
              simp (discharger := omega) only [hTX.1, leN, giN, clN, hz, hzz, nI_1]
              rw [if_neg (by omega), if_neg (neM (by omega)), if_neg (neM (by omega)), if_pos d]
            · refine ⟨nI k, nI (PR T (KK T (-4) made Y) k t), nI (k + 1), ν, ⟨rfl, rfl, Or.inr ⟨k, rfl, rfl, hnew (fun j hj h3 => by have := (hl.2.2.2 j (by omega) hj h3).1; omega)⟩⟩, fun Kc => ?_⟩
              have g1 := hpl i0
              have g2 := hpl k
              unfold X5_cheapest_b32 X5_cheapest_b78 X5_cheapest_b85
              simp (discharger := omega) only [hTX.1, leN, giN, clN, hz, hzz, nI_1]
              rw [if_neg (by omega), if_neg (neM (by omega)), if_neg (neM (by omega)), if_neg d]
        · refine ⟨u1, u2, nI (k + 1), ν, ⟨rfl, rfl, ?_⟩, fun Kc => ?_⟩
          · rcases hI with ⟨h1, h2, h0⟩ | ⟨i0, h1, h2, q1, q2, q3, q4⟩
            · refine Or.inl ⟨h1, h2, fun j hj => ?_⟩
              by_cases e : j = k
              · subst e; exact c
              · exact h0 j (by omega)
            · refine Or.inr ⟨i0, h1, h2, q1, by omega, q3, fun j g1 g2 g3 => ?_⟩
              by_cases e : j = k
              · subst e; exact absurd g3 c
              · exact q4 j g1 (by omega) g3
          · unfold X5_cheapest_b32 X5_cheapest_b85
            simp (discharger := omega) only [hTX.1, leN, giN, clN, hz, nI_1]
            rw [if_neg (by omega), if_pos (hn.mpr c)]) (-4) (-4) 0 x ⟨rfl, rfl, Or.inl ⟨rfl, rfl, fun j hj => absurd hj (by omega)⟩⟩ 1000 (by omega)
      -- the reference, downward
      obtain ⟨w1, w2, ω, ⟨rfl, hw2, hJ⟩, K8, e'⟩ := lo2_inv (b := X6_cheapest_b32 (nI t) v) (T 0 0) (fun k w1 w2 ω => ω = m ∧ w2 = (if k < T 0 0 then nI (T 0 0 - 1 - k) else -1) ∧ ((w1 = -4 ∧ ∀ j, T 0 0 - k ≤ j → j < T 0 0 → ¬ nr T made Y j t = true) ∨ ∃ i0, w1 = nI i0 ∧ leastAt T made Y t (T 0 0 - k) (T 0 0) i0)) (fun k w1 w2 ω hk hJ => by
        obtain ⟨rfl, rfl, hJ⟩ := hJ
        rw [if_pos hk]
        have hlt : T 0 0 - 1 - k < T 0 0 := by omega
        have hnx : nI (T 0 0 - 1 - k) + (-1) = (if k + 1 < T 0 0 then nI (T 0 0 - 1 - (k + 1)) else -1) := by
          by_cases d : k + 1 < T 0 0
          · rw [if_pos d, show T 0 0 - 1 - k = (T 0 0 - 1 - (k + 1)) + 1 by omega, pk_m1]
          · rw [if_neg d, show T 0 0 - 1 - k = 0 by omega]
            rfl
        have hlo : T 0 0 - (k + 1) = T 0 0 - 1 - k := by omega
        generalize hi9 : T 0 0 - 1 - k = i9 at hlt hnx hlo
        have h00 : ¬ nI i9 < 0 := nN0 (by omega)
        by_cases c : nr T made Y i9 t = true
        · have hnew : (∀ j, i9 < j → j < T 0 0 → nr T made Y j t = true → PR T (KK T (-4) made Y) i9 t ≤ PR T (KK T (-4) made Y) j t) → leastAt T made Y t (T 0 0 - (k + 1)) (T 0 0) i9 := fun hh => ⟨by omega, hlt, c, fun j h1 h2 h3 => by
            by_cases e : j = i9
            · subst e; exact ⟨Nat.le_refl _, fun h => by omega⟩
            · exact ⟨hh j (by omega) h2 h3, fun h => by omega⟩⟩
          rcases hJ with ⟨rfl, h0⟩ | ⟨i0, rfl, hl⟩
          · refine ⟨nI i9, _, ω, ⟨rfl, rfl, Or.inr ⟨i9, rfl, hnew (fun j g1 g2 g3 => absurd g3 (h0 j (by omega) g2))⟩⟩, fun Kc => ?_⟩
            unfold X6_cheapest_b32 X6_cheapest_b69 X6_cheapest_b75
            rw [if_neg h00, nr_m hM hf hlt ht, if_pos c, bdO, if10, if_pos rfl, hnx]
          · have hi0 := hl.2.1
            have g1 := hpl i0
            have g2 := hpl i9
            by_cases d : PR T (KK T (-4) made Y) i0 t < PR T (KK T (-4) made Y) i9 t
            · refine ⟨nI i0, _, ω, ⟨rfl, rfl, Or.inr ⟨i0, rfl, ?_⟩⟩, fun Kc => ?_⟩
              · obtain ⟨q1, q2, q3, q4⟩ := hl
                refine ⟨by omega, q2, q3, fun j h1 h2 h3 => ?_⟩
                by_cases e : j = i9
                · subst e; exact ⟨by omega, fun _ => d⟩
                · exact q4 j (by omega) h2 h3
              · unfold X6_cheapest_b32 X6_cheapest_b74 X6_cheapest_b75
                rw [if_neg h00, nr_m hM hf hlt ht, if_pos c, bdO, if10, if_neg (neM (by omega)), pr_m hM hf hlt ht, bdO, pr_m hM hf hi0 ht, bdO, if_pos (show nI (PR T (KK T (-4) made Y) i0 t) < nI (PR T (KK T (-4) made Y) i9 t) by rw [ltN (by omega) (by omega)]; exact d), hnx]
            · refine ⟨nI i9, _, ω, ⟨rfl, rfl, Or.inr ⟨i9, rfl, hnew (fun j g1 g2 g3 => ?_)⟩⟩, fun Kc => ?_⟩
              · have := (hl.2.2.2 j (by omega) g2 g3).1
                omega
              · unfold X6_cheapest_b32 X6_cheapest_b69 X6_cheapest_b75
                rw [if_neg h00, nr_m hM hf hlt ht, if_pos c, bdO, if10, if_neg (neM (by omega)), pr_m hM hf hlt ht, bdO, pr_m hM hf hi0 ht, bdO, if_neg (show ¬ nI (PR T (KK T (-4) made Y) i0 t) < nI (PR T (KK T (-4) made Y) i9 t) by rw [ltN (by omega) (by omega)]; exact d), hnx]
        · refine ⟨w1, _, ω, ⟨rfl, rfl, ?_⟩, fun Kc => ?_⟩
          · rcases hJ with ⟨h1, h0⟩ | ⟨i0, h1, q1, q2, q3, q4⟩
            · refine Or.inl ⟨h1, fun j g1 g2 => ?_⟩
              by_cases e : j = i9
              · subst e; exact c
              · exact h0 j (by omega) g2
            · refine Or.inr ⟨i0, h1, by omega, q2, q3, fun j g1 g2 g3 => ?_⟩
              by_cases e : j = i9
              · subst e; exact absurd g3 c
              · exact q4 j (by omega) g2 g3
          · unfold X6_cheapest_b32 X6_cheapest_b74 X6_cheapest_b75
            rw [if_neg h00, nr_m hM hf hlt ht, if_neg c, bdO, if00, hnx]) (-4) (nI (T 0 0) - 1) m ⟨rfl, by rw [if_pos (by omega), lt1, pk_sub p1]; rfl, Or.inl ⟨rfl, fun j g1 g2 => absurd g1 (by omega)⟩⟩ 1000 (by omega)
      rw [if_neg (Nat.lt_irrefl _)] at hw2
      rw [gl0 (by omega) (by omega), tc0, hTM.1, e, e', hu3, hw2]
      unfold X5_cheapest_b32 X6_cheapest_b32 X6_cheapest_b92
      rw [hTX.1, if_pos (show nI (T 0 0) ≤ nI (T 0 0) by rw [leN (by omega) (by omega)]; omega), if_pos (show (-1 : Int32) < 0 by decide)]
      rcases hI with ⟨h1, h2, hn0⟩ | ⟨i0, h1, h2, hl⟩
      · rcases hJ with ⟨g1, -⟩ | ⟨j0, -, q1, q2, q3, -⟩
        · rw [h1, h2, g1]
          by_cases d : v = 0
          · rw [if_pos d, if_pos d]
            exact ⟨_, _, _, rfl, rfl, T, hA⟩
          · rw [if_neg d, if_neg d, if_pos rfl]
            exact ⟨_, _, _, rfl, rfl, T, hA⟩
        · exact absurd q3 (hn0 j0 q2)
      · rcases hJ with ⟨-, g2⟩ | ⟨j0, g1, hl2⟩
        · exact absurd hl.2.2.1 (g2 i0 (by omega) hl.2.1)
        · rw [Nat.sub_self] at hl2
          have hij := leastAt_one hl hl2
          subst hij
          have hi0 := hl.2.1
          rw [h1, h2, g1]
          by_cases d : v = 0
          · rw [if_pos d, if_pos d]
            exact ⟨_, _, _, rfl, rfl, T, hA⟩
          · rw [if_neg d, if_neg d, if_neg (neM (by omega)), pr_m hM hf hi0 ht, bdO]
            exact ⟨_, _, _, rfl, rfl, T, hA⟩
    · rw [if_neg c2, m_inH c2, bdO, if00]
      exact ⟨_, _, _, rfl, rfl, T, hA⟩
  · rw [e3, e4, bdO, bdO, if00, if00]
    exact ⟨_, _, _, rfl, rfl, T, hA⟩
