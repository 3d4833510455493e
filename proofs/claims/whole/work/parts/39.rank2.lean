/-! RANK -/
/-- u stands before t in the wishes of i -/
def bef (T : TA) (made : Nat → Nat → Nat) (Y i t u : Nat) : Bool := decide (nr T made Y i u = true ∧ (PR T (KK T (-4) made Y) i t < PR T (KK T (-4) made Y) i u ∨ (PR T (KK T (-4) made Y) i u = PR T (KK T (-4) made Y) i t ∧ u < t)))
theorem bef_iff (T : TA) (made : Nat → Nat → Nat) (Y i t u : Nat) : bef T made Y i t u = true ↔ (nr T made Y i u = true ∧ (PR T (KK T (-4) made Y) i t < PR T (KK T (-4) made Y) i u ∨ (PR T (KK T (-4) made Y) i u = PR T (KK T (-4) made Y) i t ∧ u < t))) := by
  unfold bef
  exact decide_eq_true_iff
theorem bef_one {T : TA} {made : Nat → Nat → Nat} {Y i n t u : Nat} (ht : t < n) (hu : u < n) (nt : nr T made Y i t = true) (nu : nr T made Y i u = true) (e : cb (bef T made Y i t) n = cb (bef T made Y i u) n) : t = u := by
  have key : ∀ t u, t < n → u < n → nr T made Y i t = true → nr T made Y i u = true → (PR T (KK T (-4) made Y) i t < PR T (KK T (-4) made Y) i u ∨ (PR T (KK T (-4) made Y) i u = PR T (KK T (-4) made Y) i t ∧ u < t)) → cb (bef T made Y i u) n < cb (bef T made Y i t) n := fun t u ht hu nt nu h =>
    cb_lt (w := u) ((bef_iff ..).mpr ⟨nu, h⟩) (fun hh => by have := ((bef_iff ..).mp hh).2; omega) n (fun w hw hh => (bef_iff ..).mpr (by
      have h2 := (bef_iff ..).mp hh
      exact ⟨h2.1, by have := h2.2; omega⟩)) hu
  rcases Nat.lt_trichotomy t u with h | h | h
  · by_cases c : PR T (KK T (-4) made Y) i t < PR T (KK T (-4) made Y) i u
    · have := key t u ht hu nt nu (Or.inl c); omega
    · have := key u t hu ht nu nt (by omega); omega
  · exact h
  · by_cases c : PR T (KK T (-4) made Y) i u < PR T (KK T (-4) made Y) i t
    · have := key u t hu ht nu nt (Or.inl c); omega
    · have := key t u ht hu nt nu (by omega); omega
section RK2
variable {T : TA} {x m : Mem} {made : Nat → Nat → Nat} {Y : Nat}
theorem x_dearer (hB : TB T) (hT : TX (x 13) T) (hR : RQ T (-4) (x 0) (m 20 4 0) made Y) {i t : Nat} (hi : i < T 0 0) (ht : t < T 1 0) (nt : nr T made Y i t = true) : X1_dearerTo 0 (nI i) (nI t) x = some (nI (cb (bef T made Y i t) (T 1 0)), x) := by
  have b0 := hB.1
  have b1 := hB.2.1
  have t0 := hT.2.1
  have zt := (hR.2.2.2.1 i hi t ht).2.2.2
  rw [ZZ_n nt] at zt
  have pt := PR_lt hB (K := KK T (-4) made Y) (i := i) ht
  unfold X1_dearerTo
  refine lo2_eq (T 1 0) (fun k => nI (cb (bef T made Y i t) k)) (fun k => nI k) (fun _ => x) ?_ ?_ 1000 (by omega)
  · intro k hk K
    have zk := (hR.2.2.2.1 i hi k hk).2.2.2
    have pk := PR_lt hB (K := KK T (-4) made Y) (i := i) hk
    have hb := bef_iff T made Y i t k
    unfold X1_dearerTo_b5 X1_dearerTo_b63 X1_dearerTo_b66
    rw [cb_s]
    simp (discharger := omega) only [t0, leN, giN, clN, zt, zk, nI_1]
    rw [if_neg (by omega)]
    by_cases c : nr T made Y i k = true
    · rw [ZZ_n c]
      simp (discharger := omega) only [ltN, eqN]
      by_cases d : PR T (KK T (-4) made Y) i t < PR T (KK T (-4) made Y) i k
      · rw [if_pos d, if_pos (hb.mpr ⟨c, Or.inl d⟩)]
      · rw [if_neg d]
        by_cases e : PR T (KK T (-4) made Y) i k = PR T (KK T (-4) made Y) i t
        · rw [if_pos e]
          by_cases f : t ≤ k
          · rw [if_pos f, if_neg (fun h => by have := (hb.mp h).2; omega)]
          · rw [if_neg f, if_pos (hb.mpr ⟨c, Or.inr ⟨e, by omega⟩⟩)]
        · rw [if_neg e, if_neg (fun h => by have := (hb.mp h).2; omega)]
    · have z4 := (nr_z (made := made) (Y := Y) hB (i := i) hk).mpr c
      rw [z4, if_neg (fun h => c ((hb.mp h).1)), if_neg (fun h => Int32.lt_irrefl (Int32.lt_trans h (ltM (by omega)))), if_neg (neM' (by omega))]
  · intro K
    unfold X1_dearerTo_b5
    simp (discharger := omega) only [t0, leN]
    rw [if_pos (Nat.le_refl _)]
/-- the reference's inner loop: what it goes on with -/
theorem m_rank_in (hM : MS m T made Y) (hf : m 20 12 0 0 = -4) {i t : Nat} (hi : i < T 0 0) (ht : t < T 1 0) (K20 : Int32 → Int32 → Mem → Option (Int32 × Mem)) (v2 v3 : Int32) : lo2 (X6_rank_b37 K20 (nI i) v2 v3 (nI t)) 1000 0 0 m = K20 (if nr T made Y i t = true ∧ nI (cb (bef T made Y i t) (T 1 0)) = v2 then nI t else v3) (nI (t + 1)) m := by
  have b1 := hM.1.2.1
  have t1 := hM.2.1.2.1
  refine lo2_eq (T 1 0) (fun k => nI (cb (bef T made Y i t) k)) (fun k => nI k) (fun _ => m) ?_ ?_ 1000 (by omega)
  · intro k hk K
    have hb := bef_iff T made Y i t k
    have pt := PR_lt hM.1 (K := KK T (-4) made Y) (i := i) ht
    have pk := PR_lt hM.1 (K := KK T (-4) made Y) (i := i) hk
    unfold X6_rank_b37 X6_rank_b99 X6_rank_b103 X6_rank_b104 X6_rank_b118
    rw [cb_s]
    simp (discharger := omega) only [gl1, tc1, t1, leN, ltN, eqN, nr_m hM hf hi hk, pr_m hM hf hi hk, pr_m hM hf hi ht, bdO, nI_1]
    rw [if_neg (by omega)]
    by_cases c : nr T made Y i k = true
    · rw [if_pos c, if10]
      by_cases d : PR T (KK T (-4) made Y) i t < PR T (KK T (-4) made Y) i k
      · rw [if_pos d, if10, if_pos (hb.mpr ⟨c, Or.inl d⟩)]
      · rw [if_neg d]
        by_cases e : PR T (KK T (-4) made Y) i k = PR T (KK T (-4) made Y) i t
        · rw [if_pos e]
          by_cases f : t ≤ k
          · rw [if_pos f, if_pos trivial, if_neg (fun h => by have := (hb.mp h).2; omega), Int32.add_zero]
          · rw [if_neg f, if10, if_pos (hb.mpr ⟨c, Or.inr ⟨e, by omega⟩⟩)]
        · rw [if_neg e, if_pos trivial, if_neg (fun h => by have := (hb.mp h).2; omega), Int32.add_zero]
    · rw [if_neg c, if00, if_pos trivial, if_neg (fun h => c ((hb.mp h).1)), Int32.add_zero]
  · intro K
    unfold X6_rank_b37 X6_rank_b148 X6_rank_b149
    simp (discharger := omega) only [gl1, tc1, t1, leN, nr_m hM hf hi ht, bdO, nI_1]
    rw [if_pos (Nat.le_refl _)]
    by_cases c : nr T made Y i t = true
    · rw [if_pos c, if10]
      by_cases d : nI (cb (bef T made Y i t) (T 1 0)) = v2
      · rw [if_pos d, if_pos ⟨c, d⟩]
      · rw [if_neg d, if_neg (fun h => d h.2)]
    · rw [if_neg c, if00, if_neg (fun h => c h.1)]
end RK2
theorem op_rank (a v : Int32) : OP (X5_rank a v) (X6_rank a v) := by
  intro x m ⟨T, hA⟩
  have hA' : RA T x m := hA
  obtain ⟨hB, p1, n1, hTM, hTX, hf⟩ := hA'.1
  obtain ⟨made, Y, hY, hR, hM⟩ := RA_MS hA'
  have b0 := hB.1
  have b1 := hB.2.1
  unfold X5_rank X6_rank
  rcases b_person p1 hB hTX hTM a with ⟨i, hi, rfl, e1, e2⟩ | ⟨e1, e2⟩
  · rw [e1, e2, bdO, bdO, if10, if10]
    by_cases c1 : 0 ≤ v
    · rw [if_pos c1, if_pos c1]
      let P : Nat → Prop := fun t => nr T made Y i t = true ∧ nI (cb (bef T made Y i t) (T 1 0)) = v
      have hone : ∀ t u, t < T 1 0 → u < T 1 0 → P t → P u → t = u := fun t u ht hu h1 h2 => bef_one ht hu h1.1 h2.1 (by
        have e : nI (cb (bef T made Y i t) (T 1 0)) = nI (cb (bef T made Y i u) (T 1 0)) := h1.2.trans h2.2.symm
        have q1 := cb_le (bef T made Y i t) (T 1 0)
        have q2 := cb_le (bef T made Y i u) (T 1 0)
        rwa [eqN (by omega) (by omega)] at e)
      have xstep : ∀ k, k < T 1 0 → ∀ K, X5_rank_b19 (nI i) v K (nI k) x = if P k then some (nI k, x) else K (nI (k + 1)) x := fun k hk K => by
        have hz := (hR.2.2.2.1 i hi k hk).2.2.2
        have hn := nr_z (made := made) (Y := Y) hB (i := i) hk
        unfold X5_rank_b19 X5_rank_b61
        simp (discharger := omega) only [hTX.2.1, leN, giN, clN, hz, nI_1]
        rw [if_neg (by omega)]
        by_cases c : nr T made Y i k = true
        · rw [if_neg (fun e => hn.mp e c), x_dearer hB hTX hR hi hk c, bdO]
          by_cases d : nI (cb (bef T made Y i k) (T 1 0)) = v
          · rw [if_pos d, if_pos (show P k from ⟨c, d⟩)]
          · rw [if_neg d, if_neg (show ¬ P k from fun h => d h.2)]
        · rw [if_pos (hn.mpr c), if_neg (show ¬ P k from fun h => c h.1)]
      have mrun : ∀ w : Nat → Int32, w 0 = -4 → (∀ k, k < T 1 0 → w (k + 1) = if P k then nI k else w k) → lo2 (X6_rank_b20 (nI i) v) 1000 (-4) 0 m = some (w (T 1 0), m) := fun w h0 hs => by
        rw [← h0]
        refine lo2_eq (T 1 0) w (fun k => nI k) (fun _ => m) ?_ ?_ 1000 (by omega)
        · intro k hk K
          unfold X6_rank_b20
          simp (discharger := omega) only [gl1, tc1, hTM.2.1, leN]
          rw [if_neg (by omega), m_rank_in hM hf hi hk, hs k hk]
        · intro K
          unfold X6_rank_b20
          simp (discharger := omega) only [gl1, tc1, hTM.2.1, leN]
          rw [if_pos (Nat.le_refl _)]
      by_cases hex : ∃ t0, t0 < T 1 0 ∧ P t0
      · obtain ⟨t0, h1, h2⟩ := hex
        rw [mrun (fun k => if t0 < k then nI t0 else -4) (if_neg (by omega)) (fun k hk => by
          by_cases c : k = t0
          · subst c
            rw [if_pos h2, if_pos (by omega)]
          · rw [if_neg (fun h => c (hone k t0 hk h1 h h2))]
            by_cases d : t0 < k
            · rw [if_pos d, if_pos (by omega)]
            · rw [if_neg d, if_neg (by omega)])]
        have hX : lo1 (X5_rank_b19 (nI i) v) 1000 0 x = some (nI t0, x) := lo1_eq t0 (fun k => nI k) (fun _ => x) (fun k hk K => by
          rw [xstep k (by omega), if_neg (fun h => by have := hone k t0 (by omega) h1 h h2; omega)]) (fun K => by rw [xstep t0 h1, if_pos h2]) 1000 (by omega)
        rw [hX, if_pos h1]
        exact ⟨_, _, _, rfl, rfl, T, hA⟩
      · rw [mrun (fun _ => -4) rfl (fun k hk => by rw [if_neg (fun h => hex ⟨k, hk, h⟩)])]
        have hX : lo1 (X5_rank_b19 (nI i) v) 1000 0 x = some (-4, x) := lo1_eq (T 1 0) (fun k => nI k) (fun _ => x) (fun k hk K => by
          rw [xstep k (by omega), if_neg (fun h => hex ⟨k, hk, h⟩)]) (fun K => by
            unfold X5_rank_b19
            rw [hTX.2.1, if_pos (show nI (T 1 0) ≤ nI (T 1 0) by rw [leN (by omega) (by omega)]; omega)]) 1000 (by omega)
        rw [hX]
        exact ⟨_, _, _, rfl, rfl, T, hA⟩
    · rw [if_neg c1, if_neg c1]
      exact ⟨_, _, _, rfl, rfl, T, hA⟩
  · rw [e1, e2, bdO, bdO, if00, if00]
    exact ⟨_, _, _, rfl, rfl, T, hA⟩
