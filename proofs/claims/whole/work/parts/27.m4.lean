/-! A FAIR: the reference's, whole -/
theorem sell_flag {C : Nat → Nat → Nat} {Z : Nat → Nat → Int32} {P N t : Nat} {σ : S3} (hP : P ≤ 6) (h0 : σ.2.1 t = -4) : (sellS C Z P N t σ).1 = 0 ↔ (sellS C Z P N t σ).2.2.1 t = -4 := by
  unfold sellS
  by_cases c1 : (clm C P t).1 = -4
  · rw [if_pos c1]
    exact ⟨fun _ => h0, fun _ => rfl⟩
  · rw [if_neg c1]
    obtain ⟨i, hi, hci, -⟩ : ∃ i, i < P ∧ (clm C P t).1 = nI i ∧ 8 < C i t := by
      rcases clm_or C P t with h | h
      · exact absurd h.1 c1
      · exact h
    have hn : ∀ j, j < P → ¬ nI j = -4 := fun j hj => neM (by omega)
    by_cases c2 : Z (clm C P t).1.toNatClampNeg t ≤ σ.1 (clm C P t).1.toNatClampNeg
    · rw [if_pos c2]
      refine ⟨fun e => absurd (show (1 : Int32) = 0 from e) (by decide), fun e => ?_⟩
      have e2 : upd σ.2.1 t (clm C P t).1 t = -4 := e
      rw [upd_at, if_pos rfl] at e2
      exact absurd e2 c1
    · rw [if_neg c2]
      by_cases c3 : misT (σ.2.2 t) = 3 ∧ ¬ (buy Z N P σ.1 (clm C P t).1 (Z (clm C P t).1.toNatClampNeg t)).1 = -4
      · rw [if_pos c3]
        refine ⟨fun e => absurd (show (1 : Int32) = 0 from e) (by decide), fun e => ?_⟩
        have e2 : upd σ.2.1 t (buy Z N P σ.1 (clm C P t).1 (Z (clm C P t).1.toNatClampNeg t)).1 t = -4 := e
        rw [upd_at, if_pos rfl] at e2
        exact absurd e2 c3.2
      · rw [if_neg c3]
        exact ⟨fun _ => h0, fun _ => rfl⟩
theorem RS_earn {s : Nat → Int32} {T : TA} {co ow mi : Nat → Int32} (hB : TB T) (h : RS s T (co, ow, mi)) {k : Nat} (hk : k < T 0 0) {v : Int32} : RS (upd s k v) T (upd co k v, ow, mi) := by
  have b0 := hB.1
  obtain ⟨h1, h2, h3⟩ := h
  refine ⟨fun i hi => ?_, fun t ht => ?_, fun t ht => ?_⟩
  · simp only [upd_at]
    by_cases e : i = k
    · rw [if_pos e, if_pos e]
    · rw [if_neg e, if_neg e]
      exact h1 i hi
  · rw [upd_at, if_neg (by omega)]
    exact h2 t ht
  · rw [upd_at, if_neg (by omega)]
    exact h3 t ht
section M4
variable {T : TA} {m : Mem} {Y : Nat} {made : Nat → Nat → Nat} {s : Nat → Int32} {σ : S3}
theorem m_pay (hM : MS (xa m 20 4 0 s) T made Y) (hR : RS s T σ) (v1 : Int32) :
    ∃ s', lo1 (X6_holds_b78 v1) 1000 0 (xa m 20 4 0 s) = some (v1, xa m 20 4 0 s') ∧ RS s' T (payday (nI (T 3 0)) (T 0 0) σ.1, σ.2.1, σ.2.2) ∧ SY s' (Y + 1) made := by
  obtain ⟨hB, hT, hS, hY⟩ := id hM
  rw [xa4_2] at hT
  rw [xa4_4] at hS
  have b0 := hB.1
  have b1 := hB.2.1
  have t0 := hT.1
  have t3 := hT.2.2.2.1
  obtain ⟨a', ν, ⟨rfl, s', rfl, hR', hS'⟩, K9, e⟩ := lo1_inv (b := X6_holds_b78 v1) (T 0 0) (fun k a ν => a = nI k ∧ ∃ s', ν = xa m 20 4 0 s' ∧ RS s' T (payday (nI (T 3 0)) k σ.1, σ.2.1, σ.2.2) ∧ SY s' Y made) (fun k a ν hk hI => by
    obtain ⟨rfl, s', rfl, hR', hS'⟩ := hI
    refine ⟨nI (k + 1), _, ⟨rfl, _, rfl, RS_earn hB hR' hk (v := earn (nI (T 3 0)) (payday (nI (T 3 0)) k σ.1 k)), SY_up hS' (by omega)⟩, fun Kc => ?_⟩
    have e1 := hR'.1 k hk
    unfold X6_holds_b78 X6_holds_b131
    simp (discharger := omega) only [gl0, tc0, gl3, tc3, xa4_2, xa4_4, t0, t3, leN, giN, clN, e1, xs4, nI_1]
    rw [if_neg (by omega)]
    unfold earn
    by_cases c : 999 < payday (nI (T 3 0)) k σ.1 k + nI (T 3 0)
    · rw [if_pos c, if_neg (Int32.not_le.mpr c)]
    · rw [if_neg c, if_pos (Int32.not_lt.mp c)]) 0 _ ⟨rfl, s, rfl, hR, hS⟩ 1000 (by omega)
  refine ⟨upd s' 54 (nI (Y + 1)), ?_, ?_, ?_⟩
  · rw [e]
    unfold X6_holds_b78
    simp (discharger := omega) only [gl0, tc0, gl54, tc54, xa4_2, xa4_4, t0, leN, xs4, hS'.1, nI_1]
    rw [if_pos (Nat.le_refl _)]
  · obtain ⟨h1, h2, h3⟩ := hR'
    refine ⟨fun i hi => ?_, fun t ht => ?_, fun t ht => ?_⟩
    · rw [upd_at, if_neg (by omega)]
      exact h1 i hi
    · rw [upd_at, if_neg (by omega)]
      exact h2 t ht
    · rw [upd_at, if_neg (by omega)]
      exact h3 t ht
  · refine ⟨by rw [upd_at, if_pos rfl], fun i hi t ht => ⟨?_, (hS'.2 i hi t ht).2⟩⟩
    rw [upd_at, if_neg (by omega)]
    exact (hS'.2 i hi t ht).1
theorem m_holds (hM : MS (xa m 20 4 0 s) T made Y) (hR : RS s T σ) :
    ∃ s', X6_holds (xa m 20 4 0 s) = some ((holdS T (KM m T made Y) σ).1, xa m 20 4 0 s') ∧ RS s' T (holdS T (KM m T made Y) σ).2 ∧ SY s' (Y + 1) made := by
  obtain ⟨hB, hT, hS, hY⟩ := id hM
  rw [xa4_2] at hT
  rw [xa4_4] at hS
  have b0 := hB.1
  have b1 := hB.2.1
  have t1 := hT.2.1
  unfold X6_holds
  obtain ⟨a', b', ν, ⟨rfl, rfl, s', rfl, hR', hS'⟩, K9, e⟩ := lo2_inv (b := X6_holds_b4) (T 1 0) (fun k a b ν => a = (salesS (CT T (KM m T made Y)) (ZZ T (KM m T made Y)) (T 0 0) (T 1 0) k σ).1 ∧ b = nI k ∧ ∃ s', ν = xa m 20 4 0 s' ∧ RS s' T (salesS (CT T (KM m T made Y)) (ZZ T (KM m T made Y)) (T 0 0) (T 1 0) k σ).2 ∧ SY s' Y made) (fun k a b ν hk hI => by
    obtain ⟨rfl, rfl, s', rfl, hR', hS'⟩ := hI
    have hst : salesS (CT T (KM m T made Y)) (ZZ T (KM m T made Y)) (T 0 0) (T 1 0) (k + 1) σ = if (salesS (CT T (KM m T made Y)) (ZZ T (KM m T made Y)) (T 0 0) (T 1 0) k σ).2.2.1 k = -4 then (if (sellS (CT T (KM m T made Y)) (ZZ T (KM m T made Y)) (T 0 0) (T 1 0) k (salesS (CT T (KM m T made Y)) (ZZ T (KM m T made Y)) (T 0 0) (T 1 0) k σ).2).1 = 0 then (salesS (CT T (KM m T made Y)) (ZZ T (KM m T made Y)) (T 0 0) (T 1 0) k σ).1 else (salesS (CT T (KM m T made Y)) (ZZ T (KM m T made Y)) (T 0 0) (T 1 0) k σ).1 + 1, (sellS (CT T (KM m T made Y)) (ZZ T (KM m T made Y)) (T 0 0) (T 1 0) k (salesS (CT T (KM m T made Y)) (ZZ T (KM m T made Y)) (T 0 0) (T 1 0) k σ).2).2) else salesS (CT T (KM m T made Y)) (ZZ T (KM m T made Y)) (T 0 0) (T 1 0) k σ := rfl
    rw [hst]
    generalize salesS (CT T (KM m T made Y)) (ZZ T (KM m T made Y)) (T 0 0) (T 1 0) k σ = x at hR' ⊢
    have hM' := MS_44 hM hS'
    have e6 := hR'.2.1 k hk
    have hcm := m_claim hM' hk
    rw [KM_4] at hcm
    unfold X6_holds_b4 X6_holds_b70 X6_holds_b68 X6_holds_b70
    simp (discharger := omega) only [gl1, tc1, xa4_2, xa4_4, t1, leN, ad6, giN, clN, e6, hcm, bdO, nI_1]
    by_cases c : x.2.2.1 k = -4
    · rw [if_pos c]
      have hfl := sell_flag (C := CT T (KM m T made Y)) (Z := ZZ T (KM m T made Y)) (N := T 1 0) b0 c
      by_cases c2 : (clm (CT T (KM m T made Y)) (T 0 0) k).1 = -4
      · have hs0 : sellS (CT T (KM m T made Y)) (ZZ T (KM m T made Y)) (T 0 0) (T 1 0) k x.2 = (0, x.2) := by unfold sellS; rw [if_pos c2]
        rw [hs0]
        refine ⟨x.1, nI (k + 1), _, ⟨by rw [if_pos rfl], rfl, s', rfl, hR', hS'⟩, fun Kc => ?_⟩
        rw [if_neg (by omega), if_pos c, if_pos c2]
      · obtain ⟨i, hi, hci, h8⟩ : ∃ i, i < T 0 0 ∧ (clm (CT T (KM m T made Y)) (T 0 0) k).1 = nI i ∧ 8 < CT T (KM m T made Y) i k := by
          rcases clm_or (CT T (KM m T made Y)) (T 0 0) k with h | h
          · exact absurd h.1 c2
          · exact h
        obtain ⟨s2, ho, hR2, hS2⟩ := m_offers hM' hR' hi hk hci h8
        have e62 := hR2.2.1 k hk
        refine ⟨_, nI (k + 1), _, ⟨rfl, rfl, s2, rfl, hR2, hS2⟩, fun Kc => ?_⟩
        rw [if_neg (by omega), if_pos c, hci, if_neg (neM (by omega)), ho]
        simp (discharger := omega) only [bdvO, xa4_4, e62, giN]
        by_cases c3 : (sellS (CT T (KM m T made Y)) (ZZ T (KM m T made Y)) (T 0 0) (T 1 0) k x.2).1 = 0
        · rw [if_pos (hfl.mp c3), if_pos c3, Int32.add_zero]
        · rw [if_neg (fun e => c3 (hfl.mpr e)), if_neg c3]
    · rw [if_neg c]
      refine ⟨x.1, nI (k + 1), _, ⟨rfl, rfl, s', rfl, hR', hS'⟩, fun Kc => ?_⟩
      rw [if_neg (by omega), if_neg c]) 0 0 _ ⟨rfl, rfl, s, rfl, hR, hS⟩ 1000 (by omega)
  obtain ⟨s2, h1, h2, h3⟩ := m_pay (MS_44 hM hS') hR' (salesS (CT T (KM m T made Y)) (ZZ T (KM m T made Y)) (T 0 0) (T 1 0) (T 1 0) σ).1
  refine ⟨s2, ?_, h2, h3⟩
  rw [e]
  unfold X6_holds_b4
  simp (discharger := omega) only [gl1, tc1, xa4_2, t1, leN]
  rw [if_pos (Nat.le_refl _), h1]
  rfl
end M4
