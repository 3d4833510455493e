/-! A FAIR: the reference's -/
def RS (s : Nat → Int32) (T : TA) (σ : S3) : Prop := (∀ i, i < T 0 0 → s i = σ.1 i) ∧ (∀ t, t < T 1 0 → s (6 + t) = σ.2.1 t) ∧ ∀ t, t < T 1 0 → s (12 + t) = σ.2.2 t ∧ ∃ k, k ≤ 3 ∧ σ.2.2 t = nI k
theorem misT_N {k : Nat} (h : k ≤ 3) : misT (nI k) = nI (min (k + 1) 3) := by
  unfold misT
  simp (discharger := omega) only [lt3, nI_1, ltN]
  by_cases c : 3 < k + 1
  · rw [if_pos c, Nat.min_eq_right (by omega)]
  · rw [if_neg c, Nat.min_eq_left (by omega)]
theorem RS_pay {s : Nat → Int32} {T : TA} {σ : S3} (hB : TB T) (h : RS s T σ) {j t : Nat} (hj : j < T 0 0) (ht : t < T 1 0) {a : Int32} : RS (upd (upd s (6 + t) (nI j)) j (s j - a)) T (pay σ (nI j) t a) := by
  have b0 := hB.1
  have b1 := hB.2.1
  obtain ⟨h1, h2, h3⟩ := h
  unfold pay
  refine ⟨fun i hi => ?_, fun t' ht' => ?_, fun t' ht' => ?_⟩
  · simp (discharger := omega) only [upd_at, clN]
    by_cases e : i = j
    · rw [if_pos e, if_pos e, h1 j hj]
    · rw [if_neg e, if_neg e, if_neg (by omega), h1 i hi]
  · simp only [upd_at]
    rw [if_neg (by omega)]
    by_cases e : t' = t
    · rw [if_pos (by omega), if_pos e]
    · rw [if_neg (by omega), if_neg e, h2 t' ht']
  · simp only [upd_at]
    rw [if_neg (by omega), if_neg (by omega)]
    exact h3 t' ht'
theorem RS_mis {s : Nat → Int32} {T : TA} {σ : S3} (hB : TB T) (h : RS s T σ) {t : Nat} (ht : t < T 1 0) : RS (upd s (12 + t) (misT (σ.2.2 t))) T (σ.1, σ.2.1, upd σ.2.2 t (misT (σ.2.2 t))) := by
  have b0 := hB.1
  have b1 := hB.2.1
  obtain ⟨h1, h2, h3⟩ := h
  refine ⟨fun i hi => ?_, fun t' ht' => ?_, fun t' ht' => ?_⟩
  · simp only [upd_at]
    rw [if_neg (by omega), h1 i hi]
  · simp only [upd_at]
    rw [if_neg (by omega), h2 t' ht']
  · simp only [upd_at]
    by_cases e : t' = t
    · subst e
      obtain ⟨-, k, hk, e3⟩ := h3 t' ht
      rw [if_pos rfl, if_pos rfl, e3, misT_N hk]
      exact ⟨rfl, _, Nat.min_le_right _ _, rfl⟩
    · rw [if_neg (by omega), if_neg e]
      exact h3 t' ht'
theorem SY_up {s : Nat → Int32} {Y : Nat} {made : Nat → Nat → Nat} (h : SY s Y made) {k : Nat} {v : Int32} (hk : k < 18) : SY (upd s k v) Y made := by
  refine ⟨?_, fun i hi t ht => ⟨?_, (h.2 i hi t ht).2⟩⟩
  · rw [upd_at, if_neg (by omega)]
    exact h.1
  · rw [upd_at, if_neg (by omega)]
    exact (h.2 i hi t ht).1
section M3
variable {T : TA} {m : Mem} {Y : Nat} {made : Nat → Nat → Nat} {s : Nat → Int32} {σ : S3}
theorem xa4_4 : xa m 20 4 0 s 20 4 0 = s := by rw [xa_at, if_pos ⟨rfl, rfl, rfl⟩]
theorem xa4_2 : xa m 20 4 0 s 20 2 0 = m 20 2 0 := by rw [xa_at, if_neg (by omega)]
theorem xa4_12 : xa m 20 4 0 s 20 12 0 0 = m 20 12 0 0 := by rw [xa_at, if_neg (by omega)]
theorem xs4 {k : Nat} {v : Int32} : xs (xa m 20 4 0 s) 20 4 0 k v = xa m 20 4 0 (upd s k v) := by rw [xs_xa, xa_xa, xa4_4]
theorem MS_4 (hM : MS m T made Y) (hS : SY s Y made) : MS (xa m 20 4 0 s) T made Y := by
  obtain ⟨h1, h2, -, h4⟩ := hM
  exact ⟨h1, by rw [xa4_2]; exact h2, by rw [xa4_4]; exact hS, h4⟩
theorem MS_44 {s2 : Nat → Int32} (hM : MS (xa m 20 4 0 s) T made Y) (hS : SY s2 Y made) : MS (xa m 20 4 0 s2) T made Y := by
  obtain ⟨h1, h2, -, h4⟩ := hM
  rw [xa4_2] at h2
  exact ⟨h1, by rw [xa4_2]; exact h2, by rw [xa4_4]; exact hS, h4⟩
theorem KM_4 : KM (xa m 20 4 0 s) T made Y = KM m T made Y := by unfold KM; rw [xa4_12]
theorem m_sells (hB : TB T) {j t : Nat} (hj : j < T 0 0) (ht : t < T 1 0) {a : Int32} : X6_sells (nI t) (nI j) a (xa m 20 4 0 s) = some (xa m 20 4 0 (upd (upd s (6 + t) (nI j)) j (s j - a))) := by
  have b0 := hB.1
  have b1 := hB.2.1
  unfold X6_sells
  simp (discharger := omega) only [ad6, giN, clN, xs4, xa4_4]
  rw [upd_at, if_neg (by omega)]
theorem buy_ge (Z : Nat → Nat → Int32) (N : Nat) (co : Nat → Int32) (c a : Int32) (k : Nat) : ¬ (fo (fun i (x : Int32 × Int32) => if ¬ nI i = c ∧ a ≤ co i ∧ x.2 < dear Z N i then (nI i, dear Z N i) else x) k (-4, a)).2 < a :=
  fo_inv (f := fun i (x : Int32 × Int32) => if ¬ nI i = c ∧ a ≤ co i ∧ x.2 < dear Z N i then (nI i, dear Z N i) else x) (a := (-4, a)) (fun _ x => ¬ x.2 < a) Int32.lt_irrefl k (fun j x hj hx => by
    by_cases d : ¬ nI j = c ∧ a ≤ co j ∧ x.2 < dear Z N j
    · rw [if_pos d]
      have h1 := Int32.not_lt.mp hx
      exact Int32.not_lt.mpr (Int32.le_of_lt (Int32.lt_of_le_of_lt h1 d.2.2))
    · rw [if_neg d]
      exact hx)
theorem m_offers (hM : MS (xa m 20 4 0 s) T made Y) (hR : RS s T σ) {c t : Nat} (hc : c < T 0 0) (ht : t < T 1 0) (hcl : (clm (CT T (KM m T made Y)) (T 0 0) t).1 = nI c) (h8 : 8 < CT T (KM m T made Y) c t) :
    ∃ s', X6_offers (nI t) (nI c) (xa m 20 4 0 s) = some (xa m 20 4 0 s') ∧ RS s' T (sellS (CT T (KM m T made Y)) (ZZ T (KM m T made Y)) (T 0 0) (T 1 0) t σ).2 ∧ SY s' Y made := by
  obtain ⟨hB, hT, hS, hY⟩ := id hM
  rw [xa4_2] at hT
  rw [xa4_4] at hS
  have b0 := hB.1
  have b1 := hB.2.1
  have t0 := hT.1
  have hz : ZZ T (KM m T made Y) c t = nI (PR T (KM m T made Y) c t) := by unfold ZZ; rw [if_pos h8]
  have hne : ¬ nI c = -4 := neM (by omega)
  have hp := PR_lt hB (K := KM m T made Y) (i := c) ht
  obtain ⟨r1, r2, r3⟩ := id hR
  obtain ⟨e3, k3, hk3, e4⟩ := r3 t ht
  unfold X6_offers
  rw [m_priceOf hM hc ht, bdO]
  unfold sellS
  rw [KM_4, hcl, if_neg hne]
  simp (discharger := omega) only [giN, clN, xa4_4, hz, r1 c hc]
  by_cases d1 : σ.1 c < nI (PR T (KM m T made Y) c t)
  · rw [if_pos d1, if_neg (fun e => Int32.not_le.mpr d1 e)]
    have hmis : ∀ Q : Option Mem, X6_offers_b61 (nI t) (nI c) (nI (PR T (KM m T made Y) c t)) (12 + nI t) (misT (σ.2.2 t)) (xa m 20 4 0 s) = Q → (gi (12 + nI t) 55 (if 3 ≤ s (12 + nI t).toNatClampNeg then X6_offers_b61 (nI t) (nI c) (nI (PR T (KM m T made Y) c t)) (12 + nI t) 3 (xa m 20 4 0 s) else gi (12 + nI t) 55 (X6_offers_b61 (nI t) (nI c) (nI (PR T (KM m T made Y) c t)) (12 + nI t) (s (12 + nI t).toNatClampNeg + 1) (xa m 20 4 0 s)))) = Q := by
      intro Q hQ
      rw [← hQ, e4, misT_N hk3]
      simp (discharger := omega) only [ad12, giN, clN, e3, e4]
      simp (discharger := omega) only [lt3, leN, nI_1]
      by_cases d : 3 ≤ k3
      · rw [if_pos d, Nat.min_eq_right (by omega)]
      · rw [if_neg d, Nat.min_eq_left (by omega)]
    have hs2 := RS_mis hB hR ht
    have hS2 := SY_up hS (k := 12 + t) (v := misT (σ.2.2 t)) (by omega)
    have hM2 : MS (xa m 20 4 0 (upd s (12 + t) (misT (σ.2.2 t)))) T made Y := MS_44 hM hS2
    have hst : ∀ Q : Option Mem, lo3 (X6_offers_b72 (nI t) (nI c) (nI (PR T (KM m T made Y) c t))) 1000 (-4) (nI (PR T (KM m T made Y) c t)) 0 (xa m 20 4 0 (upd s (12 + t) (misT (σ.2.2 t)))) = Q → X6_offers_b61 (nI t) (nI c) (nI (PR T (KM m T made Y) c t)) (12 + nI t) (misT (σ.2.2 t)) (xa m 20 4 0 s) = Q := by
      intro Q hQ
      rw [← hQ]
      unfold X6_offers_b61
      simp (discharger := omega) only [ad12, giN, clN, xs4]
    generalize hs2e : upd s (12 + t) (misT (σ.2.2 t)) = s2 at hs2 hS2 hM2 hst
    have hs12 : s2 (12 + t) = misT (σ.2.2 t) := by rw [← hs2e, upd_at, if_pos rfl]
    obtain ⟨q1, q2, q3⟩ := id hs2
    by_cases d2 : misT (σ.2.2 t) = 3
    · have hloop : lo3 (X6_offers_b72 (nI t) (nI c) (nI (PR T (KM m T made Y) c t))) 1000 (-4) (nI (PR T (KM m T made Y) c t)) 0 (xa m 20 4 0 s2) = X6_offers_b164 (nI t) (nI (PR T (KM m T made Y) c t)) (buy (ZZ T (KM m T made Y)) (T 1 0) (T 0 0) σ.1 (nI c) (nI (PR T (KM m T made Y) c t))).1 (xa m 20 4 0 s2) := by
        refine lo3_eq (T 0 0) (fun k => (fo (fun i (x : Int32 × Int32) => if ¬ nI i = nI c ∧ nI (PR T (KM m T made Y) c t) ≤ σ.1 i ∧ x.2 < dear (ZZ T (KM m T made Y)) (T 1 0) i then (nI i, dear (ZZ T (KM m T made Y)) (T 1 0) i) else x) k (-4, nI (PR T (KM m T made Y) c t))).1) (fun k => (fo (fun i (x : Int32 × Int32) => if ¬ nI i = nI c ∧ nI (PR T (KM m T made Y) c t) ≤ σ.1 i ∧ x.2 < dear (ZZ T (KM m T made Y)) (T 1 0) i then (nI i, dear (ZZ T (KM m T made Y)) (T 1 0) i) else x) k (-4, nI (PR T (KM m T made Y) c t))).2) (fun k => nI k) (fun _ => xa m 20 4 0 s2) ?_ ?_ 1000 (by omega)
        · intro k hk Kc
          have hge := buy_ge (ZZ T (KM m T made Y)) (T 1 0) σ.1 (nI c) (nI (PR T (KM m T made Y) c t)) k
          unfold X6_offers_b72 X6_offers_b122 X6_offers_b124 X6_offers_b140 X6_offers_b156
          dsimp only [fo]
          generalize fo (fun i (x : Int32 × Int32) => if ¬ nI i = nI c ∧ nI (PR T (KM m T made Y) c t) ≤ σ.1 i ∧ x.2 < dear (ZZ T (KM m T made Y)) (T 1 0) i then (nI i, dear (ZZ T (KM m T made Y)) (T 1 0) i) else x) k (-4, nI (PR T (KM m T made Y) c t)) = x at hge ⊢
          have hx4 : (-4) ≤ x.2 := Int32.le_of_lt (Int32.lt_of_lt_of_le (ltM (k := PR T (KM m T made Y) c t) (by omega)) (Int32.not_lt.mp hge))
          have hdk := m_dearest hM2 hk
          rw [KM_4] at hdk
          simp (discharger := omega) only [gl0, tc0, xa4_2, xa4_4, t0, ad12, giN, clN, hs12, leN, q1 k hk, hdk, bdO, nI_1]
          rw [if_neg (by omega), if_pos d2]
          by_cases f1 : nI k = nI c
          · rw [if_pos f1, if_pos hx4, if_pos hx4, if_neg (fun e => e.1 f1)]
          · rw [if_neg f1]
            by_cases f2 : σ.1 k < nI (PR T (KM m T made Y) c t)
            · rw [if_pos f2, if_pos hx4, if_pos hx4, if_neg (fun e => Int32.not_lt.mpr e.2.1 f2)]
            · rw [if_neg f2]
              by_cases f3 : x.2 < dear (ZZ T (KM m T made Y)) (T 1 0) k
              · rw [if_neg (Int32.not_le.mpr f3), if_neg (Int32.not_le.mpr f3), if_pos ⟨f1, Int32.not_lt.mp f2, f3⟩]
              · rw [if_pos (Int32.not_lt.mp f3), if_pos (Int32.not_lt.mp f3), if_neg (fun e => f3 e.2.2)]
        · intro Kc
          unfold X6_offers_b72
          simp (discharger := omega) only [gl0, tc0, xa4_2, t0, leN]
          rw [if_pos (Nat.le_refl _)]
          rfl
      rcases buy_or (ZZ T (KM m T made Y)) (T 1 0) (T 0 0) σ.1 (nI c) (nI (PR T (KM m T made Y) c t)) with h9 | ⟨j, hj, h9⟩
      · rw [if_neg (c := misT (σ.2.2 t) = 3 ∧ ¬ (buy (ZZ T (KM m T made Y)) (T 1 0) (T 0 0) σ.1 (nI c) (nI (PR T (KM m T made Y) c t))).1 = -4) (fun e => e.2 h9)]
        refine ⟨s2, hmis _ (hst _ (hloop.trans ?_)), hs2, hS2⟩
        rw [h9]
        unfold X6_offers_b164
        rw [if_pos rfl]
      · have hne2 : ¬ nI j = -4 := neM (by omega)
        rw [if_pos (c := misT (σ.2.2 t) = 3 ∧ ¬ (buy (ZZ T (KM m T made Y)) (T 1 0) (T 0 0) σ.1 (nI c) (nI (PR T (KM m T made Y) c t))).1 = -4) ⟨d2, fun e => hne2 (h9.symm.trans e)⟩, h9]
        refine ⟨_, hmis _ (hst _ (hloop.trans ?_)), RS_pay hB hs2 hj ht, SY_up (SY_up hS2 (by omega)) (by omega)⟩
        rw [h9]
        unfold X6_offers_b164
        rw [if_neg hne2, m_sells hB hj ht, bdvO]
    · rw [if_neg (c := misT (σ.2.2 t) = 3 ∧ ¬ (buy (ZZ T (KM m T made Y)) (T 1 0) (T 0 0) σ.1 (nI c) (nI (PR T (KM m T made Y) c t))).1 = -4) (fun e => d2 e.1)]
      refine ⟨s2, hmis _ (hst _ ?_), hs2, hS2⟩
      refine lo3_eq 0 (fun _ => -4) (fun _ => nI (PR T (KM m T made Y) c t)) (fun k => nI k) (fun _ => xa m 20 4 0 s2) (fun k hk => absurd hk (by omega)) ?_ 1000 (by omega)
      intro Kc
      unfold X6_offers_b72 X6_offers_b164
      simp (discharger := omega) only [gl0, tc0, xa4_2, xa4_4, t0, ad12, giN, clN, hs12, leN]
      rw [if_neg (by omega), if_neg d2, if_pos trivial]
  · rw [if_neg d1, if_pos (Int32.not_lt.mp d1)]
    rw [m_sells hB hc ht, bdvO]
    exact ⟨_, rfl, RS_pay hB hR hc ht, SY_up (SY_up hS (by omega)) (by omega)⟩
end M3
