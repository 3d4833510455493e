/-! THE CLASS'S MARKET: pauses, fairs -/
/-- the Market's tables against the keys of the pauses that stand -/
def TT (T : TA) (K : Nat → Nat → Nat) (br sn cn pr : Nat → Nat → Int32) : Prop := ∀ i, i < T 0 0 → ∀ t, t < T 1 0 → br i t = nI (K i t / 128) ∧ sn i t = (if K i t = 127 then -4 else nI (127 - K i t % 128)) ∧ cn i t = nI (CT T K i t) ∧ pr i t = ZZ T K i t
def KI (T : TA) (K : Nat → Nat → Nat) (Y : Nat) : Prop := ∀ i, i < T 0 0 → ∀ t, t < T 1 0 → K i t < 4096 ∧ (K i t = 127 ∨ (128 ≤ K i t ∧ 127 - K i t % 128 ≤ Y))
def adK (K : Nat → Nat → Nat) (i t b Y : Nat) : Nat → Nat → Nat := fun i' t' => if i = i' ∧ t = t' then max (ky b Y) (K i' t') else K i' t'
theorem CT_cong {T : TA} {K K' : Nat → Nat → Nat} {i t : Nat} (h : K' i t = K i t) : CT T K' i t = CT T K i t := by unfold CT; rw [h]
theorem PR_cong {T : TA} {K K' : Nat → Nat → Nat} {i t : Nat} (h : K' i t = K i t) : PR T K' i t = PR T K i t := by unfold PR; rw [h]
theorem ZZ_cong {T : TA} {K K' : Nat → Nat → Nat} {i t : Nat} (h : K' i t = K i t) : ZZ T K' i t = ZZ T K i t := by unfold ZZ; rw [CT_cong h, PR_cong h]
theorem TT_cong {T : TA} {K K' : Nat → Nat → Nat} {br sn cn pr : Nat → Nat → Int32} (h : ∀ i, i < T 0 0 → ∀ t, t < T 1 0 → K' i t = K i t) (hT : TT T K br sn cn pr) : TT T K' br sn cn pr := fun i hi t ht => by
  obtain ⟨h1, h2, h3, h4⟩ := hT i hi t ht
  have e := h i hi t ht
  rw [CT_cong e, ZZ_cong e, e]
  exact ⟨h1, h2, h3, h4⟩
theorem KI_cong {T : TA} {K K' : Nat → Nat → Nat} {Y : Nat} (h : ∀ i, i < T 0 0 → ∀ t, t < T 1 0 → K' i t = K i t) (hT : KI T K Y) : KI T K' Y := fun i hi t ht => by
  rw [h i hi t ht]
  exact hT i hi t ht
theorem KI_up {T : TA} {K : Nat → Nat → Nat} {Y Y' : Nat} (h : Y ≤ Y') (hT : KI T K Y) : KI T K Y' := fun i hi t ht => by
  have := hT i hi t ht
  omega
section X4
variable {μ : Mem} {T : TA} {z : Nat}
theorem x_counted (hT : TX (μ z) T) (hB : TB T) {i b : Nat} (hi : i < T 0 0) (hb : b < 1000) : X4_countedFor z (nI i) (nI b) μ = some (nI (cnt (T 5 i) b), μ) := by
  have b0 := hB.1
  have b5 := (hB.2.2.2.2.2.1 i hi).1
  have t5 := (hT.2.2.2.2.2.1 i hi).1
  unfold X4_countedFor cnt
  simp (discharger := omega) only [giN, clN, t5]
  simp (discharger := omega) only [lt1, lt2, lt3, eqN, leN, pk_mul]
  by_cases h1 : T 5 i = 1
  · rw [if_pos h1, if_pos h1]
    by_cases h2 : 2 ≤ b
    · rw [if_pos h2, pk_sub h2]
    · rw [if_neg h2]
      have e : b - 2 = 0 := by omega
      rw [e]
      rfl
  · rw [if_neg h1, if_neg h1]
    by_cases h2 : T 5 i = 2
    · rw [if_pos h2, if_pos h2]
    · rw [if_neg h2, if_neg h2]
      by_cases h3 : T 5 i = 3
      · rw [if_pos h3, if_pos h3]
      · rw [if_neg h3, if_neg h3]
theorem x_costIn (hT : TX (μ z) T) (hB : TB T) {t y : Nat} (ht : t < T 1 0) : X4_costIn z (nI t) (nI y) μ = some (nI (T 7 t + T 4 0 * y), μ) := by
  have b1 := hB.2.1
  have t7 := hT.2.2.2.2.2.2.1 t ht
  have t4 := hT.2.2.2.2.1
  unfold X4_costIn
  simp (discharger := omega) only [giN, clN, t7, t4, pk_mul, nI_add]
theorem x_priceFor (hT : TX (μ z) T) (hB : TB T) {i t y : Nat} (hi : i < T 0 0) (ht : t < T 1 0) (hy : y < 128) : X4_priceFor z (nI i) (nI t) (nI y) μ = some (nI (if T 5 i = 3 then (T 7 t + T 4 0 * y) / 2 else T 7 t + T 4 0 * y), μ) := by
  have b0 := hB.1
  have b5 := (hB.2.2.2.2.2.1 i hi).1
  have t5 := (hT.2.2.2.2.2.1 i hi).1
  have hc := cost_lt hB ht hy
  unfold X4_priceFor
  simp (discharger := omega) only [x_costIn hT hB ht, bdO, giN, clN, t5]
  simp (discharger := omega) only [lt3, eqN]
  by_cases h : T 5 i = 3
  · rw [if_pos h, if_pos h, lt2, pk_div (by omega) (by omega) (by omega)]
  · rw [if_neg h, if_neg h]
end X4
section X2
variable {μ : Mem} {q : Nat} {y si : Int32} {co ow mi : Nat → Int32} {br sn cn pr : Nat → Nat → Int32} {T : TA} {K : Nat → Nat → Nat} {Y : Nat}
theorem TT_TC (hB : TB T) (hT : TT T K br sn cn pr) (hK : KI T K Y) : TC T (CT T K) (ZZ T K) cn pr := fun i hi t ht => by
  obtain ⟨-, -, h3, h4⟩ := hT i hi t ht
  have h5 := (hK i hi t ht).1
  have := @cnt_le (T 5 i) (K i t / 128)
  exact ⟨h3, h4, by unfold CT; omega⟩
theorem up2_at (b : Nat → Nat → Int32) (i j : Nat) (v : Int32) (i' j' : Nat) : up2 b i j v i' j' = if i' = i ∧ j' = j then v else b i' j' := rfl
theorem x_addPause (hq : q < 12) (hB : TB T) (hT : TX (μ 13) T) (hY : Y < 128) (hTT : TT T K br sn cn pr) (hK : KI T K Y) {i t b : Nat} (hi : i < T 0 0) (ht : t < T 1 0) (hb1 : 1 ≤ b) (hb : b ≤ 30) :
    ∃ br' sn' cn' pr', X1_addPause q (nI i) (nI t) (nI b) (MK μ q (nI Y) si co ow mi br sn cn pr) = some (MK μ q (nI Y) si co ow mi br' sn' cn' pr') ∧ TT T (adK K i t b Y) br' sn' cn' pr' ∧ KI T (adK K i t b Y) Y := by
  have b0 := hB.1
  have b1 := hB.2.1
  obtain ⟨h1, h2, h3, h4⟩ := hTT i hi t ht
  obtain ⟨k1, k2⟩ := hK i hi t ht
  unfold X1_addPause X1_addPause_b89
  simp (discharger := omega) only [giN, clN, MK_br, h1, ltN]
  by_cases c : K i t / 128 < b
  · rw [if_pos c]
    have hkk : max (ky b Y) (K i t) = ky b Y := by unfold ky; omega
    have hk8 : ky b Y / 128 = b := by unfold ky; omega
    have hkm : 127 - ky b Y % 128 = Y := by unfold ky; omega
    have hCT : CT T (adK K i t b Y) i t = cnt (T 5 i) b := by unfold CT adK; rw [if_pos ⟨rfl, rfl⟩, hkk, hk8]
    have hcl := @cnt_le (T 5 i) b
    have hX : ∀ a b' c' d, TX (MK μ q (nI Y) si co ow mi a b' c' d 13) T := fun a b' c' d => by rw [MK_13 hq]; exact hT
    have hc9 : (nI (cnt (T 5 i) b) < 9) ↔ ¬ 8 < cnt (T 5 i) b := by rw [lt9, ltN (by omega) (by omega)]; omega
    have hKI : KI T (adK K i t b Y) Y := fun i' hi' t' ht' => by
      unfold adK
      by_cases e : i = i' ∧ t = t'
      · rw [if_pos e, ← e.1, ← e.2, hkk]
        unfold ky
        omega
      · rw [if_neg e]
        exact hK i' hi' t' ht'
    have hold : ∀ i' t', ¬ (i = i' ∧ t = t') → adK K i t b Y i' t' = K i' t' := fun i' t' e => if_neg e
    have hnew : adK K i t b Y i t = ky b Y := by unfold adK; rw [if_pos ⟨rfl, rfl⟩, hkk]
    have hbn : ¬ ky b Y = 127 := by unfold ky; omega
    have hPR : PR T (adK K i t b Y) i t = if T 5 i = 3 then (T 7 t + T 4 0 * Y) / 2 else T 7 t + T 4 0 * Y := by unfold PR; rw [hnew, hkm]
    have fin : ∀ zv : Int32, zv = ZZ T (adK K i t b Y) i t → TT T (adK K i t b Y) (up2 br i t (nI b)) (up2 sn i t (nI Y)) (up2 cn i t (nI (cnt (T 5 i) b))) (up2 pr i t zv) := by
      intro zv hz i' hi' t' ht'
      simp only [up2_at]
      by_cases e : i' = i ∧ t' = t
      · obtain ⟨rfl, rfl⟩ := e
        simp only [and_self, if_true]
        rw [hnew, hk8, hkm, if_neg hbn, hCT]
        exact ⟨rfl, rfl, rfl, hz⟩
      · simp only [if_neg e]
        have e' : ¬ (i = i' ∧ t = t') := fun x => e ⟨x.1.symm, x.2.symm⟩
        rw [CT_cong (hold i' t' e'), ZZ_cong (hold i' t' e'), hold i' t' e']
        exact hTT i' hi' t' ht'
    simp (discharger := omega) only [MKs_br, MK_y, MKs_sn, x_counted (hX _ _ _ _) hB hi (by omega : b < 1000), bdO, MKs_cn, MK_cn, up2_at, and_self, if_true]
    by_cases c2 : 8 < cnt (T 5 i) b
    · rw [if_neg (fun e => hc9.mp e c2), x_priceFor (hX _ _ _ _) hB hi ht hY, bdO]
      simp only [MKs_pr]
      exact ⟨_, _, _, _, rfl, fin _ (by unfold ZZ; rw [hCT, if_pos c2, hPR]), hKI⟩
    · rw [if_pos (hc9.mpr c2)]
      simp only [MKs_pr]
      exact ⟨_, _, _, _, rfl, fin _ (by unfold ZZ; rw [hCT, if_neg c2]), hKI⟩
  · rw [if_neg c]
    have hsame : ∀ i', i' < T 0 0 → ∀ t', t' < T 1 0 → adK K i t b Y i' t' = K i' t' := fun i' _ t' _ => by
      unfold adK
      by_cases e : i = i' ∧ t = t'
      · rw [if_pos e, ← e.1, ← e.2]
        unfold ky
        omega
      · rw [if_neg e]
    exact ⟨br, sn, cn, pr, rfl, TT_cong hsame hTT, KI_cong hsame hK⟩
/-- the keys behind the told pauses of the year Y -/
def tdK (T : TA) (si : Int32) (Y : Nat) (K : Nat → Nat → Nat) (n : Nat) : Nat → Nat → Nat := fo (fun a K => if T 11 a = Y ∧ ¬ nI (T 8 a) = si then adK K (T 8 a) (T 9 a) (T 10 a) Y else K) n K
theorem x_told (hq : q < 12) (hB : TB T) (hT : TX (μ 13) T) (hY : Y < 128) (hTT : TT T K br sn cn pr) (hK : KI T K Y) :
    ∃ br' sn' cn' pr', X1_addToldPauses q (MK μ q (nI Y) si co ow mi br sn cn pr) = some (MK μ q (nI Y) si co ow mi br' sn' cn' pr') ∧ TT T (tdK T si Y K (T 2 0)) br' sn' cn' pr' ∧ KI T (tdK T si Y K (T 2 0)) Y := by
  obtain ⟨b0, b1, b2, -, -, -, -, b8⟩ := id hB
  obtain ⟨t0, t1, t2, -, -, -, -, t8⟩ := id hT
  unfold X1_addToldPauses
  obtain ⟨a', ν, ⟨rfl, br', sn', cn', pr', rfl, hTT', hK'⟩, K9, e⟩ := lo1_inv (b := X1_addToldPauses_b2 q) (T 2 0) (fun k a ν => a = nI k ∧ ∃ br' sn' cn' pr', ν = MK μ q (nI Y) si co ow mi br' sn' cn' pr' ∧ TT T (tdK T si Y K k) br' sn' cn' pr' ∧ KI T (tdK T si Y K k) Y) (fun k a ν hk hI => by
    obtain ⟨rfl, br', sn', cn', pr', rfl, hTT', hK'⟩ := hI
    obtain ⟨e1, e2, e3, e4⟩ := t8 k hk
    obtain ⟨c1, c2, c3, c4, c5⟩ := b8 k hk
    have hst : tdK T si Y K (k + 1) = if T 11 k = Y ∧ ¬ nI (T 8 k) = si then adK (tdK T si Y K k) (T 8 k) (T 9 k) (T 10 k) Y else tdK T si Y K k := rfl
    unfold X1_addToldPauses_b2 X1_addToldPauses_b76
    simp (discharger := omega) only [MK_13 hq, MK_y, MK_si, t2, leN, giN, clN, e1, e2, e3, e4, eqN, nI_1]
    by_cases d1 : T 11 k = Y
    · by_cases d2 : nI (T 8 k) = si
      · refine ⟨nI (k + 1), _, ⟨rfl, br', sn', cn', pr', rfl, ?_⟩, fun Kc => ?_⟩
        · rw [hst, if_neg (fun e => e.2 d2)]
          exact ⟨hTT', hK'⟩
        · rw [if_neg (by omega), if_pos d1, if_pos d2]
      · obtain ⟨br2, sn2, cn2, pr2, h1, h2, h3⟩ := x_addPause (si := si) (co := co) (ow := ow) (mi := mi) hq hB hT hY hTT' hK' c1 c2 c3 c4
        refine ⟨nI (k + 1), _, ⟨rfl, br2, sn2, cn2, pr2, rfl, ?_⟩, fun Kc => ?_⟩
        · rw [hst, if_pos ⟨d1, d2⟩]
          exact ⟨h2, h3⟩
        · rw [if_neg (by omega), if_pos d1, if_neg d2, h1, bdvO]
    · refine ⟨nI (k + 1), _, ⟨rfl, br', sn', cn', pr', rfl, ?_⟩, fun Kc => ?_⟩
      · rw [hst, if_neg (fun e => d1 e.1)]
        exact ⟨hTT', hK'⟩
      · rw [if_neg (by omega), if_neg d1]) 0 _ ⟨rfl, br, sn, cn, pr, rfl, hTT, hK⟩ 1000 (by omega)
  refine ⟨br', sn', cn', pr', ?_, hTT', hK'⟩
  rw [e]
  unfold X1_addToldPauses_b2
  simp (discharger := omega) only [MK_13 hq, t2, leN]
  rw [if_pos (Nat.le_refl _)]
end X2
