/-! A MARKET BEGINS -/
theorem x_fill {μ : Mem} {q f i : Nat} {v : Int32} : J7_fill_53178 q f i v μ = some (xa μ q f i (cpF (fun _ => v) 0 6 (μ q f i))) := by
  have e := lo1_eq (b := J7_fill_53178_b5 q f i v 6) (E := some (xa μ q f i (cpF (fun _ => v) 0 6 (μ q f i)))) 6 (fun k => nI k) (fun k => xa μ q f i (cpF (fun _ => v) 0 k (μ q f i))) (fun k hk K => by
    unfold J7_fill_53178_b5
    simp (discharger := omega) only [lt6, leN, giN, clN, xs_xa, xa_xa, xa_row, nI_1]
    rw [if_neg (by omega)]
    have h := cpF_s (fun _ => v) 0 k (μ q f i)
    rw [Nat.zero_add] at h
    rw [h]) (fun K => by
    unfold J7_fill_53178_b5
    simp (discharger := omega) only [lt6, leN]
    rw [if_pos (Nat.le_refl _)]) 1000 (by omega)
  rw [cpF_0, xa_me] at e
  exact e
theorem cpF_0n {f g : Nat → Int32} {n j : Nat} (h : j < n) : cpF f 0 n g j = f j := by
  have := cpF_in f 0 n g h
  rwa [Nat.zero_add] at this
def K0 : Nat → Nat → Nat := fun _ _ => 127
theorem tdK_0 (T : TA) (fe : Int32) (i t : Nat) : tdK T fe 0 K0 (T 2 0) i t = KK T fe (fun _ _ => 127) 0 i t := by
  rw [tdK_at]
  unfold KK
  by_cases e : nI i = fe
  · rw [if_pos e, if_pos e]
    rfl
  · rw [if_neg e, if_neg e, tk_fm]
    have h : (fun a => decide (T 8 a = i ∧ T 9 a = t ∧ T 11 a = 0)) = (fun a => decide (T 8 a = i ∧ T 9 a = t ∧ T 11 a ≤ 0)) := by
      funext a
      simp only [Nat.le_zero_eq]
    rw [h]
    rfl
/-- the reference's row at the start -/
def S0 (T : TA) (s : Nat → Int32) : Prop := (∀ i, i < T 0 0 → s i = nI (T 6 i)) ∧ (∀ t, t < 6 → s (6 + t) = -4) ∧ ∀ j, 12 ≤ j → j < 55 → s j = 0
theorem x_begin0 {μ : Mem} {q : Nat} {fe : Int32} (hq : q < 12) {y si : Int32} {co ow mi : Nat → Int32} {br sn cn pr : Nat → Nat → Int32} : X1_begin q fe (MK μ q y si co ow mi br sn cn pr) = lo1 (X1_begin_b47 q) 1000 0 (MK μ q 0 fe (va_cpy (μ 13 6 0) co 0 0 6) (cpF (fun _ => -4) 0 6 ow) (cpF (fun _ => 0) 0 6 mi) br sn cn pr) := by
  unfold X1_begin
  simp only [MKs_y, MKs_si, MK_13 hq, MK_co, MKa_co]
  rw [mltE, x_fill, bdvO]
  simp only [MK_ow, MKa_ow]
  rw [x_fill, bdvO]
  simp only [MK_mi, MKa_mi]
theorem x_begin1 {μ : Mem} {q : Nat} {y si : Int32} {co ow mi : Nat → Int32} {br sn cn pr : Nat → Nat → Int32} {k : Nat} (hk : k < 6) (Kc : Int32 → Mem → Option Mem) : X1_begin_b47 q Kc (nI k) (MK μ q y si co ow mi br sn cn pr) = Kc (nI (k + 1)) (MK μ q y si co ow mi (upr br k (cpF (fun _ => 0) 0 6 (br k))) (upr sn k (cpF (fun _ => -4) 0 6 (sn k))) (upr cn k (cpF (fun _ => 0) 0 6 (cn k))) (upr pr k (cpF (fun _ => -4) 0 6 (pr k)))) := by
  unfold X1_begin_b47
  simp (discharger := omega) only [giN, clN, lt6, leN, nI_1]
  rw [if_neg (by omega), x_fill]
  simp only [MK_br, MKa_br, bdvO]
  rw [x_fill]
  simp only [MK_sn, MKa_sn, bdvO]
  rw [x_fill]
  simp only [MK_cn, MKa_cn, bdvO]
  rw [x_fill]
  simp only [MK_pr, MKa_pr, bdvO]
theorem x_begin {μ : Mem} {q : Nat} {T : TA} {fe : Int32} {s : Nat → Int32} (hq : q < 12) (hB : TB T) (hT : TX (μ 13) T) (hs : S0 T s) : ∃ ν, X1_begin q fe μ = some ν ∧ (∀ q', q' ≠ q → ν q' = μ q') ∧ RQ T fe (ν q) s (fun _ _ => 127) 0 := by
  have b0 := hB.1
  have b1 := hB.2.1
  obtain ⟨s1, s2, s3⟩ := hs
  have hk := x_begin0 (μ := μ) (q := q) (fe := fe) hq (y := μ q 1 0 0) (si := μ q 2 0 0) (co := μ q 3 0) (ow := μ q 4 0) (mi := μ q 5 0) (br := μ q 6) (sn := μ q 7) (cn := μ q 8) (pr := μ q 9)
  rw [MK_me] at hk
  obtain ⟨a', ν, ⟨rfl, br', sn', cn', pr', rfl, hI⟩, K9, e⟩ := lo1_inv (b := X1_begin_b47 q) 6 (fun k a ν => a = nI k ∧ ∃ br sn cn pr, ν = MK μ q 0 fe (va_cpy (μ 13 6 0) (μ q 3 0) 0 0 6) (cpF (fun _ => -4) 0 6 (μ q 4 0)) (cpF (fun _ => 0) 0 6 (μ q 5 0)) br sn cn pr ∧ ∀ i, i < k → ∀ j, j < 6 → br i j = 0 ∧ sn i j = -4 ∧ cn i j = 0 ∧ pr i j = -4) (fun k a ν hk hI => by
    obtain ⟨rfl, br, sn, cn, pr, rfl, hI⟩ := hI
    refine ⟨nI (k + 1), _, ⟨rfl, upr br k (cpF (fun _ => 0) 0 6 (br k)), upr sn k (cpF (fun _ => -4) 0 6 (sn k)), upr cn k (cpF (fun _ => 0) 0 6 (cn k)), upr pr k (cpF (fun _ => -4) 0 6 (pr k)), rfl, fun i hi j hj => ?_⟩, fun Kc => ?_⟩
    · unfold upr
      by_cases e : i = k
      · subst e
        simp only [if_true]
        rw [cpF_0n hj, cpF_0n hj, cpF_0n hj, cpF_0n hj]
        exact ⟨rfl, rfl, rfl, rfl⟩
      · simp only [if_neg e]
        exact hI i (by omega) j hj
    · exact x_begin1 hk Kc) 0 (MK μ q 0 fe (va_cpy (μ 13 6 0) (μ q 3 0) 0 0 6) (cpF (fun _ => -4) 0 6 (μ q 4 0)) (cpF (fun _ => 0) 0 6 (μ q 5 0)) (μ q 6) (μ q 7) (μ q 8) (μ q 9)) ⟨rfl, _, _, _, _, rfl, fun i hi => absurd hi (by omega)⟩ 1000 (by omega)
  have hTT : TT T K0 br' sn' cn' pr' := fun i hi t ht => by
    obtain ⟨w1, w2, w3, w4⟩ := hI i (by omega) t (by omega)
    have h0 : K0 i t / 128 = 0 := by unfold K0; omega
    have hc : CT T K0 i t = 0 := by
      have := cnt_le (k := T 5 i) (b := 0)
      unfold CT
      rw [h0]
      omega
    refine ⟨by rw [w1, h0]; rfl, by rw [w2, if_pos (show K0 i t = 127 from rfl)], by rw [w3, hc]; rfl, ?_⟩
    unfold ZZ
    rw [w4, hc, if_neg (by omega)]
  have hKI : KI T K0 0 := fun i hi t ht => ⟨by unfold K0; omega, Or.inl rfl⟩
  obtain ⟨br2, sn2, cn2, pr2, q1, q2, q3⟩ := x_told (μ := μ) (si := fe) (co := va_cpy (μ 13 6 0) (μ q 3 0) 0 0 6) (ow := cpF (fun _ => -4) 0 6 (μ q 4 0)) (mi := cpF (fun _ => 0) 0 6 (μ q 5 0)) hq hB hT (by omega : (0 : Nat) < 128) hTT hKI
  refine ⟨MK μ q (nI 0) fe (va_cpy (μ 13 6 0) (μ q 3 0) 0 0 6) (cpF (fun _ => -4) 0 6 (μ q 4 0)) (cpF (fun _ => 0) 0 6 (μ q 5 0)) br2 sn2 cn2 pr2, ?_, fun q' hq' => MK_o hq', ?_⟩
  · rw [hk, e]
    unfold X1_begin_b47
    simp (discharger := omega) only [lt6, leN]
    rw [if_pos (Nat.le_refl _), show (0 : Int32) = nI 0 from rfl]
    rw [show (0 : Int32) = nI 0 from rfl] at q1
    rw [q1, bdvO]
  · have hKK := fun i (_ : i < T 0 0) t (_ : t < T 1 0) => (tdK_0 T fe i t).symm
    refine ⟨MK_y, MK_si, ?_, ?_, KI_cong hKK q3, ?_⟩
    · rw [MK_co, MK_ow, MK_mi]
      refine ⟨fun i hi => ?_, fun t ht => ?_, fun t ht => ?_⟩
      · rw [s1 i hi]
        show _ = va_cpy (μ 13 6 0) (μ q 3 0) 0 0 6 i
        rw [cpy6 _ _ (by omega), (hT.2.2.2.2.2.1 i hi).2]
      · rw [s2 t (by omega)]
        show (-4 : Int32) = cpF (fun _ => -4) 0 6 (μ q 4 0) t
        exact (cpF_0n (f := fun _ => -4) (n := 6) (by omega)).symm
      · rw [s3 _ (by omega) (by omega)]
        have : cpF (fun _ => (0 : Int32)) 0 6 (μ q 5 0) t = 0 := cpF_0n (by omega)
        exact ⟨this.symm, 0, by omega, this⟩
    · rw [MK_br, MK_sn, MK_cn, MK_pr]
      exact TT_cong hKK q2
    · refine ⟨s3 54 (by omega) (by omega), fun i hi t ht => ⟨?_, by show 127 < 4096; omega⟩⟩
      rw [s3 _ (by omega) (by omega)]
      show (0 : Int32) = nI (unk 127)
      rw [show unk 127 = 0 by unfold unk; omega]
      rfl
theorem m_starts {m : Mem} {T : TA} (hB : TB T) (hT : TM (m 20 2 0) T) : ∃ s, X6_starts m = some (xa m 20 4 0 s) ∧ S0 T s := by
  have b0 := hB.1
  let g : Nat → Int32 := fun j => if j < 6 then m 20 2 0 (11 + j) else if j < 12 then -4 else 0
  have e := lo1_eq (b := X6_starts_b2) (E := some (xa m 20 4 0 (cpF g 0 55 (m 20 4 0)))) 55 (fun k => nI k) (fun k => xa m 20 4 0 (cpF g 0 k (m 20 4 0))) (fun k hk K => by
    unfold X6_starts_b2 X6_starts_b43
    have h := cpF_s g 0 k (m 20 4 0)
    rw [Nat.zero_add] at h
    rw [if_neg (show ¬ 55 ≤ nI k by rw [lt55, leN (by omega) (by omega)]; omega)]
    by_cases c1 : 6 ≤ k
    · rw [if_pos (show 6 ≤ nI k by rw [lt6, leN (by omega) (by omega)]; omega)]
      by_cases c2 : 12 ≤ k
      · have hg : g k = 0 := by
          show (if k < 6 then m 20 2 0 (11 + k) else if k < 12 then -4 else 0) = (0 : Int32)
          rw [if_neg (by omega), if_neg (by omega)]
        rw [if_pos (show 12 ≤ nI k by rw [lt12, leN (by omega) (by omega)]; omega), giN (by omega) (by omega), clN (by omega), xs_xa, xa_xa, xa_row, nI_1, ← h, hg]
      · have hg : g k = -4 := by
          show (if k < 6 then m 20 2 0 (11 + k) else if k < 12 then -4 else 0) = (-4 : Int32)
          rw [if_neg (by omega), if_pos (by omega)]
        rw [if_neg (show ¬ 12 ≤ nI k by rw [lt12, leN (by omega) (by omega)]; omega), giN (by omega) (by omega), clN (by omega), xs_xa, xa_xa, xa_row, nI_1, ← h, hg]
    · have hg : g k = m 20 2 0 (11 + k) := by
        show (if k < 6 then m 20 2 0 (11 + k) else if k < 12 then -4 else 0) = m 20 2 0 (11 + k)
        rw [if_pos (by omega)]
      rw [if_neg (show ¬ 6 ≤ nI k by rw [lt6, leN (by omega) (by omega)]; omega), ad11, giN (by omega) (by omega), giN (by omega) (by omega), clN (by omega), clN (by omega), xa_fr m (by omega), xs_xa, xa_xa, xa_row, nI_1, ← h, hg]) (fun K => by
    unfold X6_starts_b2
    simp (discharger := omega) only [lt55, leN]
    rw [if_pos (Nat.le_refl _)]) 1000 (by omega)
  rw [cpF_0, xa_me] at e
  refine ⟨_, e, fun i hi => ?_, fun t ht => ?_, fun j h1 h2 => ?_⟩
  · rw [cpF_0n (by omega)]
    show (if i < 6 then m 20 2 0 (11 + i) else if i < 12 then -4 else 0) = nI (T 6 i)
    rw [if_pos (by omega)]
    exact (hT.2.2.2.2.2.1 i hi).2
  · rw [cpF_0n (by omega)]
    show (if 6 + t < 6 then m 20 2 0 (11 + (6 + t)) else if 6 + t < 12 then -4 else 0) = (-4 : Int32)
    rw [if_neg (by omega), if_pos (by omega)]
  · rw [cpF_0n (by omega)]
    show (if j < 6 then m 20 2 0 (11 + j) else if j < 12 then -4 else 0) = (0 : Int32)
    rw [if_neg (by omega), if_neg (by omega)]
