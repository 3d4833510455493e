/-! THE TEXT: read -/
def dueN (c : Nat) : Nat := if c = 97 then 4 else if c = 101 then 1 else if c = 103 then 1 else if c = 112 then 2 else if c = 116 then 1 else 0
section RD2
variable {ch : Nat → Nat} {N q : Nat} {x m : Mem} {T : TA} {p : Nat}
theorem b_it (hq : q = 12 ∨ q = 13) (h : TXT ch N x m) (hD : DR q T x m) (hp : p < N) : IT ch N q (dueN (ch p)) x m p := by
  unfold dueN
  by_cases c1 : ch p = 97
  · rw [if_pos c1]; exact it_a hq h hD hp c1
  rw [if_neg c1]
  by_cases c2 : ch p = 101
  · rw [if_pos c2]; exact it_e hq h hD hp c2
  rw [if_neg c2]
  by_cases c3 : ch p = 103
  · rw [if_pos c3]; exact it_g hq h hD hp c3
  rw [if_neg c3]
  by_cases c4 : ch p = 112
  · rw [if_pos c4]; exact it_p hq h hD hp c4
  rw [if_neg c4]
  by_cases c5 : ch p = 116
  · rw [if_pos c5]; exact it_t hq h hD hp c5
  rw [if_neg c5]
  exact it_0 h hp c1 c2 c3 c4 c5
theorem x_item (h : TXT ch N x m) (hp : p < N) : X2_readItem (nI N) (pp x p) = rdL N (dueN (ch p)) 1000 0 (pp x (p + 1)) := by
  have h200 := h.1
  have hl := h.2.2.2.1 p
  unfold X2_readItem
  rw [x_letter h (by omega), bdO]
  have hd : ∀ y, X2_numbersDue (nI (ch p)) y = some (nI (dueN (ch p)), y) := fun y => by
    unfold X2_numbersDue dueN
    have ne : ∀ c, c < 1000 → (nI (ch p) = nI c ↔ ch p = c) := fun c hc => eqN (by omega) (by omega)
    by_cases c1 : ch p = 97
    · rw [if_pos (show nI (ch p) = (97 : Int32) from (ne 97 (by omega)).mpr c1), if_pos c1]; rfl
    rw [if_neg (show ¬ nI (ch p) = (97 : Int32) from fun z => c1 ((ne 97 (by omega)).mp z)), if_neg c1]
    by_cases c2 : ch p = 101
    · rw [if_pos (show nI (ch p) = (101 : Int32) from (ne 101 (by omega)).mpr c2), if_pos c2]; rfl
    rw [if_neg (show ¬ nI (ch p) = (101 : Int32) from fun z => c2 ((ne 101 (by omega)).mp z)), if_neg c2]
    by_cases c3 : ch p = 103
    · rw [if_pos (show nI (ch p) = (103 : Int32) from (ne 103 (by omega)).mpr c3), if_pos c3]; rfl
    rw [if_neg (show ¬ nI (ch p) = (103 : Int32) from fun z => c3 ((ne 103 (by omega)).mp z)), if_neg c3]
    by_cases c4 : ch p = 112
    · rw [if_pos (show nI (ch p) = (112 : Int32) from (ne 112 (by omega)).mpr c4), if_pos c4]; rfl
    rw [if_neg (show ¬ nI (ch p) = (112 : Int32) from fun z => c4 ((ne 112 (by omega)).mp z)), if_neg c4]
    by_cases c5 : ch p = 116
    · rw [if_pos (show nI (ch p) = (116 : Int32) from (ne 116 (by omega)).mpr c5), if_pos c5]; rfl
    rw [if_neg (show ¬ nI (ch p) = (116 : Int32) from fun z => c5 ((ne 116 (by omega)).mp z)), if_neg c5]
    rfl
  rw [hd, bdO, pp_up]
  rfl
theorem TXT_to {x' m' : Mem} (hq : q = 12 ∨ q = 13) (h : TXT ch N x m) (hx : FX q x x') (hm : FM m m') : TXT ch N x' m' := by
  obtain ⟨h1, h2, h3, h4, h5⟩ := h
  refine ⟨h1, by rw [hm 1 (by omega) (by omega)]; exact h2, fun k hk => ?_, h4, h5⟩
  rw [hx 17 (by omega) (by omega), hm 0 (by omega) (by omega)]
  exact h3 k hk
theorem FM_to {m' m'' : Mem} (h : FM m m') (h2 : FM m' m'') : FM m m'' := fun f a b => by rw [h2 f a b, h f a b]
theorem read_loop (hq : q = 12 ∨ q = 13) : ∀ D p k F1 F2 T x m, N - p ≤ D → p ≤ N → k ≤ p → D < F1 → D < F2 → TXT ch N x m → DR q T x m → ∃ r x' m', lo1 (X2_read_b12 q (nI N)) F1 (nI k) (pp x p) = some (r, x') ∧ lo0 X6_readsAll_b9 F2 (mm m p) = some (r, m') ∧ FX q x x' ∧ FM m m' ∧ (r = -4 → ∃ T', DR q T' x' m') := by
  intro D
  induction D with
  | zero =>
    intro p k F1 F2 T x m hd hp hk h1 h2 h hD
    obtain ⟨g1, rfl⟩ : ∃ f, F1 = f + 1 := ⟨F1 - 1, by omega⟩
    obtain ⟨g2, rfl⟩ : ∃ f, F2 = f + 1 := ⟨F2 - 1, by omega⟩
    have h200 := h.1
    have e : p = N := by omega
    subst e
    refine ⟨-4, pp x p, mm m p, ?_, ?_, FX_pp q x p, FM_mm m p, fun _ => ⟨T, hD.1, ?_, ?_⟩⟩
    · show X2_read_b12 q (nI p) (lo1 (X2_read_b12 q (nI p)) g1) (nI k) _ = _
      generalize lo1 (X2_read_b12 q (nI p)) g1 = K
      unfold X2_read_b12
      rw [pp_at, if_pos (show nI p ≤ nI p by rw [leN (by omega) (by omega)]; omega)]
      split <;> rfl
    · show X6_readsAll_b9 (lo0 X6_readsAll_b9 g2) _ = _
      generalize lo0 X6_readsAll_b9 g2 = K
      unfold X6_readsAll_b9
      rw [mm_at, mm_o m (by omega), h.2.1, if_pos (show nI p ≤ nI p by rw [leN (by omega) (by omega)]; omega)]
    · have : pp x p q = x q := by funext f i; exact pp_o x (by omega)
      rw [this]; exact hD.2.1
    · rw [mm_o m (by omega)]; exact hD.2.2
  | succ D ih =>
    intro p k F1 F2 T x m hd hp hk h1 h2 h hD
    by_cases hpN : p = N
    · exact ih p k F1 F2 T x m (by omega) hp hk (by omega) (by omega) h hD
    obtain ⟨g1, rfl⟩ : ∃ f, F1 = f + 1 := ⟨F1 - 1, by omega⟩
    obtain ⟨g2, rfl⟩ : ∃ f, F2 = f + 1 := ⟨F2 - 1, by omega⟩
    have h200 := h.1
    have hpl : p < N := by omega
    have hl := (h.2.2.1 p hpl)
    have kX : ∀ K, X2_read_b12 q (nI N) K (nI k) (pp x p) = bd (rdL N (dueN (ch p)) 1000 0 (pp x (p + 1))) fun r_7 μ_6 => (if r_7 = 0 then (some (nI p, μ_6)) else (bd (X4_takeItem q (μ_6 17 0 0 p) μ_6) fun r_12 μ_11 => (if r_12 = 0 then (some (nI p, μ_11)) else (K (nI (k + 1)) μ_11)))) := fun K => by
      unfold X2_read_b12
      rw [pp_at, if_neg (show ¬ nI N ≤ nI k by rw [leN (by omega) (by omega)]; omega), if_neg (show ¬ nI N ≤ nI p by rw [leN (by omega) (by omega)]; omega), x_item h hpl, nI_1, clN (by omega)]
      simp (discharger := omega) only [giN]
    have kM : ∀ K, X6_readsAll_b9 K (mm m p) = bd (X6_readsItem (nI (ch p)) (mm m (p + 1))) fun r_7 μ_6 => (if r_7 = 0 then (some (nI p, μ_6)) else (K μ_6)) := fun K => by
      unfold X6_readsAll_b9
      rw [mm_up, mm_at, mm_o m (by omega), h.2.1, if_neg (show ¬ nI N ≤ nI p by rw [leN (by omega) (by omega)]; omega), giN (by omega) (by omega), clN (by omega), mm_o m (by omega), hl.2]
    rcases b_it hq h hD hpl with ⟨T', x1, x', m', p', q1, q2, q3, q4, q5, q6, q7, q8, q9⟩ | ⟨x', m', q1, q2, q3, q4⟩
    · obtain ⟨r, x'', m'', w1, w2, w3, w4, w5⟩ := ih p' (k + 1) g1 g2 T' x' m' (by omega) q2 (by omega) (by omega) (by omega) (TXT_to hq h q4 q5) q3
      refine ⟨r, x'', m'', ?_, ?_, FX_to q4 w3, FM_to q5 w4, w5⟩
      · show X2_read_b12 q (nI N) (lo1 (X2_read_b12 q (nI N)) g1) (nI k) _ = _
        rw [kX, q6, bdO, if10, q7, hl.1, q8, bdO, if10, w1]
      · show X6_readsAll_b9 (lo0 X6_readsAll_b9 g2) _ = _
        rw [kM, q9, bdO, if10, w2]
    · refine ⟨nI p, x', m', ?_, ?_, q1, q2, fun z => absurd z (neM (by omega))⟩
      · show X2_read_b12 q (nI N) (lo1 (X2_read_b12 q (nI N)) g1) (nI k) _ = _
        rw [kX]
        rcases q3 with w | ⟨x1, w1, w2, w3⟩
        · rw [w, bdO, if00]
        · rw [w1, bdO, if10, w2, hl.1, w3, bdO, if00]
      · show X6_readsAll_b9 (lo0 X6_readsAll_b9 g2) _ = _
        rw [kM, q4, bdO, if00]
def T0 : TA := fun f _ => if f = 3 then 5 else if f = 4 then 2 else 0
theorem m_begins : ∃ g, X6_begins m = some (xa m 20 3 0 g) ∧ TM g T0 := by
  have e := lo1_eq (b := X6_begins_b2) (E := some (xa m 20 3 0 (upd (upd (cpF (fun _ => 0) 0 59 (m 20 3 0)) 3 5) 4 2))) 59 (fun k => nI k) (fun k => xa m 20 3 0 (cpF (fun _ => 0) 0 k (m 20 3 0))) (fun k hk K => by
    unfold X6_begins_b2
    have h := cpF_s (fun _ => (0 : Int32)) 0 k (m 20 3 0)
    rw [Nat.zero_add] at h
    rw [if_neg (show ¬ 59 ≤ nI k by rw [lt59, leN (by omega) (by omega)]; omega), giN (by omega) (by omega), clN (by omega), xs_xa, xa_xa, xa_row, nI_1, ← h]) (fun K => by
    unfold X6_begins_b2
    rw [if_pos (show 59 ≤ nI 59 by rw [lt59, leN (by omega) (by omega)]; omega), gl3 (by omega) (by omega), gl4 (by omega) (by omega), tc3, tc4, xs_xa, xs_xa, xa_xa, xa_xa, xa_row, xa_row]) 1000 (by omega)
  rw [cpF_0, xa_me] at e
  refine ⟨_, e, ?_⟩
  have o : ∀ j, j < 59 → cpF (fun _ => (0 : Int32)) 0 59 (m 20 3 0) j = 0 := fun j hj => cpF_0n hj
  refine ⟨?_, ?_, ?_, ?_, ?_, fun i hi => absurd hi (Nat.not_lt_zero i), fun i hi => absurd hi (Nat.not_lt_zero i), fun i hi => absurd hi (Nat.not_lt_zero i)⟩
  · rw [upd_at, if_neg (by omega), upd_at, if_neg (by omega), o 0 (by omega)]; rfl
  · rw [upd_at, if_neg (by omega), upd_at, if_neg (by omega), o 1 (by omega)]; rfl
  · rw [upd_at, if_neg (by omega), upd_at, if_neg (by omega), o 2 (by omega)]; rfl
  · rw [upd_at, if_neg (by omega), upd_at, if_pos rfl]; rfl
  · rw [upd_at, if_pos rfl]; rfl
theorem b_read (hq : q = 12 ∨ q = 13) (h : RX x m) : ∃ r x' m', X2_read q (x 17 9 0 0) x = some (r, x') ∧ X6_readsAll m = some (r, m') ∧ FX q x x' ∧ FM m m' ∧ (r = -4 → ∃ T', DR q T' x' m') := by
  obtain ⟨n, n200, e1, e2, hl⟩ := h
  obtain ⟨g, k1, k2⟩ := m_begins (m := m)
  let ch : Nat → Nat := fun k => if k < n then (m 20 0 0 k).toNatClampNeg else 0
  have hT : TXT ch n x m := by
    refine ⟨n200, e2, fun k hk => ?_, fun k => ?_, fun k hk => if_neg (by omega)⟩
    · obtain ⟨q1, c, q2, q3, q4⟩ := hl k hk
      have : ch k = c := by
        show (if k < n then (m 20 0 0 k).toNatClampNeg else 0) = c
        rw [if_pos hk, q4, clN (by omega)]
      rw [q1, q4, this]
      exact ⟨rfl, rfl⟩
    · show (if k < n then (m 20 0 0 k).toNatClampNeg else 0) ≤ 126
      by_cases hk : k < n
      · obtain ⟨q1, c, q2, q3, q4⟩ := hl k hk
        rw [if_pos hk, q4, clN (by omega)]
        exact q3
      · rw [if_neg hk]; omega
  have hX : FX q x (xs (xs (xs (xs (xs x q 0 0 0 0) q 1 0 0 0) q 2 0 0 0) q 3 0 0 5) q 4 0 0 2) := fun q' h1 h2 => by
    funext f i
    rw [xs_fr _ (by omega), xs_fr _ (by omega), xs_fr _ (by omega), xs_fr _ (by omega), xs_fr _ (by omega)]
  have hM : FM m (xa m 20 3 0 g) := fun f h1 h2 => xa_fr m (by omega)
  have hD : DR q T0 (xs (xs (xs (xs (xs x q 0 0 0 0) q 1 0 0 0) q 2 0 0 0) q 3 0 0 5) q 4 0 0 2) (xa m 20 3 0 g) := by
    refine ⟨⟨by decide, by decide, by decide, by decide, by decide, fun i hi => absurd hi (Nat.not_lt_zero i), fun i hi => absurd hi (Nat.not_lt_zero i), fun i hi => absurd hi (Nat.not_lt_zero i)⟩, ⟨?_, ?_, ?_, ?_, ?_, fun i hi => absurd hi (Nat.not_lt_zero i), fun i hi => absurd hi (Nat.not_lt_zero i), fun i hi => absurd hi (Nat.not_lt_zero i)⟩, by rw [xa_row]; exact k2⟩
    · rw [xs_fr _ (by omega), xs_fr _ (by omega), xs_fr _ (by omega), xs_fr _ (by omega), xs_self]; rfl
    · rw [xs_fr _ (by omega), xs_fr _ (by omega), xs_fr _ (by omega), xs_self]; rfl
    · rw [xs_fr _ (by omega), xs_fr _ (by omega), xs_self]; rfl
    · rw [xs_fr _ (by omega), xs_self]; rfl
    · rw [xs_self]; rfl
  obtain ⟨r, x', m', w1, w2, w3, w4, w5⟩ := read_loop hq n 0 0 1000 1000 T0 _ _ (by omega) (by omega) (by omega) (by omega) (by omega) (TXT_to hq hT hX hM) hD
  refine ⟨r, x', m', ?_, ?_, FX_to hX w3, FM_to hM w4, w5⟩
  · unfold X2_read X4_clear
    rw [bdvO, e1]
    exact w1
  · unfold X6_readsAll
    rw [k1, bdvO]
    exact w2
end RD2
theorem op_fault : OP X5_fault X6_fault := by
  intro x m ⟨T, hA⟩
  obtain ⟨r, x', m', w1, w2, w3, w4, -⟩ := b_read (q := 12) (Or.inl rfl) hA.2.2.2.2.2
  unfold X5_fault X6_fault
  rw [w1, w2, bdO, bdO]
  exact ⟨_, _, _, rfl, rfl, RR_frame (x := x) (m := m) ⟨T, hA⟩ (fun q h1 h2 h3 => w3 q h2 h3) (fun f h1 h2 h3 h4 => w4 f h1 h3) (fun j hj => by rw [w4 4 (by omega) (by omega)])⟩
