/-! FEIGNED -/
def wb (b : Bool) : Int32 := if b = true then 1 else 0
def ag (g : Nat → Bool) : Nat → Nat → Bool
  | 0, _ => true
  | d + 1, k => g k && ag g d (k + 1)
/-- the note k agrees with the owners behind fair f -/
def gd (x : Mem) (own : Nat → Int32) (f k : Nat) : Bool := decide (¬ x 16 2 0 k = nI f ∨ own (x 16 0 0 k).toNatClampNeg = x 16 1 0 k)
theorem x_notes {ξ : Mem} {N f : Nat} (hn : ξ 16 3 0 0 = nI N) (hN : N ≤ 6) (ht : ∀ k, k < N → ∃ t, t < 6 ∧ ξ 16 0 0 k = nI t) (K7 : Int32 → Mem → Option (Int32 × Mem)) : ∀ d k fuel, k + d = N → d < fuel → lo1 (X3_allHoldIn_b21 K7 (nI f)) fuel (nI k) ξ = if ag (gd ξ (ξ 1 4 0) f) d k = true then K7 (nI (f + 1)) ξ else some (0, ξ) := by
  intro d
  induction d with
  | zero =>
    intro k fuel hk hf
    obtain ⟨g, rfl⟩ : ∃ g, fuel = g + 1 := ⟨fuel - 1, by omega⟩
    show X3_allHoldIn_b21 K7 (nI f) (lo1 (X3_allHoldIn_b21 K7 (nI f)) g) (nI k) ξ = _
    generalize lo1 (X3_allHoldIn_b21 K7 (nI f)) g = Kc
    unfold X3_allHoldIn_b21
    rw [hn, if_pos (show nI N ≤ nI k by rw [leN (by omega) (by omega)]; omega), nI_1]
    exact (if_pos rfl).symm
  | succ d ih =>
    intro k fuel hk hf
    obtain ⟨g, rfl⟩ : ∃ g, fuel = g + 1 := ⟨fuel - 1, by omega⟩
    have h1 := ih (k + 1) g (by omega) (by omega)
    have hst : ag (gd ξ (ξ 1 4 0) f) (d + 1) k = (gd ξ (ξ 1 4 0) f k && ag (gd ξ (ξ 1 4 0) f) d (k + 1)) := rfl
    obtain ⟨t, t6, et⟩ := ht k (by omega)
    show X3_allHoldIn_b21 K7 (nI f) (lo1 (X3_allHoldIn_b21 K7 (nI f)) g) (nI k) ξ = _
    generalize lo1 (X3_allHoldIn_b21 K7 (nI f)) g = Kc at h1 ⊢
    unfold X3_allHoldIn_b21 X3_allHoldIn_b65
    rw [hn, if_neg (show ¬ nI N ≤ nI k by rw [leN (by omega) (by omega)]; omega), hst]
    unfold gd
    simp (discharger := omega) only [giN, clN, nI_1, et, h1]
    by_cases c : ξ 16 2 0 k = nI f
    · by_cases e : ξ 1 4 0 t = ξ 16 1 0 k
      · rw [if_pos c, if_pos e, decide_eq_true (Or.inr e), Bool.true_and]
        rfl
      · rw [if_pos c, if_neg e, decide_eq_false (fun q => q.elim (fun z => z c) e), Bool.false_and]
        rfl
    · rw [if_neg c, decide_eq_true (Or.inl c), Bool.true_and]
      rfl
theorem m_notes {ξ m : Mem} {N f : Nat} (hf9 : f < 1000) (hn : m 20 10 0 0 = nI N) (hN : N ≤ 6) (ht : ∀ k, k < N → ∃ t i F, t < 6 ∧ i < 6 ∧ 1 ≤ F ∧ F ≤ 9 ∧ ξ 16 0 0 k = nI t ∧ ξ 16 1 0 k = nI i ∧ ξ 16 2 0 k = nI F ∧ m 20 9 0 k = nI (100 * F + 10 * t + i) ∧ m 20 4 0 (6 + t) = ξ 1 4 0 t) (K17 : Int32 → Int32 → Mem → Option (Int32 × Mem)) : ∀ d k fuel b, k + d = N → d < fuel → lo2 (X6_isSo_b31 K17 (nI f)) fuel (wb b) (nI k) m = K17 (wb (b && ag (gd ξ (ξ 1 4 0) f) d k)) (nI (f + 1)) m := by
  intro d
  induction d with
  | zero =>
    intro k fuel b hk hf
    obtain ⟨g, rfl⟩ : ∃ g, fuel = g + 1 := ⟨fuel - 1, by omega⟩
    show X6_isSo_b31 K17 (nI f) (lo2 (X6_isSo_b31 K17 (nI f)) g) (wb b) (nI k) m = _
    generalize lo2 (X6_isSo_b31 K17 (nI f)) g = Kc
    unfold X6_isSo_b31
    rw [hn, if_pos (show nI N ≤ nI k by rw [leN (by omega) (by omega)]; omega), nI_1]
    show _ = K17 (wb (b && true)) _ _
    rw [Bool.and_true]
  | succ d ih =>
    intro k fuel b hk hf
    obtain ⟨g, rfl⟩ : ∃ g, fuel = g + 1 := ⟨fuel - 1, by omega⟩
    have h0 := ih (k + 1) g false (by omega) (by omega)
    have h1 := ih (k + 1) g true (by omega) (by omega)
    have hst : ag (gd ξ (ξ 1 4 0) f) (d + 1) k = (gd ξ (ξ 1 4 0) f k && ag (gd ξ (ξ 1 4 0) f) d (k + 1)) := rfl
    obtain ⟨t, i, F, t6, i6, F1, F9, et, ei, eF, e9, eo⟩ := ht k (by omega)
    show X6_isSo_b31 K17 (nI f) (lo2 (X6_isSo_b31 K17 (nI f)) g) (wb b) (nI k) m = _
    generalize lo2 (X6_isSo_b31 K17 (nI f)) g = Kc at h0 h1 ⊢
    rw [show wb false = 0 from rfl, Bool.false_and, show wb false = 0 from rfl] at h0
    rw [show wb true = 1 from rfl, Bool.true_and] at h1
    unfold X6_isSo_b31 X6_isSo_b92 X6_isSo_b96 X6_isSo_b97
    rw [hn, if_neg (show ¬ nI N ≤ nI k by rw [leN (by omega) (by omega)]; omega), hst, nI_1]
    cases b with
    | false =>
      rw [Bool.false_and, show wb false = 0 from rfl, if_pos rfl, h0]
    | true =>
      have d1 : nI (100 * F + 10 * t + i) / 100 = nI F := by rw [lt100, pk_div (by omega) (by omega) (by omega)]; congr 1; omega
      have d2 : nI (100 * F + 10 * t + i) / 10 = nI (10 * F + t) := by rw [lt10, pk_div (by omega) (by omega) (by omega)]; congr 1; omega
      have d3 : nI (10 * F + t) - nI (10 * F + t) / 10 * 10 = nI t := by rw [lt10, pk_rem (by omega) (by omega) (by omega)]; congr 1; omega
      have d4 : nI (100 * F + 10 * t + i) - nI (10 * F + t) * 10 = nI i := by rw [lt10, pk_mul, pk_sub (by omega)]; congr 1; omega
      rw [Bool.true_and, show wb true = 1 from rfl, if_neg (show ¬ (1 : Int32) = 0 by decide)]
      unfold gd
      simp (discharger := omega) only [giN, clN, e9, d1, d2, d3, d4, ad6, eo, et, ei, eF, eqN, h0, h1]
      by_cases c : F = f
      · by_cases e : ξ 1 4 0 t = nI i
        · rw [if_pos c, if_pos e, decide_eq_true (Or.inr e), Bool.true_and]
          rfl
        · rw [if_pos c, if_neg e, decide_eq_false (fun q => q.elim (fun z => z c) e), Bool.false_and]
          rfl
      · rw [if_neg c, decide_eq_true (Or.inl c), Bool.true_and]
        rfl
theorem RA_cong {T : TA} {x m x' m' : Mem} (h : RA T x m) (hx : ∀ q, q ≠ 1 → x' q = x q) (hm : ∀ f, f ≠ 3 → f ≠ 4 → f ≠ 11 → f ≠ 13 → m' 20 f 0 = m 20 f 0) (hs : ∀ j, j < 55 → m' 20 4 0 j = m 20 4 0 j) : RA T x' m' := by
  obtain ⟨h0, hz, hh, hp, hn, ht⟩ := h
  have e17 := hx 17 (by omega)
  refine ⟨R0_cong (hx 13 (by omega)) (hm 2 (by omega) (by omega) (by omega) (by omega)) (hm 12 (by omega) (by omega) (by omega) (by omega)) h0, ?_, RH_cong (hx 15 (by omega)) (fun q h1 h2 => hx q (by omega)) (hm 6 (by omega) (by omega) (by omega) (by omega)) (hm 5 (by omega) (by omega) (by omega) (by omega)) hh, RP_cong (by rw [e17]) (fun q h1 h2 => hx q (by omega)) (hm 8 (by omega) (by omega) (by omega) (by omega)) (hm 7 (by omega) (by omega) (by omega) (by omega)) hp, RN_cong (hx 16 (by omega)) (hm 10 (by omega) (by omega) (by omega) (by omega)) (hm 9 (by omega) (by omega) (by omega) (by omega)) hn, RX_cong (by rw [e17]) (by rw [e17]) (hm 1 (by omega) (by omega) (by omega) (by omega)) (hm 0 (by omega) (by omega) (by omega) (by omega)) ht⟩
  rw [hx 0 (by omega)]
  exact RZ_cong h0.1 (ZC_me _) hs hz
theorem b_so {T : TA} {x m : Mem} (h : RA T x m) (fe : Int32) : ∃ b ξ' m', X3_allHoldIn fe x = some (wb b, ξ') ∧ X6_isSo fe m = some (wb b, m') ∧ (∀ q, q ≠ 1 → ξ' q = x q) ∧ RA T ξ' m' := by
  obtain ⟨hB, p1, n1, hTM, hTX, hf⟩ := h.1
  have b0 := hB.1
  have b1 := hB.2.1
  obtain ⟨N, hN, nX, nM, hno⟩ := h.2.2.2.2.1
  have hm1 := m_remembers m
  generalize hm2 : xs (xa m 20 13 0 (cpF (m 20 4 0) 0 55 (m 20 13 0))) 20 12 0 0 fe = m2
  have f0 : ∀ f, f ≠ 12 → f ≠ 13 → m2 20 f 0 = m 20 f 0 := fun f h12 h13 => by rw [← hm2, xs_fr _ (by omega), xa_fr m (by omega)]
  have f12 : m2 20 12 0 0 = fe := by rw [← hm2]; exact xs_self _ ..
  have f12' : ∀ j, j ≠ 0 → m2 20 12 0 j = m 20 12 0 j := fun j hj => by rw [← hm2, xs_xa, xa_row, upd_at, if_neg hj, xa_fr m (by omega)]
  have f13 : ∀ j, j < 55 → m2 20 13 0 j = m 20 4 0 j := fun j hj => by rw [← hm2, xs_fr _ (by omega), xa_row, cpF_55 hj]
  have hTM2 : TM (m2 20 2 0) T := by rw [f0 2 (by omega) (by omega)]; exact hTM
  obtain ⟨s0, e0, hS0⟩ := m_starts hB hTM2
  obtain ⟨ν, ex, ey, hR⟩ := x_begin (μ := x) (q := 1) (fe := fe) (by omega) hB hTX hS0
  have hST : ST T fe 1 ν m2 s0 (fun _ _ => 127) 0 := ⟨⟨hB, by rw [xa4_2]; exact hTM2, by rw [xa4_4]; exact hR.2.2.2.2.2, by omega⟩, f12, by rw [ey 13 (by omega)]; exact hTX, hR⟩
  have hE := m_lets (xs (xa m2 20 4 0 (seqM m2 s0 9)) 20 12 0 0 (-4))
  generalize hmE : xa (xs (xa m2 20 4 0 (seqM m2 s0 9)) 20 12 0 0 (-4)) 20 4 0 (cpF (xs (xa m2 20 4 0 (seqM m2 s0 9)) 20 12 0 0 (-4) 20 13 0) 0 55 (xs (xa m2 20 4 0 (seqM m2 s0 9)) 20 12 0 0 (-4) 20 4 0)) = mE at hE
  have main : ∀ d k F1 F2, k + d = 9 → d < F1 → d < F2 → ∃ G ξ', lo1 X3_allHoldIn_b7 F1 (nI (k + 1)) (seqX 1 ν k) = some (wb G, ξ') ∧ (∀ q, q ≠ 1 → ξ' q = x q) ∧ ∀ b, lo2 X6_isSo_b17 F2 (wb b) (nI (k + 1)) (xa m2 20 4 0 (seqM m2 s0 k)) = some (wb (b && G), mE) := by
    intro d
    induction d with
    | zero =>
      intro k F1 F2 hk h1 h2
      obtain ⟨g1, rfl⟩ : ∃ f, F1 = f + 1 := ⟨F1 - 1, by omega⟩
      obtain ⟨g2, rfl⟩ : ∃ f, F2 = f + 1 := ⟨F2 - 1, by omega⟩
      have e : k = 9 := by omega
      subst e
      have hl : (9 : Int32) < nI (9 + 1) := by decide
      refine ⟨true, seqX 1 ν 9, ?_, fun q hq => by rw [(ST_seq (by omega) hST 9 (by omega)).2 q hq, ey q hq], fun b => ?_⟩
      · show X3_allHoldIn_b7 (lo1 X3_allHoldIn_b7 g1) (nI (9 + 1)) _ = _
        generalize lo1 X3_allHoldIn_b7 g1 = Kc
        unfold X3_allHoldIn_b7
        rw [if_pos hl]
        rfl
      · show X6_isSo_b17 (lo2 X6_isSo_b17 g2) (wb b) (nI (9 + 1)) _ = _
        generalize lo2 X6_isSo_b17 g2 = Kc
        unfold X6_isSo_b17
        rw [if_pos hl, hE, bdvO, Bool.and_true]
        cases b with
        | false => exact gb0
        | true => exact gb1
    | succ d ih =>
      intro k F1 F2 hk h1 h2
      obtain ⟨g1, rfl⟩ : ∃ f, F1 = f + 1 := ⟨F1 - 1, by omega⟩
      obtain ⟨g2, rfl⟩ : ∃ f, F2 = f + 1 := ⟨F2 - 1, by omega⟩
      obtain ⟨G, ξ', i1, i2, i3⟩ := ih (k + 1) g1 g2 (by omega) (by omega) (by omega)
      obtain ⟨n, a1, a2⟩ := ST_fair (by omega) hST (k := k) (by omega)
      have hfr : ∀ q, q ≠ 1 → seqX 1 ν (k + 1) q = x q := fun q hq => by rw [(ST_seq (by omega) hST (k + 1) (by omega)).2 q hq, ey q hq]
      have h16 := hfr 16 (by omega)
      have hl : ¬ (9 : Int32) < nI (k + 1) := by rw [lt9, ltN (by omega) (by omega)]; omega
      have xn := x_notes (ξ := seqX 1 ν (k + 1)) (N := N) (f := k + 1) (by rw [h16]; exact nX) hN (fun j hj => by
        obtain ⟨t, i, F, r1, r2, r3, r4, r5, -⟩ := hno j hj
        exact ⟨t, by omega, by rw [h16]; exact r5⟩)
      have mn := m_notes (ξ := seqX 1 ν (k + 1)) (m := xa m2 20 4 0 (seqM m2 s0 (k + 1))) (N := N) (f := k + 1) (by omega) (by rw [xa_fr m2 (by omega), f0 10 (by omega) (by omega)]; exact nM) hN (fun j hj => by
        obtain ⟨t, i, F, r1, r2, r3, r4, r5, r6, r7, r8⟩ := hno j hj
        refine ⟨t, i, F, by omega, by omega, r3, r4, by rw [h16]; exact r5, by rw [h16]; exact r6, by rw [h16]; exact r7, by rw [xa_fr m2 (by omega), f0 9 (by omega) (by omega)]; exact r8, ?_⟩
        rw [xa4_4]
        exact ST_own (by omega) hST (by omega) r1)
      generalize hA : ag (gd (seqX 1 ν (k + 1)) (seqX 1 ν (k + 1) 1 4 0) (k + 1)) N 0 = A
      have hX : lo1 X3_allHoldIn_b7 (g1 + 1) (nI (k + 1)) (seqX 1 ν k) = if A = true then some (wb G, ξ') else some (0, seqX 1 ν (k + 1)) := by
        show X3_allHoldIn_b7 (lo1 X3_allHoldIn_b7 g1) (nI (k + 1)) _ = _
        generalize lo1 X3_allHoldIn_b7 g1 = Kc at i1 ⊢
        unfold X3_allHoldIn_b7
        rw [if_neg hl, a1, bdO, show (0 : Int32) = nI 0 from rfl, xn Kc N 0 1000 (by omega) (by omega), hA, i1]
        rfl
      have hM : ∀ b, lo2 X6_isSo_b17 (g2 + 1) (wb b) (nI (k + 1)) (xa m2 20 4 0 (seqM m2 s0 k)) = some (wb (b && (A && G)), mE) := fun b => by
        have i4 := i3 (b && A)
        show X6_isSo_b17 (lo2 X6_isSo_b17 g2) (wb b) (nI (k + 1)) _ = _
        generalize lo2 X6_isSo_b17 g2 = Kc at i4 ⊢
        unfold X6_isSo_b17
        rw [if_neg hl, a2, bdO, show (0 : Int32) = nI 0 from rfl, mn Kc N 0 1000 b (by omega) (by omega), hA, i4, Bool.and_assoc]
      refine ⟨A && G, if A = true then ξ' else seqX 1 ν (k + 1), ?_, ?_, hM⟩
      · rw [hX]
        cases A <;> rfl
      · cases A
        · exact hfr
        · exact i2
  obtain ⟨G, ξ', i1, i2, i3⟩ := main 9 0 1000 1000 rfl (by omega) (by omega)
  refine ⟨G, ξ', mE, ?_, ?_, i2, RA_cong h i2 (fun f q1 q2 q3 q4 => ?_) (fun j hj => ?_)⟩
  · unfold X3_allHoldIn
    rw [ex, bdvO]
    exact i1
  · unfold X6_isSo
    rw [hm1, bdvO, hm2, e0, bdvO]
    exact i3 true
  · rw [← hmE, xa_fr _ (by omega)]
    by_cases e : f = 12
    · subst e
      funext j
      rw [xs_xa, xa_row, upd_at]
      by_cases ej : j = 0
      · rw [if_pos ej, ej, hf]
      · rw [if_neg ej, xa_fr m2 (by omega), f12' j ej]
    · rw [xs_fr _ (by omega), xa_fr m2 (by omega), f0 f e q4]
  · rw [← hmE, xa_row, cpF_55 hj, xs_fr _ (by omega), xa_fr m2 (by omega), f13 j hj]
theorem op_feigned (v : Int32) : OP (X5_feigned v) (X6_feigned v) := by
  intro x m ⟨T, hA⟩
  have hA' : RA T x m := hA
  obtain ⟨hB, p1, n1, hTM, hTX, hf⟩ := hA'.1
  have b0 := hB.1
  unfold X5_feigned X6_feigned
  by_cases c1 : v < 0
  · rw [if_pos c1, m_inL c1, bdO, if00]
    exact ⟨_, _, _, rfl, rfl, T, hA⟩
  rw [if_neg c1]
  by_cases c2 : v ≤ 1
  · rw [if_pos c2, m_in1 (ge0 c1) c2, bdO, if10]
    by_cases c3 : v = 1
    · rw [if_pos c3]
      subst c3
      obtain ⟨a', b', ν, ⟨rfl, hν⟩, Kc, e⟩ := lo2_inv (b := X6_feigned_b15 1) (T 0 0) (fun k a b ν => b = nI k ∧ RA T x ν) (fun k a b ν hk hI => by
        obtain ⟨rfl, hν⟩ := hI
        obtain ⟨r, ξ', m', e1, e2, e3, e4⟩ := b_so hν (nI k)
        refine ⟨a ||| (if r = true then 1 <<< (nI k &&& 31) else 0), nI (k + 1), m', ⟨rfl, RA_cong e4 (fun q hq => (e3 q hq).symm) (fun _ _ _ _ _ => rfl) (fun _ _ => rfl)⟩, fun Kc => ?_⟩
        unfold X6_feigned_b15 X6_feigned_b41
        rw [gl0 (by omega) (by omega), tc0, hν.1.2.2.2.1.1, if_neg (show ¬ nI (T 0 0) ≤ nI k by rw [leN (by omega) (by omega)]; omega), e2, bdO, nI_1]
        cases r
        · rfl
        · rfl) 0 0 m ⟨rfl, hA'⟩ 1000 (by omega)
      obtain ⟨r, ξ', m', e1, e2, e3, e4⟩ := b_so hν (-4)
      rw [e, e1, bdO]
      unfold X6_feigned_b15
      rw [gl0 (by omega) (by omega), tc0, hν.1.2.2.2.1.1, if_pos (show nI (T 0 0) ≤ nI (T 0 0) by rw [leN (by omega) (by omega)]; omega), if_neg (show ¬ (1 : Int32) = 0 by decide), e2, bdO]
      cases r
      · exact ⟨_, _, _, rfl, rfl, T, e4⟩
      · exact ⟨_, _, _, rfl, rfl, T, e4⟩
    · rw [if_neg c3]
      have v0 : v = 0 := by
        rcases rng0 (a := 0) (b := 1) (by omega) (by omega) c1 c2 with ⟨c, -, h2, rfl⟩
        by_cases z : c = 0
        · subst z; rfl
        · exact absurd (show nI c = 1 by rw [show c = 1 by omega]; rfl) c3
      subst v0
      have main : ∀ d k F1 F2, k + d = T 0 0 → d < F1 → d < F2 → ∀ a x m, RA T x m → ∃ r x' m', lo2 X5_feigned_b42 F1 a (nI k) x = some (r, x') ∧ lo2 (X6_feigned_b15 0) F2 a (nI k) m = some (r, m') ∧ RA T x' m' := by
        intro d
        induction d with
        | zero =>
          intro k F1 F2 hk h1 h2 a x m hA
          obtain ⟨g1, rfl⟩ : ∃ f, F1 = f + 1 := ⟨F1 - 1, by omega⟩
          obtain ⟨g2, rfl⟩ : ∃ f, F2 = f + 1 := ⟨F2 - 1, by omega⟩
          have hl : nI (T 0 0) ≤ nI k := by rw [leN (by omega) (by omega)]; omega
          refine ⟨a, x, m, ?_, ?_, hA⟩
          · show X5_feigned_b42 (lo2 X5_feigned_b42 g1) a (nI k) x = _
            generalize lo2 X5_feigned_b42 g1 = Kc
            unfold X5_feigned_b42
            rw [hA.1.2.2.2.2.1.1, if_pos hl]
          · show X6_feigned_b15 0 (lo2 (X6_feigned_b15 0) g2) a (nI k) m = _
            generalize lo2 (X6_feigned_b15 0) g2 = Kc
            unfold X6_feigned_b15
            rw [gl0 (by omega) (by omega), tc0, hA.1.2.2.2.1.1, if_pos hl, if_pos rfl]
        | succ d ih =>
          intro k F1 F2 hk h1 h2 a x m hA
          obtain ⟨g1, rfl⟩ : ∃ f, F1 = f + 1 := ⟨F1 - 1, by omega⟩
          obtain ⟨g2, rfl⟩ : ∃ f, F2 = f + 1 := ⟨F2 - 1, by omega⟩
          have hl : ¬ nI (T 0 0) ≤ nI k := by rw [leN (by omega) (by omega)]; omega
          obtain ⟨b, x1, m1, e1, e2, e3, e4⟩ := b_so hA (nI k)
          obtain ⟨r, x', m', k1, k2, k3⟩ := ih (k + 1) g1 g2 (by omega) (by omega) (by omega) (if b = true then a ||| (1 <<< (nI k &&& 31)) else a) x1 m1 e4
          refine ⟨r, x', m', ?_, ?_, k3⟩
          · show X5_feigned_b42 (lo2 X5_feigned_b42 g1) a (nI k) x = _
            generalize lo2 X5_feigned_b42 g1 = Kc at k1 ⊢
            unfold X5_feigned_b42 X5_feigned_b74
            rw [hA.1.2.2.2.2.1.1, if_neg hl, e1, bdO, nI_1]
            cases b
            · exact k1
            · exact k1
          · show X6_feigned_b15 0 (lo2 (X6_feigned_b15 0) g2) a (nI k) m = _
            generalize lo2 (X6_feigned_b15 0) g2 = Kc at k2 ⊢
            unfold X6_feigned_b15 X6_feigned_b41
            rw [gl0 (by omega) (by omega), tc0, hA.1.2.2.2.1.1, if_neg hl, e2, bdO, nI_1]
            cases b
            · rw [show wb false = 0 from rfl, if00, Int32.or_zero]
              exact k2
            · exact k2
      obtain ⟨r, x', m', k1, k2, k3⟩ := main (T 0 0) 0 1000 1000 (by omega) (by omega) (by omega) 0 x m hA'
      exact ⟨r, x', m', k1, k2, T, k3⟩
  · rw [if_neg c2, m_inH c2, bdO, if00]
    exact ⟨_, _, _, rfl, rfl, T, hA⟩
