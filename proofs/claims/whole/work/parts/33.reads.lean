/-! READS: person, thing, nearly, count, and what is typed and seen -/
theorem MK_self {x : Mem} {q : Nat} : ∃ y si co ow mi br sn cn pr, x = MK x q y si co ow mi br sn cn pr := ⟨_, _, _, _, _, _, _, _, _, (MK_me x q).symm⟩
section RD
variable {T : TA} {x m : Mem} {q : Nat} {made : Nat → Nat → Nat} {Y : Nat}
theorem x_thingsOf (hB : TB T) (hT : TX (x 13) T) (v : Int32) : X1_thingsOf q v x = some (fo (fun t a => if x q 4 0 t = v then a + 1 else a) (T 1 0) 0, x) := by
  have b1 := hB.2.1
  have t1 := hT.2.1
  unfold X1_thingsOf
  refine lo2_eq (T 1 0) (fun k => fo (fun t a => if x q 4 0 t = v then a + 1 else a) k 0) (fun k => nI k) (fun _ => x) ?_ ?_ 1000 (by omega)
  · intro k hk K
    unfold X1_thingsOf_b4 X1_thingsOf_b28
    dsimp only [fo]
    simp (discharger := omega) only [t1, leN, giN, clN, nI_1]
    rw [if_neg (by omega)]
    by_cases c : x q 4 0 k = v
    · rw [if_pos c, if_pos c]
    · rw [if_neg c, if_neg c]
  · intro K
    unfold X1_thingsOf_b4
    simp (discharger := omega) only [t1, leN]
    rw [if_pos (Nat.le_refl _)]
theorem m_thingsOf (hB : TB T) (hT : TM (m 20 2 0) T) (v : Int32) : X6_thingsOf v m = some (fo (fun t a => if m 20 4 0 (6 + t) = v then a + 1 else a) (T 1 0) 0, m) := by
  have b1 := hB.2.1
  have t1 := hT.2.1
  unfold X6_thingsOf
  refine lo2_eq (T 1 0) (fun k => fo (fun t a => if m 20 4 0 (6 + t) = v then a + 1 else a) k 0) (fun k => nI k) (fun _ => m) ?_ ?_ 1000 (by omega)
  · intro k hk K
    unfold X6_thingsOf_b4 X6_thingsOf_b33
    dsimp only [fo]
    simp (discharger := omega) only [gl1, tc1, t1, leN, ad6, giN, clN, nI_1, Int32.add_zero]
    rw [if_neg (by omega)]
    by_cases c : m 20 4 0 (6 + k) = v
    · rw [if_pos c, if_pos c]
    · rw [if_neg c, if_neg c]
  · intro K
    unfold X6_thingsOf_b4
    simp (discharger := omega) only [gl1, tc1, t1, leN]
    rw [if_pos (Nat.le_refl _)]
theorem x_coins (hB : TB T) (hT : TX (x 13) T) : X1_coinsOfAll q x = some (fo (fun i a => a + x q 3 0 i) (T 0 0) 0, x) := by
  have b0 := hB.1
  have t0 := hT.1
  unfold X1_coinsOfAll
  refine lo2_eq (T 0 0) (fun k => fo (fun i a => a + x q 3 0 i) k 0) (fun k => nI k) (fun _ => x) ?_ ?_ 1000 (by omega)
  · intro k hk K
    unfold X1_coinsOfAll_b4
    dsimp only [fo]
    simp (discharger := omega) only [t0, leN, giN, clN, nI_1]
    rw [if_neg (by omega)]
  · intro K
    unfold X1_coinsOfAll_b4
    simp (discharger := omega) only [t0, leN]
    rw [if_pos (Nat.le_refl _)]
theorem m_coins (hB : TB T) (hT : TM (m 20 2 0) T) : X6_allCoins m = some (fo (fun i a => a + m 20 4 0 i) (T 0 0) 0, m) := by
  have b0 := hB.1
  have t0 := hT.1
  unfold X6_allCoins
  refine lo2_eq (T 0 0) (fun k => fo (fun i a => a + m 20 4 0 i) k 0) (fun k => nI k) (fun _ => m) ?_ ?_ 1000 (by omega)
  · intro k hk K
    unfold X6_allCoins_b4
    dsimp only [fo]
    simp (discharger := omega) only [gl0, tc0, t0, leN, giN, clN, nI_1]
    rw [if_neg (by omega)]
  · intro K
    unfold X6_allCoins_b4
    simp (discharger := omega) only [gl0, tc0, t0, leN]
    rw [if_pos (Nat.le_refl _)]
theorem x_isFree {t : Nat} (ht : t < 6) : X1_isFree q (nI t) x = some (if x q 4 0 t = -4 then 1 else 0, x) := by
  unfold X1_isFree
  simp (discharger := omega) only [giN, clN]
  by_cases c : x q 4 0 t = -4
  · rw [if_pos c, if_pos c]
  · rw [if_neg c, if_neg c]
theorem x_gone (hB : TB T) (hT : TX (x 13) T) : X1_thingsGone q x = some (fo (fun t a => if x q 4 0 t = -4 then a else a + 1) (T 1 0) 0, x) := by
  have b1 := hB.2.1
  have t1 := hT.2.1
  unfold X1_thingsGone
  refine lo2_eq (T 1 0) (fun k => fo (fun t a => if x q 4 0 t = -4 then a else a + 1) k 0) (fun k => nI k) (fun _ => x) ?_ ?_ 1000 (by omega)
  · intro k hk K
    unfold X1_thingsGone_b4 X1_thingsGone_b26
    dsimp only [fo]
    simp (discharger := omega) only [t1, leN, x_isFree, bdO, nI_1]
    rw [if_neg (by omega)]
    by_cases c : x q 4 0 k = -4
    · rw [if_pos c, if_pos c, if10]
    · rw [if_neg c, if_neg c, if00]
  · intro K
    unfold X1_thingsGone_b4
    simp (discharger := omega) only [t1, leN]
    rw [if_pos (Nat.le_refl _)]
theorem m_taken (hB : TB T) (hT : TM (m 20 2 0) T) : X6_taken m = some (fo (fun t a => if m 20 4 0 (6 + t) = -4 then a else a + 1) (T 1 0) 0, m) := by
  have b1 := hB.2.1
  have t1 := hT.2.1
  unfold X6_taken
  refine lo2_eq (T 1 0) (fun k => fo (fun t a => if m 20 4 0 (6 + t) = -4 then a else a + 1) k 0) (fun k => nI k) (fun _ => m) ?_ ?_ 1000 (by omega)
  · intro k hk K
    unfold X6_taken_b4 X6_taken_b34
    dsimp only [fo]
    simp (discharger := omega) only [gl1, tc1, t1, leN, ad6, giN, clN, nI_1, Int32.add_zero]
    rw [if_neg (by omega)]
    by_cases c : m 20 4 0 (6 + k) = -4
    · rw [if_pos c, if_pos c]
    · rw [if_neg c, if_neg c]
  · intro K
    unfold X6_taken_b4
    simp (discharger := omega) only [gl1, tc1, t1, leN]
    rw [if_pos (Nat.le_refl _)]
theorem b_gone {s : Nat → Int32} {z : Nat → Nat → Nat → Int32} (h : RS s T (z 3 0, z 4 0, z 5 0)) : fo (fun t (a : Int32) => if z 4 0 t = -4 then a else a + 1) (T 1 0) 0 = fo (fun t a => if s (6 + t) = -4 then a else a + 1) (T 1 0) 0 :=
  fo_cong (fun t a ht => by rw [h.2.1 t ht])
theorem b_coins {s : Nat → Int32} {z : Nat → Nat → Nat → Int32} (h : RS s T (z 3 0, z 4 0, z 5 0)) : fo (fun i (a : Int32) => a + z 3 0 i) (T 0 0) 0 = fo (fun i a => a + s i) (T 0 0) 0 :=
  fo_cong (fun t a ht => by rw [h.1 t ht])
end RD
theorem op_count (v : Int32) : OP (X5_count v) (X6_count v) := by
  intro x m ⟨T, hA⟩
  have hA' : RA T x m := hA
  obtain ⟨hB, p1, n1, hTM, hTX, hf⟩ := hA'.1
  obtain ⟨made, Y, hY, hR, hM⟩ := RA_MS hA'
  obtain ⟨nh, nx, -, -, -, a4, a5, -⟩ := hA'.2.2.1
  obtain ⟨nc, -, c2, c3, -⟩ := hA'.2.2.2.1
  obtain ⟨nn, -, d2, d3, -⟩ := hA'.2.2.2.2.1
  obtain ⟨nt, -, f2, f3, -⟩ := hA'.2.2.2.2.2
  unfold X5_count X6_count
  by_cases c : v = 0
  · rw [if_pos c, if_pos c, gl0 (by omega) (by omega), tc0, hTX.1, hTM.1]
    exact ⟨_, _, _, rfl, rfl, T, hA⟩
  rw [if_neg c, if_neg c]
  by_cases c : v = 1
  · rw [if_pos c, if_pos c, gl1 (by omega) (by omega), tc1, hTX.2.1, hTM.2.1]
    exact ⟨_, _, _, rfl, rfl, T, hA⟩
  rw [if_neg c, if_neg c]
  by_cases c : v = 2
  · rw [if_pos c, if_pos c, gl54 (by omega) (by omega), tc54, hR.1, hR.2.2.2.2.2.1]
    exact ⟨_, _, _, rfl, rfl, T, hA⟩
  rw [if_neg c, if_neg c]
  by_cases c : v = 3
  · rw [if_pos c, if_pos c, x_gone hB hTX, m_taken hB hTM, bdO, bdO, b_gone hR.2.2.1]
    exact ⟨_, _, _, rfl, rfl, T, hA⟩
  rw [if_neg c, if_neg c]
  by_cases c : v = 4
  · rw [if_pos c, if_pos c, x_coins hB hTX, m_coins hB hTM, bdO, bdO, b_coins hR.2.2.1]
    exact ⟨_, _, _, rfl, rfl, T, hA⟩
  rw [if_neg c, if_neg c]
  by_cases c : v = 5
  · rw [if_pos c, if_pos c, d2, d3]
    exact ⟨_, _, _, rfl, rfl, T, hA⟩
  rw [if_neg c, if_neg c]
  by_cases c : v = 6
  · rw [if_pos c, if_pos c, a4, a5]
    exact ⟨_, _, _, rfl, rfl, T, hA⟩
  rw [if_neg c, if_neg c]
  by_cases c : v = 7
  · rw [if_pos c, if_pos c, c2, c3]
    exact ⟨_, _, _, rfl, rfl, T, hA⟩
  rw [if_neg c, if_neg c]
  by_cases c : v = 8
  · rw [if_pos c, if_pos c, f2, f3]
    exact ⟨_, _, _, rfl, rfl, T, hA⟩
  rw [if_neg c, if_neg c]
  exact ⟨_, _, _, rfl, rfl, T, hA⟩
theorem op_thing (a v : Int32) : OP (X5_thing a v) (X6_thing a v) := by
  intro x m ⟨T, hA⟩
  have hA' : RA T x m := hA
  obtain ⟨hB, p1, n1, hTM, hTX, hf⟩ := hA'.1
  obtain ⟨made, Y, hY, hR, hM⟩ := RA_MS hA'
  have b1 := hB.2.1
  unfold X5_thing X6_thing
  rcases b_thing n1 hB hTX hTM a with ⟨t, ht, rfl, e3, e4⟩ | ⟨e3, e4⟩
  · rw [e3, e4, bdO, bdO, if10, if10]
    have r1 := hR.2.2.1.2.1 t ht
    have r2 := (hR.2.2.1.2.2 t ht).1
    dsimp only at r1 r2
    by_cases c : v = 0
    · rw [if_pos c, if_pos c, gl54 (by omega) (by omega), tc54, hR.1, hR.2.2.2.2.2.1, x_costIn hTX hB ht, m_costs hB hTM ht, bdO, bdO]
      exact ⟨_, _, _, rfl, rfl, T, hA⟩
    rw [if_neg c, if_neg c]
    by_cases c : v = 1
    · rw [if_pos c, if_pos c]
      simp (discharger := omega) only [ad6, giN, clN, r1]
      exact ⟨_, _, _, rfl, rfl, T, hA⟩
    rw [if_neg c, if_neg c]
    by_cases c : v = 2
    · rw [if_pos c, if_pos c]
      simp (discharger := omega) only [ad12, giN, clN, r2]
      exact ⟨_, _, _, rfl, rfl, T, hA⟩
    rw [if_neg c, if_neg c]
    by_cases c : v = 3
    · rw [if_pos c, if_pos c]
      simp (discharger := omega) only [ad6, giN, clN, r1, x_isFree, bdO]
      by_cases d : x 0 4 0 t = -4
      · have hk := TT_TC hB hR.2.2.2.1 hR.2.2.2.2.1
        have hc := x_claim (μ := x) (q := 0) (y := x 0 1 0 0) (si := x 0 2 0 0) (co := x 0 3 0) (ow := x 0 4 0) (mi := x 0 5 0) (br := x 0 6) (sn := x 0 7) (by omega) hB hTX hk ht
        rw [MK_me] at hc
        have hK : KM m T made Y = KK T (-4) made Y := by unfold KM; rw [hf]
        rw [if_pos d, if_pos d, if10, hc, m_claim hM ht, bdO, bdO, hK]
        exact ⟨_, _, _, rfl, rfl, T, hA⟩
      · rw [if_neg d, if_neg d, if00]
        exact ⟨_, _, _, rfl, rfl, T, hA⟩
    rw [if_neg c, if_neg c]
    exact ⟨_, _, _, rfl, rfl, T, hA⟩
  · rw [e3, e4, bdO, bdO, if00, if00]
    exact ⟨_, _, _, rfl, rfl, T, hA⟩
theorem unk0 {K : Nat} : unk K = 0 ↔ K = 127 := by unfold unk; omega
theorem op_nearly (a b v : Int32) : OP (X5_nearly a b v) (X6_nearly a b v) := by
  intro x m ⟨T, hA⟩
  have hA' : RA T x m := hA
  obtain ⟨hB, p1, n1, hTM, hTX, hf⟩ := hA'.1
  obtain ⟨made, Y, hY, hR, hM⟩ := RA_MS hA'
  have b0 := hB.1
  have b1 := hB.2.1
  unfold X5_nearly X6_nearly
  rcases b_person p1 hB hTX hTM a with ⟨i, hi, rfl, e1, e2⟩ | ⟨e1, e2⟩
  · rw [e1, e2, bdO, bdO, if10, if10]
    rcases b_thing n1 hB hTX hTM b with ⟨t, ht, rfl, e3, e4⟩ | ⟨e3, e4⟩
    · rw [e3, e4, bdO, bdO, if10, if10, m_pn hM hi ht, bdO]
      obtain ⟨r1, r2, r3, r4⟩ := hR.2.2.2.1 i hi t ht
      have hK : KM m T made Y = KK T (-4) made Y := by unfold KM; rw [hf]
      have hkl := MS_K hM hi ht
      have hu := unk_lt hkl
      have hn := m_isNearly hM hi ht
      have hp := m_priceOf hM hi ht
      rw [hK] at hkl hu hn hp ⊢
      by_cases c : v = 0
      · rw [if_pos c, if_pos c]
        simp (discharger := omega) only [giN, clN, r1, dv128, unk_d]
        exact ⟨_, _, _, rfl, rfl, T, hA⟩
      rw [if_neg c, if_neg c]
      by_cases c : v = 1
      · rw [if_pos c, if_pos c, m_countedNow hM hi ht, bdO, hK]
        simp (discharger := omega) only [giN, clN, r3]
        exact ⟨_, _, _, rfl, rfl, T, hA⟩
      rw [if_neg c, if_neg c]
      by_cases c : v = 2
      · rw [if_pos c, if_pos c]
        simp (discharger := omega) only [giN, clN, r2, dv128, rmB]
        simp (discharger := omega) only [lt0, eqN, unk0, unk_m]
        by_cases d : KK T (-4) made Y i t = 127
        · rw [if_pos d, if_pos d]
          exact ⟨_, _, _, rfl, rfl, T, hA⟩
        · rw [if_neg d, if_neg d]
          exact ⟨_, _, _, rfl, rfl, T, hA⟩
      rw [if_neg c, if_neg c]
      have hz : x 0 9 i t = -4 ↔ ¬ 8 < CT T (KK T (-4) made Y) i t := by
        rw [r4]
        unfold ZZ
        have hpl := PR_lt hB (K := KK T (-4) made Y) (i := i) ht
        by_cases d : 8 < CT T (KK T (-4) made Y) i t
        · rw [if_pos d]
          exact ⟨fun e => absurd e (neM (by omega)), fun e => absurd d e⟩
        · rw [if_neg d]
          exact ⟨fun _ => d, fun _ => rfl⟩
      by_cases c : v = 3
      · rw [if_pos c, if_pos c, hn, bdO]
        simp (discharger := omega) only [giN, clN]
        by_cases d : 8 < CT T (KK T (-4) made Y) i t
        · rw [if_pos d, if10, if_neg (fun e => hz.mp e d)]
          exact ⟨_, _, _, rfl, rfl, T, hA⟩
        · rw [if_neg d, if00, if_pos (hz.mpr d)]
          exact ⟨_, _, _, rfl, rfl, T, hA⟩
      rw [if_neg c, if_neg c]
      by_cases c : v = 4
      · rw [if_pos c, if_pos c, hn, bdO]
        simp (discharger := omega) only [giN, clN, r4, ZZ]
        by_cases d : 8 < CT T (KK T (-4) made Y) i t
        · rw [if_pos d, if_pos d, if10, hp, bdO]
          exact ⟨_, _, _, rfl, rfl, T, hA⟩
        · rw [if_neg d, if_neg d, if00]
          exact ⟨_, _, _, rfl, rfl, T, hA⟩
      rw [if_neg c, if_neg c]
      exact ⟨_, _, _, rfl, rfl, T, hA⟩
    · rw [e3, e4, bdO, bdO, if00, if00]
      exact ⟨_, _, _, rfl, rfl, T, hA⟩
  · rw [e1, e2, bdO, bdO, if00, if00]
    exact ⟨_, _, _, rfl, rfl, T, hA⟩
theorem op_person (a v : Int32) : OP (X5_person a v) (X6_person a v) := by
  intro x m ⟨T, hA⟩
  have hA' : RA T x m := hA
  obtain ⟨hB, p1, n1, hTM, hTX, hf⟩ := hA'.1
  obtain ⟨made, Y, hY, hR, hM⟩ := RA_MS hA'
  have b0 := hB.1
  have b1 := hB.2.1
  unfold X5_person X6_person
  rcases b_person p1 hB hTX hTM a with ⟨i, hi, rfl, e1, e2⟩ | ⟨e1, e2⟩
  · rw [e1, e2, bdO, bdO, if10, if10]
    have r1 := hR.2.2.1.1 i hi
    dsimp only at r1
    have hs54 := hR.2.2.2.2.2.1
    have t5 := (hTM.2.2.2.2.2.1 i hi).1
    have x5 := (hTX.2.2.2.2.2.1 i hi).1
    have t1 := hTM.2.1
    have hl : lo2 (X6_person_b20 (nI i) v) 1000 (m 20 4 0 i) 0 m = X6_person_b20 (nI i) v (fun _ _ _ => none) (fo (fun t a => if m 20 4 0 (6 + t) = nI i then a + nI (T 7 t + T 4 0 * Y) else a) (T 1 0) (m 20 4 0 i)) (nI (T 1 0)) m := by
      refine lo2_eq (T 1 0) (fun k => fo (fun t a => if m 20 4 0 (6 + t) = nI i then a + nI (T 7 t + T 4 0 * Y) else a) k (m 20 4 0 i)) (fun k => nI k) (fun _ => m) ?_ ?_ 1000 (by omega)
      · intro k hk K
        unfold X6_person_b20 X6_person_b63
        dsimp only [fo]
        simp (discharger := omega) only [gl1, tc1, gl54, tc54, t1, leN, ad6, giN, clN, hs54, m_costs hB hTM hk, bdO, nI_1, Int32.add_zero]
        rw [if_neg (by omega)]
        by_cases c : m 20 4 0 (6 + k) = nI i
        · rw [if_pos c, if_pos c]
        · rw [if_neg c, if_neg c]
      · intro K
        unfold X6_person_b20
        simp (discharger := omega) only [gl1, tc1, t1, leN]
        rw [if_pos (Nat.le_refl _), if_pos (Nat.le_refl _)]
    rw [giN (k := i) (n := 55) (by omega) (by omega), clN (by omega), hl]
    have hw : X1_worthOf 0 (nI i) x = some (fo (fun t a => if m 20 4 0 (6 + t) = nI i then a + nI (T 7 t + T 4 0 * Y) else a) (T 1 0) (m 20 4 0 i), x) := by
      unfold X1_worthOf
      rw [giN (by omega) (by omega), clN (by omega), ← r1]
      refine lo2_eq (T 1 0) (fun k => fo (fun t a => if m 20 4 0 (6 + t) = nI i then a + nI (T 7 t + T 4 0 * Y) else a) k (m 20 4 0 i)) (fun k => nI k) (fun _ => x) ?_ ?_ 1000 (by omega)
      · intro k hk K
        have r2 := hR.2.2.1.2.1 k hk
        dsimp only at r2
        unfold X1_worthOf_b9 X1_worthOf_b45
        dsimp only [fo]
        rw [r2]
        simp (discharger := omega) only [hTX.2.1, leN, giN, clN, hR.1, x_costIn hTX hB hk, bdO, nI_1]
        rw [if_neg (by omega)]
        by_cases c : x 0 4 0 k = nI i
        · rw [if_pos c, if_pos c]
        · rw [if_neg c, if_neg c]
      · intro K
        unfold X1_worthOf_b9
        simp (discharger := omega) only [hTX.2.1, leN]
        rw [if_pos (Nat.le_refl _)]
    unfold X6_person_b20
    simp (discharger := omega) only [gl1, tc1, t1, leN]
    rw [if_pos (Nat.le_refl _)]
    by_cases c : v = 0
    · rw [if_pos c, if_pos c]
      simp (discharger := omega) only [ad5, giN, clN, x5, t5]
      exact ⟨_, _, _, rfl, rfl, T, hA⟩
    rw [if_neg c, if_neg c]
    by_cases c : v = 1
    · rw [if_pos c, if_pos c]
      simp (discharger := omega) only [giN, clN, r1]
      exact ⟨_, _, _, rfl, rfl, T, hA⟩
    rw [if_neg c, if_neg c]
    by_cases c : v = 2
    · rw [if_pos c, if_pos c, x_thingsOf hB hTX, m_thingsOf hB hTM, bdO, bdO]
      have e : fo (fun t (a : Int32) => if x 0 4 0 t = nI i then a + 1 else a) (T 1 0) 0 = fo (fun t a => if m 20 4 0 (6 + t) = nI i then a + 1 else a) (T 1 0) 0 := fo_cong (fun t a ht => by
        have r2 := hR.2.2.1.2.1 t ht
        dsimp only at r2
        rw [r2])
      rw [e]
      exact ⟨_, _, _, rfl, rfl, T, hA⟩
    rw [if_neg c, if_neg c]
    by_cases c : v = 3
    · rw [if_pos c, if_pos c, hw, bdO]
      exact ⟨_, _, _, rfl, rfl, T, hA⟩
    rw [if_neg c, if_neg c]
    exact ⟨_, _, _, rfl, rfl, T, hA⟩
  · rw [e1, e2, bdO, bdO, if00, if00]
    exact ⟨_, _, _, rfl, rfl, T, hA⟩
