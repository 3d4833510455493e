/-! THE TEXT: pauses told, the class; any other letter -/
section ITM5
variable {ch : Nat → Nat} {N q : Nat} {x m : Mem} {T : TA} {p : Nat}
theorem x_hasP {y : Mem} {n i : Nat} (e : y q 0 0 0 = nI n) (hn : n < 1000) (hi : i < 1000) : X4_hasPerson q (nI i) y = some (if i < n then 1 else 0, y) := by
  unfold X4_hasPerson
  rw [if_neg (nN0 (by omega)), e]
  by_cases c : i < n
  · rw [if_neg (show ¬ nI n ≤ nI i by rw [leN (by omega) (by omega)]; omega), if_pos c]
  · rw [if_pos (show nI n ≤ nI i by rw [leN (by omega) (by omega)]; omega), if_neg c]
theorem x_hasT {y : Mem} {n i : Nat} (e : y q 1 0 0 = nI n) (hn : n < 1000) (hi : i < 1000) : X4_hasThing q (nI i) y = some (if i < n then 1 else 0, y) := by
  unfold X4_hasThing
  rw [if_neg (nN0 (by omega)), e]
  by_cases c : i < n
  · rw [if_neg (show ¬ nI n ≤ nI i by rw [leN (by omega) (by omega)]; omega), if_pos c]
  · rw [if_pos (show nI n ≤ nI i by rw [leN (by omega) (by omega)]; omega), if_neg c]
noncomputable def paX (q : Nat) (y : Mem) (n : Nat) (i t b v : Int32) : Mem := xs (xs (xs (xs (xs y q 8 0 n i) q 9 0 n t) q 10 0 n b) q 11 0 n v) q 2 0 0 (nI (n + 1))
theorem x_take {y : Mem} {i t b v : Nat} (hq : q ≠ 14) (hB : TB T) (e0 : y q 0 0 0 = nI (T 0 0)) (e1 : y q 1 0 0 = nI (T 1 0)) (e2 : y q 2 0 0 = nI (T 2 0)) (r0 : y 14 0 0 0 = nI i) (r1 : y 14 0 0 1 = nI t) (r2 : y 14 0 0 2 = nI b) (r3 : y 14 0 0 3 = nI v) (hi : i < 100) (ht : t < 100) (hb : b < 100) (hv : v < 100) : (okA T i t b v → X4_takePause q y = some (1, paX q y (T 2 0) (nI i) (nI t) (nI b) (nI v))) ∧ (¬ okA T i t b v → X4_takePause q y = some (0, y)) := by
  have b0 := hB.1
  have b1 := hB.2.1
  have b2 := hB.2.2.1
  unfold X4_takePause
  rw [gl0 (by omega) (by omega), gl1 (by omega) (by omega), gl2 (by omega) (by omega), gl3 (by omega) (by omega), tc0, tc1, tc2, tc3, r0, r1, r2, r3]
  generalize hn : T 2 0 = n at e2 b2
  rw [e2]
  by_cases c9 : 9 ≤ n
  · rw [if_pos (show 9 ≤ nI n by rw [lt9, leN (by omega) (by omega)]; exact c9)]
    refine ⟨fun ok => ?_, fun _ => rfl⟩
    have := ok.2.2.2.2.2
    omega
  rw [if_neg (show ¬ 9 ≤ nI n by rw [lt9, leN (by omega) (by omega)]; exact c9), x_hasP e0 (by omega) (by omega), bdO]
  by_cases c0 : i < T 0 0
  rotate_left
  · rw [if_neg c0, if00]
    exact ⟨fun ok => absurd ok.1 c0, fun _ => rfl⟩
  rw [if_pos c0, if10, x_hasT e1 (by omega) (by omega), bdO]
  by_cases c1 : t < T 1 0
  rotate_left
  · rw [if_neg c1, if00]
    exact ⟨fun ok => absurd ok.2.1 c1, fun _ => rfl⟩
  rw [if_pos c1, if10]
  by_cases c2 : b < 1
  · rw [if_pos (show nI b < 1 by rw [lt1, ltN (by omega) (by omega)]; exact c2)]
    refine ⟨fun ok => ?_, fun _ => rfl⟩
    have := ok.2.2.1
    omega
  rw [if_neg (show ¬ nI b < 1 by rw [lt1, ltN (by omega) (by omega)]; exact c2)]
  by_cases c3 : 30 < b
  · rw [if_pos (show 30 < nI b by rw [lt30, ltN (by omega) (by omega)]; exact c3)]
    refine ⟨fun ok => ?_, fun _ => rfl⟩
    have := ok.2.2.2.1
    omega
  rw [if_neg (show ¬ 30 < nI b by rw [lt30, ltN (by omega) (by omega)]; exact c3)]
  by_cases c4 : v ≤ 9
  rotate_left
  · rw [if_neg (show ¬ nI v ≤ 9 by rw [lt9, leN (by omega) (by omega)]; exact c4)]
    exact ⟨fun ok => absurd ok.2.2.2.2.1 c4, fun _ => rfl⟩
  rw [if_pos (show nI v ≤ 9 by rw [lt9, leN (by omega) (by omega)]; exact c4)]
  refine ⟨fun _ => ?_, fun hno => absurd ⟨c0, c1, by omega, by omega, c4, by omega⟩ hno⟩
  have z1 : xs y q 8 0 n (nI i) q 2 0 0 = nI n := by rw [xs_fr _ (by omega)]; exact e2
  have z2 : xs (xs y q 8 0 n (nI i)) q 9 0 n (nI t) q 2 0 0 = nI n := by rw [xs_fr _ (by omega)]; exact z1
  have z3 : xs (xs (xs y q 8 0 n (nI i)) q 9 0 n (nI t)) q 10 0 n (nI b) q 2 0 0 = nI n := by rw [xs_fr _ (by omega)]; exact z2
  have z4 : xs (xs (xs (xs y q 8 0 n (nI i)) q 9 0 n (nI t)) q 10 0 n (nI b)) q 11 0 n (nI v) q 2 0 0 = nI n := by rw [xs_fr _ (by omega)]; exact z3
  simp (discharger := omega) only [e2, giN, clN, z1, z2, z3, z4, nI_1]
  rfl
theorem it_a (hq : q = 12 ∨ q = 13) (h : TXT ch N x m) (hD : DR q T x m) (hp : p < N) (hc : ch p = 97) : IT ch N q 4 x m p := by
  obtain ⟨hB, hX, hM⟩ := hD
  have h200 := h.1
  obtain ⟨gok, gno⟩ := m_a h hB hM hp hc
  have htk : ∀ y, X4_takeItem q (nI (ch p)) y = bd (X4_takePause q y) fun r μ => gb r (some (r, μ)) := fun y => by
    rw [hc]
    unfold X4_takeItem
    rw [if_pos (by decide)]
  have hFX0 : FX q x x := FX_rfl
  cases e0 : fld ch 44 (p + 1) with
  | none =>
    obtain ⟨p2, g⟩ := rd_none (x := x) h (p := p + 1) (k := 0) (due := 4) (F := 999) (by omega) (by omega) (by omega) e0
    obtain ⟨m', k1, k2⟩ := gno (fun i p1 t p2 b p3 y p4 q0 => by rw [e0] at q0; cases q0)
    exact Or.inr ⟨_, m', FX_pp q x p2, k1, Or.inl g, k2⟩
  | some a =>
  obtain ⟨i, p1⟩ := a
  obtain ⟨l1, l2, l3⟩ := fld_lt (N := N) (by omega) h.2.2.2.2 e0
  have g := rd_some (x := x) h (p := p + 1) (k := 0) (due := 4) (F := 999) (by omega) (by omega) (by omega) e0
  have h1 : TXT ch N (xs x 14 0 0 0 (nI i)) m := TXT_row h
  have hFX1 := FX_row 0 (nI i) hFX0
  cases e1 : fld ch 44 p1 with
  | none =>
    obtain ⟨p2, g'⟩ := rd_none h1 (p := p1) (k := 1) (due := 4) (F := 998) (by omega) (by omega) (by omega) e1
    rw [g'] at g
    obtain ⟨m', k1, k2⟩ := gno (fun i p1 t p2 b p3 y p4 q0 q1 => by rw [e0] at q0; cases q0; rw [e1] at q1; cases q1)
    exact Or.inr ⟨_, m', FX_to hFX1 (FX_pp q _ p2), k1, Or.inl g, k2⟩
  | some a =>
  obtain ⟨t, p2⟩ := a
  obtain ⟨l4, l5, l6⟩ := fld_lt (N := N) (by omega) h.2.2.2.2 e1
  have g' := rd_some h1 (p := p1) (k := 1) (due := 4) (F := 998) (by omega) (by omega) (by omega) e1
  rw [g'] at g
  have h2 : TXT ch N (xs (xs x 14 0 0 0 (nI i)) 14 0 0 1 (nI t)) m := TXT_row h1
  have hFX2 := FX_row 1 (nI t) hFX1
  cases e2 : fld ch 44 p2 with
  | none =>
    obtain ⟨p3, g'⟩ := rd_none h2 (p := p2) (k := 2) (due := 4) (F := 997) (by omega) (by omega) (by omega) e2
    rw [g'] at g
    obtain ⟨m', k1, k2⟩ := gno (fun i p1 t p2 b p3 y p4 q0 q1 q2 => by rw [e0] at q0; cases q0; rw [e1] at q1; cases q1; rw [e2] at q2; cases q2)
    exact Or.inr ⟨_, m', FX_to hFX2 (FX_pp q _ p3), k1, Or.inl g, k2⟩
  | some a =>
  obtain ⟨b, p3⟩ := a
  obtain ⟨l7, l8, l9⟩ := fld_lt (N := N) (by omega) h.2.2.2.2 e2
  have g' := rd_some h2 (p := p2) (k := 2) (due := 4) (F := 997) (by omega) (by omega) (by omega) e2
  rw [g'] at g
  have h3 : TXT ch N (xs (xs (xs x 14 0 0 0 (nI i)) 14 0 0 1 (nI t)) 14 0 0 2 (nI b)) m := TXT_row h2
  have hFX3 := FX_row 2 (nI b) hFX2
  cases e3 : fld ch 59 p3 with
  | none =>
    obtain ⟨p4, g'⟩ := rd_none h3 (p := p3) (k := 3) (due := 4) (F := 996) (by omega) (by omega) (by omega) e3
    rw [g'] at g
    obtain ⟨m', k1, k2⟩ := gno (fun i p1 t p2 b p3 y p4 q0 q1 q2 q3 => by rw [e0] at q0; cases q0; rw [e1] at q1; cases q1; rw [e2] at q2; cases q2; rw [e3] at q3; cases q3)
    exact Or.inr ⟨_, m', FX_to hFX3 (FX_pp q _ p4), k1, Or.inl g, k2⟩
  | some a =>
  obtain ⟨v, p4⟩ := a
  obtain ⟨l10, l11, l12⟩ := fld_lt (N := N) (by omega) h.2.2.2.2 e3
  have g' := rd_some h3 (p := p3) (k := 3) (due := 4) (F := 996) (by omega) (by omega) (by omega) e3
  rw [rd_end (by omega) (by omega)] at g'
  rw [g'] at g
  have hFX4 := FX_row 3 (nI v) hFX3
  have r0 : xs (xs (xs (xs x 14 0 0 0 (nI i)) 14 0 0 1 (nI t)) 14 0 0 2 (nI b)) 14 0 0 3 (nI v) 14 0 0 0 = nI i := by rw [xs_at, if_neg (by omega), xs_at, if_neg (by omega), xs_at, if_neg (by omega), xs_self]
  have r1 : xs (xs (xs (xs x 14 0 0 0 (nI i)) 14 0 0 1 (nI t)) 14 0 0 2 (nI b)) 14 0 0 3 (nI v) 14 0 0 1 = nI t := by rw [xs_at, if_neg (by omega), xs_at, if_neg (by omega), xs_self]
  have r2 : xs (xs (xs (xs x 14 0 0 0 (nI i)) 14 0 0 1 (nI t)) 14 0 0 2 (nI b)) 14 0 0 3 (nI v) 14 0 0 2 = nI b := by rw [xs_at, if_neg (by omega), xs_self]
  have r3 : xs (xs (xs (xs x 14 0 0 0 (nI i)) 14 0 0 1 (nI t)) 14 0 0 2 (nI b)) 14 0 0 3 (nI v) 14 0 0 3 = nI v := xs_self ..
  have yq : ∀ f j, xs (xs (xs (xs x 14 0 0 0 (nI i)) 14 0 0 1 (nI t)) 14 0 0 2 (nI b)) 14 0 0 3 (nI v) q f j = x q f j := fun f j => by rw [xs_fr _ (by omega), xs_fr _ (by omega), xs_fr _ (by omega), xs_fr _ (by omega)]
  generalize xs (xs (xs (xs x 14 0 0 0 (nI i)) 14 0 0 1 (nI t)) 14 0 0 2 (nI b)) 14 0 0 3 (nI v) = y at g hFX4 r0 r1 r2 r3 yq
  have hFXp : FX q x (pp y p4) := FX_to hFX4 (FX_pp q _ p4)
  have h17 : pp y p4 17 = x 17 := hFXp 17 (by omega) (by omega)
  have n0 := hX.1
  have n1 := hX.2.1
  have n2 := hX.2.2.1
  have hpq : ∀ f j, pp y p4 q f j = x q f j := fun f j => by rw [pp_o _ (by omega), yq]
  obtain ⟨tok, tno⟩ := x_take (y := pp y p4) (i := i) (t := t) (b := b) (v := v) (by omega : q ≠ 14) hB (by rw [hpq]; exact n0) (by rw [hpq]; exact n1) (by rw [hpq]; exact n2) (by rw [pp_o _ (by omega)]; exact r0) (by rw [pp_o _ (by omega)]; exact r1) (by rw [pp_o _ (by omega)]; exact r2) (by rw [pp_o _ (by omega)]; exact r3) (by omega) (by omega) (by omega) (by omega)
  have ht := htk (pp y p4)
  by_cases ok : okA T i t b v
  rotate_left
  · obtain ⟨m', k1, k2⟩ := gno (fun i p1 t p2 b p3 y p4 q0 q1 q2 q3 => by rw [e0] at q0; cases q0; rw [e1] at q1; cases q1; rw [e2] at q2; cases q2; rw [e3] at q3; cases q3; exact ok)
    rw [tno ok, bdO, gb0] at ht
    exact Or.inr ⟨_, m', hFXp, k1, Or.inr ⟨_, g, h17, ht⟩, k2⟩
  rw [tok ok, bdO, gb1] at ht
  have hm := gok i p1 t p2 b p3 v p4 e0 e1 e2 e3 ok
  obtain ⟨o0, o1, o2, o3, o4, o5⟩ := ok
  have m2 := hM.2.2.1
  generalize hn : T 2 0 = n at n2 m2 o5 ht
  have hpa : paX q (pp y p4) n (nI i) (nI t) (nI b) (nI v) = pp (paX q y n (nI i) (nI t) (nI b) (nI v)) p4 := by
    unfold paX
    rw [pp_com _ _ (by omega), pp_com _ _ (by omega), pp_com _ _ (by omega), pp_com _ _ (by omega), pp_com _ _ (by omega)]
  rw [hpa] at ht
  refine Or.inl ⟨ut (ut (ut (ut (ut T 8 n i) 9 n t) 10 n b) 11 n v) 2 0 (n + 1), _, paX q y n (nI i) (nI t) (nI b) (nI v), xs (xs (xs (xs (xs m 20 3 0 (23 + n) (nI i)) 20 3 0 (32 + n) (nI t)) 20 3 0 (41 + n) (nI b)) 20 3 0 (50 + n) (nI v)) 20 3 0 2 (nI (n + 1)), p4, by omega, l12, ⟨?_, ?_, ?_⟩, ?_, ?_, g, h17, ht, ?_⟩
  · obtain ⟨b0, b1, b2, b3, b4, b5, b6, b7⟩ := hB
    refine ⟨by simpa [ut_at] using b0, by simpa [ut_at] using b1, by simp [ut_at]; omega, by simpa [ut_at] using b3, by simpa [ut_at] using b4, fun j hj => ?_, fun j hj => ?_, fun j hj => ?_⟩
    · simp [ut_at] at hj ⊢
      exact b5 j hj
    · simp [ut_at] at hj ⊢
      exact b6 j hj
    · simp [ut_at] at hj ⊢
      by_cases z : j = n
      · simp [z]; exact ⟨o0, o1, o2, o3, o4⟩
      · simp [z]; exact b7 j (by omega)
  · obtain ⟨b0, b1, b2, b3, b4, b5, b6, b7⟩ := hX
    have fr : ∀ f, f ≠ 8 → f ≠ 9 → f ≠ 10 → f ≠ 11 → f ≠ 2 → paX q y n (nI i) (nI t) (nI b) (nI v) q f 0 = x q f 0 := fun f h1 h2 h3 h4 h5 => by
      unfold paX
      rw [xs_fr _ (by omega), xs_fr _ (by omega), xs_fr _ (by omega), xs_fr _ (by omega), xs_fr _ (by omega), yq]
    have f2 : paX q y n (nI i) (nI t) (nI b) (nI v) q 2 0 0 = nI (n + 1) := xs_self ..
    have f8 : ∀ j, paX q y n (nI i) (nI t) (nI b) (nI v) q 8 0 j = if j = n then nI i else x q 8 0 j := fun j => by
      unfold paX
      rw [xs_fr _ (by omega), xs_fr _ (by omega), xs_fr _ (by omega), xs_fr _ (by omega), xs_at, yq]
    have f9 : ∀ j, paX q y n (nI i) (nI t) (nI b) (nI v) q 9 0 j = if j = n then nI t else x q 9 0 j := fun j => by
      unfold paX
      rw [xs_fr _ (by omega), xs_fr _ (by omega), xs_fr _ (by omega), xs_at, xs_fr _ (by omega), yq]
    have f10 : ∀ j, paX q y n (nI i) (nI t) (nI b) (nI v) q 10 0 j = if j = n then nI b else x q 10 0 j := fun j => by
      unfold paX
      rw [xs_fr _ (by omega), xs_fr _ (by omega), xs_at, xs_fr _ (by omega), xs_fr _ (by omega), yq]
    have f11 : ∀ j, paX q y n (nI i) (nI t) (nI b) (nI v) q 11 0 j = if j = n then nI v else x q 11 0 j := fun j => by
      unfold paX
      rw [xs_fr _ (by omega), xs_at, xs_fr _ (by omega), xs_fr _ (by omega), xs_fr _ (by omega), yq]
    generalize paX q y n (nI i) (nI t) (nI b) (nI v) = z at fr f2 f8 f9 f10 f11
    unfold TX
    rw [fr 0 (by omega) (by omega) (by omega) (by omega) (by omega), fr 1 (by omega) (by omega) (by omega) (by omega) (by omega), fr 3 (by omega) (by omega) (by omega) (by omega) (by omega), fr 4 (by omega) (by omega) (by omega) (by omega) (by omega), fr 5 (by omega) (by omega) (by omega) (by omega) (by omega), fr 6 (by omega) (by omega) (by omega) (by omega) (by omega), fr 7 (by omega) (by omega) (by omega) (by omega) (by omega), f2]
    refine ⟨by simpa [ut_at] using b0, by simpa [ut_at] using b1, by simp [ut_at], by simpa [ut_at] using b3, by simpa [ut_at] using b4, fun j hj => ?_, fun j hj => ?_, fun j hj => ?_⟩
    · simp [ut_at] at hj ⊢
      exact b5 j hj
    · simp [ut_at] at hj ⊢
      exact b6 j hj
    · rw [f8, f9, f10, f11]
      simp [ut_at] at hj ⊢
      by_cases z : j = n
      · simp [z]
      · simp [z]; exact b7 j (by omega)
  · obtain ⟨b0, b1, b2, b3, b4, b5, b6, b7⟩ := hM
    have b1' := hB.2.1
    have b0' := hB.1
    have f : ∀ j, xs (xs (xs (xs (xs m 20 3 0 (23 + n) (nI i)) 20 3 0 (32 + n) (nI t)) 20 3 0 (41 + n) (nI b)) 20 3 0 (50 + n) (nI v)) 20 3 0 2 (nI (n + 1)) 20 3 0 j = if j = 2 then nI (n + 1) else if j = 50 + n then nI v else if j = 41 + n then nI b else if j = 32 + n then nI t else if j = 23 + n then nI i else m 20 3 0 j := fun j => by
      rw [xs_at, xs_at, xs_at, xs_at, xs_at]
    generalize xs (xs (xs (xs (xs m 20 3 0 (23 + n) (nI i)) 20 3 0 (32 + n) (nI t)) 20 3 0 (41 + n) (nI b)) 20 3 0 (50 + n) (nI v)) 20 3 0 2 (nI (n + 1)) 20 3 0 = z at f
    have fo : ∀ j, j ≠ 2 → j ≠ 50 + n → j ≠ 41 + n → j ≠ 32 + n → j ≠ 23 + n → z j = m 20 3 0 j := fun j h1 h2 h3 h4 h5 => by
      rw [f, if_neg h1, if_neg h2, if_neg h3, if_neg h4, if_neg h5]
    have z2 := f 2
    rw [if_pos rfl] at z2
    have z50 := f (50 + n)
    rw [if_neg (by omega), if_pos rfl] at z50
    have z41 := f (41 + n)
    rw [if_neg (by omega), if_neg (by omega), if_pos rfl] at z41
    have z32 := f (32 + n)
    rw [if_neg (by omega), if_neg (by omega), if_neg (by omega), if_pos rfl] at z32
    have z23 := f (23 + n)
    rw [if_neg (by omega), if_neg (by omega), if_neg (by omega), if_neg (by omega), if_pos rfl] at z23
    refine ⟨?_, ?_, ?_, ?_, ?_, fun j hj => ?_, fun j hj => ?_, fun j hj => ?_⟩
    · rw [fo 0 (by omega) (by omega) (by omega) (by omega) (by omega)]; simpa [ut_at] using b0
    · rw [fo 1 (by omega) (by omega) (by omega) (by omega) (by omega)]; simpa [ut_at] using b1
    · rw [z2]; simp [ut_at]
    · rw [fo 3 (by omega) (by omega) (by omega) (by omega) (by omega)]; simpa [ut_at] using b3
    · rw [fo 4 (by omega) (by omega) (by omega) (by omega) (by omega)]; simpa [ut_at] using b4
    · simp [ut_at] at hj ⊢
      rw [fo _ (by omega) (by omega) (by omega) (by omega) (by omega), fo _ (by omega) (by omega) (by omega) (by omega) (by omega)]
      exact b5 j hj
    · simp [ut_at] at hj ⊢
      rw [fo _ (by omega) (by omega) (by omega) (by omega) (by omega)]
      exact b6 j hj
    · simp [ut_at] at hj ⊢
      by_cases w : j = n
      · subst w
        rw [z23, z32, z41, z50]
        simp
      · rw [fo _ (by omega) (by omega) (by omega) (by omega) (by omega), fo _ (by omega) (by omega) (by omega) (by omega) (by omega), fo _ (by omega) (by omega) (by omega) (by omega) (by omega), fo _ (by omega) (by omega) (by omega) (by omega) (by omega)]
        simp [w]; exact b7 j (by omega)
  · intro q' h1 h2
    rw [← hFX4 q' h1 h2]
    unfold paX
    funext f j
    rw [xs_fr _ (by omega), xs_fr _ (by omega), xs_fr _ (by omega), xs_fr _ (by omega), xs_fr _ (by omega)]
  · intro f h1 h2
    rw [xs_fr _ (by omega), xs_fr _ (by omega), xs_fr _ (by omega), xs_fr _ (by omega), xs_fr _ (by omega)]
  · have y3 : mm m p4 20 3 0 2 = nI n := by rw [mm_o m (by omega)]; exact m2
    have y4 : xs (xs (xs (xs (mm m p4) 20 3 0 (23 + n) (nI i)) 20 3 0 (32 + n) (nI t)) 20 3 0 (41 + n) (nI b)) 20 3 0 (50 + n) (nI v) 20 3 0 2 = nI n := by rw [xs_at, if_neg (by omega), xs_at, if_neg (by omega), xs_at, if_neg (by omega), xs_at, if_neg (by omega)]; exact y3
    rw [hm]
    unfold X6_pauseOf
    rw [tc2, y3, ad23, ad32, ad41, ad50, clN (by omega), clN (by omega), clN (by omega), clN (by omega), y4, nI_1, gl2 (by omega) (by omega), giN (by omega) (by omega), giN (by omega) (by omega), giN (by omega) (by omega), giN (by omega) (by omega), gl2 (by omega) (by omega), gl2 (by omega) (by omega), bdvO, mm_com, mm_com, mm_com, mm_com, mm_com]
theorem it_0 (h : TXT ch N x m) (hp : p < N) (c1 : ch p ≠ 97) (c2 : ch p ≠ 101) (c3 : ch p ≠ 103) (c4 : ch p ≠ 112) (c5 : ch p ≠ 116) : IT ch N q 0 x m p := by
  have h200 := h.1
  have hl := h.2.2.2.1 p
  have ne : ∀ c, ch p ≠ c → c < 1000 → ¬ nI (ch p) = nI c := fun c hc hc2 => by rw [eqN (by omega) (by omega)]; exact hc
  refine Or.inr ⟨pp x (p + 1), mm m (p + 1), FX_pp q x _, FM_mm m _, Or.inl ?_, ?_⟩
  · show X2_readItem_b23 (nI N) (nI 0) (lo1 (X2_readItem_b23 (nI N) (nI 0)) 999) (nI 0) _ = _
    generalize lo1 (X2_readItem_b23 (nI N) (nI 0)) 999 = K
    unfold X2_readItem_b23
    rw [if_pos (by decide), if_pos (by decide)]
  · unfold X6_readsItem
    rw [if_neg (show ¬ nI (ch p) = (97 : Int32) from ne 97 c1 (by omega)), if_neg (show ¬ nI (ch p) = (101 : Int32) from ne 101 c2 (by omega)), if_neg (show ¬ nI (ch p) = (103 : Int32) from ne 103 c3 (by omega)), if_neg (show ¬ nI (ch p) = (112 : Int32) from ne 112 c4 (by omega)), if_neg (show ¬ nI (ch p) = (116 : Int32) from ne 116 c5 (by omega))]
end ITM5
