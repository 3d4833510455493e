/-! THE LAYOUT of the class's cells, in the order of their making -/
def oM (q : Nat) : Nat := if q = 0 then 20 else if q = 1 then 52 else if q < 10 then 86 + 32 * (q - 2) else 347 + 32 * (q - 10)
def po (k : Ky) : Nat := if k.1 < 12 then (if k.2.1 = 50 then oM k.1 else if k.2.1 < 6 then oM k.1 + (k.2.1 - 2) else if k.2.2 = 50 then oM k.1 + (4 + 7 * (k.2.1 - 6)) else oM k.1 + (4 + 7 * (k.2.1 - 6) + 1 + k.2.2)) else if k.1 < 14 then (if k.2.1 = 50 then 4 + 8 * (k.1 - 12) else 4 + 8 * (k.1 - 12) + (k.2.1 - 4)) else if k.1 = 14 then (if k.2.1 = 50 then 2 else 3) else if k.1 = 15 then (if k.2.1 = 50 then 84 else 85) else if k.1 = 16 then (if k.2.1 = 50 then 343 else 344 + k.2.1) else if k.2.1 = 50 then 0 else if k.2.1 = 0 then 1 else 342
def mkL (q : Nat) : List Ky := [(q, 50, 0), (q, 3, 0), (q, 4, 0), (q, 5, 0)] ++ [6, 7, 8, 9].flatMap (fun f => (q, f, 50) :: (List.range 6).map (fun i => (q, f, i)))
def tlL (q : Nat) : List Ky := (q, 50, 0) :: [5, 6, 7, 8, 9, 10, 11].map (fun f => (q, f, 0))
def kyL : List Ky := [(17, 50, 0), (17, 0, 0), (14, 50, 0), (14, 0, 0)] ++ tlL 12 ++ tlL 13 ++ mkL 0 ++ mkL 1 ++ [(15, 50, 0), (15, 0, 50)] ++ (List.range 8).flatMap (fun j => mkL (2 + j)) ++ [(17, 7, 50), (16, 50, 0), (16, 0, 0), (16, 1, 0), (16, 2, 0)] ++ mkL 10 ++ mkL 11
def kyA (i : Nat) : Ky := kyL.getD i (0, 0, 0)
theorem kyL_po : ∀ k ∈ keysX, kyL[po k]? = some k := by decide +kernel
theorem kyL_len : kyL.length = 411 := by decide +kernel
theorem kyA_m : ∀ q, q < 12 → kyA (oM q) = (q, 50, 0) ∧ kyA (oM q + 1) = (q, 3, 0) ∧ kyA (oM q + 2) = (q, 4, 0) ∧ kyA (oM q + 3) = (q, 5, 0) ∧ ∀ f, f < 4 → kyA (oM q + (4 + 7 * f)) = (q, 6 + f, 50) ∧ ∀ j, j < 6 → kyA (oM q + (4 + 7 * f + 1 + j)) = (q, 6 + f, j) := by decide +kernel
theorem po_m : ∀ q, q < 12 → po (q, 50, 0) = oM q ∧ po (q, 3, 0) = oM q + 1 ∧ po (q, 4, 0) = oM q + 2 ∧ po (q, 5, 0) = oM q + 3 ∧ ∀ f, f < 4 → po (q, 6 + f, 50) = oM q + (4 + 7 * f) ∧ ∀ j, j < 6 → po (q, 6 + f, j) = oM q + (4 + 7 * f + 1 + j) := by decide +kernel
def adX (N : Nat) (k : Ky) : Nat := N + po k
def mu0 : Mem := fun q f _ _ => if q < 12 ∧ f = 2 then -4 else if q = 20 ∧ f = 12 then -4 else 0
theorem mu0_z {q f i : Nat} (h : ¬ (q < 12 ∧ f = 2)) (h2 : ¬ (q = 20 ∧ f = 12)) : mu0 q f i = fun _ => 0 := by
  funext j
  unfold mu0
  rw [if_neg h, if_neg h2]
def ceN (g : G3) (N i : Nat) : va_E := cX g (adX N) mu0 (kyA i)
theorem mk_c (g : G3) (N : Nat) {q : Nat} (hq : q < 12) : MkC g (N + oM q) (N + 12) (fun i => ceN g N (oM q + i)) := by
  obtain ⟨k0, k1, k2, k3, kf⟩ := kyA_m q hq
  obtain ⟨p0, p1, p2, p3, pf⟩ := po_m q hq
  refine ⟨?_, ?_, ?_, ?_, fun f hf => ⟨⟨fun j => adX N (q, 6 + f, j), fun j hj => ?_, ?_⟩, fun j hj => ?_⟩⟩
  · show cX g (adX N) mu0 (kyA (oM q + 0)) = _
    rw [Nat.add_zero, k0, cm_o hq]
    have a6 : po (q, 6, 50) = oM q + 4 := (pf 0 (by decide)).1
    have a7 : po (q, 7, 50) = oM q + 11 := (pf 1 (by decide)).1
    have a8 : po (q, 8, 50) = oM q + 18 := (pf 2 (by decide)).1
    have a9 : po (q, 9, 50) = oM q + 25 := (pf 3 (by decide)).1
    have z1 : mu0 q 1 0 0 = 0 := congrFun (mu0_z (q := q) (f := 1) (i := 0) (by omega) (by omega)) 0
    have z2 : mu0 q 2 0 0 = -4 := if_pos ⟨hq, rfl⟩
    unfold adX
    rw [a6, a7, a8, a9, p1, p2, p3, z1, z2, show po (13, 50, 0) = 12 from by decide +kernel]
    simp only [Nat.add_assoc]
  · show cX g (adX N) mu0 (kyA (oM q + 1)) = _
    rw [k1, cm_a hq (by decide), mu0_z (by omega) (by omega)]
  · show cX g (adX N) mu0 (kyA (oM q + 2)) = _
    rw [k2, cm_a hq (by decide), mu0_z (by omega) (by omega)]
  · show cX g (adX N) mu0 (kyA (oM q + 3)) = _
    rw [k3, cm_a hq (by decide), mu0_z (by omega) (by omega)]
  · show adX N (q, 6 + f, j) = _
    unfold adX
    rw [(pf f hf).2 j hj]
    omega
  · show cX g (adX N) mu0 (kyA (oM q + (4 + 7 * f))) = _
    rw [(kf f hf).1, cm_q hq (by omega)]
  · show cX g (adX N) mu0 (kyA (oM q + (4 + 7 * f + 1 + j))) = _
    rw [(kf f hf).2 j hj, cm_r hq (by omega) hj, mu0_z (by omega) (by omega)]
theorem eN_0 (g : G3) (N : Nat) : ceN g N 0 = .inr (5, [.ref (N + 1), .ref (N + 2), .ref (N + 4), .ref (N + 12), .ref (N + 20), .ref (N + 52), .ref (N + 84), .ref (N + 342), .ref (N + 343), .int 0, .int 0]) := by
  unfold ceN
  rw [show kyA 0 = (17, 50, 0) from by decide +kernel]
  rfl
theorem eN_1 (g : G3) (N : Nat) : ceN g N 1 = .inl (g.1, 200, .inl (fun _ => 0)) := by
  unfold ceN
  rw [show kyA 1 = (17, 0, 0) from by decide +kernel]
  rfl
theorem eN_2 (g : G3) (N : Nat) : ceN g N 2 = .inr (2, [.ref (N + 3), .int 0]) := by
  unfold ceN
  rw [show kyA 2 = (14, 50, 0) from by decide +kernel]
  rfl
theorem eN_3 (g : G3) (N : Nat) : ceN g N 3 = .inl (g.1, 4, .inl (fun _ => 0)) := by
  unfold ceN
  rw [show kyA 3 = (14, 0, 0) from by decide +kernel]
  rfl
theorem eN_4 (g : G3) (N : Nat) : ceN g N 4 = .inr (4, [.int 0, .int 0, .int 0, .int 0, .int 0, .ref (N + 5), .ref (N + 6), .ref (N + 7), .ref (N + 8), .ref (N + 9), .ref (N + 10), .ref (N + 11)]) := by
  unfold ceN
  rw [show kyA 4 = (12, 50, 0) from by decide +kernel]
  rfl
theorem eN_5 (g : G3) (N : Nat) : ceN g N 5 = .inl (g.1, 6, .inl (fun _ => 0)) := by
  unfold ceN
  rw [show kyA 5 = (12, 5, 0) from by decide +kernel]
  rfl
theorem eN_6 (g : G3) (N : Nat) : ceN g N 6 = .inl (g.1, 6, .inl (fun _ => 0)) := by
  unfold ceN
  rw [show kyA 6 = (12, 6, 0) from by decide +kernel]
  rfl
theorem eN_7 (g : G3) (N : Nat) : ceN g N 7 = .inl (g.1, 6, .inl (fun _ => 0)) := by
  unfold ceN
  rw [show kyA 7 = (12, 7, 0) from by decide +kernel]
  rfl
theorem eN_8 (g : G3) (N : Nat) : ceN g N 8 = .inl (g.1, 9, .inl (fun _ => 0)) := by
  unfold ceN
  rw [show kyA 8 = (12, 8, 0) from by decide +kernel]
  rfl
theorem eN_9 (g : G3) (N : Nat) : ceN g N 9 = .inl (g.1, 9, .inl (fun _ => 0)) := by
  unfold ceN
  rw [show kyA 9 = (12, 9, 0) from by decide +kernel]
  rfl
theorem eN_10 (g : G3) (N : Nat) : ceN g N 10 = .inl (g.1, 9, .inl (fun _ => 0)) := by
  unfold ceN
  rw [show kyA 10 = (12, 10, 0) from by decide +kernel]
  rfl
theorem eN_11 (g : G3) (N : Nat) : ceN g N 11 = .inl (g.1, 9, .inl (fun _ => 0)) := by
  unfold ceN
  rw [show kyA 11 = (12, 11, 0) from by decide +kernel]
  rfl
theorem eN_12 (g : G3) (N : Nat) : ceN g N 12 = .inr (4, [.int 0, .int 0, .int 0, .int 0, .int 0, .ref (N + 13), .ref (N + 14), .ref (N + 15), .ref (N + 16), .ref (N + 17), .ref (N + 18), .ref (N + 19)]) := by
  unfold ceN
  rw [show kyA 12 = (13, 50, 0) from by decide +kernel]
  rfl
theorem eN_13 (g : G3) (N : Nat) : ceN g N 13 = .inl (g.1, 6, .inl (fun _ => 0)) := by
  unfold ceN
  rw [show kyA 13 = (13, 5, 0) from by decide +kernel]
  rfl
theorem eN_14 (g : G3) (N : Nat) : ceN g N 14 = .inl (g.1, 6, .inl (fun _ => 0)) := by
  unfold ceN
  rw [show kyA 14 = (13, 6, 0) from by decide +kernel]
  rfl
theorem eN_15 (g : G3) (N : Nat) : ceN g N 15 = .inl (g.1, 6, .inl (fun _ => 0)) := by
  unfold ceN
  rw [show kyA 15 = (13, 7, 0) from by decide +kernel]
  rfl
theorem eN_16 (g : G3) (N : Nat) : ceN g N 16 = .inl (g.1, 9, .inl (fun _ => 0)) := by
  unfold ceN
  rw [show kyA 16 = (13, 8, 0) from by decide +kernel]
  rfl
theorem eN_17 (g : G3) (N : Nat) : ceN g N 17 = .inl (g.1, 9, .inl (fun _ => 0)) := by
  unfold ceN
  rw [show kyA 17 = (13, 9, 0) from by decide +kernel]
  rfl
theorem eN_18 (g : G3) (N : Nat) : ceN g N 18 = .inl (g.1, 9, .inl (fun _ => 0)) := by
  unfold ceN
  rw [show kyA 18 = (13, 10, 0) from by decide +kernel]
  rfl
theorem eN_19 (g : G3) (N : Nat) : ceN g N 19 = .inl (g.1, 9, .inl (fun _ => 0)) := by
  unfold ceN
  rw [show kyA 19 = (13, 11, 0) from by decide +kernel]
  rfl
theorem eN_84 (g : G3) (N : Nat) : ceN g N 84 = .inr (0, [.ref (N + 85), .int 0, .int 0]) := by
  unfold ceN
  rw [show kyA 84 = (15, 50, 0) from by decide +kernel]
  rfl
theorem eN_85 (g : G3) (N : Nat) : ceN g N 85 = .inl (g.2.2, 8, rfX (fun j => adX N (2 + j, 50, 0))) := by
  unfold ceN
  rw [show kyA 85 = (15, 0, 50) from by decide +kernel]
  rfl
theorem eN_342 (g : G3) (N : Nat) : ceN g N 342 = .inl (g.2.2, 2, rfX (fun j => adX N (10 + j, 50, 0))) := by
  unfold ceN
  rw [show kyA 342 = (17, 7, 50) from by decide +kernel]
  rfl
theorem eN_343 (g : G3) (N : Nat) : ceN g N 343 = .inr (3, [.ref (N + 344), .ref (N + 345), .ref (N + 346), .int 0]) := by
  unfold ceN
  rw [show kyA 343 = (16, 50, 0) from by decide +kernel]
  rfl
theorem eN_344 (g : G3) (N : Nat) : ceN g N 344 = .inl (g.1, 6, .inl (fun _ => 0)) := by
  unfold ceN
  rw [show kyA 344 = (16, 0, 0) from by decide +kernel]
  rfl
theorem eN_345 (g : G3) (N : Nat) : ceN g N 345 = .inl (g.1, 6, .inl (fun _ => 0)) := by
  unfold ceN
  rw [show kyA 345 = (16, 1, 0) from by decide +kernel]
  rfl
theorem eN_346 (g : G3) (N : Nat) : ceN g N 346 = .inl (g.1, 6, .inl (fun _ => 0)) := by
  unfold ceN
  rw [show kyA 346 = (16, 2, 0) from by decide +kernel]
  rfl
theorem hist_f (N : Nat) : ∀ j, j < 8 → adX N (2 + j, 50, 0) = N + 84 + (2 + 32 * j) := by
  have h : ∀ j, j < 8 → po (2 + j, 50, 0) = 84 + (2 + 32 * j) := by decide +kernel
  intro j hj
  unfold adX
  rw [h j hj]
  omega
theorem hist_m (g : G3) (N : Nat) : ∀ j, j < 8 → MkC g (N + 84 + (2 + 32 * j)) (N + 12) (fun i => ceN g N (84 + (2 + 32 * j + i))) := by
  have h : ∀ j, j < 8 → oM (2 + j) = 84 + (2 + 32 * j) := by decide +kernel
  intro j hj
  have := mk_c g N (q := 2 + j) (by omega)
  rw [h j hj] at this
  simp only [Nat.add_assoc] at this ⊢
  exact this
theorem kept_f (N : Nat) : ∀ j, j < 2 → adX N (10 + j, 50, 0) = N + (347 + 32 * j) := by
  have h : ∀ j, j < 2 → po (10 + j, 50, 0) = 347 + 32 * j := by decide +kernel
  intro j hj
  unfold adX
  rw [h j hj]
theorem kept_m (g : G3) (N : Nat) : ∀ j, j < 2 → MkC g (N + (347 + 32 * j)) (N + 12) (fun i => ceN g N (347 + 32 * j + i)) := by
  have h : ∀ j, j < 2 → oM (10 + j) = 347 + 32 * j := by decide +kernel
  intro j hj
  have := mk_c g N (q := 10 + j) (by omega)
  rw [h j hj] at this
  exact this
/-- the whole world, made -/
theorem wo_made {D : va_G} {g : G3} {N : Nat} {s : State} {H0 H : Heap} {locs : List Loc} (hK : va_K D vwCl (tysX g) s) (hB : ∀ i, i < 411 → va_at D vwCl (N + i, ceN g N i) H) (hS : va_S (fun q => N ≤ q) H0 H locs) : Wo D (tysX g) keysX (adX N) (fun q => N ≤ q) s H0 (cX g (adX N) mu0) H locs := by
  refine ⟨hK, fun i q hq => ?_, ⟨fun i j p q hp hq e => ?_, fun i q hq => ?_⟩, hS, keysX_nd⟩
  · obtain ⟨k, hk, rfl⟩ := ky_mem hq
    have h := kyL_po k hk
    have hl := (List.getElem?_eq_some_iff.mp h).1
    rw [kyL_len] at hl
    have h9 := hB _ hl
    have e9 : kyA (po k) = k := by
      unfold kyA
      rw [List.getD_eq_getElem?_getD, h]
      rfl
    unfold ceN at h9
    rw [e9] at h9
    exact h9
  · unfold ky_ws at hp hq
    rw [List.getElem?_map] at hp hq
    cases hi : keysX[i]? with
    | none => rw [hi] at hp; cases hp
    | some k =>
      cases hj : keysX[j]? with
      | none => rw [hj] at hq; cases hq
      | some k' =>
        rw [hi] at hp
        rw [hj] at hq
        cases hp
        cases hq
        have e : N + po k = N + po k' := e
        have e9 : po k = po k' := by omega
        have a := kyL_po k (List.mem_of_getElem? hi)
        have b := kyL_po k' (List.mem_of_getElem? hj)
        rw [e9] at a
        have e8 : k = k' := Option.some.inj (a.symm.trans b)
        subst e8
        exact (List.getElem?_inj (List.getElem?_eq_some_iff.mp hi).1 keysX_nd).mp (hi.trans hj.symm)
  · obtain ⟨k, hk, rfl⟩ := ky_mem hq
    show N ≤ N + po k
    omega
