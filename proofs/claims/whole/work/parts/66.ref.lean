/-! THE REFERENCE'S CONSTRUCTOR (laid by wip/whole/gen/make6.py) -/
def poM (k : Ky) : Nat := if k.2.1 = 50 then 0 else if k.2.1 = 0 then 1 else if k.2.1 < 6 then k.2.1 else if k.2.1 = 7 then 6 else if k.2.1 = 9 then 7 else 8
def kyZ (i : Nat) : Ky := keysM.getD i (0, 0, 0)
theorem kyZ_po : ∀ k ∈ keysM, keysM[poM k]? = some k := by decide +kernel
theorem keysM_len : keysM.length = 9 := by decide +kernel
def adZ (N : Nat) (k : Ky) : Nat := N + poM k
def ceZ (g : G3) (N i : Nat) : va_E := cX g (adZ N) mu0 (kyZ i)
theorem iW6 : ∀ w ∈ u_ws RX6 TX6 14, w ∈ wsX6_init := by decide +kernel
theorem eZ_0 (g : G3) (N : Nat) : ceZ g N 0 = .inr (6, [.ref (N + 1), .int 0, .ref (N + 2), .ref (N + 3), .ref (N + 4), .ref (N + 5), .int 0, .ref (N + 6), .int 0, .ref (N + 7), .int 0, .int 0, .int (-4), .ref (N + 8)]) := by
  unfold ceZ
  rw [show kyZ 0 = (20, 50, 0) from by decide +kernel]
  rfl
theorem eZ_1 (g : G3) (N : Nat) : ceZ g N 1 = .inl (g.1, 200, .inl (fun _ => 0)) := by
  unfold ceZ
  rw [show kyZ 1 = (20, 0, 0) from by decide +kernel]
  rfl
theorem eZ_2 (g : G3) (N : Nat) : ceZ g N 2 = .inl (g.1, 59, .inl (fun _ => 0)) := by
  unfold ceZ
  rw [show kyZ 2 = (20, 2, 0) from by decide +kernel]
  rfl
theorem eZ_3 (g : G3) (N : Nat) : ceZ g N 3 = .inl (g.1, 59, .inl (fun _ => 0)) := by
  unfold ceZ
  rw [show kyZ 3 = (20, 3, 0) from by decide +kernel]
  rfl
theorem eZ_4 (g : G3) (N : Nat) : ceZ g N 4 = .inl (g.1, 55, .inl (fun _ => 0)) := by
  unfold ceZ
  rw [show kyZ 4 = (20, 4, 0) from by decide +kernel]
  rfl
theorem eZ_5 (g : G3) (N : Nat) : ceZ g N 5 = .inl (g.1, 440, .inl (fun _ => 0)) := by
  unfold ceZ
  rw [show kyZ 5 = (20, 5, 0) from by decide +kernel]
  rfl
theorem eZ_6 (g : G3) (N : Nat) : ceZ g N 6 = .inl (g.1, 110, .inl (fun _ => 0)) := by
  unfold ceZ
  rw [show kyZ 6 = (20, 7, 0) from by decide +kernel]
  rfl
theorem eZ_7 (g : G3) (N : Nat) : ceZ g N 7 = .inl (g.1, 6, .inl (fun _ => 0)) := by
  unfold ceZ
  rw [show kyZ 7 = (20, 9, 0) from by decide +kernel]
  rfl
theorem eZ_8 (g : G3) (N : Nat) : ceZ g N 8 = .inl (g.1, 55, .inl (fun _ => 0)) := by
  unfold ceZ
  rw [show kyZ 8 = (20, 13, 0) from by decide +kernel]
  rfl
theorem wo_madeM {D : va_G} {g : G3} {N : Nat} {s : State} {H0 H : Heap} {locs : List Loc} (hK : va_K D vwCl (tysX g) s) (hB : ∀ i, i < 9 → va_at D vwCl (N + i, ceZ g N i) H) (hS : va_S (fun q => N ≤ q) H0 H locs) : Wo D (tysX g) keysM (adZ N) (fun q => N ≤ q) s H0 (cX g (adZ N) mu0) H locs := by
  refine ⟨hK, fun i q hq => ?_, ⟨fun i j p q hp hq e => ?_, fun i q hq => ?_⟩, hS, keysM_nd⟩
  · obtain ⟨k, hk, rfl⟩ := ky_mem hq
    have h := kyZ_po k hk
    have hl := (List.getElem?_eq_some_iff.mp h).1
    rw [keysM_len] at hl
    have h9 := hB _ hl
    have e9 : kyZ (poM k) = k := by
      unfold kyZ
      rw [List.getD_eq_getElem?_getD, h]
      rfl
    unfold ceZ at h9
    rw [e9] at h9
    exact h9
  · unfold ky_ws at hp hq
    rw [List.getElem?_map] at hp hq
    cases hi : keysM[i]? with
    | none => rw [hi] at hp; cases hp
    | some k =>
      cases hj : keysM[j]? with
      | none => rw [hj] at hq; cases hq
      | some k' =>
        rw [hi] at hp
        rw [hj] at hq
        cases hp
        cases hq
        have e : N + poM k = N + poM k' := e
        have e9 : poM k = poM k' := by omega
        have a := kyZ_po k (List.mem_of_getElem? hi)
        have b := kyZ_po k' (List.mem_of_getElem? hj)
        rw [e9] at a
        have e8 : k = k' := Option.some.inj (a.symm.trans b)
        subst e8
        exact (List.getElem?_inj (List.getElem?_eq_some_iff.mp hi).1 keysM_nd).mp (hi.trans hj.symm)
  · obtain ⟨k, hk, rfl⟩ := ky_mem hq
    show N ≤ N + poM k
    omega
abbrev rX6_init : Room := { frames := 3, cells := 8, slots := 984, locals := 60 }
abbrev bl6 : List Value := [.null, .int 0, .null, .null, .null, .null, .int 0, .null, .int 0, .null, .int 0, .int 0, .int 0, .null]
def CtMB (l : Launch) (D : va_G) (g : G3) (N : Nat) (μf : Mem) : Prop := Met l yX6_init wsX6_init rX6_init (va_Pc [.ref N] (fun U => Ev D g U ∧ U.heap.size = N + 1 ∧ va_at D vwCl (N, .inr (6, bl6)) U.heap)) (va_Qv (fun (u : Mem) => u = μf) (fun u t => Wp D (tysX g) keysM (adZ N) (fun a => N ≤ a) (cX g (adZ N) u) t) (fun a => N ≤ a)) 8 984 (fun a => N ≤ a)
section REF
variable {p : Program} {l : Launch} {e : Env} {s : State} {m : MethodId} {args : Array Value} {below : List Frame} {meth : Method} {c : Code} {D : va_G} {g : G3} {N : Nat} {H : Heap} {locs : List Loc} {ls : Array Slot} {Q : State → Prop}
set_option maxHeartbeats 8000000 in
set_option maxRecDepth 100000 in
theorem tX6_init_76 (C : Cx p s m args meth c cX6_init none 1 RX6 wsX6_init (fun q => N ≤ q)) {μ w : Mem} (h : firstM mu0 = some μ) (hc : X6_lays μ = some w) (hW : Wo D (tysX g) keysM (adZ N) (fun q => N ≤ q) s s.heap (cX g (adZ N) mu0) H locs) (hl : lv_has ls 1 [(0, .ref N)]) : W p l e rX6_init s m args below meth c H locs 8 984 (MQ below (va_Qv (fun (u : Mem) => u = w) (fun u t => Wp D (tysX g) keysM (adZ N) (fun a => N ≤ a) (cX g (adZ N) u) t) (fun a => N ≤ a)) args s 8 984 (fun a => N ≤ a)) (F0 m 76 ls []) := by
  obtain ⟨hx, hb, hr, hts, hown, hlocks, hml, hA⟩ := id C
  have e20 : adZ N (20, 50, 0) = N := rfl
  rw [← e20] at hl
  unfold firstM at h
  obtain ⟨μ0, h0, h⟩ := bdv_s h
  obtain ⟨μ1, h1, h⟩ := bdv_s h
  obtain ⟨μ2, h2, h⟩ := bdv_s h
  obtain ⟨μ3, h3, h⟩ := bdv_s h
  obtain ⟨μ4, h4, h⟩ := bdv_s h
  obtain ⟨μ5, h5, h⟩ := bdv_s h
  obtain ⟨μ6, h6, h⟩ := bdv_s h
  obtain ⟨μ7, h7, h⟩ := bdv_s h
  obtain ⟨μ8, h8, h⟩ := bdv_s h
  obtain ⟨μ9, h9, h⟩ := bdv_s h
  obtain ⟨μ10, h10, h⟩ := bdv_s h
  obtain ⟨μ11, h11, h⟩ := bdv_s h
  obtain ⟨μ12, h12, h⟩ := bdv_s h
  obtain ⟨μ13, h13, h⟩ := bdv_s h
  obtain ⟨μ14, h14, h⟩ := bdv_s h
  obtain ⟨μ15, h15, h⟩ := bdv_s h
  cases h
  refine lv_aload_n hx hb dX6_init_76 rfl (lv_at hl 0 rfl) ?_
  refine wo_Vv (As := []) (rest := []) C hW (kX6_begins l D g (adZ N) h0) (cwV 0 hts gX6_init_X6_begins rfl rfl rfl (by decide +kernel) ⟨Nat.le_of_ble_eq_true rfl, Nat.le_of_ble_eq_true rfl⟩) kl_20_50_0 co_o rfl rfl hl.1 rfl (Nat.le_of_ble_eq_true rfl) dX6_init_77 ⟨Nat.le_of_ble_eq_true rfl, Nat.le_of_ble_eq_true rfl⟩ (fun H locs hW => ?_)
  refine lv_aload_n hx hb dX6_init_80 rfl (lv_at hl 0 rfl) ?_
  refine lv_iconst (v := 0) hx hb dX6_init_81 (by decide) ?_
  refine lv_bipush (v := 20) hx hb dX6_init_82 (by decide) ?_
  refine wo_Vv (As := [.int 0, .int 20]) (rest := []) C hW (kX6_personOf l D g (adZ N) h1) (cwV 2 hts gX6_init_X6_personOf rfl rfl rfl (by decide +kernel) ⟨Nat.le_of_ble_eq_true rfl, Nat.le_of_ble_eq_true rfl⟩) kl_20_50_0 co_o rfl rfl hl.1 rfl (Nat.le_of_ble_eq_true rfl) dX6_init_84 ⟨Nat.le_of_ble_eq_true rfl, Nat.le_of_ble_eq_true rfl⟩ (fun H locs hW => ?_)
  refine lv_aload_n hx hb dX6_init_87 rfl (lv_at hl 0 rfl) ?_
  refine lv_iconst (v := 1) hx hb dX6_init_88 (by decide) ?_
  refine lv_bipush (v := 8) hx hb dX6_init_89 (by decide) ?_
  refine wo_Vv (As := [.int 1, .int 8]) (rest := []) C hW (kX6_personOf l D g (adZ N) h2) (cwV 2 hts gX6_init_X6_personOf rfl rfl rfl (by decide +kernel) ⟨Nat.le_of_ble_eq_true rfl, Nat.le_of_ble_eq_true rfl⟩) kl_20_50_0 co_o rfl rfl hl.1 rfl (Nat.le_of_ble_eq_true rfl) dX6_init_91 ⟨Nat.le_of_ble_eq_true rfl, Nat.le_of_ble_eq_true rfl⟩ (fun H locs hW => ?_)
  refine lv_aload_n hx hb dX6_init_94 rfl (lv_at hl 0 rfl) ?_
  refine lv_iconst (v := 2) hx hb dX6_init_95 (by decide) ?_
  refine lv_bipush (v := 35) hx hb dX6_init_96 (by decide) ?_
  refine wo_Vv (As := [.int 2, .int 35]) (rest := []) C hW (kX6_personOf l D g (adZ N) h3) (cwV 2 hts gX6_init_X6_personOf rfl rfl rfl (by decide +kernel) ⟨Nat.le_of_ble_eq_true rfl, Nat.le_of_ble_eq_true rfl⟩) kl_20_50_0 co_o rfl rfl hl.1 rfl (Nat.le_of_ble_eq_true rfl) dX6_init_98 ⟨Nat.le_of_ble_eq_true rfl, Nat.le_of_ble_eq_true rfl⟩ (fun H locs hW => ?_)
  refine lv_aload_n hx hb dX6_init_101 rfl (lv_at hl 0 rfl) ?_
  refine lv_iconst (v := 3) hx hb dX6_init_102 (by decide) ?_
  refine lv_iconst (v := 4) hx hb dX6_init_103 (by decide) ?_
  refine wo_Vv (As := [.int 3, .int 4]) (rest := []) C hW (kX6_personOf l D g (adZ N) h4) (cwV 2 hts gX6_init_X6_personOf rfl rfl rfl (by decide +kernel) ⟨Nat.le_of_ble_eq_true rfl, Nat.le_of_ble_eq_true rfl⟩) kl_20_50_0 co_o rfl rfl hl.1 rfl (Nat.le_of_ble_eq_true rfl) dX6_init_104 ⟨Nat.le_of_ble_eq_true rfl, Nat.le_of_ble_eq_true rfl⟩ (fun H locs hW => ?_)
  refine lv_aload_n hx hb dX6_init_107 rfl (lv_at hl 0 rfl) ?_
  refine lv_bipush (v := 30) hx hb dX6_init_108 (by decide) ?_
  refine wo_Vv (As := [.int 30]) (rest := []) C hW (kX6_thingOf l D g (adZ N) h5) (cwV 1 hts gX6_init_X6_thingOf rfl rfl rfl (by decide +kernel) ⟨Nat.le_of_ble_eq_true rfl, Nat.le_of_ble_eq_true rfl⟩) kl_20_50_0 co_o rfl rfl hl.1 rfl (Nat.le_of_ble_eq_true rfl) dX6_init_110 ⟨Nat.le_of_ble_eq_true rfl, Nat.le_of_ble_eq_true rfl⟩ (fun H locs hW => ?_)
  refine lv_aload_n hx hb dX6_init_113 rfl (lv_at hl 0 rfl) ?_
  refine lv_bipush (v := 6) hx hb dX6_init_114 (by decide) ?_
  refine wo_Vv (As := [.int 6]) (rest := []) C hW (kX6_thingOf l D g (adZ N) h6) (cwV 1 hts gX6_init_X6_thingOf rfl rfl rfl (by decide +kernel) ⟨Nat.le_of_ble_eq_true rfl, Nat.le_of_ble_eq_true rfl⟩) kl_20_50_0 co_o rfl rfl hl.1 rfl (Nat.le_of_ble_eq_true rfl) dX6_init_116 ⟨Nat.le_of_ble_eq_true rfl, Nat.le_of_ble_eq_true rfl⟩ (fun H locs hW => ?_)
  refine lv_aload_n hx hb dX6_init_119 rfl (lv_at hl 0 rfl) ?_
  refine lv_bipush (v := 14) hx hb dX6_init_120 (by decide) ?_
  refine wo_Vv (As := [.int 14]) (rest := []) C hW (kX6_thingOf l D g (adZ N) h7) (cwV 1 hts gX6_init_X6_thingOf rfl rfl rfl (by decide +kernel) ⟨Nat.le_of_ble_eq_true rfl, Nat.le_of_ble_eq_true rfl⟩) kl_20_50_0 co_o rfl rfl hl.1 rfl (Nat.le_of_ble_eq_true rfl) dX6_init_122 ⟨Nat.le_of_ble_eq_true rfl, Nat.le_of_ble_eq_true rfl⟩ (fun H locs hW => ?_)
  refine lv_aload_n hx hb dX6_init_125 rfl (lv_at hl 0 rfl) ?_
  refine lv_bipush (v := 9) hx hb dX6_init_126 (by decide) ?_
  refine wo_Vv (As := [.int 9]) (rest := []) C hW (kX6_thingOf l D g (adZ N) h8) (cwV 1 hts gX6_init_X6_thingOf rfl rfl rfl (by decide +kernel) ⟨Nat.le_of_ble_eq_true rfl, Nat.le_of_ble_eq_true rfl⟩) kl_20_50_0 co_o rfl rfl hl.1 rfl (Nat.le_of_ble_eq_true rfl) dX6_init_128 ⟨Nat.le_of_ble_eq_true rfl, Nat.le_of_ble_eq_true rfl⟩ (fun H locs hW => ?_)
  refine lv_aload_n hx hb dX6_init_131 rfl (lv_at hl 0 rfl) ?_
  refine lv_iconst (v := 0) hx hb dX6_init_132 (by decide) ?_
  refine lv_iconst (v := 0) hx hb dX6_init_133 (by decide) ?_
  refine lv_bipush (v := 12) hx hb dX6_init_134 (by decide) ?_
  refine lv_iconst (v := 0) hx hb dX6_init_136 (by decide) ?_
  refine wo_Vv (As := [.int 0, .int 0, .int 12, .int 0]) (rest := []) C hW (kX6_pauseOf l D g (adZ N) h9) (cwV 4 hts gX6_init_X6_pauseOf rfl rfl rfl (by decide +kernel) ⟨Nat.le_of_ble_eq_true rfl, Nat.le_of_ble_eq_true rfl⟩) kl_20_50_0 co_o rfl rfl hl.1 rfl (Nat.le_of_ble_eq_true rfl) dX6_init_137 ⟨Nat.le_of_ble_eq_true rfl, Nat.le_of_ble_eq_true rfl⟩ (fun H locs hW => ?_)
  refine lv_aload_n hx hb dX6_init_140 rfl (lv_at hl 0 rfl) ?_
  refine lv_iconst (v := 1) hx hb dX6_init_141 (by decide) ?_
  refine lv_iconst (v := 0) hx hb dX6_init_142 (by decide) ?_
  refine lv_bipush (v := 9) hx hb dX6_init_143 (by decide) ?_
  refine lv_iconst (v := 0) hx hb dX6_init_145 (by decide) ?_
  refine wo_Vv (As := [.int 1, .int 0, .int 9, .int 0]) (rest := []) C hW (kX6_pauseOf l D g (adZ N) h10) (cwV 4 hts gX6_init_X6_pauseOf rfl rfl rfl (by decide +kernel) ⟨Nat.le_of_ble_eq_true rfl, Nat.le_of_ble_eq_true rfl⟩) kl_20_50_0 co_o rfl rfl hl.1 rfl (Nat.le_of_ble_eq_true rfl) dX6_init_146 ⟨Nat.le_of_ble_eq_true rfl, Nat.le_of_ble_eq_true rfl⟩ (fun H locs hW => ?_)
  refine lv_aload_n hx hb dX6_init_149 rfl (lv_at hl 0 rfl) ?_
  refine lv_iconst (v := 2) hx hb dX6_init_150 (by decide) ?_
  refine lv_iconst (v := 2) hx hb dX6_init_151 (by decide) ?_
  refine lv_iconst (v := 3) hx hb dX6_init_152 (by decide) ?_
  refine lv_iconst (v := 0) hx hb dX6_init_153 (by decide) ?_
  refine wo_Vv (As := [.int 2, .int 2, .int 3, .int 0]) (rest := []) C hW (kX6_pauseOf l D g (adZ N) h11) (cwV 4 hts gX6_init_X6_pauseOf rfl rfl rfl (by decide +kernel) ⟨Nat.le_of_ble_eq_true rfl, Nat.le_of_ble_eq_true rfl⟩) kl_20_50_0 co_o rfl rfl hl.1 rfl (Nat.le_of_ble_eq_true rfl) dX6_init_154 ⟨Nat.le_of_ble_eq_true rfl, Nat.le_of_ble_eq_true rfl⟩ (fun H locs hW => ?_)
  refine lv_aload_n hx hb dX6_init_157 rfl (lv_at hl 0 rfl) ?_
  refine lv_iconst (v := 3) hx hb dX6_init_158 (by decide) ?_
  refine lv_iconst (v := 3) hx hb dX6_init_159 (by decide) ?_
  refine lv_iconst (v := 5) hx hb dX6_init_160 (by decide) ?_
  refine lv_iconst (v := 0) hx hb dX6_init_161 (by decide) ?_
  refine wo_Vv (As := [.int 3, .int 3, .int 5, .int 0]) (rest := []) C hW (kX6_pauseOf l D g (adZ N) h12) (cwV 4 hts gX6_init_X6_pauseOf rfl rfl rfl (by decide +kernel) ⟨Nat.le_of_ble_eq_true rfl, Nat.le_of_ble_eq_true rfl⟩) kl_20_50_0 co_o rfl rfl hl.1 rfl (Nat.le_of_ble_eq_true rfl) dX6_init_162 ⟨Nat.le_of_ble_eq_true rfl, Nat.le_of_ble_eq_true rfl⟩ (fun H locs hW => ?_)
  refine lv_aload_n hx hb dX6_init_165 rfl (lv_at hl 0 rfl) ?_
  refine lv_iconst (v := 0) hx hb dX6_init_166 (by decide) ?_
  refine lv_iconst (v := 1) hx hb dX6_init_167 (by decide) ?_
  refine lv_bipush (v := 10) hx hb dX6_init_168 (by decide) ?_
  refine lv_iconst (v := 1) hx hb dX6_init_170 (by decide) ?_
  refine wo_Vv (As := [.int 0, .int 1, .int 10, .int 1]) (rest := []) C hW (kX6_pauseOf l D g (adZ N) h13) (cwV 4 hts gX6_init_X6_pauseOf rfl rfl rfl (by decide +kernel) ⟨Nat.le_of_ble_eq_true rfl, Nat.le_of_ble_eq_true rfl⟩) kl_20_50_0 co_o rfl rfl hl.1 rfl (Nat.le_of_ble_eq_true rfl) dX6_init_171 ⟨Nat.le_of_ble_eq_true rfl, Nat.le_of_ble_eq_true rfl⟩ (fun H locs hW => ?_)
  refine lv_aload_n hx hb dX6_init_174 rfl (lv_at hl 0 rfl) ?_
  refine lv_iconst (v := 1) hx hb dX6_init_175 (by decide) ?_
  refine lv_iconst (v := 3) hx hb dX6_init_176 (by decide) ?_
  refine lv_bipush (v := 9) hx hb dX6_init_177 (by decide) ?_
  refine lv_iconst (v := 0) hx hb dX6_init_179 (by decide) ?_
  refine wo_Vv (As := [.int 1, .int 3, .int 9, .int 0]) (rest := []) C hW (kX6_pauseOf l D g (adZ N) h14) (cwV 4 hts gX6_init_X6_pauseOf rfl rfl rfl (by decide +kernel) ⟨Nat.le_of_ble_eq_true rfl, Nat.le_of_ble_eq_true rfl⟩) kl_20_50_0 co_o rfl rfl hl.1 rfl (Nat.le_of_ble_eq_true rfl) dX6_init_180 ⟨Nat.le_of_ble_eq_true rfl, Nat.le_of_ble_eq_true rfl⟩ (fun H locs hW => ?_)
  refine lv_aload_n hx hb dX6_init_183 rfl (lv_at hl 0 rfl) ?_
  refine lv_iconst (v := 2) hx hb dX6_init_184 (by decide) ?_
  refine lv_iconst (v := 1) hx hb dX6_init_185 (by decide) ?_
  refine lv_iconst (v := 2) hx hb dX6_init_186 (by decide) ?_
  refine lv_iconst (v := 1) hx hb dX6_init_187 (by decide) ?_
  refine wo_Vv (As := [.int 2, .int 1, .int 2, .int 1]) (rest := []) C hW (kX6_pauseOf l D g (adZ N) h15) (cwV 4 hts gX6_init_X6_pauseOf rfl rfl rfl (by decide +kernel) ⟨Nat.le_of_ble_eq_true rfl, Nat.le_of_ble_eq_true rfl⟩) kl_20_50_0 co_o rfl rfl hl.1 rfl (Nat.le_of_ble_eq_true rfl) dX6_init_188 ⟨Nat.le_of_ble_eq_true rfl, Nat.le_of_ble_eq_true rfl⟩ (fun H locs hW => ?_)
  refine lv_aload_n hx hb dX6_init_191 rfl (lv_at hl 0 rfl) ?_
  refine wo_Vv (As := []) (rest := []) C hW (kX6_lays l D g (adZ N) hc) (cwV 0 hts gX6_init_X6_lays rfl rfl rfl (by decide +kernel) ⟨Nat.le_of_ble_eq_true rfl, Nat.le_of_ble_eq_true rfl⟩) kl_20_50_0 co_o rfl rfl hl.1 rfl (Nat.le_of_ble_eq_true rfl) dX6_init_192 ⟨Nat.le_of_ble_eq_true rfl, Nat.le_of_ble_eq_true rfl⟩ (fun H locs hW => ?_)
  exact wo_vret C rfl hW dX6_init_195
set_option maxHeartbeats 8000000 in
set_option maxRecDepth 100000 in
theorem tX6_init_4 (C : Cx p s m args meth c cX6_init none 1 RX6 wsX6_init (fun q => N ≤ q)) (hin : meth.name = "<init>") (hE : Ev D g s) (K : ∀ (H : Heap) (locs : List Loc), Wo D (tysX g) keysM (adZ N) (fun q => N ≤ q) s s.heap (cX g (adZ N) mu0) H locs → W p l e rX6_init s m args below meth c H locs 8 984 Q (F0 m 76 ls [])) (hB : Bw D N 1 (fun _ => .inr (6, bl6)) s.heap) (hS : va_S (fun q => N ≤ q) s.heap s.heap []) (hl : lv_has ls 1 [(0, .ref N)]) : W p l e rX6_init s m args below meth c s.heap [] 0 0 Q (F0 m 4 ls []) := by
  obtain ⟨hx, hb, hr, hts, hown, hlocks, hml, hA⟩ := id C
  have hB : Bw D N 1 (C0 6 bl6 (ceZ g N)) s.heap := hB.to (fun i hi => by rw [show i = 0 by omega]; rfl)
  refine lv_aload_n hx hb dX6_init_4 rfl (lv_at hl 0 rfl) ?_
  refine lv_sipush (v := 200) hx hb dX6_init_5 (by decide) ?_
  refine bw_newa (L := 200) hx hb (hts (.arrayClass .int) (by decide +kernel)) hE.1 hB hS (by decide) (by decide) (by decide) (Nat.le_of_ble_eq_true rfl) (Nat.le_of_ble_eq_true rfl) ((C0_n (by decide)).trans (eZ_1 g N)) dX6_init_8 (fun H hB hS => ?_)
  refine bw_put (ty := (.array .int)) (ce' := C0 6 [.ref (N + 1), .int 0, .null, .null, .null, .null, .int 0, .null, .int 0, .null, .int 0, .int 0, .int 0, .null] (ceZ g N)) (ci := 6) (C := RX6) (T := TX6) (N' := 14) hx hb hts iW6 tyX6 tyX6_ok nmX6 hown hE.1 hB hS (fun _ h => h) (by decide) C0_0 rfl 0 (by decide) (hts (.fieldLink RX6 7 "NearlyBoughtModel" "text" "[I") (by decide +kernel)) (fun _ h9 => h9) (Or.inr ⟨rfl, hin, rfl⟩) (by decide +kernel) rfl rfl (Nat.le_of_ble_eq_true rfl) C0_0 (fun j hj => (C0_n hj).trans (C0_n hj).symm) dX6_init_10 (fun H locs hB hS => ?_)
  refine lv_aload_n hx hb dX6_init_13 rfl (lv_at hl 0 rfl) ?_
  refine lv_bipush (v := 59) hx hb dX6_init_14 (by decide) ?_
  refine bw_newa (L := 59) hx hb (hts (.arrayClass .int) (by decide +kernel)) hE.1 hB hS (by decide) (by decide) (by decide) (Nat.le_of_ble_eq_true rfl) (Nat.le_of_ble_eq_true rfl) ((C0_n (by decide)).trans (eZ_2 g N)) dX6_init_16 (fun H hB hS => ?_)
  refine bw_put (ty := (.array .int)) (ce' := C0 6 [.ref (N + 1), .int 0, .ref (N + 2), .null, .null, .null, .int 0, .null, .int 0, .null, .int 0, .int 0, .int 0, .null] (ceZ g N)) (ci := 6) (C := RX6) (T := TX6) (N' := 14) hx hb hts iW6 tyX6 tyX6_ok nmX6 hown hE.1 hB hS (fun _ h => h) (by decide) C0_0 rfl 2 (by decide) (hts (.fieldLink RX6 13 "NearlyBoughtModel" "told" "[I") (by decide +kernel)) (fun _ h9 => h9) (Or.inr ⟨rfl, hin, rfl⟩) (by decide +kernel) rfl rfl (Nat.le_of_ble_eq_true rfl) C0_0 (fun j hj => (C0_n hj).trans (C0_n hj).symm) dX6_init_18 (fun H locs hB hS => ?_)
  refine lv_aload_n hx hb dX6_init_21 rfl (lv_at hl 0 rfl) ?_
  refine lv_bipush (v := 59) hx hb dX6_init_22 (by decide) ?_
  refine bw_newa (L := 59) hx hb (hts (.arrayClass .int) (by decide +kernel)) hE.1 hB hS (by decide) (by decide) (by decide) (Nat.le_of_ble_eq_true rfl) (Nat.le_of_ble_eq_true rfl) ((C0_n (by decide)).trans (eZ_3 g N)) dX6_init_24 (fun H hB hS => ?_)
  refine bw_put (ty := (.array .int)) (ce' := C0 6 [.ref (N + 1), .int 0, .ref (N + 2), .ref (N + 3), .null, .null, .int 0, .null, .int 0, .null, .int 0, .int 0, .int 0, .null] (ceZ g N)) (ci := 6) (C := RX6) (T := TX6) (N' := 14) hx hb hts iW6 tyX6 tyX6_ok nmX6 hown hE.1 hB hS (fun _ h => h) (by decide) C0_0 rfl 3 (by decide) (hts (.fieldLink RX6 16 "NearlyBoughtModel" "draft" "[I") (by decide +kernel)) (fun _ h9 => h9) (Or.inr ⟨rfl, hin, rfl⟩) (by decide +kernel) rfl rfl (Nat.le_of_ble_eq_true rfl) C0_0 (fun j hj => (C0_n hj).trans (C0_n hj).symm) dX6_init_26 (fun H locs hB hS => ?_)
  refine lv_aload_n hx hb dX6_init_29 rfl (lv_at hl 0 rfl) ?_
  refine lv_bipush (v := 55) hx hb dX6_init_30 (by decide) ?_
  refine bw_newa (L := 55) hx hb (hts (.arrayClass .int) (by decide +kernel)) hE.1 hB hS (by decide) (by decide) (by decide) (Nat.le_of_ble_eq_true rfl) (Nat.le_of_ble_eq_true rfl) ((C0_n (by decide)).trans (eZ_4 g N)) dX6_init_32 (fun H hB hS => ?_)
  refine bw_put (ty := (.array .int)) (ce' := C0 6 [.ref (N + 1), .int 0, .ref (N + 2), .ref (N + 3), .ref (N + 4), .null, .int 0, .null, .int 0, .null, .int 0, .int 0, .int 0, .null] (ceZ g N)) (ci := 6) (C := RX6) (T := TX6) (N' := 14) hx hb hts iW6 tyX6 tyX6_ok nmX6 hown hE.1 hB hS (fun _ h => h) (by decide) C0_0 rfl 4 (by decide) (hts (.fieldLink RX6 19 "NearlyBoughtModel" "s" "[I") (by decide +kernel)) (fun _ h9 => h9) (Or.inr ⟨rfl, hin, rfl⟩) (by decide +kernel) rfl rfl (Nat.le_of_ble_eq_true rfl) C0_0 (fun j hj => (C0_n hj).trans (C0_n hj).symm) dX6_init_34 (fun H locs hB hS => ?_)
  refine lv_aload_n hx hb dX6_init_37 rfl (lv_at hl 0 rfl) ?_
  refine lv_sipush (v := 440) hx hb dX6_init_38 (by decide) ?_
  refine bw_newa (L := 440) hx hb (hts (.arrayClass .int) (by decide +kernel)) hE.1 hB hS (by decide) (by decide) (by decide) (Nat.le_of_ble_eq_true rfl) (Nat.le_of_ble_eq_true rfl) ((C0_n (by decide)).trans (eZ_5 g N)) dX6_init_41 (fun H hB hS => ?_)
  refine bw_put (ty := (.array .int)) (ce' := C0 6 [.ref (N + 1), .int 0, .ref (N + 2), .ref (N + 3), .ref (N + 4), .ref (N + 5), .int 0, .null, .int 0, .null, .int 0, .int 0, .int 0, .null] (ceZ g N)) (ci := 6) (C := RX6) (T := TX6) (N' := 14) hx hb hts iW6 tyX6 tyX6_ok nmX6 hown hE.1 hB hS (fun _ h => h) (by decide) C0_0 rfl 5 (by decide) (hts (.fieldLink RX6 22 "NearlyBoughtModel" "past" "[I") (by decide +kernel)) (fun _ h9 => h9) (Or.inr ⟨rfl, hin, rfl⟩) (by decide +kernel) rfl rfl (Nat.le_of_ble_eq_true rfl) C0_0 (fun j hj => (C0_n hj).trans (C0_n hj).symm) dX6_init_43 (fun H locs hB hS => ?_)
  refine lv_aload_n hx hb dX6_init_46 rfl (lv_at hl 0 rfl) ?_
  refine lv_bipush (v := 110) hx hb dX6_init_47 (by decide) ?_
  refine bw_newa (L := 110) hx hb (hts (.arrayClass .int) (by decide +kernel)) hE.1 hB hS (by decide) (by decide) (by decide) (Nat.le_of_ble_eq_true rfl) (Nat.le_of_ble_eq_true rfl) ((C0_n (by decide)).trans (eZ_6 g N)) dX6_init_49 (fun H hB hS => ?_)
  refine bw_put (ty := (.array .int)) (ce' := C0 6 [.ref (N + 1), .int 0, .ref (N + 2), .ref (N + 3), .ref (N + 4), .ref (N + 5), .int 0, .ref (N + 6), .int 0, .null, .int 0, .int 0, .int 0, .null] (ceZ g N)) (ci := 6) (C := RX6) (T := TX6) (N' := 14) hx hb hts iW6 tyX6 tyX6_ok nmX6 hown hE.1 hB hS (fun _ h => h) (by decide) C0_0 rfl 7 (by decide) (hts (.fieldLink RX6 25 "NearlyBoughtModel" "images" "[I") (by decide +kernel)) (fun _ h9 => h9) (Or.inr ⟨rfl, hin, rfl⟩) (by decide +kernel) rfl rfl (Nat.le_of_ble_eq_true rfl) C0_0 (fun j hj => (C0_n hj).trans (C0_n hj).symm) dX6_init_51 (fun H locs hB hS => ?_)
  refine lv_aload_n hx hb dX6_init_54 rfl (lv_at hl 0 rfl) ?_
  refine lv_bipush (v := 6) hx hb dX6_init_55 (by decide) ?_
  refine bw_newa (L := 6) hx hb (hts (.arrayClass .int) (by decide +kernel)) hE.1 hB hS (by decide) (by decide) (by decide) (Nat.le_of_ble_eq_true rfl) (Nat.le_of_ble_eq_true rfl) ((C0_n (by decide)).trans (eZ_7 g N)) dX6_init_57 (fun H hB hS => ?_)
  refine bw_put (ty := (.array .int)) (ce' := C0 6 [.ref (N + 1), .int 0, .ref (N + 2), .ref (N + 3), .ref (N + 4), .ref (N + 5), .int 0, .ref (N + 6), .int 0, .ref (N + 7), .int 0, .int 0, .int 0, .null] (ceZ g N)) (ci := 6) (C := RX6) (T := TX6) (N' := 14) hx hb hts iW6 tyX6 tyX6_ok nmX6 hown hE.1 hB hS (fun _ h => h) (by decide) C0_0 rfl 9 (by decide) (hts (.fieldLink RX6 28 "NearlyBoughtModel" "notes" "[I") (by decide +kernel)) (fun _ h9 => h9) (Or.inr ⟨rfl, hin, rfl⟩) (by decide +kernel) rfl rfl (Nat.le_of_ble_eq_true rfl) C0_0 (fun j hj => (C0_n hj).trans (C0_n hj).symm) dX6_init_59 (fun H locs hB hS => ?_)
  refine lv_aload_n hx hb dX6_init_62 rfl (lv_at hl 0 rfl) ?_
  refine lv_bipush (v := (-4)) hx hb dX6_init_63 (by decide) ?_
  refine bw_put (ty := .int) (ce' := C0 6 [.ref (N + 1), .int 0, .ref (N + 2), .ref (N + 3), .ref (N + 4), .ref (N + 5), .int 0, .ref (N + 6), .int 0, .ref (N + 7), .int 0, .int 0, .int (-4), .null] (ceZ g N)) (ci := 6) (C := RX6) (T := TX6) (N' := 14) hx hb hts iW6 tyX6 tyX6_ok nmX6 hown hE.1 hB hS (fun _ h => h) (by decide) C0_0 rfl 12 (by decide) (hts (.fieldLink RX6 31 "NearlyBoughtModel" "feign" "I") (by decide +kernel)) (fun _ h9 => h9) (Or.inl rfl) (by decide +kernel) rfl rfl (Nat.le_of_ble_eq_true rfl) C0_0 (fun j hj => (C0_n hj).trans (C0_n hj).symm) dX6_init_65 (fun H locs hB hS => ?_)
  refine lv_aload_n hx hb dX6_init_68 rfl (lv_at hl 0 rfl) ?_
  refine lv_bipush (v := 55) hx hb dX6_init_69 (by decide) ?_
  refine bw_newa (L := 55) hx hb (hts (.arrayClass .int) (by decide +kernel)) hE.1 hB hS (by decide) (by decide) (by decide) (Nat.le_of_ble_eq_true rfl) (Nat.le_of_ble_eq_true rfl) ((C0_n (by decide)).trans (eZ_8 g N)) dX6_init_71 (fun H hB hS => ?_)
  refine bw_put (ty := (.array .int)) (ce' := C0 6 [.ref (N + 1), .int 0, .ref (N + 2), .ref (N + 3), .ref (N + 4), .ref (N + 5), .int 0, .ref (N + 6), .int 0, .ref (N + 7), .int 0, .int 0, .int (-4), .ref (N + 8)] (ceZ g N)) (ci := 6) (C := RX6) (T := TX6) (N' := 14) hx hb hts iW6 tyX6 tyX6_ok nmX6 hown hE.1 hB hS (fun _ h => h) (by decide) C0_0 rfl 13 (by decide) (hts (.fieldLink RX6 35 "NearlyBoughtModel" "held" "[I") (by decide +kernel)) (fun _ h9 => h9) (Or.inr ⟨rfl, hin, rfl⟩) (by decide +kernel) rfl rfl (Nat.le_of_ble_eq_true rfl) C0_0 (fun j hj => (C0_n hj).trans (C0_n hj).symm) dX6_init_73 (fun H locs hB hS => ?_)
  refine W.widen (k := 8) (n := 984) (Nat.le_of_ble_eq_true rfl) (Nat.le_of_ble_eq_true rfl) ?_
  exact K _ _ (wo_madeM hE.1 (hB.to (C0_end (eZ_0 g N))).2 hS)
end REF
set_option maxHeartbeats 4000000 in
set_option maxRecDepth 100000 in
theorem kX6_init (l : Launch) (D : va_G) (g : G3) (N : Nat) {μ w : Mem} (h : firstM mu0 = some μ) (hc : X6_lays μ = some w) : CtMB l D g N w := by
  refine Met.ofW (cc := cX6_init) (maxL := 1) (ret := none) (by decide) rfl ?_
  intro p e s m args below meth c s₁ B hml hv
  obtain ⟨rfl, hE, hsz, hat⟩ := hv
  rw [lg_entry_eq]
  have hl := lv_entry ([.ref N]) (n := 1) (Nat.le_of_ble_eq_true rfl)
  generalize (lg_sl ([.ref N]) ++ List.replicate (1 - (lg_sl ([.ref N])).length) Slot.unset).toArray = ls at hl ⊢
  have hl : lv_has ls 1 [(0, .ref N)] := hl
  have C : Cx p s m ([.ref N] : List Value).toArray meth c cX6_init none 1 RX6 wsX6_init (fun q => N ≤ q) := ⟨B.exec, B.bytes, B.returns, atoms_spec (ws := wsX6_init) B.pre, findClass_of_methodNamed B.named, B.notSynchronized, hml, fun q h => by show N ≤ q; rw [hsz] at h; omega⟩
  have hin : meth.name = "<init>" := (name_of_methodNamed B.named B.method).1
  obtain ⟨hx, hb, hr, hts, hown, hlocks, hml, hA⟩ := id C
  refine lv_aload_n hx hb dX6_init_0 rfl (lv_at hl 0 rfl) ?_
  refine W.objInit hx hb hown (hts (.methodLink RX6 1 objectInit) (by decide +kernel)) (hts (.instanceMethod objectInit) (by decide +kernel)) (hts _ (by decide +kernel)) rfl (by rw [hml]; exact hl.1) rfl dX6_init_1 (Nat.le_of_ble_eq_true rfl) (Nat.le_of_ble_eq_true rfl) ?_
  refine W.eq (g2 := F0 m 4 ls []) rfl ?_
  exact tX6_init_4 C hin hE (fun H locs hW => tX6_init_76 C h hc hW hl) ⟨hsz, fun i hi => by rw [show i = 0 by omega]; exact hat⟩ va_S.rf hl
