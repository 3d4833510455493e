/-! NearlyBought() (laid by wip/whole/gen/make5.py) -/
def ks0 (N k : Nat) : Nat → Option Nat := fun j => if j < k then some (N + (347 + 32 * j)) else none
theorem ks0_s (N k : Nat) (hk : k < 100) : va_up (ks0 N k) (nI k).toNatClampNeg (some (N + (347 + 32 * k))) = ks0 N (k + 1) := by
  rw [nI_clamp (by omega)]
  funext j
  unfold va_up ks0
  by_cases c0 : j = k
  · subst c0
    simp
  · by_cases c1 : j < k
    · simp [c0, c1, Nat.lt_succ_of_lt c1]
    · simp [c0, c1, show ¬ j < k + 1 by omega]
def cE (g : G3) (N k : Nat) (fs : List Value) : Nat → va_E := Cx2 5 fs 342 (.inl (g.2.2, 2, .inr (.inr (.inr (.inr (ks0 N k)))))) (ceN g N)
abbrev fsE (N : Nat) : List Value := [.ref (N + 1), .ref (N + 2), .ref (N + 4), .ref (N + 12), .ref (N + 20), .ref (N + 52), .ref (N + 84), .ref (N + 342), .ref (N + 343), .int 0, .int 0]
theorem C2_p {ci : Nat} {fs fs' : List Value} {x : Nat} {ex : va_E} {ce : Nat → va_E} {i : Nat} (h : i ≠ 0) : Cx2 ci fs' x ex ce i = Cx2 ci fs x ex ce i := by
  unfold Cx2
  rw [if_neg h, if_neg h]
abbrev wN2 : Cond := .methodLinkNest RX5 15 yX2_init RX5
abbrev wN4 : Cond := .methodLinkNest RX5 22 yX4_init RX5
abbrev wN3 : Cond := .methodLinkNest RX5 55 yX3_init RX5
def EN (q v : Nat) (z : Option Nat) (N : Nat) (U : State) : Prop := SC q v z (fun a => N ≤ a) U U.heap ∧ vk_R "NearlyBought" 204 FTXT q U ∧ va_Nw wN2 U ∧ va_Nw wN4 U ∧ va_Nw wN3 U
abbrev rX5_init : Room := { frames := 6, cells := 410, slots := 2725, locals := 140 }
theorem iW5 : ∀ w ∈ u_ws RX5 TX5 11, w ∈ wsX5_init := by decide +kernel
theorem i5_X0 : ∀ w ∈ u_ws RX0 TX0 3, w ∈ wsX5_init := by decide +kernel
theorem i5_X1 : ∀ w ∈ u_ws RX1 TX1 10, w ∈ wsX5_init := by decide +kernel
theorem i5_X2 : ∀ w ∈ u_ws RX2 TX2 2, w ∈ wsX5_init := by decide +kernel
theorem i5_X3 : ∀ w ∈ u_ws RX3 TX3 4, w ∈ wsX5_init := by decide +kernel
theorem i5_X4 : ∀ w ∈ u_ws RX4 TX4 12, w ∈ wsX5_init := by decide +kernel
section BIG
variable {p : Program} {e : Env} {s : State} {m : MethodId} {args : Array Value} {below : List Frame} {meth : Method} {c : Code} {D : va_G} {g : G3} {N : Nat} {Q : State → Prop}
set_option maxHeartbeats 4000000 in
set_option maxRecDepth 100000 in
theorem tX5_init_112 (l : Launch) (C : Cx p s m args meth c cX5_init none 2 RX5 wsX5_init (fun q => N ≤ q)) (hE : Ev D g s) (K : ∀ (H : Heap) (locs : List Loc) (ls : Array Slot), Wo D (tysX g) keysX (adX N) (fun q => N ≤ q) s s.heap (cX g (adX N) mu0) H locs → lv_has ls 2 [(0, .ref N)] → W p l e rX5_init s m args below meth c H locs 410 2725 Q (F0 m 140 ls [])) (n : Nat) : ∀ (k : Nat) (H : Heap) (locs : List Loc) (ls : Array Slot), k + n = 2 → Bw D N (347 + 32 * k) (cE g N k (fsE N)) H → va_S (fun q => N ≤ q) s.heap H locs → lv_has ls 2 [(0, .ref N), (1, .int (nI k))] → W p l e rX5_init s m args below meth c H locs (346 + 32 * k) (2333 + 196 * k) Q (F0 m 112 ls []) := by
  obtain ⟨hx, hb, hr, hts, hown, hlocks, hml, hA⟩ := id C
  induction n with
  | zero =>
    intro k H locs ls hk hB hS hl
    have hk : k = 2 := by omega
    subst hk
    refine lv_iload_n hx hb dX5_init_112 rfl (lv_at hl 1 rfl) ?_
    refine lv_iconst (v := 2) hx hb dX5_init_113 (by decide) ?_
    refine lv_icmp_ge (tgt := 140) hx hb dX5_init_114 (by decide) (fun _ => ?_) (fun c0 => absurd (by decide) c0)
    refine K _ _ _ (wo_made hE.1 (fun i hi => ?_) hS) (lv_sub hl [0] rfl)
    have h9 := hB.2 i hi
    by_cases c0 : i = 0
    · subst c0
      rw [eN_0]
      exact h9
    · by_cases c1 : i = 342
      · subst c1
        rw [eN_342]
        have h9 : va_at D vwCl (N + 342, .inl (g.2.2, 2, .inr (.inr (.inr (.inr (ks0 N 2)))))) H := h9
        refine rf_at (fun j hj => ?_) h9
        show ks0 N 2 j = some (adX N (10 + j, 50, 0))
        rw [kept_f N j hj]
        exact if_pos hj
      · unfold cE at h9
        rw [C2_n c0 c1] at h9
        exact h9
  | succ n ih =>
    intro k H locs ls hk hB hS hl
    have hk2 : k < 2 := by omega
    refine lv_iload_n hx hb dX5_init_112 rfl (lv_at hl 1 rfl) ?_
    refine lv_iconst (v := 2) hx hb dX5_init_113 (by decide) ?_
    refine lv_icmp_ge (tgt := 140) hx hb dX5_init_114 (by decide) (fun c0 => absurd c0 (nI_ge (a := k) (b := 2) hk2 (by omega))) (fun _ => ?_)
    refine lv_aload_n hx hb dX5_init_117 rfl (lv_at hl 0 rfl) ?_
    refine at_get (C := RX5) (T := TX5) (N' := 11) hx hb hts iW5 hown hE.1 (hB.2 0 (by omega)) rfl 7 (by decide) (hts (.fieldLink RX5 49 "NearlyBought" "kept" "[LNearlyBought$Market;") (by decide +kernel)) (fun _ h9 => h9) rfl dX5_init_118 ?_
    refine lv_iload_n hx hb dX5_init_121 rfl (lv_at hl 1 rfl) ?_
    refine bw_new (ci := 1) (fs := [.null, .int 0, .int 0, .null, .null, .null, .null, .null, .null, .null]) (C := RX1) (T := TX1) (N' := 10) hx hb hts i5_X1 tyX1 tyX1_ok hown (hts (.classLink RX5 30 RX1) (by decide +kernel)) (hts (.instantiable RX1 10) (by decide +kernel)) (hts (.initialized RX1) (by decide +kernel)) hE.1 hB hS rfl (by decide +kernel) (by show 346 + 32 * k + 1 ≤ 410; omega) (by show 2333 + 196 * k + 10 ≤ 2725; omega) dX5_init_122 (fun H hB hS => ?_)
    refine lv_dup hx hb dX5_init_125 rfl ?_
    refine lv_aload_n hx hb dX5_init_126 rfl (lv_at hl 0 rfl) ?_
    refine at_get (C := RX5) (T := TX5) (N' := 11) hx hb hts iW5 hown hE.1 (hB.2.1 0 (by omega)) rfl 3 (by decide) (hts (.fieldLink RX5 27 "NearlyBought" "laid" "LNearlyBought$Tale;") (by decide +kernel)) (fun _ h9 => h9) rfl dX5_init_127 ?_
    refine bw_I (ce' := cE g N k (fsE N)) (ce2 := fun i => ceN g N (347 + 32 * k + i)) (As := [.ref (N + 12)]) (rest := [.ref (N + (347 + 32 * k)), .int (nI k), .ref (N + 342)]) C hE hB hS (fun _ h => h) (kX1_mk l D g (N + (347 + 32 * k)) (N + 12) _ (kept_m g N k hk2)) (cwI 1 hts gX5_init_X1_init rfl rfl rfl (hts (.initialized RX1) (by decide +kernel)) (hts (.methodLink RX5 32 yX1_init) (by decide +kernel)) (hts (.instanceMethod yX1_init) (by decide +kernel)) rfl (by decide +kernel) ⟨Nat.le_of_ble_eq_true rfl, Nat.le_of_ble_eq_true rfl⟩) rfl hl.1 rfl (Nat.le_of_ble_eq_true rfl) dX5_init_130 ⟨by show 346 + 32 * k + 1 + 31 ≤ 410; omega, by show 2333 + 196 * k + 10 + 186 ≤ 2725; omega⟩ (fun i hi => rfl) (fun i hi => C2_n (by omega) (by omega)) (fun H locs hB hS => ?_)
    refine bw_astq (x := 342) (y := 347 + 32 * k) (L := 2) (f := ks0 N k) (ce' := cE g N (k + 1) (fsE N)) hx hb hE.1 hB hS (fun _ h => h) (by omega) (by omega) (C2_x (by decide)) ((C2_n (by omega) (by omega)).trans (kept_m g N k hk2).1) (vp_in_nI hk2 (by omega)) (by rw [ks0_s N k (by omega)]; exact C2_x (by decide)) (fun j hj => C2_o hj) dX5_init_133 (fun H locs hB hS => ?_)
    refine lv_iinc (v := nI (k + 1)) (lv' := [(1, .int (nI (k + 1))), (0, .ref N)]) hx hb dX5_init_134 hl (k := 1) rfl (by rw [nI_succ]; rfl) (by decide) rfl (fun ls hl => ?_)
    refine lv_goto (tgt := 112) hx hb dX5_init_137 (by decide) ?_
    refine W.widen (k := 346 + 32 * (k + 1)) (n := 2333 + 196 * (k + 1)) (by omega) (by omega) ?_
    exact ih (k + 1) _ _ _ (by omega) (by rw [show 347 + 32 * (k + 1) = 347 + 32 * k + 32 by omega]; exact hB) hS (lv_sub hl [1, 0] rfl)
set_option maxHeartbeats 8000000 in
set_option maxRecDepth 100000 in
theorem tX5_init_4 (l : Launch) (C : Cx p s m args meth c cX5_init none 2 RX5 wsX5_init (fun q => N ≤ q)) (hin : meth.name = "<init>") (hE : Ev D g s) {q v : Nat} {z : Option Nat} (hN : EN q v z N s) (K : ∀ (H : Heap) (locs : List Loc) (ls : Array Slot), Wo D (tysX g) keysX (adX N) (fun q => N ≤ q) s s.heap (cX g (adX N) mu0) H locs → lv_has ls 2 [(0, .ref N)] → W p l e rX5_init s m args below meth c H locs 410 2725 Q (F0 m 140 ls [])) {ls : Array Slot} (hB : Bw D N 1 (fun _ => .inr (5, [.null, .null, .null, .null, .null, .null, .null, .null, .null, .int 0, .int 0])) s.heap) (hS : va_S (fun q => N ≤ q) s.heap s.heap []) (hl : lv_has ls 2 [(0, .ref N)]) : W p l e rX5_init s m args below meth c s.heap [] 0 0 Q (F0 m 4 ls []) := by
  obtain ⟨hx, hb, hr, hts, hown, hlocks, hml, hA⟩ := id C
  have hB : Bw D N 1 (cE g N 0 [.null, .null, .null, .null, .null, .null, .null, .null, .null, .int 0, .int 0]) s.heap := hB.to (fun i hi => by rw [show i = 0 by omega]; rfl)
  refine lv_aload_n hx hb dX5_init_4 rfl (lv_at hl 0 rfl) ?_
  refine lv_sipush (v := 200) hx hb dX5_init_5 (by decide) ?_
  refine bw_newa (L := 200) hx hb (hts (.arrayClass .int) (by decide +kernel)) hE.1 hB hS (by decide) (by decide) (by decide) (Nat.le_of_ble_eq_true rfl) (Nat.le_of_ble_eq_true rfl) ((C2_n (by decide) (by decide)).trans (eN_1 g N)) dX5_init_8 (fun H hB hS => ?_)
  refine bw_put (ty := (.array .int)) (ce' := cE g N 0 [.ref (N + 1), .null, .null, .null, .null, .null, .null, .null, .null, .int 0, .int 0]) (ci := 5) (C := RX5) (T := TX5) (N' := 11) hx hb hts iW5 tyX5 tyX5_ok nmX5 hown hE.1 hB hS (fun _ h => h) (by decide) C2_0 rfl 0 (by decide) (hts (.fieldLink RX5 9 "NearlyBought" "text" "[I") (by decide +kernel)) (fun _ h9 => h9) (Or.inr ⟨rfl, hin, rfl⟩) (by decide +kernel) rfl rfl (Nat.le_of_ble_eq_true rfl) C2_0 (fun j hj => C2_p hj) dX5_init_10 (fun H locs hB hS => ?_)
  refine lv_aload_n hx hb dX5_init_13 rfl (lv_at hl 0 rfl) ?_
  refine bw_new (ci := 2) (fs := [.null, .int 0]) (C := RX2) (T := TX2) (N' := 2) hx hb hts i5_X2 tyX2 tyX2_ok hown (hts (.classLink RX5 13 RX2) (by decide +kernel)) (hts (.instantiable RX2 2) (by decide +kernel)) (hts (.initialized RX2) (by decide +kernel)) hE.1 hB hS rfl (by decide +kernel) (Nat.le_of_ble_eq_true rfl) (Nat.le_of_ble_eq_true rfl) dX5_init_14 (fun H hB hS => ?_)
  refine lv_dup hx hb dX5_init_17 rfl ?_
  refine bw_IN (ce' := cE g N 0 [.ref (N + 1), .null, .null, .null, .null, .null, .null, .null, .null, .int 0, .int 0]) (ce2 := fun i => ceN g N (2 + i)) (As := []) (rest := [.ref (N + 2), .ref N]) C hE hB hS (fun _ h => h) (kX2_init l D g (N + 2) (fun i => ceN g N (2 + i)) (eN_2 g N) (eN_3 g N)) ⟨va_cnB 0 hts gX5_init_X2_init_n15 rfl rfl rfl hN.2.2.1 (hts (.initialized RX2) (by decide +kernel)) ⟨by decide +kernel, by decide +kernel, by decide +kernel⟩ ⟨Nat.le_of_ble_eq_true rfl, Nat.le_of_ble_eq_true rfl⟩, rfl, hts (.instanceMethod yX2_init) (by decide +kernel)⟩ rfl hl.1 rfl (Nat.le_of_ble_eq_true rfl) dX5_init_18 ⟨Nat.le_of_ble_eq_true rfl, Nat.le_of_ble_eq_true rfl⟩ (fun i hi => rfl) (fun i hi => C2_n (by omega) (by omega)) (fun H locs hB hS => ?_)
  refine bw_put (ty := (.object "NearlyBought$Reader")) (ce' := cE g N 0 [.ref (N + 1), .ref (N + 2), .null, .null, .null, .null, .null, .null, .null, .int 0, .int 0]) (ci := 5) (C := RX5) (T := TX5) (N' := 11) hx hb hts iW5 tyX5 tyX5_ok nmX5 hown hE.1 hB hS (fun _ h => h) (by decide) C2_0 rfl 1 (by decide) (hts (.fieldLink RX5 16 "NearlyBought" "reader" "LNearlyBought$Reader;") (by decide +kernel)) (fun _ h9 => h9) (Or.inr ⟨rfl, hin, rfl⟩) (by decide +kernel) rfl rfl (Nat.le_of_ble_eq_true rfl) C2_0 (fun j hj => C2_p hj) dX5_init_21 (fun H locs hB hS => ?_)
  refine lv_aload_n hx hb dX5_init_24 rfl (lv_at hl 0 rfl) ?_
  refine bw_new (ci := 4) (fs := [.int 0, .int 0, .int 0, .int 0, .int 0, .null, .null, .null, .null, .null, .null, .null]) (C := RX4) (T := TX4) (N' := 12) hx hb hts i5_X4 tyX4 tyX4_ok hown (hts (.classLink RX5 20 RX4) (by decide +kernel)) (hts (.instantiable RX4 12) (by decide +kernel)) (hts (.initialized RX4) (by decide +kernel)) hE.1 hB hS rfl (by decide +kernel) (Nat.le_of_ble_eq_true rfl) (Nat.le_of_ble_eq_true rfl) dX5_init_25 (fun H hB hS => ?_)
  refine lv_dup hx hb dX5_init_28 rfl ?_
  refine bw_IN (ce' := cE g N 0 [.ref (N + 1), .ref (N + 2), .null, .null, .null, .null, .null, .null, .null, .int 0, .int 0]) (ce2 := fun i => ceN g N (4 + i)) (As := []) (rest := [.ref (N + 4), .ref N]) C hE hB hS (fun _ h => h) (kX4_init l D g (N + 4) (fun i => ceN g N (4 + i)) (eN_4 g N) (eN_5 g N) (eN_6 g N) (eN_7 g N) (eN_8 g N) (eN_9 g N) (eN_10 g N) (eN_11 g N)) ⟨va_cnB 0 hts gX5_init_X4_init_n22 rfl rfl rfl hN.2.2.2.1 (hts (.initialized RX4) (by decide +kernel)) ⟨by decide +kernel, by decide +kernel, by decide +kernel⟩ ⟨Nat.le_of_ble_eq_true rfl, Nat.le_of_ble_eq_true rfl⟩, rfl, hts (.instanceMethod yX4_init) (by decide +kernel)⟩ rfl hl.1 rfl (Nat.le_of_ble_eq_true rfl) dX5_init_29 ⟨Nat.le_of_ble_eq_true rfl, Nat.le_of_ble_eq_true rfl⟩ (fun i hi => rfl) (fun i hi => C2_n (by omega) (by omega)) (fun H locs hB hS => ?_)
  refine bw_put (ty := (.object "NearlyBought$Tale")) (ce' := cE g N 0 [.ref (N + 1), .ref (N + 2), .ref (N + 4), .null, .null, .null, .null, .null, .null, .int 0, .int 0]) (ci := 5) (C := RX5) (T := TX5) (N' := 11) hx hb hts iW5 tyX5 tyX5_ok nmX5 hown hE.1 hB hS (fun _ h => h) (by decide) C2_0 rfl 2 (by decide) (hts (.fieldLink RX5 23 "NearlyBought" "draft" "LNearlyBought$Tale;") (by decide +kernel)) (fun _ h9 => h9) (Or.inr ⟨rfl, hin, rfl⟩) (by decide +kernel) rfl rfl (Nat.le_of_ble_eq_true rfl) C2_0 (fun j hj => C2_p hj) dX5_init_32 (fun H locs hB hS => ?_)
  refine lv_aload_n hx hb dX5_init_35 rfl (lv_at hl 0 rfl) ?_
  refine bw_new (ci := 4) (fs := [.int 0, .int 0, .int 0, .int 0, .int 0, .null, .null, .null, .null, .null, .null, .null]) (C := RX4) (T := TX4) (N' := 12) hx hb hts i5_X4 tyX4 tyX4_ok hown (hts (.classLink RX5 20 RX4) (by decide +kernel)) (hts (.instantiable RX4 12) (by decide +kernel)) (hts (.initialized RX4) (by decide +kernel)) hE.1 hB hS rfl (by decide +kernel) (Nat.le_of_ble_eq_true rfl) (Nat.le_of_ble_eq_true rfl) dX5_init_36 (fun H hB hS => ?_)
  refine lv_dup hx hb dX5_init_39 rfl ?_
  refine bw_IN (ce' := cE g N 0 [.ref (N + 1), .ref (N + 2), .ref (N + 4), .null, .null, .null, .null, .null, .null, .int 0, .int 0]) (ce2 := fun i => ceN g N (12 + i)) (As := []) (rest := [.ref (N + 12), .ref N]) C hE hB hS (fun _ h => h) (kX4_init l D g (N + 12) (fun i => ceN g N (12 + i)) (eN_12 g N) (eN_13 g N) (eN_14 g N) (eN_15 g N) (eN_16 g N) (eN_17 g N) (eN_18 g N) (eN_19 g N)) ⟨va_cnB 0 hts gX5_init_X4_init_n22 rfl rfl rfl hN.2.2.2.1 (hts (.initialized RX4) (by decide +kernel)) ⟨by decide +kernel, by decide +kernel, by decide +kernel⟩ ⟨Nat.le_of_ble_eq_true rfl, Nat.le_of_ble_eq_true rfl⟩, rfl, hts (.instanceMethod yX4_init) (by decide +kernel)⟩ rfl hl.1 rfl (Nat.le_of_ble_eq_true rfl) dX5_init_40 ⟨Nat.le_of_ble_eq_true rfl, Nat.le_of_ble_eq_true rfl⟩ (fun i hi => rfl) (fun i hi => C2_n (by omega) (by omega)) (fun H locs hB hS => ?_)
  refine bw_put (ty := (.object "NearlyBought$Tale")) (ce' := cE g N 0 [.ref (N + 1), .ref (N + 2), .ref (N + 4), .ref (N + 12), .null, .null, .null, .null, .null, .int 0, .int 0]) (ci := 5) (C := RX5) (T := TX5) (N' := 11) hx hb hts iW5 tyX5 tyX5_ok nmX5 hown hE.1 hB hS (fun _ h => h) (by decide) C2_0 rfl 3 (by decide) (hts (.fieldLink RX5 27 "NearlyBought" "laid" "LNearlyBought$Tale;") (by decide +kernel)) (fun _ h9 => h9) (Or.inr ⟨rfl, hin, rfl⟩) (by decide +kernel) rfl rfl (Nat.le_of_ble_eq_true rfl) C2_0 (fun j hj => C2_p hj) dX5_init_43 (fun H locs hB hS => ?_)
  refine lv_aload_n hx hb dX5_init_46 rfl (lv_at hl 0 rfl) ?_
  refine bw_new (ci := 1) (fs := [.null, .int 0, .int 0, .null, .null, .null, .null, .null, .null, .null]) (C := RX1) (T := TX1) (N' := 10) hx hb hts i5_X1 tyX1 tyX1_ok hown (hts (.classLink RX5 30 RX1) (by decide +kernel)) (hts (.instantiable RX1 10) (by decide +kernel)) (hts (.initialized RX1) (by decide +kernel)) hE.1 hB hS rfl (by decide +kernel) (Nat.le_of_ble_eq_true rfl) (Nat.le_of_ble_eq_true rfl) dX5_init_47 (fun H hB hS => ?_)
  refine lv_dup hx hb dX5_init_50 rfl ?_
  refine lv_aload_n hx hb dX5_init_51 rfl (lv_at hl 0 rfl) ?_
  refine at_get (C := RX5) (T := TX5) (N' := 11) hx hb hts iW5 hown hE.1 (hB.2.1 0 (by decide)) rfl 3 (by decide) (hts (.fieldLink RX5 27 "NearlyBought" "laid" "LNearlyBought$Tale;") (by decide +kernel)) (fun _ h9 => h9) rfl dX5_init_52 ?_
  refine bw_I (ce' := cE g N 0 [.ref (N + 1), .ref (N + 2), .ref (N + 4), .ref (N + 12), .null, .null, .null, .null, .null, .int 0, .int 0]) (ce2 := fun i => ceN g N (20 + i)) (As := [.ref (N + 12)]) (rest := [.ref (N + 20), .ref N]) C hE hB hS (fun _ h => h) (kX1_mk l D g (N + 20) (N + 12) (fun i => ceN g N (20 + i)) (mk_c g N (q := 0) (by decide))) (cwI 1 hts gX5_init_X1_init rfl rfl rfl (hts (.initialized RX1) (by decide +kernel)) (hts (.methodLink RX5 32 yX1_init) (by decide +kernel)) (hts (.instanceMethod yX1_init) (by decide +kernel)) rfl (by decide +kernel) ⟨Nat.le_of_ble_eq_true rfl, Nat.le_of_ble_eq_true rfl⟩) rfl hl.1 rfl (Nat.le_of_ble_eq_true rfl) dX5_init_55 ⟨Nat.le_of_ble_eq_true rfl, Nat.le_of_ble_eq_true rfl⟩ (fun i hi => rfl) (fun i hi => C2_n (by omega) (by omega)) (fun H locs hB hS => ?_)
  refine bw_put (ty := (.object "NearlyBought$Market")) (ce' := cE g N 0 [.ref (N + 1), .ref (N + 2), .ref (N + 4), .ref (N + 12), .ref (N + 20), .null, .null, .null, .null, .int 0, .int 0]) (ci := 5) (C := RX5) (T := TX5) (N' := 11) hx hb hts iW5 tyX5 tyX5_ok nmX5 hown hE.1 hB hS (fun _ h => h) (by decide) C2_0 rfl 4 (by decide) (hts (.fieldLink RX5 35 "NearlyBought" "now" "LNearlyBought$Market;") (by decide +kernel)) (fun _ h9 => h9) (Or.inr ⟨rfl, hin, rfl⟩) (by decide +kernel) rfl rfl (Nat.le_of_ble_eq_true rfl) C2_0 (fun j hj => C2_p hj) dX5_init_58 (fun H locs hB hS => ?_)
  refine lv_aload_n hx hb dX5_init_61 rfl (lv_at hl 0 rfl) ?_
  refine bw_new (ci := 1) (fs := [.null, .int 0, .int 0, .null, .null, .null, .null, .null, .null, .null]) (C := RX1) (T := TX1) (N' := 10) hx hb hts i5_X1 tyX1 tyX1_ok hown (hts (.classLink RX5 30 RX1) (by decide +kernel)) (hts (.instantiable RX1 10) (by decide +kernel)) (hts (.initialized RX1) (by decide +kernel)) hE.1 hB hS rfl (by decide +kernel) (Nat.le_of_ble_eq_true rfl) (Nat.le_of_ble_eq_true rfl) dX5_init_62 (fun H hB hS => ?_)
  refine lv_dup hx hb dX5_init_65 rfl ?_
  refine lv_aload_n hx hb dX5_init_66 rfl (lv_at hl 0 rfl) ?_
  refine at_get (C := RX5) (T := TX5) (N' := 11) hx hb hts iW5 hown hE.1 (hB.2.1 0 (by decide)) rfl 3 (by decide) (hts (.fieldLink RX5 27 "NearlyBought" "laid" "LNearlyBought$Tale;") (by decide +kernel)) (fun _ h9 => h9) rfl dX5_init_67 ?_
  refine bw_I (ce' := cE g N 0 [.ref (N + 1), .ref (N + 2), .ref (N + 4), .ref (N + 12), .ref (N + 20), .null, .null, .null, .null, .int 0, .int 0]) (ce2 := fun i => ceN g N (52 + i)) (As := [.ref (N + 12)]) (rest := [.ref (N + 52), .ref N]) C hE hB hS (fun _ h => h) (kX1_mk l D g (N + 52) (N + 12) (fun i => ceN g N (52 + i)) (mk_c g N (q := 1) (by decide))) (cwI 1 hts gX5_init_X1_init rfl rfl rfl (hts (.initialized RX1) (by decide +kernel)) (hts (.methodLink RX5 32 yX1_init) (by decide +kernel)) (hts (.instanceMethod yX1_init) (by decide +kernel)) rfl (by decide +kernel) ⟨Nat.le_of_ble_eq_true rfl, Nat.le_of_ble_eq_true rfl⟩) rfl hl.1 rfl (Nat.le_of_ble_eq_true rfl) dX5_init_70 ⟨Nat.le_of_ble_eq_true rfl, Nat.le_of_ble_eq_true rfl⟩ (fun i hi => rfl) (fun i hi => C2_n (by omega) (by omega)) (fun H locs hB hS => ?_)
  refine bw_put (ty := (.object "NearlyBought$Market")) (ce' := cE g N 0 [.ref (N + 1), .ref (N + 2), .ref (N + 4), .ref (N + 12), .ref (N + 20), .ref (N + 52), .null, .null, .null, .int 0, .int 0]) (ci := 5) (C := RX5) (T := TX5) (N' := 11) hx hb hts iW5 tyX5 tyX5_ok nmX5 hown hE.1 hB hS (fun _ h => h) (by decide) C2_0 rfl 5 (by decide) (hts (.fieldLink RX5 39 "NearlyBought" "trial" "LNearlyBought$Market;") (by decide +kernel)) (fun _ h9 => h9) (Or.inr ⟨rfl, hin, rfl⟩) (by decide +kernel) rfl rfl (Nat.le_of_ble_eq_true rfl) C2_0 (fun j hj => C2_p hj) dX5_init_73 (fun H locs hB hS => ?_)
  refine lv_aload_n hx hb dX5_init_76 rfl (lv_at hl 0 rfl) ?_
  refine bw_new (ci := 0) (fs := [.null, .int 0, .int 0]) (C := RX0) (T := TX0) (N' := 3) hx hb hts i5_X0 tyX0 tyX0_ok hown (hts (.classLink RX5 42 RX0) (by decide +kernel)) (hts (.instantiable RX0 3) (by decide +kernel)) (hts (.initialized RX0) (by decide +kernel)) hE.1 hB hS rfl (by decide +kernel) (Nat.le_of_ble_eq_true rfl) (Nat.le_of_ble_eq_true rfl) dX5_init_77 (fun H hB hS => ?_)
  refine lv_dup hx hb dX5_init_80 rfl ?_
  refine lv_aload_n hx hb dX5_init_81 rfl (lv_at hl 0 rfl) ?_
  refine at_get (C := RX5) (T := TX5) (N' := 11) hx hb hts iW5 hown hE.1 (hB.2.1 0 (by decide)) rfl 3 (by decide) (hts (.fieldLink RX5 27 "NearlyBought" "laid" "LNearlyBought$Tale;") (by decide +kernel)) (fun _ h9 => h9) rfl dX5_init_82 ?_
  refine bw_I (ce' := cE g N 0 [.ref (N + 1), .ref (N + 2), .ref (N + 4), .ref (N + 12), .ref (N + 20), .ref (N + 52), .null, .null, .null, .int 0, .int 0]) (ce2 := fun i => ceN g N (84 + i)) (As := [.ref (N + 12)]) (rest := [.ref (N + 84), .ref N]) C hE hB hS (fun _ h => h) (kX0_init l D g (N + 84) (N + 12) (fun i => ceN g N (84 + i)) (eN_84 g N) (hist_f N) (eN_85 g N) (hist_m g N)) (cwI 1 hts gX5_init_X0_init rfl rfl rfl (hts (.initialized RX0) (by decide +kernel)) (hts (.methodLink RX5 44 yX0_init) (by decide +kernel)) (hts (.instanceMethod yX0_init) (by decide +kernel)) rfl (by decide +kernel) ⟨Nat.le_of_ble_eq_true rfl, Nat.le_of_ble_eq_true rfl⟩) rfl hl.1 rfl (Nat.le_of_ble_eq_true rfl) dX5_init_85 ⟨Nat.le_of_ble_eq_true rfl, Nat.le_of_ble_eq_true rfl⟩ (fun i hi => rfl) (fun i hi => C2_n (by omega) (by omega)) (fun H locs hB hS => ?_)
  refine bw_put (ty := (.object "NearlyBought$History")) (ce' := cE g N 0 [.ref (N + 1), .ref (N + 2), .ref (N + 4), .ref (N + 12), .ref (N + 20), .ref (N + 52), .ref (N + 84), .null, .null, .int 0, .int 0]) (ci := 5) (C := RX5) (T := TX5) (N' := 11) hx hb hts iW5 tyX5 tyX5_ok nmX5 hown hE.1 hB hS (fun _ h => h) (by decide) C2_0 rfl 6 (by decide) (hts (.fieldLink RX5 45 "NearlyBought" "history" "LNearlyBought$History;") (by decide +kernel)) (fun _ h9 => h9) (Or.inr ⟨rfl, hin, rfl⟩) (by decide +kernel) rfl rfl (Nat.le_of_ble_eq_true rfl) C2_0 (fun j hj => C2_p hj) dX5_init_88 (fun H locs hB hS => ?_)
  refine lv_aload_n hx hb dX5_init_91 rfl (lv_at hl 0 rfl) ?_
  refine lv_iconst (v := 2) hx hb dX5_init_92 (by decide) ?_
  refine bw_newq (L := 2) (ce' := cE g N 0 [.ref (N + 1), .ref (N + 2), .ref (N + 4), .ref (N + 12), .ref (N + 20), .ref (N + 52), .ref (N + 84), .null, .null, .int 0, .int 0]) hx hb hown (hts (.classLink RX5 30 RX1) (by decide +kernel)) hE.2.2 hE.1 hB hS (by decide) (by decide) (by decide) (Nat.le_of_ble_eq_true rfl) (Nat.le_of_ble_eq_true rfl) ((C2_x (by decide)).trans (by unfold ks0; simp)) (fun j hj => rfl) dX5_init_93 (fun H hB hS => ?_)
  refine bw_put (ty := (.array (.object "NearlyBought$Market"))) (ce' := cE g N 0 [.ref (N + 1), .ref (N + 2), .ref (N + 4), .ref (N + 12), .ref (N + 20), .ref (N + 52), .ref (N + 84), .ref (N + 342), .null, .int 0, .int 0]) (ci := 5) (C := RX5) (T := TX5) (N' := 11) hx hb hts iW5 tyX5 tyX5_ok nmX5 hown hE.1 hB hS (fun _ h => h) (by decide) C2_0 rfl 7 (by decide) (hts (.fieldLink RX5 49 "NearlyBought" "kept" "[LNearlyBought$Market;") (by decide +kernel)) (fun _ h9 => h9) (Or.inr ⟨rfl, hin, rfl⟩) (by decide +kernel) rfl rfl (Nat.le_of_ble_eq_true rfl) C2_0 (fun j hj => C2_p hj) dX5_init_96 (fun H locs hB hS => ?_)
  refine lv_aload_n hx hb dX5_init_99 rfl (lv_at hl 0 rfl) ?_
  refine bw_new (ci := 3) (fs := [.null, .null, .null, .int 0]) (C := RX3) (T := TX3) (N' := 4) hx hb hts i5_X3 tyX3 tyX3_ok hown (hts (.classLink RX5 53 RX3) (by decide +kernel)) (hts (.instantiable RX3 4) (by decide +kernel)) (hts (.initialized RX3) (by decide +kernel)) hE.1 hB hS rfl (by decide +kernel) (Nat.le_of_ble_eq_true rfl) (Nat.le_of_ble_eq_true rfl) dX5_init_100 (fun H hB hS => ?_)
  refine lv_dup hx hb dX5_init_103 rfl ?_
  refine bw_IN (ce' := cE g N 0 [.ref (N + 1), .ref (N + 2), .ref (N + 4), .ref (N + 12), .ref (N + 20), .ref (N + 52), .ref (N + 84), .ref (N + 342), .null, .int 0, .int 0]) (ce2 := fun i => ceN g N (343 + i)) (As := []) (rest := [.ref (N + 343), .ref N]) C hE hB hS (fun _ h => h) (kX3_init l D g (N + 343) (fun i => ceN g N (343 + i)) (eN_343 g N) (eN_344 g N) (eN_345 g N) (eN_346 g N)) ⟨va_cnB 0 hts gX5_init_X3_init_n55 rfl rfl rfl hN.2.2.2.2 (hts (.initialized RX3) (by decide +kernel)) ⟨by decide +kernel, by decide +kernel, by decide +kernel⟩ ⟨Nat.le_of_ble_eq_true rfl, Nat.le_of_ble_eq_true rfl⟩, rfl, hts (.instanceMethod yX3_init) (by decide +kernel)⟩ rfl hl.1 rfl (Nat.le_of_ble_eq_true rfl) dX5_init_104 ⟨Nat.le_of_ble_eq_true rfl, Nat.le_of_ble_eq_true rfl⟩ (fun i hi => rfl) (fun i hi => C2_n (by omega) (by omega)) (fun H locs hB hS => ?_)
  refine bw_put (ty := (.object "NearlyBought$Sights")) (ce' := cE g N 0 [.ref (N + 1), .ref (N + 2), .ref (N + 4), .ref (N + 12), .ref (N + 20), .ref (N + 52), .ref (N + 84), .ref (N + 342), .ref (N + 343), .int 0, .int 0]) (ci := 5) (C := RX5) (T := TX5) (N' := 11) hx hb hts iW5 tyX5 tyX5_ok nmX5 hown hE.1 hB hS (fun _ h => h) (by decide) C2_0 rfl 8 (by decide) (hts (.fieldLink RX5 56 "NearlyBought" "sights" "LNearlyBought$Sights;") (by decide +kernel)) (fun _ h9 => h9) (Or.inr ⟨rfl, hin, rfl⟩) (by decide +kernel) rfl rfl (Nat.le_of_ble_eq_true rfl) C2_0 (fun j hj => C2_p hj) dX5_init_107 (fun H locs hB hS => ?_)
  refine lv_iconst (v := 0) hx hb dX5_init_110 (by decide) ?_
  refine lv_istore_n (lv' := [(1, .int 0), (0, .ref N)]) hx hb dX5_init_111 rfl hl (by decide) rfl (fun ls hl => ?_)
  refine W.widen (k := 346) (n := 2333) (Nat.le_of_ble_eq_true rfl) (Nat.le_of_ble_eq_true rfl) ?_
  exact tX5_init_112 l C hE K 2 0 _ _ _ rfl hB hS (lv_sub hl [1, 0] rfl)
end BIG
