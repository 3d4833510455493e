/-! WALKS, laid by program out of the bytecode -/
abbrev rJ7_fill_53178 : Room := { frames := 0, cells := 0, slots := 0, locals := 0 }
set_option maxHeartbeats 4000000 in
set_option maxRecDepth 100000 in
theorem tJ7_fill_53178_b5 {p : Program} {l : Launch} {e : Env} {s : State} {m : MethodId} {args : Array Value} {below : List Frame} {meth : Method} {c : Code} {A : Nat → Prop} {D : va_G} {g : G3} {ad : Ky → Nat} (C : Cx p s m args meth c cJ7_fill_53178 none 4 RJ7 wsJ7_fill_53178 A) {q f i : Nat} (hk : (q, f, i) ∈ keysX) (hc : ∀ μ, cX g ad μ (q, f, i) = .inl (g.1, 6, .inl (μ q f i))) (ha : arrX q f = true) {μ0 : Mem} {v1 v3 : Int32} (n : Nat) : ∀ (v2 : Int32) (μ : Mem) (H : Heap) (locs : List Loc) (ls : Array Slot), WX D g keysX ad A s s.heap μ H locs → lv_has ls 4 [(0, .ref (ad (q, f, i))), (1, .int v1), (2, .int v2), (3, .int v3)] → lo1 (J7_fill_53178_b5 q f i v1 v3) n v2 μ = some μ0 → TgV p l e rJ7_fill_53178 s m args below meth c D g keysX ad A μ0 H locs (F0 m 5 ls []) := by
  obtain ⟨hx, hb, hr, hts, hown, hlocks, hml, hA⟩ := id C
  induction n with
  | zero =>
    intro v2 μ H locs ls hW hl h
    cases h
  | succ n h5 =>
    intro v2 μ H locs ls hW hl h
    have h : J7_fill_53178_b5 q f i v1 v3 (lo1 (J7_fill_53178_b5 q f i v1 v3) n) v2 μ = some μ0 := h
    refine lv_iload_n hx hb dJ7_fill_53178_5 rfl (lv_at hl 2 rfl) ?_
    refine lv_iload_n hx hb dJ7_fill_53178_6 rfl (lv_at hl 3 rfl) ?_
    refine lv_icmp_ge (tgt := 20) hx hb dJ7_fill_53178_7 (by decide) (fun c_1 => ?_) (fun c_1 => ?_)
    · have h := ite_p c_1 h
      exact xw_vret C rfl hW dJ7_fill_53178_20 h
    have h := ite_n c_1 h
    refine lv_aload_n hx hb dJ7_fill_53178_10 rfl (lv_at hl 0 rfl) ?_
    refine lv_iload_n hx hb dJ7_fill_53178_11 rfl (lv_at hl 2 rfl) ?_
    refine lv_iload_n hx hb dJ7_fill_53178_12 rfl (lv_at hl 1 rfl) ?_
    obtain ⟨hi_2, h⟩ := gi_s h
    refine xw_ast hx hb hW hk hc ha hi_2 dJ7_fill_53178_13 (fun H locs hW => ?_)
    refine lv_iinc (v := v2 + 1) (lv' := [(2, .int (v2 + 1)), (0, .ref (ad (q, f, i))), (1, .int v1), (3, .int v3)]) hx hb dJ7_fill_53178_14 hl (k := 2) rfl rfl (by decide) rfl (fun ls hl => ?_)
    refine lv_goto (tgt := 5) hx hb dJ7_fill_53178_17 (by decide) ?_
    exact h5 _ _ _ _ _ hW (lv_sub hl [1, 2, 0, 3] rfl) h
set_option maxHeartbeats 4000000 in
set_option maxRecDepth 100000 in
theorem kJ7_fill_53178 (l : Launch) (D : va_G) (g : G3) (ad : Ky → Nat) {q f i : Nat} (hk : (q, f, i) ∈ keysX) (hc : ∀ μ, cX g ad μ (q, f, i) = .inl (g.1, 6, .inl (μ q f i))) (ha : arrX q f = true) {v1 : Int32} {μ μ' : Mem} (h : J7_fill_53178 q f i v1 μ = some μ') : CtV l yJ7_fill_53178 wsJ7_fill_53178 rJ7_fill_53178 D (tysX g) keysX ad (cX g ad) [.ref (ad (q, f, i)), .int v1] μ μ' := by
  refine ctV_of (cc := cJ7_fill_53178) (maxL := 4) (ret := none) keysX_nd (by decide) rfl (Nat.le_of_ble_eq_true rfl) (fun p e s m below meth c A ls C hW hl => ?_)
  have hl : lv_has ls 4 [(0, .ref (ad (q, f, i))), (1, .int v1)] := hl
  obtain ⟨hx, hb, hr, hts, hown, hlocks, hml, hA⟩ := id C
  refine lv_iconst (v := 0) hx hb dJ7_fill_53178_0 (by decide) ?_
  refine lv_istore_n (lv' := [(2, .int 0), (0, .ref (ad (q, f, i))), (1, .int v1)]) hx hb dJ7_fill_53178_1 rfl hl (by decide) rfl (fun ls hl => ?_)
  refine lv_aload_n hx hb dJ7_fill_53178_2 rfl (lv_at hl 1 rfl) ?_
  refine wo_len (v := 6) hx hb hW hk 0 (hc _) rfl (by decide) dJ7_fill_53178_3 ?_
  refine lv_istore_n (lv' := [(3, .int 6), (2, .int 0), (0, .ref (ad (q, f, i))), (1, .int v1)]) hx hb dJ7_fill_53178_4 rfl hl (by decide) rfl (fun ls hl => ?_)
  exact tJ7_fill_53178_b5 C hk hc ha 1000 _ _ _ _ _ hW (lv_sub hl [2, 3, 1, 0] rfl) h
abbrev rX1_copyFrom : Room := { frames := 1, cells := 0, slots := 0, locals := 26 }
theorem mX1_copyFrom_l43 : Cond.fieldLink RX1 43 "NearlyBought$Market" "year" "I" ∈ wsX1_copyFrom := by decide +kernel
theorem mX1_copyFrom_l9 : Cond.fieldLink RX1 9 "NearlyBought$Market" "silent" "I" ∈ wsX1_copyFrom := by decide +kernel
theorem mX1_copyFrom_l15 : Cond.fieldLink RX1 15 "NearlyBought$Market" "coins" "[I" ∈ wsX1_copyFrom := by decide +kernel
theorem mX1_copyFrom_l51 : Cond.methodLink RX1 51 arraycopyName ∈ wsX1_copyFrom := by decide +kernel
theorem mX1_copyFrom_nat : Cond.native arraycopyName ∈ wsX1_copyFrom := by decide +kernel
theorem mX1_copyFrom_sta : Cond.static arraycopyName ∈ wsX1_copyFrom := by decide +kernel
theorem mX1_copyFrom_ins : Cond.initialized "java/lang/System" ∈ wsX1_copyFrom := by decide +kernel
theorem mX1_copyFrom_l19 : Cond.fieldLink RX1 19 "NearlyBought$Market" "owner" "[I" ∈ wsX1_copyFrom := by decide +kernel
theorem mX1_copyFrom_l22 : Cond.fieldLink RX1 22 "NearlyBought$Market" "missed" "[I" ∈ wsX1_copyFrom := by decide +kernel
theorem mX1_copyFrom_l27 : Cond.fieldLink RX1 27 "NearlyBought$Market" "breaths" "[[I" ∈ wsX1_copyFrom := by decide +kernel
theorem mX1_copyFrom_l30 : Cond.fieldLink RX1 30 "NearlyBought$Market" "since" "[[I" ∈ wsX1_copyFrom := by decide +kernel
theorem mX1_copyFrom_l33 : Cond.fieldLink RX1 33 "NearlyBought$Market" "counted" "[[I" ∈ wsX1_copyFrom := by decide +kernel
theorem mX1_copyFrom_l36 : Cond.fieldLink RX1 36 "NearlyBought$Market" "price" "[[I" ∈ wsX1_copyFrom := by decide +kernel
theorem iX1_copyFrom_1 : ∀ w ∈ wsX10, w ∈ wsX1_copyFrom := fun _ h => List.mem_cons_of_mem _ (List.mem_append_right _ h)
set_option maxHeartbeats 4000000 in
set_option maxRecDepth 100000 in
theorem tX1_copyFrom_b63 {p : Program} {l : Launch} {e : Env} {s : State} {m : MethodId} {args : Array Value} {below : List Frame} {meth : Method} {c : Code} {A : Nat → Prop} {D : va_G} {g : G3} {ad : Ky → Nat} (C : Cx p s m args meth c cX1_copyFrom none 3 RX1 wsX1_copyFrom A) {q q1 : Nat} (hq : q < 12) (hq1 : q1 < 12) {μ0 : Mem} (n : Nat) : ∀ (v2 : Int32) (μ : Mem) (H : Heap) (locs : List Loc) (ls : Array Slot), WX D g keysX ad A s s.heap μ H locs → lv_has ls 3 [(0, .ref (ad (q, 50, 0))), (1, .ref (ad (q1, 50, 0))), (2, .int v2)] → lo1 (X1_copyFrom_b63 q q1) n v2 μ = some μ0 → TgV p l e rX1_copyFrom s m args below meth c D g keysX ad A μ0 H locs (F0 m 63 ls []) := by
  obtain ⟨hx, hb, hr, hts, hown, hlocks, hml, hA⟩ := id C
  induction n with
  | zero =>
    intro v2 μ H locs ls hW hl h
    cases h
  | succ n h63 =>
    intro v2 μ H locs ls hW hl h
    have h : X1_copyFrom_b63 q q1 (lo1 (X1_copyFrom_b63 q q1) n) v2 μ = some μ0 := h
    refine lv_iload_n hx hb dX1_copyFrom_63 rfl (lv_at hl 2 rfl) ?_
    refine lv_bipush (v := 6) hx hb dX1_copyFrom_64 (by decide) ?_
    refine lv_icmp_ge (tgt := 151) hx hb dX1_copyFrom_66 (by decide) (fun c_7 => ?_) (fun c_7 => ?_)
    · have h := ite_p c_7 h
      exact xw_vret C rfl hW dX1_copyFrom_151 h
    have h := ite_n c_7 h
    refine lv_aload_n hx hb dX1_copyFrom_69 rfl (lv_at hl 1 rfl) ?_
    refine wo_get (C := RX1) (T := TX1) (N := 10) hx hb hts iX1_copyFrom_1 hown hW (km_o q1 hq1) (cm_o hq1) rfl 6 (by decide) (hts _ mX1_copyFrom_l27) (fun _ h9 => h9) rfl dX1_copyFrom_70 ?_
    refine lv_iload_n hx hb dX1_copyFrom_73 rfl (lv_at hl 2 rfl) ?_
    obtain ⟨hi_8, h⟩ := gi_s h
    refine wo_ldq hx hb hW (km_q q1 hq1 6 (by decide) (by decide)) 1 rfl (cm_q hq1 (by decide)) rfl hi_8 dX1_copyFrom_74 ?_
    refine lv_iconst (v := 0) hx hb dX1_copyFrom_75 (by decide) ?_
    refine lv_aload_n hx hb dX1_copyFrom_76 rfl (lv_at hl 0 rfl) ?_
    refine wo_get (C := RX1) (T := TX1) (N := 10) hx hb hts iX1_copyFrom_1 hown hW (km_o q hq) (cm_o hq) rfl 6 (by decide) (hts _ mX1_copyFrom_l27) (fun _ h9 => h9) rfl dX1_copyFrom_77 ?_
    refine lv_iload_n hx hb dX1_copyFrom_80 rfl (lv_at hl 2 rfl) ?_
    obtain ⟨hi_9, h⟩ := gi_s h
    refine wo_ldq hx hb hW (km_q q hq 6 (by decide) (by decide)) 1 rfl (cm_q hq (by decide)) rfl hi_9 dX1_copyFrom_81 ?_
    refine lv_iconst (v := 0) hx hb dX1_copyFrom_82 (by decide) ?_
    refine lv_bipush (v := 6) hx hb dX1_copyFrom_83 (by decide) ?_
    refine xw_cpy (ls := ls) (rest := []) (n' := 6) hx hb (hml.trans hl.1.symm) hown (hts _ mX1_copyFrom_l51) (hts _ mX1_copyFrom_nat) (hts _ mX1_copyFrom_sta) (hts _ mX1_copyFrom_ins) hW (km_r q1 hq1 6 (by decide) (by decide) _ (vp_lt hi_8)) (km_r q hq 6 (by decide) (by decide) _ (vp_lt hi_9)) (cm_r hq1 (by decide) (vp_lt hi_8)) (fun _ => (cm_r hq (by decide) (vp_lt hi_9))) (am_a q hq 6 (by decide) (by decide)) (by decide) rfl (by decide) (by decide) (Nat.le_of_ble_eq_true rfl) (Nat.le_of_ble_eq_true rfl) dX1_copyFrom_85 (fun H locs hW => ?_)
    obtain ⟨μ_10, hk_11, h⟩ := mlt_s h
    rw [← hk_11] at hW
    refine lv_aload_n hx hb dX1_copyFrom_88 rfl (lv_at hl 1 rfl) ?_
    refine wo_get (C := RX1) (T := TX1) (N := 10) hx hb hts iX1_copyFrom_1 hown hW (km_o q1 hq1) (cm_o hq1) rfl 7 (by decide) (hts _ mX1_copyFrom_l30) (fun _ h9 => h9) rfl dX1_copyFrom_89 ?_
    refine lv_iload_n hx hb dX1_copyFrom_92 rfl (lv_at hl 2 rfl) ?_
    obtain ⟨hi_12, h⟩ := gi_s h
    refine wo_ldq hx hb hW (km_q q1 hq1 7 (by decide) (by decide)) 1 rfl (cm_q hq1 (by decide)) rfl hi_12 dX1_copyFrom_93 ?_
    refine lv_iconst (v := 0) hx hb dX1_copyFrom_94 (by decide) ?_
    refine lv_aload_n hx hb dX1_copyFrom_95 rfl (lv_at hl 0 rfl) ?_
    refine wo_get (C := RX1) (T := TX1) (N := 10) hx hb hts iX1_copyFrom_1 hown hW (km_o q hq) (cm_o hq) rfl 7 (by decide) (hts _ mX1_copyFrom_l30) (fun _ h9 => h9) rfl dX1_copyFrom_96 ?_
    refine lv_iload_n hx hb dX1_copyFrom_99 rfl (lv_at hl 2 rfl) ?_
    obtain ⟨hi_13, h⟩ := gi_s h
    refine wo_ldq hx hb hW (km_q q hq 7 (by decide) (by decide)) 1 rfl (cm_q hq (by decide)) rfl hi_13 dX1_copyFrom_100 ?_
    refine lv_iconst (v := 0) hx hb dX1_copyFrom_101 (by decide) ?_
    refine lv_bipush (v := 6) hx hb dX1_copyFrom_102 (by decide) ?_
    refine xw_cpy (ls := ls) (rest := []) (n' := 6) hx hb (hml.trans hl.1.symm) hown (hts _ mX1_copyFrom_l51) (hts _ mX1_copyFrom_nat) (hts _ mX1_copyFrom_sta) (hts _ mX1_copyFrom_ins) hW (km_r q1 hq1 7 (by decide) (by decide) _ (vp_lt hi_12)) (km_r q hq 7 (by decide) (by decide) _ (vp_lt hi_13)) (cm_r hq1 (by decide) (vp_lt hi_12)) (fun _ => (cm_r hq (by decide) (vp_lt hi_13))) (am_a q hq 7 (by decide) (by decide)) (by decide) rfl (by decide) (by decide) (Nat.le_of_ble_eq_true rfl) (Nat.le_of_ble_eq_true rfl) dX1_copyFrom_104 (fun H locs hW => ?_)
    obtain ⟨μ_14, hk_15, h⟩ := mlt_s h
    rw [← hk_15] at hW
    refine lv_aload_n hx hb dX1_copyFrom_107 rfl (lv_at hl 1 rfl) ?_
    refine wo_get (C := RX1) (T := TX1) (N := 10) hx hb hts iX1_copyFrom_1 hown hW (km_o q1 hq1) (cm_o hq1) rfl 8 (by decide) (hts _ mX1_copyFrom_l33) (fun _ h9 => h9) rfl dX1_copyFrom_108 ?_
    refine lv_iload_n hx hb dX1_copyFrom_111 rfl (lv_at hl 2 rfl) ?_
    obtain ⟨hi_16, h⟩ := gi_s h
    refine wo_ldq hx hb hW (km_q q1 hq1 8 (by decide) (by decide)) 1 rfl (cm_q hq1 (by decide)) rfl hi_16 dX1_copyFrom_112 ?_
    refine lv_iconst (v := 0) hx hb dX1_copyFrom_113 (by decide) ?_
    refine lv_aload_n hx hb dX1_copyFrom_114 rfl (lv_at hl 0 rfl) ?_
    refine wo_get (C := RX1) (T := TX1) (N := 10) hx hb hts iX1_copyFrom_1 hown hW (km_o q hq) (cm_o hq) rfl 8 (by decide) (hts _ mX1_copyFrom_l33) (fun _ h9 => h9) rfl dX1_copyFrom_115 ?_
    refine lv_iload_n hx hb dX1_copyFrom_118 rfl (lv_at hl 2 rfl) ?_
    obtain ⟨hi_17, h⟩ := gi_s h
    refine wo_ldq hx hb hW (km_q q hq 8 (by decide) (by decide)) 1 rfl (cm_q hq (by decide)) rfl hi_17 dX1_copyFrom_119 ?_
    refine lv_iconst (v := 0) hx hb dX1_copyFrom_120 (by decide) ?_
    refine lv_bipush (v := 6) hx hb dX1_copyFrom_121 (by decide) ?_
    refine xw_cpy (ls := ls) (rest := []) (n' := 6) hx hb (hml.trans hl.1.symm) hown (hts _ mX1_copyFrom_l51) (hts _ mX1_copyFrom_nat) (hts _ mX1_copyFrom_sta) (hts _ mX1_copyFrom_ins) hW (km_r q1 hq1 8 (by decide) (by decide) _ (vp_lt hi_16)) (km_r q hq 8 (by decide) (by decide) _ (vp_lt hi_17)) (cm_r hq1 (by decide) (vp_lt hi_16)) (fun _ => (cm_r hq (by decide) (vp_lt hi_17))) (am_a q hq 8 (by decide) (by decide)) (by decide) rfl (by decide) (by decide) (Nat.le_of_ble_eq_true rfl) (Nat.le_of_ble_eq_true rfl) dX1_copyFrom_123 (fun H locs hW => ?_)
    obtain ⟨μ_18, hk_19, h⟩ := mlt_s h
    rw [← hk_19] at hW
    refine lv_aload_n hx hb dX1_copyFrom_126 rfl (lv_at hl 1 rfl) ?_
    refine wo_get (C := RX1) (T := TX1) (N := 10) hx hb hts iX1_copyFrom_1 hown hW (km_o q1 hq1) (cm_o hq1) rfl 9 (by decide) (hts _ mX1_copyFrom_l36) (fun _ h9 => h9) rfl dX1_copyFrom_127 ?_
    refine lv_iload_n hx hb dX1_copyFrom_130 rfl (lv_at hl 2 rfl) ?_
    obtain ⟨hi_20, h⟩ := gi_s h
    refine wo_ldq hx hb hW (km_q q1 hq1 9 (by decide) (by decide)) 1 rfl (cm_q hq1 (by decide)) rfl hi_20 dX1_copyFrom_131 ?_
    refine lv_iconst (v := 0) hx hb dX1_copyFrom_132 (by decide) ?_
    refine lv_aload_n hx hb dX1_copyFrom_133 rfl (lv_at hl 0 rfl) ?_
    refine wo_get (C := RX1) (T := TX1) (N := 10) hx hb hts iX1_copyFrom_1 hown hW (km_o q hq) (cm_o hq) rfl 9 (by decide) (hts _ mX1_copyFrom_l36) (fun _ h9 => h9) rfl dX1_copyFrom_134 ?_
    refine lv_iload_n hx hb dX1_copyFrom_137 rfl (lv_at hl 2 rfl) ?_
    obtain ⟨hi_21, h⟩ := gi_s h
    refine wo_ldq hx hb hW (km_q q hq 9 (by decide) (by decide)) 1 rfl (cm_q hq (by decide)) rfl hi_21 dX1_copyFrom_138 ?_
    refine lv_iconst (v := 0) hx hb dX1_copyFrom_139 (by decide) ?_
    refine lv_bipush (v := 6) hx hb dX1_copyFrom_140 (by decide) ?_
    refine xw_cpy (ls := ls) (rest := []) (n' := 6) hx hb (hml.trans hl.1.symm) hown (hts _ mX1_copyFrom_l51) (hts _ mX1_copyFrom_nat) (hts _ mX1_copyFrom_sta) (hts _ mX1_copyFrom_ins) hW (km_r q1 hq1 9 (by decide) (by decide) _ (vp_lt hi_20)) (km_r q hq 9 (by decide) (by decide) _ (vp_lt hi_21)) (cm_r hq1 (by decide) (vp_lt hi_20)) (fun _ => (cm_r hq (by decide) (vp_lt hi_21))) (am_a q hq 9 (by decide) (by decide)) (by decide) rfl (by decide) (by decide) (Nat.le_of_ble_eq_true rfl) (Nat.le_of_ble_eq_true rfl) dX1_copyFrom_142 (fun H locs hW => ?_)
    obtain ⟨μ_22, hk_23, h⟩ := mlt_s h
    rw [← hk_23] at hW
    refine lv_iinc (v := v2 + 1) (lv' := [(2, .int (v2 + 1)), (0, .ref (ad (q, 50, 0))), (1, .ref (ad (q1, 50, 0)))]) hx hb dX1_copyFrom_145 hl (k := 2) rfl rfl (by decide) rfl (fun ls hl => ?_)
    refine lv_goto (tgt := 63) hx hb dX1_copyFrom_148 (by decide) ?_
    exact h63 _ _ _ _ _ hW (lv_sub hl [1, 2, 0] rfl) h
set_option maxHeartbeats 4000000 in
set_option maxRecDepth 100000 in
theorem kX1_copyFrom (l : Launch) (D : va_G) (g : G3) (ad : Ky → Nat) {q q1 : Nat} (hq : q < 12) (hq1 : q1 < 12) {μ μ' : Mem} (h : X1_copyFrom q q1 μ = some μ') : CtV l yX1_copyFrom wsX1_copyFrom rX1_copyFrom D (tysX g) keysX ad (cX g ad) [.ref (ad (q, 50, 0)), .ref (ad (q1, 50, 0))] μ μ' := by
  refine ctV_of (cc := cX1_copyFrom) (maxL := 3) (ret := none) keysX_nd (by decide) rfl (Nat.le_of_ble_eq_true rfl) (fun p e s m below meth c A ls C hW hl => ?_)
  have hl : lv_has ls 3 [(0, .ref (ad (q, 50, 0))), (1, .ref (ad (q1, 50, 0)))] := hl
  obtain ⟨hx, hb, hr, hts, hown, hlocks, hml, hA⟩ := id C
  refine lv_aload_n hx hb dX1_copyFrom_0 rfl (lv_at hl 0 rfl) ?_
  refine lv_aload_n hx hb dX1_copyFrom_1 rfl (lv_at hl 1 rfl) ?_
  refine wo_get (C := RX1) (T := TX1) (N := 10) hx hb hts iX1_copyFrom_1 hown hW (km_o q1 hq1) (cm_o hq1) rfl 1 (by decide) (hts _ mX1_copyFrom_l43) (fun _ h9 => h9) rfl dX1_copyFrom_2 ?_
  refine xw_put (C := RX1) (T := TX1) (N := 10) hx hb hts iX1_copyFrom_1 tyX1 tyX1_ok nmX1 hown hW (km_o q hq) (cm_o hq) rfl 1 (by decide) (hts _ mX1_copyFrom_l43) (fun _ h9 => h9) rfl (by decide +kernel) (Nat.le_of_ble_eq_true rfl) keysX_ok (sm_s q hq 1 (by decide) (by decide)) (pm_1 hq _) dX1_copyFrom_5 (fun H locs hW => ?_)
  refine lv_aload_n hx hb dX1_copyFrom_8 rfl (lv_at hl 0 rfl) ?_
  refine lv_aload_n hx hb dX1_copyFrom_9 rfl (lv_at hl 1 rfl) ?_
  refine wo_get (C := RX1) (T := TX1) (N := 10) hx hb hts iX1_copyFrom_1 hown hW (km_o q1 hq1) (cm_o hq1) rfl 2 (by decide) (hts _ mX1_copyFrom_l9) (fun _ h9 => h9) rfl dX1_copyFrom_10 ?_
  refine xw_put (C := RX1) (T := TX1) (N := 10) hx hb hts iX1_copyFrom_1 tyX1 tyX1_ok nmX1 hown hW (km_o q hq) (cm_o hq) rfl 2 (by decide) (hts _ mX1_copyFrom_l9) (fun _ h9 => h9) rfl (by decide +kernel) (Nat.le_of_ble_eq_true rfl) keysX_ok (sm_s q hq 2 (by decide) (by decide)) (pm_2 hq _) dX1_copyFrom_13 (fun H locs hW => ?_)
  refine lv_aload_n hx hb dX1_copyFrom_16 rfl (lv_at hl 1 rfl) ?_
  refine wo_get (C := RX1) (T := TX1) (N := 10) hx hb hts iX1_copyFrom_1 hown hW (km_o q1 hq1) (cm_o hq1) rfl 3 (by decide) (hts _ mX1_copyFrom_l15) (fun _ h9 => h9) rfl dX1_copyFrom_17 ?_
  refine lv_iconst (v := 0) hx hb dX1_copyFrom_20 (by decide) ?_
  refine lv_aload_n hx hb dX1_copyFrom_21 rfl (lv_at hl 0 rfl) ?_
  refine wo_get (C := RX1) (T := TX1) (N := 10) hx hb hts iX1_copyFrom_1 hown hW (km_o q hq) (cm_o hq) rfl 3 (by decide) (hts _ mX1_copyFrom_l15) (fun _ h9 => h9) rfl dX1_copyFrom_22 ?_
  refine lv_iconst (v := 0) hx hb dX1_copyFrom_25 (by decide) ?_
  refine lv_bipush (v := 6) hx hb dX1_copyFrom_26 (by decide) ?_
  refine xw_cpy (ls := ls) (rest := []) (n' := 6) hx hb (hml.trans hl.1.symm) hown (hts _ mX1_copyFrom_l51) (hts _ mX1_copyFrom_nat) (hts _ mX1_copyFrom_sta) (hts _ mX1_copyFrom_ins) hW (km_a q1 hq1 3 (by decide) (by decide)) (km_a q hq 3 (by decide) (by decide)) (cm_a hq1 (by decide)) (fun _ => (cm_a hq (by decide))) (am_a q hq 3 (by decide) (by decide)) (by decide) rfl (by decide) (by decide) (Nat.le_of_ble_eq_true rfl) (Nat.le_of_ble_eq_true rfl) dX1_copyFrom_28 (fun H locs hW => ?_)
  obtain ⟨μ_1, hk_2, h⟩ := mlt_s h
  rw [← hk_2] at hW
  refine lv_aload_n hx hb dX1_copyFrom_31 rfl (lv_at hl 1 rfl) ?_
  refine wo_get (C := RX1) (T := TX1) (N := 10) hx hb hts iX1_copyFrom_1 hown hW (km_o q1 hq1) (cm_o hq1) rfl 4 (by decide) (hts _ mX1_copyFrom_l19) (fun _ h9 => h9) rfl dX1_copyFrom_32 ?_
  refine lv_iconst (v := 0) hx hb dX1_copyFrom_35 (by decide) ?_
  refine lv_aload_n hx hb dX1_copyFrom_36 rfl (lv_at hl 0 rfl) ?_
  refine wo_get (C := RX1) (T := TX1) (N := 10) hx hb hts iX1_copyFrom_1 hown hW (km_o q hq) (cm_o hq) rfl 4 (by decide) (hts _ mX1_copyFrom_l19) (fun _ h9 => h9) rfl dX1_copyFrom_37 ?_
  refine lv_iconst (v := 0) hx hb dX1_copyFrom_40 (by decide) ?_
  refine lv_bipush (v := 6) hx hb dX1_copyFrom_41 (by decide) ?_
  refine xw_cpy (ls := ls) (rest := []) (n' := 6) hx hb (hml.trans hl.1.symm) hown (hts _ mX1_copyFrom_l51) (hts _ mX1_copyFrom_nat) (hts _ mX1_copyFrom_sta) (hts _ mX1_copyFrom_ins) hW (km_a q1 hq1 4 (by decide) (by decide)) (km_a q hq 4 (by decide) (by decide)) (cm_a hq1 (by decide)) (fun _ => (cm_a hq (by decide))) (am_a q hq 4 (by decide) (by decide)) (by decide) rfl (by decide) (by decide) (Nat.le_of_ble_eq_true rfl) (Nat.le_of_ble_eq_true rfl) dX1_copyFrom_43 (fun H locs hW => ?_)
  obtain ⟨μ_3, hk_4, h⟩ := mlt_s h
  rw [← hk_4] at hW
  refine lv_aload_n hx hb dX1_copyFrom_46 rfl (lv_at hl 1 rfl) ?_
  refine wo_get (C := RX1) (T := TX1) (N := 10) hx hb hts iX1_copyFrom_1 hown hW (km_o q1 hq1) (cm_o hq1) rfl 5 (by decide) (hts _ mX1_copyFrom_l22) (fun _ h9 => h9) rfl dX1_copyFrom_47 ?_
  refine lv_iconst (v := 0) hx hb dX1_copyFrom_50 (by decide) ?_
  refine lv_aload_n hx hb dX1_copyFrom_51 rfl (lv_at hl 0 rfl) ?_
  refine wo_get (C := RX1) (T := TX1) (N := 10) hx hb hts iX1_copyFrom_1 hown hW (km_o q hq) (cm_o hq) rfl 5 (by decide) (hts _ mX1_copyFrom_l22) (fun _ h9 => h9) rfl dX1_copyFrom_52 ?_
  refine lv_iconst (v := 0) hx hb dX1_copyFrom_55 (by decide) ?_
  refine lv_bipush (v := 6) hx hb dX1_copyFrom_56 (by decide) ?_
  refine xw_cpy (ls := ls) (rest := []) (n' := 6) hx hb (hml.trans hl.1.symm) hown (hts _ mX1_copyFrom_l51) (hts _ mX1_copyFrom_nat) (hts _ mX1_copyFrom_sta) (hts _ mX1_copyFrom_ins) hW (km_a q1 hq1 5 (by decide) (by decide)) (km_a q hq 5 (by decide) (by decide)) (cm_a hq1 (by decide)) (fun _ => (cm_a hq (by decide))) (am_a q hq 5 (by decide) (by decide)) (by decide) rfl (by decide) (by decide) (Nat.le_of_ble_eq_true rfl) (Nat.le_of_ble_eq_true rfl) dX1_copyFrom_58 (fun H locs hW => ?_)
  obtain ⟨μ_5, hk_6, h⟩ := mlt_s h
  rw [← hk_6] at hW
  refine lv_iconst (v := 0) hx hb dX1_copyFrom_61 (by decide) ?_
  refine lv_istore_n (lv' := [(2, .int 0), (0, .ref (ad (q, 50, 0))), (1, .ref (ad (q1, 50, 0)))]) hx hb dX1_copyFrom_62 rfl hl (by decide) rfl (fun ls hl => ?_)
  exact tX1_copyFrom_b63 C hq hq1 1000 _ _ _ _ _ hW (lv_sub hl [1, 2, 0] rfl) h
abbrev rX4_countedFor : Room := { frames := 0, cells := 0, slots := 0, locals := 0 }
theorem mX4_countedFor_l9 : Cond.fieldLink RX4 9 "NearlyBought$Tale" "kind" "[I" ∈ wsX4_countedFor := by decide +kernel
theorem iX4_countedFor_4 : ∀ w ∈ wsX40, w ∈ wsX4_countedFor := fun _ h => List.mem_cons_of_mem _ (List.mem_append_right _ h)
set_option maxHeartbeats 4000000 in
set_option maxRecDepth 100000 in
theorem kX4_countedFor (l : Launch) (D : va_G) (g : G3) (ad : Ky → Nat) {q : Nat} (h2 : q < 14) (h1 : 12 ≤ q) {v1 v2 : Int32} {μ μ' : Mem} {r : Int32} (h : X4_countedFor q v1 v2 μ = some (r, μ')) : CtI l yX4_countedFor wsX4_countedFor rX4_countedFor D (tysX g) keysX ad (cX g ad) [.ref (ad (q, 50, 0)), .int v1, .int v2] μ r μ' := by
  refine ctI_of (cc := cX4_countedFor) (maxL := 3) (ret := (some .int)) keysX_nd (by decide) rfl (Nat.le_of_ble_eq_true rfl) (fun p e s m below meth c A ls C hW hl => ?_)
  have hl : lv_has ls 3 [(0, .ref (ad (q, 50, 0))), (1, .int v1), (2, .int v2)] := hl
  obtain ⟨hx, hb, hr, hts, hown, hlocks, hml, hA⟩ := id C
  refine lv_aload_n hx hb dX4_countedFor_0 rfl (lv_at hl 0 rfl) ?_
  refine wo_get (C := RX4) (T := TX4) (N := 12) hx hb hts iX4_countedFor_4 hown hW (kt_o q h2 h1) (ct_o h2 h1) rfl 5 (by decide) (hts _ mX4_countedFor_l9) (fun _ h9 => h9) rfl dX4_countedFor_1 ?_
  refine lv_iload_n hx hb dX4_countedFor_4 rfl (lv_at hl 1 rfl) ?_
  obtain ⟨hi_1, h⟩ := gi_s h
  refine xw_ald hx hb hW (kt_a q h2 h1 5 (by decide) (by decide)) (ct_6 h2 h1 (by decide)) hi_1 dX4_countedFor_5 ?_
  by_cases c_2 : (μ q 5 0 v1.toNatClampNeg) = 1
  · have h := ite_p c_2 h
    refine lv_tableIn (off := 26) (tgt := 32) hx hb dX4_countedFor_6 (by rw [c_2]; decide) (by rw [c_2]; decide) (by rw [c_2]; rfl) (by decide) ?_
    refine lv_iload_n hx hb dX4_countedFor_32 rfl (lv_at hl 2 rfl) ?_
    refine lv_iconst (v := 2) hx hb dX4_countedFor_33 (by decide) ?_
    refine lv_icmp_ge (tgt := 41) hx hb dX4_countedFor_34 (by decide) (fun c_3 => ?_) (fun c_3 => ?_)
    · have h := ite_p c_3 h
      refine lv_iload_n hx hb dX4_countedFor_41 rfl (lv_at hl 2 rfl) ?_
      refine lv_iconst (v := 2) hx hb dX4_countedFor_42 (by decide) ?_
      refine lv_isub hx hb dX4_countedFor_43 ?_
      exact xw_iret C rfl hW dX4_countedFor_44 h
    have h := ite_n c_3 h
    refine lv_iconst (v := 0) hx hb dX4_countedFor_37 (by decide) ?_
    refine lv_goto (tgt := 44) hx hb dX4_countedFor_38 (by decide) ?_
    exact xw_iret C rfl hW dX4_countedFor_44 h
  have h := ite_n c_2 h
  by_cases c_4 : (μ q 5 0 v1.toNatClampNeg) = 2
  · have h := ite_p c_4 h
    refine lv_tableIn (off := 39) (tgt := 45) hx hb dX4_countedFor_6 (by rw [c_4]; decide) (by rw [c_4]; decide) (by rw [c_4]; rfl) (by decide) ?_
    refine lv_iconst (v := 3) hx hb dX4_countedFor_45 (by decide) ?_
    refine lv_iload_n hx hb dX4_countedFor_46 rfl (lv_at hl 2 rfl) ?_
    refine lv_imul hx hb dX4_countedFor_47 ?_
    exact xw_iret C rfl hW dX4_countedFor_48 h
  have h := ite_n c_4 h
  by_cases c_5 : (μ q 5 0 v1.toNatClampNeg) = 3
  · have h := ite_p c_5 h
    refine lv_tableIn (off := 43) (tgt := 49) hx hb dX4_countedFor_6 (by rw [c_5]; decide) (by rw [c_5]; decide) (by rw [c_5]; rfl) (by decide) ?_
    refine lv_iconst (v := 2) hx hb dX4_countedFor_49 (by decide) ?_
    refine lv_iload_n hx hb dX4_countedFor_50 rfl (lv_at hl 2 rfl) ?_
    refine lv_imul hx hb dX4_countedFor_51 ?_
    exact xw_iret C rfl hW dX4_countedFor_52 h
  have h := ite_n c_5 h
  have t_6 := ne_ti (k := 1) rfl c_2
  have t_7 := ne_ti (k := 2) rfl c_4
  have t_8 := ne_ti (k := 3) rfl c_5
  refine lv_tableOut (tgt := 53) hx hb dX4_countedFor_6 (by omega) (by decide) ?_
  refine lv_iload_n hx hb dX4_countedFor_53 rfl (lv_at hl 2 rfl) ?_
  exact xw_iret C rfl hW dX4_countedFor_54 h
abbrev rX4_costIn : Room := { frames := 0, cells := 0, slots := 0, locals := 0 }
theorem mX4_costIn_l18 : Cond.fieldLink RX4 18 "NearlyBought$Tale" "firstCost" "[I" ∈ wsX4_costIn := by decide +kernel
theorem mX4_costIn_l46 : Cond.fieldLink RX4 46 "NearlyBought$Tale" "dearer" "I" ∈ wsX4_costIn := by decide +kernel
theorem iX4_costIn_4 : ∀ w ∈ wsX40, w ∈ wsX4_costIn := fun _ h => List.mem_cons_of_mem _ (List.mem_append_right _ h)
set_option maxHeartbeats 4000000 in
set_option maxRecDepth 100000 in
theorem kX4_costIn (l : Launch) (D : va_G) (g : G3) (ad : Ky → Nat) {q : Nat} (h2 : q < 14) (h1 : 12 ≤ q) {v1 v2 : Int32} {μ μ' : Mem} {r : Int32} (h : X4_costIn q v1 v2 μ = some (r, μ')) : CtI l yX4_costIn wsX4_costIn rX4_costIn D (tysX g) keysX ad (cX g ad) [.ref (ad (q, 50, 0)), .int v1, .int v2] μ r μ' := by
  refine ctI_of (cc := cX4_costIn) (maxL := 3) (ret := (some .int)) keysX_nd (by decide) rfl (Nat.le_of_ble_eq_true rfl) (fun p e s m below meth c A ls C hW hl => ?_)
  have hl : lv_has ls 3 [(0, .ref (ad (q, 50, 0))), (1, .int v1), (2, .int v2)] := hl
  obtain ⟨hx, hb, hr, hts, hown, hlocks, hml, hA⟩ := id C
  refine lv_aload_n hx hb dX4_costIn_0 rfl (lv_at hl 0 rfl) ?_
  refine wo_get (C := RX4) (T := TX4) (N := 12) hx hb hts iX4_costIn_4 hown hW (kt_o q h2 h1) (ct_o h2 h1) rfl 7 (by decide) (hts _ mX4_costIn_l18) (fun _ h9 => h9) rfl dX4_costIn_1 ?_
  refine lv_iload_n hx hb dX4_costIn_4 rfl (lv_at hl 1 rfl) ?_
  obtain ⟨hi_1, h⟩ := gi_s h
  refine xw_ald hx hb hW (kt_a q h2 h1 7 (by decide) (by decide)) (ct_6 h2 h1 (by decide)) hi_1 dX4_costIn_5 ?_
  refine lv_aload_n hx hb dX4_costIn_6 rfl (lv_at hl 0 rfl) ?_
  refine wo_get (C := RX4) (T := TX4) (N := 12) hx hb hts iX4_costIn_4 hown hW (kt_o q h2 h1) (ct_o h2 h1) rfl 4 (by decide) (hts _ mX4_costIn_l46) (fun _ h9 => h9) rfl dX4_costIn_7 ?_
  refine lv_iload_n hx hb dX4_costIn_10 rfl (lv_at hl 2 rfl) ?_
  refine lv_imul hx hb dX4_costIn_11 ?_
  refine lv_iadd hx hb dX4_costIn_12 ?_
  exact xw_iret C rfl hW dX4_costIn_13 h
abbrev rX4_priceFor : Room := { frames := 1, cells := 0, slots := 0, locals := 22 }
theorem mX4_priceFor_l9 : Cond.fieldLink RX4 9 "NearlyBought$Tale" "kind" "[I" ∈ wsX4_priceFor := by decide +kernel
theorem iX4_priceFor_4 : ∀ w ∈ wsX40, w ∈ wsX4_priceFor := fun _ h => List.mem_cons_of_mem _ (List.mem_append_right _ h)
set_option maxHeartbeats 4000000 in
set_option maxRecDepth 100000 in
theorem kX4_priceFor (l : Launch) (D : va_G) (g : G3) (ad : Ky → Nat) {q : Nat} (h2 : q < 14) (h1 : 12 ≤ q) {v1 v2 v3 : Int32} {μ μ' : Mem} {r : Int32} (h : X4_priceFor q v1 v2 v3 μ = some (r, μ')) : CtI l yX4_priceFor wsX4_priceFor rX4_priceFor D (tysX g) keysX ad (cX g ad) [.ref (ad (q, 50, 0)), .int v1, .int v2, .int v3] μ r μ' := by
  refine ctI_of (cc := cX4_priceFor) (maxL := 5) (ret := (some .int)) keysX_nd (by decide) rfl (Nat.le_of_ble_eq_true rfl) (fun p e s m below meth c A ls C hW hl => ?_)
  have hl : lv_has ls 5 [(0, .ref (ad (q, 50, 0))), (1, .int v1), (2, .int v2), (3, .int v3)] := hl
  obtain ⟨hx, hb, hr, hts, hown, hlocks, hml, hA⟩ := id C
  refine lv_aload_n hx hb dX4_priceFor_0 rfl (lv_at hl 0 rfl) ?_
  refine lv_iload_n hx hb dX4_priceFor_1 rfl (lv_at hl 2 rfl) ?_
  refine lv_iload_n hx hb dX4_priceFor_2 rfl (lv_at hl 3 rfl) ?_
  obtain ⟨r_3, μ_2, hh_1, h⟩ := bd_s h
  refine wo_Vi (rest := []) C hW (kX4_costIn l D g ad (q := q) h2 h1 hh_1) (cwV 2 hts gX4_priceFor_X4_costIn rfl rfl rfl (by decide +kernel) ⟨Nat.le_of_ble_eq_true rfl, Nat.le_of_ble_eq_true rfl⟩) (kt_o q h2 h1) (ct_o h2 h1) rfl rfl hl.1 rfl (Nat.le_of_ble_eq_true rfl) dX4_priceFor_3 ⟨Nat.zero_le _, Nat.zero_le _⟩ (fun H locs hW => ?_)
  refine lv_istore (lv' := [(4, .int r_3), (0, .ref (ad (q, 50, 0))), (1, .int v1), (2, .int v2), (3, .int v3)]) hx hb dX4_priceFor_6 hl (by decide) rfl (fun ls hl => ?_)
  refine lv_aload_n hx hb dX4_priceFor_8 rfl (lv_at hl 1 rfl) ?_
  refine wo_get (C := RX4) (T := TX4) (N := 12) hx hb hts iX4_priceFor_4 hown hW (kt_o q h2 h1) (ct_o h2 h1) rfl 5 (by decide) (hts _ mX4_priceFor_l9) (fun _ h9 => h9) rfl dX4_priceFor_9 ?_
  refine lv_iload_n hx hb dX4_priceFor_12 rfl (lv_at hl 2 rfl) ?_
  obtain ⟨hi_4, h⟩ := gi_s h
  refine xw_ald hx hb hW (kt_a q h2 h1 5 (by decide) (by decide)) (ct_6 h2 h1 (by decide)) hi_4 dX4_priceFor_13 ?_
  refine lv_iconst (v := 3) hx hb dX4_priceFor_14 (by decide) ?_
  refine lv_icmp_ne (tgt := 25) hx hb dX4_priceFor_15 (by decide) (fun c_5 => ?_) (fun c_5 => ?_)
  · have h := ite_n c_5 h
    refine lv_iload hx hb dX4_priceFor_25 (lv_at hl 0 rfl) ?_
    exact xw_iret C rfl hW dX4_priceFor_27 h
  have h := ite_p c_5 h
  refine lv_iload hx hb dX4_priceFor_18 (lv_at hl 0 rfl) ?_
  refine lv_iconst (v := 2) hx hb dX4_priceFor_20 (by decide) ?_
  refine lv_idiv hx hb dX4_priceFor_21 (by decide) ?_
  refine lv_goto (tgt := 27) hx hb dX4_priceFor_22 (by decide) ?_
  exact xw_iret C rfl hW dX4_priceFor_27 h
abbrev rX1_addPause : Room := { frames := 2, cells := 0, slots := 0, locals := 46 }
theorem mX1_addPause_l27 : Cond.fieldLink RX1 27 "NearlyBought$Market" "breaths" "[[I" ∈ wsX1_addPause := by decide +kernel
theorem mX1_addPause_l30 : Cond.fieldLink RX1 30 "NearlyBought$Market" "since" "[[I" ∈ wsX1_addPause := by decide +kernel
theorem mX1_addPause_l43 : Cond.fieldLink RX1 43 "NearlyBought$Market" "year" "I" ∈ wsX1_addPause := by decide +kernel
theorem mX1_addPause_l33 : Cond.fieldLink RX1 33 "NearlyBought$Market" "counted" "[[I" ∈ wsX1_addPause := by decide +kernel
theorem mX1_addPause_l39 : Cond.fieldLink RX1 39 "NearlyBought$Market" "tale" "LNearlyBought$Tale;" ∈ wsX1_addPause := by decide +kernel
theorem mX1_addPause_l36 : Cond.fieldLink RX1 36 "NearlyBought$Market" "price" "[[I" ∈ wsX1_addPause := by decide +kernel
theorem iX1_addPause_1 : ∀ w ∈ wsX10, w ∈ wsX1_addPause := fun _ h => List.mem_cons_of_mem _ (List.mem_append_left _ (List.mem_append_right _ h))
set_option maxHeartbeats 4000000 in
set_option maxRecDepth 100000 in
theorem tX1_addPause_b89 {p : Program} {l : Launch} {e : Env} {s : State} {m : MethodId} {args : Array Value} {below : List Frame} {meth : Method} {c : Code} {A : Nat → Prop} {D : va_G} {g : G3} {ad : Ky → Nat} (C : Cx p s m args meth c cX1_addPause none 4 RX1 wsX1_addPause A) {q : Nat} (hq : q < 12) {μ0 : Mem} {s0 s1 s2 : Int32} (hs0 : vp_in s0 6) {μ : Mem} {H : Heap} {locs : List Loc} {ls : Array Slot} (hW : WX D g keysX ad A s s.heap μ H locs) (hl : lv_has ls 4 []) (h : X1_addPause_b89 q s0 s1 s2 μ = some μ0) : TgV p l e rX1_addPause s m args below meth c D g keysX ad A μ0 H locs (F0 m 89 ls [.int s2, .int s1, .ref (ad (q, 9, s0.toNatClampNeg))]) := by
  obtain ⟨hx, hb, hr, hts, hown, hlocks, hml, hA⟩ := id C
  obtain ⟨hi_17, h⟩ := gi_s h
  refine xw_ast hx hb hW (km_r q hq 9 (by decide) (by decide) _ (vp_lt hs0)) (fun _ => (cm_r hq (by decide) (vp_lt hs0))) (am_a q hq 9 (by decide) (by decide)) hi_17 dX1_addPause_89 (fun H locs hW => ?_)
  exact xw_vret C rfl hW dX1_addPause_90 h
set_option maxHeartbeats 4000000 in
set_option maxRecDepth 100000 in
theorem kX1_addPause (l : Launch) (D : va_G) (g : G3) (ad : Ky → Nat) {q : Nat} (hq : q < 12) {v1 v2 v3 : Int32} {μ μ' : Mem} (h : X1_addPause q v1 v2 v3 μ = some μ') : CtV l yX1_addPause wsX1_addPause rX1_addPause D (tysX g) keysX ad (cX g ad) [.ref (ad (q, 50, 0)), .int v1, .int v2, .int v3] μ μ' := by
  refine ctV_of (cc := cX1_addPause) (maxL := 4) (ret := none) keysX_nd (by decide) rfl (Nat.le_of_ble_eq_true rfl) (fun p e s m below meth c A ls C hW hl => ?_)
  have hl : lv_has ls 4 [(0, .ref (ad (q, 50, 0))), (1, .int v1), (2, .int v2), (3, .int v3)] := hl
  obtain ⟨hx, hb, hr, hts, hown, hlocks, hml, hA⟩ := id C
  refine lv_iload_n hx hb dX1_addPause_0 rfl (lv_at hl 3 rfl) ?_
  refine lv_aload_n hx hb dX1_addPause_1 rfl (lv_at hl 0 rfl) ?_
  refine wo_get (C := RX1) (T := TX1) (N := 10) hx hb hts iX1_addPause_1 hown hW (km_o q hq) (cm_o hq) rfl 6 (by decide) (hts _ mX1_addPause_l27) (fun _ h9 => h9) rfl dX1_addPause_2 ?_
  refine lv_iload_n hx hb dX1_addPause_5 rfl (lv_at hl 1 rfl) ?_
  obtain ⟨hi_1, h⟩ := gi_s h
  refine wo_ldq hx hb hW (km_q q hq 6 (by decide) (by decide)) 1 rfl (cm_q hq (by decide)) rfl hi_1 dX1_addPause_6 ?_
  refine lv_iload_n hx hb dX1_addPause_7 rfl (lv_at hl 2 rfl) ?_
  obtain ⟨hi_2, h⟩ := gi_s h
  refine xw_ald hx hb hW (km_r q hq 6 (by decide) (by decide) _ (vp_lt hi_1)) (cm_r hq (by decide) (vp_lt hi_1)) hi_2 dX1_addPause_8 ?_
  refine lv_icmp_gt (tgt := 13) hx hb dX1_addPause_9 (by decide) (fun c_3 => ?_) (fun c_3 => ?_)
  · have h := ite_p c_3 h
    refine lv_aload_n hx hb dX1_addPause_13 rfl (lv_at hl 0 rfl) ?_
    refine wo_get (C := RX1) (T := TX1) (N := 10) hx hb hts iX1_addPause_1 hown hW (km_o q hq) (cm_o hq) rfl 6 (by decide) (hts _ mX1_addPause_l27) (fun _ h9 => h9) rfl dX1_addPause_14 ?_
    refine lv_iload_n hx hb dX1_addPause_17 rfl (lv_at hl 1 rfl) ?_
    obtain ⟨hi_4, h⟩ := gi_s h
    refine wo_ldq hx hb hW (km_q q hq 6 (by decide) (by decide)) 1 rfl (cm_q hq (by decide)) rfl hi_4 dX1_addPause_18 ?_
    refine lv_iload_n hx hb dX1_addPause_19 rfl (lv_at hl 2 rfl) ?_
    refine lv_iload_n hx hb dX1_addPause_20 rfl (lv_at hl 3 rfl) ?_
    obtain ⟨hi_5, h⟩ := gi_s h
    refine xw_ast hx hb hW (km_r q hq 6 (by decide) (by decide) _ (vp_lt hi_4)) (fun _ => (cm_r hq (by decide) (vp_lt hi_4))) (am_a q hq 6 (by decide) (by decide)) hi_5 dX1_addPause_21 (fun H locs hW => ?_)
    refine lv_aload_n hx hb dX1_addPause_22 rfl (lv_at hl 0 rfl) ?_
    refine wo_get (C := RX1) (T := TX1) (N := 10) hx hb hts iX1_addPause_1 hown hW (km_o q hq) (cm_o hq) rfl 7 (by decide) (hts _ mX1_addPause_l30) (fun _ h9 => h9) rfl dX1_addPause_23 ?_
    refine lv_iload_n hx hb dX1_addPause_26 rfl (lv_at hl 1 rfl) ?_
    obtain ⟨hi_6, h⟩ := gi_s h
    refine wo_ldq hx hb hW (km_q q hq 7 (by decide) (by decide)) 1 rfl (cm_q hq (by decide)) rfl hi_6 dX1_addPause_27 ?_
    refine lv_iload_n hx hb dX1_addPause_28 rfl (lv_at hl 2 rfl) ?_
    refine lv_aload_n hx hb dX1_addPause_29 rfl (lv_at hl 0 rfl) ?_
    refine wo_get (C := RX1) (T := TX1) (N := 10) hx hb hts iX1_addPause_1 hown hW (km_o q hq) (cm_o hq) rfl 1 (by decide) (hts _ mX1_addPause_l43) (fun _ h9 => h9) rfl dX1_addPause_30 ?_
    obtain ⟨hi_7, h⟩ := gi_s h
    refine xw_ast hx hb hW (km_r q hq 7 (by decide) (by decide) _ (vp_lt hi_6)) (fun _ => (cm_r hq (by decide) (vp_lt hi_6))) (am_a q hq 7 (by decide) (by decide)) hi_7 dX1_addPause_33 (fun H locs hW => ?_)
    refine lv_aload_n hx hb dX1_addPause_34 rfl (lv_at hl 0 rfl) ?_
    refine wo_get (C := RX1) (T := TX1) (N := 10) hx hb hts iX1_addPause_1 hown hW (km_o q hq) (cm_o hq) rfl 8 (by decide) (hts _ mX1_addPause_l33) (fun _ h9 => h9) rfl dX1_addPause_35 ?_
    refine lv_iload_n hx hb dX1_addPause_38 rfl (lv_at hl 1 rfl) ?_
    obtain ⟨hi_8, h⟩ := gi_s h
    refine wo_ldq hx hb hW (km_q q hq 8 (by decide) (by decide)) 1 rfl (cm_q hq (by decide)) rfl hi_8 dX1_addPause_39 ?_
    refine lv_iload_n hx hb dX1_addPause_40 rfl (lv_at hl 2 rfl) ?_
    refine lv_aload_n hx hb dX1_addPause_41 rfl (lv_at hl 0 rfl) ?_
    refine wo_get (C := RX1) (T := TX1) (N := 10) hx hb hts iX1_addPause_1 hown hW (km_o q hq) (cm_o hq) rfl 0 (by decide) (hts _ mX1_addPause_l39) (fun _ h9 => h9) rfl dX1_addPause_42 ?_
    refine lv_iload_n hx hb dX1_addPause_45 rfl (lv_at hl 1 rfl) ?_
    refine lv_iload_n hx hb dX1_addPause_46 rfl (lv_at hl 3 rfl) ?_
    obtain ⟨r_11, μ_10, hh_9, h⟩ := bd_s h
    refine wo_Vi (rest := [.int v2, .ref (ad (q, 8, v1.toNatClampNeg))]) C hW (kX4_countedFor l D g ad (q := 13) (by decide) (by decide) hh_9) (cwV 2 hts gX1_addPause_X4_countedFor rfl rfl rfl (by decide +kernel) ⟨Nat.le_of_ble_eq_true rfl, Nat.le_of_ble_eq_true rfl⟩) (kt_o 13 (by decide) (by decide)) (ct_o (by decide) (by decide)) rfl rfl hl.1 rfl (Nat.le_of_ble_eq_true rfl) dX1_addPause_47 ⟨Nat.zero_le _, Nat.zero_le _⟩ (fun H locs hW => ?_)
    obtain ⟨hi_12, h⟩ := gi_s h
    refine xw_ast hx hb hW (km_r q hq 8 (by decide) (by decide) _ (vp_lt hi_8)) (fun _ => (cm_r hq (by decide) (vp_lt hi_8))) (am_a q hq 8 (by decide) (by decide)) hi_12 dX1_addPause_50 (fun H locs hW => ?_)
    refine lv_aload_n hx hb dX1_addPause_51 rfl (lv_at hl 0 rfl) ?_
    refine wo_get (C := RX1) (T := TX1) (N := 10) hx hb hts iX1_addPause_1 hown hW (km_o q hq) (cm_o hq) rfl 9 (by decide) (hts _ mX1_addPause_l36) (fun _ h9 => h9) rfl dX1_addPause_52 ?_
    refine lv_iload_n hx hb dX1_addPause_55 rfl (lv_at hl 1 rfl) ?_
    obtain ⟨hi_13, h⟩ := gi_s h
    refine wo_ldq hx hb hW (km_q q hq 9 (by decide) (by decide)) 1 rfl (cm_q hq (by decide)) rfl hi_13 dX1_addPause_56 ?_
    refine lv_iload_n hx hb dX1_addPause_57 rfl (lv_at hl 2 rfl) ?_
    refine lv_aload_n hx hb dX1_addPause_58 rfl (lv_at hl 0 rfl) ?_
    refine wo_get (C := RX1) (T := TX1) (N := 10) hx hb hts iX1_addPause_1 hown hW (km_o q hq) (cm_o hq) rfl 8 (by decide) (hts _ mX1_addPause_l33) (fun _ h9 => h9) rfl dX1_addPause_59 ?_
    refine lv_iload_n hx hb dX1_addPause_62 rfl (lv_at hl 1 rfl) ?_
    obtain ⟨hi_14, h⟩ := gi_s h
    refine wo_ldq hx hb hW (km_q q hq 8 (by decide) (by decide)) 1 rfl (cm_q hq (by decide)) rfl hi_14 dX1_addPause_63 ?_
    refine lv_iload_n hx hb dX1_addPause_64 rfl (lv_at hl 2 rfl) ?_
    obtain ⟨hi_15, h⟩ := gi_s h
    refine xw_ald hx hb hW (km_r q hq 8 (by decide) (by decide) _ (vp_lt hi_14)) (cm_r hq (by decide) (vp_lt hi_14)) hi_15 dX1_addPause_65 ?_
    refine lv_bipush (v := 9) hx hb dX1_addPause_66 (by decide) ?_
    refine lv_icmp_lt (tgt := 87) hx hb dX1_addPause_68 (by decide) (fun c_16 => ?_) (fun c_16 => ?_)
    · have h := ite_p c_16 h
      refine lv_bipush (v := (-4)) hx hb dX1_addPause_87 (by decide) ?_
      exact tX1_addPause_b89 C hq hi_13 hW (lv_sub hl [] rfl) h
    have h := ite_n c_16 h
    refine lv_aload_n hx hb dX1_addPause_71 rfl (lv_at hl 0 rfl) ?_
    refine wo_get (C := RX1) (T := TX1) (N := 10) hx hb hts iX1_addPause_1 hown hW (km_o q hq) (cm_o hq) rfl 0 (by decide) (hts _ mX1_addPause_l39) (fun _ h9 => h9) rfl dX1_addPause_72 ?_
    refine lv_iload_n hx hb dX1_addPause_75 rfl (lv_at hl 1 rfl) ?_
    refine lv_iload_n hx hb dX1_addPause_76 rfl (lv_at hl 2 rfl) ?_
    refine lv_aload_n hx hb dX1_addPause_77 rfl (lv_at hl 0 rfl) ?_
    refine wo_get (C := RX1) (T := TX1) (N := 10) hx hb hts iX1_addPause_1 hown hW (km_o q hq) (cm_o hq) rfl 1 (by decide) (hts _ mX1_addPause_l43) (fun _ h9 => h9) rfl dX1_addPause_78 ?_
    obtain ⟨r_20, μ_19, hh_18, h⟩ := bd_s h
    refine wo_Vi (rest := [.int v2, .ref (ad (q, 9, v1.toNatClampNeg))]) C hW (kX4_priceFor l D g ad (q := 13) (by decide) (by decide) hh_18) (cwV 3 hts gX1_addPause_X4_priceFor rfl rfl rfl (by decide +kernel) ⟨Nat.le_of_ble_eq_true rfl, Nat.le_of_ble_eq_true rfl⟩) (kt_o 13 (by decide) (by decide)) (ct_o (by decide) (by decide)) rfl rfl hl.1 rfl (Nat.le_of_ble_eq_true rfl) dX1_addPause_81 ⟨Nat.zero_le _, Nat.zero_le _⟩ (fun H locs hW => ?_)
    refine lv_goto (tgt := 89) hx hb dX1_addPause_84 (by decide) ?_
    exact tX1_addPause_b89 C hq hi_13 hW (lv_sub hl [] rfl) h
  have h := ite_n c_3 h
  exact xw_vret C rfl hW dX1_addPause_12 h
abbrev rX1_addToldPauses : Room := { frames := 3, cells := 0, slots := 0, locals := 69 }
theorem mX1_addToldPauses_l39 : Cond.fieldLink RX1 39 "NearlyBought$Market" "tale" "LNearlyBought$Tale;" ∈ wsX1_addToldPauses := by decide +kernel
theorem mX1_addToldPauses_l74 : Cond.fieldLink RX1 74 "NearlyBought$Tale" "pauses" "I" ∈ wsX1_addToldPauses := by decide +kernel
theorem mX1_addToldPauses_l77 : Cond.fieldLink RX1 77 "NearlyBought$Tale" "pauseYear" "[I" ∈ wsX1_addToldPauses := by decide +kernel
theorem mX1_addToldPauses_l43 : Cond.fieldLink RX1 43 "NearlyBought$Market" "year" "I" ∈ wsX1_addToldPauses := by decide +kernel
theorem mX1_addToldPauses_l80 : Cond.fieldLink RX1 80 "NearlyBought$Tale" "pauser" "[I" ∈ wsX1_addToldPauses := by decide +kernel
theorem mX1_addToldPauses_l9 : Cond.fieldLink RX1 9 "NearlyBought$Market" "silent" "I" ∈ wsX1_addToldPauses := by decide +kernel
theorem mX1_addToldPauses_l83 : Cond.fieldLink RX1 83 "NearlyBought$Tale" "pausedAt" "[I" ∈ wsX1_addToldPauses := by decide +kernel
theorem mX1_addToldPauses_l86 : Cond.fieldLink RX1 86 "NearlyBought$Tale" "pauseBreaths" "[I" ∈ wsX1_addToldPauses := by decide +kernel
theorem iX1_addToldPauses_1 : ∀ w ∈ wsX10, w ∈ wsX1_addToldPauses := fun _ h => List.mem_cons_of_mem _ (List.mem_append_left _ (List.mem_append_right _ h))
theorem iX1_addToldPauses_4 : ∀ w ∈ wsX40, w ∈ wsX1_addToldPauses := fun _ h => List.mem_cons_of_mem _ (List.mem_append_right _ h)
set_option maxHeartbeats 4000000 in
set_option maxRecDepth 100000 in
theorem tX1_addToldPauses_b76 {p : Program} {l : Launch} {e : Env} {s : State} {m : MethodId} {args : Array Value} {below : List Frame} {meth : Method} {c : Code} {A : Nat → Prop} {D : va_G} {g : G3} {ad : Ky → Nat} (C : Cx p s m args meth c cX1_addToldPauses none 2 RX1 wsX1_addToldPauses A) {q : Nat} (hq : q < 12) {μ0 : Mem} {v1 : Int32} {k2 : Int32 → Mem → Option (Mem)} (h2 : ∀ (v1 : Int32) (μ : Mem) (H : Heap) (locs : List Loc) (ls : Array Slot), WX D g keysX ad A s s.heap μ H locs → lv_has ls 2 [(0, .ref (ad (q, 50, 0))), (1, .int v1)] → k2 v1 μ = some μ0 → TgV p l e rX1_addToldPauses s m args below meth c D g keysX ad A μ0 H locs (F0 m 2 ls [])) {μ : Mem} {H : Heap} {locs : List Loc} {ls : Array Slot} (hW : WX D g keysX ad A s s.heap μ H locs) (hl : lv_has ls 2 [(0, .ref (ad (q, 50, 0))), (1, .int v1)]) (h : X1_addToldPauses_b76 q k2 v1 μ = some μ0) : TgV p l e rX1_addToldPauses s m args below meth c D g keysX ad A μ0 H locs (F0 m 76 ls []) := by
  obtain ⟨hx, hb, hr, hts, hown, hlocks, hml, hA⟩ := id C
  refine lv_iinc (v := v1 + 1) (lv' := [(1, .int (v1 + 1)), (0, .ref (ad (q, 50, 0)))]) hx hb dX1_addToldPauses_76 hl (k := 1) rfl rfl (by decide) rfl (fun ls hl => ?_)
  refine lv_goto (tgt := 2) hx hb dX1_addToldPauses_79 (by decide) ?_
  exact h2 _ _ _ _ _ hW (lv_sub hl [1, 0] rfl) h
set_option maxHeartbeats 4000000 in
set_option maxRecDepth 100000 in
theorem tX1_addToldPauses_b2 {p : Program} {l : Launch} {e : Env} {s : State} {m : MethodId} {args : Array Value} {below : List Frame} {meth : Method} {c : Code} {A : Nat → Prop} {D : va_G} {g : G3} {ad : Ky → Nat} (C : Cx p s m args meth c cX1_addToldPauses none 2 RX1 wsX1_addToldPauses A) {q : Nat} (hq : q < 12) {μ0 : Mem} (n : Nat) : ∀ (v1 : Int32) (μ : Mem) (H : Heap) (locs : List Loc) (ls : Array Slot), WX D g keysX ad A s s.heap μ H locs → lv_has ls 2 [(0, .ref (ad (q, 50, 0))), (1, .int v1)] → lo1 (X1_addToldPauses_b2 q) n v1 μ = some μ0 → TgV p l e rX1_addToldPauses s m args below meth c D g keysX ad A μ0 H locs (F0 m 2 ls []) := by
  obtain ⟨hx, hb, hr, hts, hown, hlocks, hml, hA⟩ := id C
  induction n with
  | zero =>
    intro v1 μ H locs ls hW hl h
    cases h
  | succ n h2 =>
    intro v1 μ H locs ls hW hl h
    have h : X1_addToldPauses_b2 q (lo1 (X1_addToldPauses_b2 q) n) v1 μ = some μ0 := h
    refine lv_iload_n hx hb dX1_addToldPauses_2 rfl (lv_at hl 1 rfl) ?_
    refine lv_aload_n hx hb dX1_addToldPauses_3 rfl (lv_at hl 0 rfl) ?_
    refine wo_get (C := RX1) (T := TX1) (N := 10) hx hb hts iX1_addToldPauses_1 hown hW (km_o q hq) (cm_o hq) rfl 0 (by decide) (hts _ mX1_addToldPauses_l39) (fun _ h9 => h9) rfl dX1_addToldPauses_4 ?_
    refine wo_get (C := RX4) (T := TX4) (N := 12) hx hb hts iX1_addToldPauses_4 hown hW (kt_o 13 (by decide) (by decide)) (ct_o (by decide) (by decide)) rfl 2 (by decide) (hts _ mX1_addToldPauses_l74) (fun _ h9 => h9) rfl dX1_addToldPauses_7 ?_
    refine lv_icmp_ge (tgt := 82) hx hb dX1_addToldPauses_10 (by decide) (fun c_1 => ?_) (fun c_1 => ?_)
    · have h := ite_p c_1 h
      exact xw_vret C rfl hW dX1_addToldPauses_82 h
    have h := ite_n c_1 h
    refine lv_aload_n hx hb dX1_addToldPauses_13 rfl (lv_at hl 0 rfl) ?_
    refine wo_get (C := RX1) (T := TX1) (N := 10) hx hb hts iX1_addToldPauses_1 hown hW (km_o q hq) (cm_o hq) rfl 0 (by decide) (hts _ mX1_addToldPauses_l39) (fun _ h9 => h9) rfl dX1_addToldPauses_14 ?_
    refine wo_get (C := RX4) (T := TX4) (N := 12) hx hb hts iX1_addToldPauses_4 hown hW (kt_o 13 (by decide) (by decide)) (ct_o (by decide) (by decide)) rfl 11 (by decide) (hts _ mX1_addToldPauses_l77) (fun _ h9 => h9) rfl dX1_addToldPauses_17 ?_
    refine lv_iload_n hx hb dX1_addToldPauses_20 rfl (lv_at hl 1 rfl) ?_
    obtain ⟨hi_2, h⟩ := gi_s h
    refine xw_ald hx hb hW (kt_a 13 (by decide) (by decide) 11 (by decide) (by decide)) (ct_9 (by decide) (by decide) (by decide) (by decide)) hi_2 dX1_addToldPauses_21 ?_
    refine lv_aload_n hx hb dX1_addToldPauses_22 rfl (lv_at hl 0 rfl) ?_
    refine wo_get (C := RX1) (T := TX1) (N := 10) hx hb hts iX1_addToldPauses_1 hown hW (km_o q hq) (cm_o hq) rfl 1 (by decide) (hts _ mX1_addToldPauses_l43) (fun _ h9 => h9) rfl dX1_addToldPauses_23 ?_
    refine lv_icmp_ne (tgt := 76) hx hb dX1_addToldPauses_26 (by decide) (fun c_3 => ?_) (fun c_3 => ?_)
    · have h := ite_n c_3 h
      exact tX1_addToldPauses_b76 C hq h2 hW (lv_sub hl [0, 1] rfl) h
    have h := ite_p c_3 h
    refine lv_aload_n hx hb dX1_addToldPauses_29 rfl (lv_at hl 0 rfl) ?_
    refine wo_get (C := RX1) (T := TX1) (N := 10) hx hb hts iX1_addToldPauses_1 hown hW (km_o q hq) (cm_o hq) rfl 0 (by decide) (hts _ mX1_addToldPauses_l39) (fun _ h9 => h9) rfl dX1_addToldPauses_30 ?_
    refine wo_get (C := RX4) (T := TX4) (N := 12) hx hb hts iX1_addToldPauses_4 hown hW (kt_o 13 (by decide) (by decide)) (ct_o (by decide) (by decide)) rfl 8 (by decide) (hts _ mX1_addToldPauses_l80) (fun _ h9 => h9) rfl dX1_addToldPauses_33 ?_
    refine lv_iload_n hx hb dX1_addToldPauses_36 rfl (lv_at hl 1 rfl) ?_
    obtain ⟨hi_4, h⟩ := gi_s h
    refine xw_ald hx hb hW (kt_a 13 (by decide) (by decide) 8 (by decide) (by decide)) (ct_9 (by decide) (by decide) (by decide) (by decide)) hi_4 dX1_addToldPauses_37 ?_
    refine lv_aload_n hx hb dX1_addToldPauses_38 rfl (lv_at hl 0 rfl) ?_
    refine wo_get (C := RX1) (T := TX1) (N := 10) hx hb hts iX1_addToldPauses_1 hown hW (km_o q hq) (cm_o hq) rfl 2 (by decide) (hts _ mX1_addToldPauses_l9) (fun _ h9 => h9) rfl dX1_addToldPauses_39 ?_
    refine lv_icmp_eq (tgt := 76) hx hb dX1_addToldPauses_42 (by decide) (fun c_5 => ?_) (fun c_5 => ?_)
    · have h := ite_p c_5 h
      exact tX1_addToldPauses_b76 C hq h2 hW (lv_sub hl [0, 1] rfl) h
    have h := ite_n c_5 h
    refine lv_aload_n hx hb dX1_addToldPauses_45 rfl (lv_at hl 0 rfl) ?_
    refine lv_aload_n hx hb dX1_addToldPauses_46 rfl (lv_at hl 0 rfl) ?_
    refine wo_get (C := RX1) (T := TX1) (N := 10) hx hb hts iX1_addToldPauses_1 hown hW (km_o q hq) (cm_o hq) rfl 0 (by decide) (hts _ mX1_addToldPauses_l39) (fun _ h9 => h9) rfl dX1_addToldPauses_47 ?_
    refine wo_get (C := RX4) (T := TX4) (N := 12) hx hb hts iX1_addToldPauses_4 hown hW (kt_o 13 (by decide) (by decide)) (ct_o (by decide) (by decide)) rfl 8 (by decide) (hts _ mX1_addToldPauses_l80) (fun _ h9 => h9) rfl dX1_addToldPauses_50 ?_
    refine lv_iload_n hx hb dX1_addToldPauses_53 rfl (lv_at hl 1 rfl) ?_
    obtain ⟨hi_6, h⟩ := gi_s h
    refine xw_ald hx hb hW (kt_a 13 (by decide) (by decide) 8 (by decide) (by decide)) (ct_9 (by decide) (by decide) (by decide) (by decide)) hi_6 dX1_addToldPauses_54 ?_
    refine lv_aload_n hx hb dX1_addToldPauses_55 rfl (lv_at hl 0 rfl) ?_
    refine wo_get (C := RX1) (T := TX1) (N := 10) hx hb hts iX1_addToldPauses_1 hown hW (km_o q hq) (cm_o hq) rfl 0 (by decide) (hts _ mX1_addToldPauses_l39) (fun _ h9 => h9) rfl dX1_addToldPauses_56 ?_
    refine wo_get (C := RX4) (T := TX4) (N := 12) hx hb hts iX1_addToldPauses_4 hown hW (kt_o 13 (by decide) (by decide)) (ct_o (by decide) (by decide)) rfl 9 (by decide) (hts _ mX1_addToldPauses_l83) (fun _ h9 => h9) rfl dX1_addToldPauses_59 ?_
    refine lv_iload_n hx hb dX1_addToldPauses_62 rfl (lv_at hl 1 rfl) ?_
    obtain ⟨hi_7, h⟩ := gi_s h
    refine xw_ald hx hb hW (kt_a 13 (by decide) (by decide) 9 (by decide) (by decide)) (ct_9 (by decide) (by decide) (by decide) (by decide)) hi_7 dX1_addToldPauses_63 ?_
    refine lv_aload_n hx hb dX1_addToldPauses_64 rfl (lv_at hl 0 rfl) ?_
    refine wo_get (C := RX1) (T := TX1) (N := 10) hx hb hts iX1_addToldPauses_1 hown hW (km_o q hq) (cm_o hq) rfl 0 (by decide) (hts _ mX1_addToldPauses_l39) (fun _ h9 => h9) rfl dX1_addToldPauses_65 ?_
    refine wo_get (C := RX4) (T := TX4) (N := 12) hx hb hts iX1_addToldPauses_4 hown hW (kt_o 13 (by decide) (by decide)) (ct_o (by decide) (by decide)) rfl 10 (by decide) (hts _ mX1_addToldPauses_l86) (fun _ h9 => h9) rfl dX1_addToldPauses_68 ?_
    refine lv_iload_n hx hb dX1_addToldPauses_71 rfl (lv_at hl 1 rfl) ?_
    obtain ⟨hi_8, h⟩ := gi_s h
    refine xw_ald hx hb hW (kt_a 13 (by decide) (by decide) 10 (by decide) (by decide)) (ct_9 (by decide) (by decide) (by decide) (by decide)) hi_8 dX1_addToldPauses_72 ?_
    obtain ⟨μ_10, hh_9, h⟩ := bdv_s h
    refine wo_Vv (rest := []) C hW (kX1_addPause l D g ad (q := q) hq hh_9) (cwV 3 hts gX1_addToldPauses_X1_addPause rfl rfl rfl (by decide +kernel) ⟨Nat.le_of_ble_eq_true rfl, Nat.le_of_ble_eq_true rfl⟩) (km_o q hq) (cm_o hq) rfl rfl hl.1 rfl (Nat.le_of_ble_eq_true rfl) dX1_addToldPauses_73 ⟨Nat.zero_le _, Nat.zero_le _⟩ (fun H locs hW => ?_)
    exact tX1_addToldPauses_b76 C hq h2 hW (lv_sub hl [0, 1] rfl) h
set_option maxHeartbeats 4000000 in
set_option maxRecDepth 100000 in
theorem kX1_addToldPauses (l : Launch) (D : va_G) (g : G3) (ad : Ky → Nat) {q : Nat} (hq : q < 12) {μ μ' : Mem} (h : X1_addToldPauses q μ = some μ') : CtV l yX1_addToldPauses wsX1_addToldPauses rX1_addToldPauses D (tysX g) keysX ad (cX g ad) [.ref (ad (q, 50, 0))] μ μ' := by
  refine ctV_of (cc := cX1_addToldPauses) (maxL := 2) (ret := none) keysX_nd (by decide) rfl (Nat.le_of_ble_eq_true rfl) (fun p e s m below meth c A ls C hW hl => ?_)
  have hl : lv_has ls 2 [(0, .ref (ad (q, 50, 0)))] := hl
  obtain ⟨hx, hb, hr, hts, hown, hlocks, hml, hA⟩ := id C
  refine lv_iconst (v := 0) hx hb dX1_addToldPauses_0 (by decide) ?_
  refine lv_istore_n (lv' := [(1, .int 0), (0, .ref (ad (q, 50, 0)))]) hx hb dX1_addToldPauses_1 rfl hl (by decide) rfl (fun ls hl => ?_)
  exact tX1_addToldPauses_b2 C hq 1000 _ _ _ _ _ hW (lv_sub hl [1, 0] rfl) h
abbrev rX1_begin : Room := { frames := 4, cells := 0, slots := 0, locals := 90 }
theorem mX1_begin_l43 : Cond.fieldLink RX1 43 "NearlyBought$Market" "year" "I" ∈ wsX1_begin := by decide +kernel
theorem mX1_begin_l9 : Cond.fieldLink RX1 9 "NearlyBought$Market" "silent" "I" ∈ wsX1_begin := by decide +kernel
theorem mX1_begin_l39 : Cond.fieldLink RX1 39 "NearlyBought$Market" "tale" "LNearlyBought$Tale;" ∈ wsX1_begin := by decide +kernel
theorem mX1_begin_l46 : Cond.fieldLink RX1 46 "NearlyBought$Tale" "firstCoins" "[I" ∈ wsX1_begin := by decide +kernel
theorem mX1_begin_l15 : Cond.fieldLink RX1 15 "NearlyBought$Market" "coins" "[I" ∈ wsX1_begin := by decide +kernel
theorem mX1_begin_l51 : Cond.methodLink RX1 51 arraycopyName ∈ wsX1_begin := by decide +kernel
theorem mX1_begin_nat : Cond.native arraycopyName ∈ wsX1_begin := by decide +kernel
theorem mX1_begin_sta : Cond.static arraycopyName ∈ wsX1_begin := by decide +kernel
theorem mX1_begin_ins : Cond.initialized "java/lang/System" ∈ wsX1_begin := by decide +kernel
theorem mX1_begin_l19 : Cond.fieldLink RX1 19 "NearlyBought$Market" "owner" "[I" ∈ wsX1_begin := by decide +kernel
theorem mX1_begin_l22 : Cond.fieldLink RX1 22 "NearlyBought$Market" "missed" "[I" ∈ wsX1_begin := by decide +kernel
theorem mX1_begin_l27 : Cond.fieldLink RX1 27 "NearlyBought$Market" "breaths" "[[I" ∈ wsX1_begin := by decide +kernel
theorem mX1_begin_l30 : Cond.fieldLink RX1 30 "NearlyBought$Market" "since" "[[I" ∈ wsX1_begin := by decide +kernel
theorem mX1_begin_l33 : Cond.fieldLink RX1 33 "NearlyBought$Market" "counted" "[[I" ∈ wsX1_begin := by decide +kernel
theorem mX1_begin_l36 : Cond.fieldLink RX1 36 "NearlyBought$Market" "price" "[[I" ∈ wsX1_begin := by decide +kernel
theorem iX1_begin_1 : ∀ w ∈ wsX10, w ∈ wsX1_begin := fun _ h => List.mem_cons_of_mem _ (List.mem_append_left _ (List.mem_append_right _ h))
theorem iX1_begin_4 : ∀ w ∈ wsX40, w ∈ wsX1_begin := fun _ h => List.mem_cons_of_mem _ (List.mem_append_right _ h)
set_option maxHeartbeats 4000000 in
set_option maxRecDepth 100000 in
theorem tX1_begin_b47 {p : Program} {l : Launch} {e : Env} {s : State} {m : MethodId} {args : Array Value} {below : List Frame} {meth : Method} {c : Code} {A : Nat → Prop} {D : va_G} {g : G3} {ad : Ky → Nat} (C : Cx p s m args meth c cX1_begin none 3 RX1 wsX1_begin A) {q : Nat} (hq : q < 12) {μ0 : Mem} (n : Nat) : ∀ (v2 : Int32) (μ : Mem) (H : Heap) (locs : List Loc) (ls : Array Slot), WX D g keysX ad A s s.heap μ H locs → lv_has ls 3 [(0, .ref (ad (q, 50, 0))), (2, .int v2)] → lo1 (X1_begin_b47 q) n v2 μ = some μ0 → TgV p l e rX1_begin s m args below meth c D g keysX ad A μ0 H locs (F0 m 47 ls []) := by
  obtain ⟨hx, hb, hr, hts, hown, hlocks, hml, hA⟩ := id C
  induction n with
  | zero =>
    intro v2 μ H locs ls hW hl h
    cases h
  | succ n h47 =>
    intro v2 μ H locs ls hW hl h
    have h : X1_begin_b47 q (lo1 (X1_begin_b47 q) n) v2 μ = some μ0 := h
    refine lv_iload_n hx hb dX1_begin_47 rfl (lv_at hl 1 rfl) ?_
    refine lv_bipush (v := 6) hx hb dX1_begin_48 (by decide) ?_
    refine lv_icmp_ge (tgt := 101) hx hb dX1_begin_50 (by decide) (fun c_7 => ?_) (fun c_7 => ?_)
    · have h := ite_p c_7 h
      refine lv_aload_n hx hb dX1_begin_101 rfl (lv_at hl 0 rfl) ?_
      obtain ⟨μ_9, hh_8, h⟩ := bdv_s h
      refine wo_Vv (rest := []) C hW (kX1_addToldPauses l D g ad (q := q) hq hh_8) (cwV 0 hts gX1_begin_X1_addToldPauses rfl rfl rfl (by decide +kernel) ⟨Nat.le_of_ble_eq_true rfl, Nat.le_of_ble_eq_true rfl⟩) (km_o q hq) (cm_o hq) rfl rfl hl.1 rfl (Nat.le_of_ble_eq_true rfl) dX1_begin_102 ⟨Nat.zero_le _, Nat.zero_le _⟩ (fun H locs hW => ?_)
      exact xw_vret C rfl hW dX1_begin_105 h
    have h := ite_n c_7 h
    refine lv_aload_n hx hb dX1_begin_53 rfl (lv_at hl 0 rfl) ?_
    refine wo_get (C := RX1) (T := TX1) (N := 10) hx hb hts iX1_begin_1 hown hW (km_o q hq) (cm_o hq) rfl 6 (by decide) (hts _ mX1_begin_l27) (fun _ h9 => h9) rfl dX1_begin_54 ?_
    refine lv_iload_n hx hb dX1_begin_57 rfl (lv_at hl 1 rfl) ?_
    obtain ⟨hi_10, h⟩ := gi_s h
    refine wo_ldq hx hb hW (km_q q hq 6 (by decide) (by decide)) 1 rfl (cm_q hq (by decide)) rfl hi_10 dX1_begin_58 ?_
    refine lv_iconst (v := 0) hx hb dX1_begin_59 (by decide) ?_
    obtain ⟨μ_12, hh_11, h⟩ := bdv_s h
    refine wo_Sv (rest := []) C hW (kJ7_fill_53178 l D g ad (q := q) (f := 6) (i := v2.toNatClampNeg) (km_r q hq 6 (by decide) (by decide) _ (vp_lt hi_10)) (fun _ => (cm_r hq (by decide) (vp_lt hi_10))) (am_a q hq 6 (by decide) (by decide)) hh_11) (va_cwS 2 hts gX1_begin_J7_fill_53178 rfl rfl rfl (by decide +kernel) ⟨Nat.le_of_ble_eq_true rfl, Nat.le_of_ble_eq_true rfl⟩) rfl hl.1 rfl (Nat.le_of_ble_eq_true rfl) dX1_begin_60 ⟨Nat.zero_le _, Nat.zero_le _⟩ (fun H locs hW => ?_)
    refine lv_aload_n hx hb dX1_begin_63 rfl (lv_at hl 0 rfl) ?_
    refine wo_get (C := RX1) (T := TX1) (N := 10) hx hb hts iX1_begin_1 hown hW (km_o q hq) (cm_o hq) rfl 7 (by decide) (hts _ mX1_begin_l30) (fun _ h9 => h9) rfl dX1_begin_64 ?_
    refine lv_iload_n hx hb dX1_begin_67 rfl (lv_at hl 1 rfl) ?_
    obtain ⟨hi_13, h⟩ := gi_s h
    refine wo_ldq hx hb hW (km_q q hq 7 (by decide) (by decide)) 1 rfl (cm_q hq (by decide)) rfl hi_13 dX1_begin_68 ?_
    refine lv_bipush (v := (-4)) hx hb dX1_begin_69 (by decide) ?_
    obtain ⟨μ_15, hh_14, h⟩ := bdv_s h
    refine wo_Sv (rest := []) C hW (kJ7_fill_53178 l D g ad (q := q) (f := 7) (i := v2.toNatClampNeg) (km_r q hq 7 (by decide) (by decide) _ (vp_lt hi_13)) (fun _ => (cm_r hq (by decide) (vp_lt hi_13))) (am_a q hq 7 (by decide) (by decide)) hh_14) (va_cwS 2 hts gX1_begin_J7_fill_53178 rfl rfl rfl (by decide +kernel) ⟨Nat.le_of_ble_eq_true rfl, Nat.le_of_ble_eq_true rfl⟩) rfl hl.1 rfl (Nat.le_of_ble_eq_true rfl) dX1_begin_71 ⟨Nat.zero_le _, Nat.zero_le _⟩ (fun H locs hW => ?_)
    refine lv_aload_n hx hb dX1_begin_74 rfl (lv_at hl 0 rfl) ?_
    refine wo_get (C := RX1) (T := TX1) (N := 10) hx hb hts iX1_begin_1 hown hW (km_o q hq) (cm_o hq) rfl 8 (by decide) (hts _ mX1_begin_l33) (fun _ h9 => h9) rfl dX1_begin_75 ?_
    refine lv_iload_n hx hb dX1_begin_78 rfl (lv_at hl 1 rfl) ?_
    obtain ⟨hi_16, h⟩ := gi_s h
    refine wo_ldq hx hb hW (km_q q hq 8 (by decide) (by decide)) 1 rfl (cm_q hq (by decide)) rfl hi_16 dX1_begin_79 ?_
    refine lv_iconst (v := 0) hx hb dX1_begin_80 (by decide) ?_
    obtain ⟨μ_18, hh_17, h⟩ := bdv_s h
    refine wo_Sv (rest := []) C hW (kJ7_fill_53178 l D g ad (q := q) (f := 8) (i := v2.toNatClampNeg) (km_r q hq 8 (by decide) (by decide) _ (vp_lt hi_16)) (fun _ => (cm_r hq (by decide) (vp_lt hi_16))) (am_a q hq 8 (by decide) (by decide)) hh_17) (va_cwS 2 hts gX1_begin_J7_fill_53178 rfl rfl rfl (by decide +kernel) ⟨Nat.le_of_ble_eq_true rfl, Nat.le_of_ble_eq_true rfl⟩) rfl hl.1 rfl (Nat.le_of_ble_eq_true rfl) dX1_begin_81 ⟨Nat.zero_le _, Nat.zero_le _⟩ (fun H locs hW => ?_)
    refine lv_aload_n hx hb dX1_begin_84 rfl (lv_at hl 0 rfl) ?_
    refine wo_get (C := RX1) (T := TX1) (N := 10) hx hb hts iX1_begin_1 hown hW (km_o q hq) (cm_o hq) rfl 9 (by decide) (hts _ mX1_begin_l36) (fun _ h9 => h9) rfl dX1_begin_85 ?_
    refine lv_iload_n hx hb dX1_begin_88 rfl (lv_at hl 1 rfl) ?_
    obtain ⟨hi_19, h⟩ := gi_s h
    refine wo_ldq hx hb hW (km_q q hq 9 (by decide) (by decide)) 1 rfl (cm_q hq (by decide)) rfl hi_19 dX1_begin_89 ?_
    refine lv_bipush (v := (-4)) hx hb dX1_begin_90 (by decide) ?_
    obtain ⟨μ_21, hh_20, h⟩ := bdv_s h
    refine wo_Sv (rest := []) C hW (kJ7_fill_53178 l D g ad (q := q) (f := 9) (i := v2.toNatClampNeg) (km_r q hq 9 (by decide) (by decide) _ (vp_lt hi_19)) (fun _ => (cm_r hq (by decide) (vp_lt hi_19))) (am_a q hq 9 (by decide) (by decide)) hh_20) (va_cwS 2 hts gX1_begin_J7_fill_53178 rfl rfl rfl (by decide +kernel) ⟨Nat.le_of_ble_eq_true rfl, Nat.le_of_ble_eq_true rfl⟩) rfl hl.1 rfl (Nat.le_of_ble_eq_true rfl) dX1_begin_92 ⟨Nat.zero_le _, Nat.zero_le _⟩ (fun H locs hW => ?_)
    refine lv_iinc (v := v2 + 1) (lv' := [(2, .int (v2 + 1)), (0, .ref (ad (q, 50, 0)))]) hx hb dX1_begin_95 hl (k := 1) rfl rfl (by decide) rfl (fun ls hl => ?_)
    refine lv_goto (tgt := 47) hx hb dX1_begin_98 (by decide) ?_
    exact h47 _ _ _ _ _ hW (lv_sub hl [1, 0] rfl) h
set_option maxHeartbeats 4000000 in
set_option maxRecDepth 100000 in
theorem kX1_begin (l : Launch) (D : va_G) (g : G3) (ad : Ky → Nat) {q : Nat} (hq : q < 12) {v1 : Int32} {μ μ' : Mem} (h : X1_begin q v1 μ = some μ') : CtV l yX1_begin wsX1_begin rX1_begin D (tysX g) keysX ad (cX g ad) [.ref (ad (q, 50, 0)), .int v1] μ μ' := by
  refine ctV_of (cc := cX1_begin) (maxL := 3) (ret := none) keysX_nd (by decide) rfl (Nat.le_of_ble_eq_true rfl) (fun p e s m below meth c A ls C hW hl => ?_)
  have hl : lv_has ls 3 [(0, .ref (ad (q, 50, 0))), (1, .int v1)] := hl
  obtain ⟨hx, hb, hr, hts, hown, hlocks, hml, hA⟩ := id C
  refine lv_aload_n hx hb dX1_begin_0 rfl (lv_at hl 0 rfl) ?_
  refine lv_iconst (v := 0) hx hb dX1_begin_1 (by decide) ?_
  refine xw_put (C := RX1) (T := TX1) (N := 10) hx hb hts iX1_begin_1 tyX1 tyX1_ok nmX1 hown hW (km_o q hq) (cm_o hq) rfl 1 (by decide) (hts _ mX1_begin_l43) (fun _ h9 => h9) rfl (by decide +kernel) (Nat.le_of_ble_eq_true rfl) keysX_ok (sm_s q hq 1 (by decide) (by decide)) (pm_1 hq _) dX1_begin_2 (fun H locs hW => ?_)
  refine lv_aload_n hx hb dX1_begin_5 rfl (lv_at hl 0 rfl) ?_
  refine lv_iload_n hx hb dX1_begin_6 rfl (lv_at hl 1 rfl) ?_
  refine xw_put (C := RX1) (T := TX1) (N := 10) hx hb hts iX1_begin_1 tyX1 tyX1_ok nmX1 hown hW (km_o q hq) (cm_o hq) rfl 2 (by decide) (hts _ mX1_begin_l9) (fun _ h9 => h9) rfl (by decide +kernel) (Nat.le_of_ble_eq_true rfl) keysX_ok (sm_s q hq 2 (by decide) (by decide)) (pm_2 hq _) dX1_begin_7 (fun H locs hW => ?_)
  refine lv_aload_n hx hb dX1_begin_10 rfl (lv_at hl 0 rfl) ?_
  refine wo_get (C := RX1) (T := TX1) (N := 10) hx hb hts iX1_begin_1 hown hW (km_o q hq) (cm_o hq) rfl 0 (by decide) (hts _ mX1_begin_l39) (fun _ h9 => h9) rfl dX1_begin_11 ?_
  refine wo_get (C := RX4) (T := TX4) (N := 12) hx hb hts iX1_begin_4 hown hW (kt_o 13 (by decide) (by decide)) (ct_o (by decide) (by decide)) rfl 6 (by decide) (hts _ mX1_begin_l46) (fun _ h9 => h9) rfl dX1_begin_14 ?_
  refine lv_iconst (v := 0) hx hb dX1_begin_17 (by decide) ?_
  refine lv_aload_n hx hb dX1_begin_18 rfl (lv_at hl 0 rfl) ?_
  refine wo_get (C := RX1) (T := TX1) (N := 10) hx hb hts iX1_begin_1 hown hW (km_o q hq) (cm_o hq) rfl 3 (by decide) (hts _ mX1_begin_l15) (fun _ h9 => h9) rfl dX1_begin_19 ?_
  refine lv_iconst (v := 0) hx hb dX1_begin_22 (by decide) ?_
  refine lv_bipush (v := 6) hx hb dX1_begin_23 (by decide) ?_
  refine xw_cpy (ls := ls) (rest := []) (n' := 6) hx hb (hml.trans hl.1.symm) hown (hts _ mX1_begin_l51) (hts _ mX1_begin_nat) (hts _ mX1_begin_sta) (hts _ mX1_begin_ins) hW (kt_a 13 (by decide) (by decide) 6 (by decide) (by decide)) (km_a q hq 3 (by decide) (by decide)) (ct_6 (by decide) (by decide) (by decide)) (fun _ => (cm_a hq (by decide))) (am_a q hq 3 (by decide) (by decide)) (by decide) rfl (by decide) (by decide) (Nat.le_of_ble_eq_true rfl) (Nat.le_of_ble_eq_true rfl) dX1_begin_25 (fun H locs hW => ?_)
  obtain ⟨μ_1, hk_2, h⟩ := mlt_s h
  rw [← hk_2] at hW
  refine lv_aload_n hx hb dX1_begin_28 rfl (lv_at hl 0 rfl) ?_
  refine wo_get (C := RX1) (T := TX1) (N := 10) hx hb hts iX1_begin_1 hown hW (km_o q hq) (cm_o hq) rfl 4 (by decide) (hts _ mX1_begin_l19) (fun _ h9 => h9) rfl dX1_begin_29 ?_
  refine lv_bipush (v := (-4)) hx hb dX1_begin_32 (by decide) ?_
  obtain ⟨μ_4, hh_3, h⟩ := bdv_s h
  refine wo_Sv (rest := []) C hW (kJ7_fill_53178 l D g ad (q := q) (f := 4) (i := 0) (km_a q hq 4 (by decide) (by decide)) (fun _ => (cm_a hq (by decide))) (am_a q hq 4 (by decide) (by decide)) hh_3) (va_cwS 2 hts gX1_begin_J7_fill_53178 rfl rfl rfl (by decide +kernel) ⟨Nat.le_of_ble_eq_true rfl, Nat.le_of_ble_eq_true rfl⟩) rfl hl.1 rfl (Nat.le_of_ble_eq_true rfl) dX1_begin_34 ⟨Nat.zero_le _, Nat.zero_le _⟩ (fun H locs hW => ?_)
  refine lv_aload_n hx hb dX1_begin_37 rfl (lv_at hl 0 rfl) ?_
  refine wo_get (C := RX1) (T := TX1) (N := 10) hx hb hts iX1_begin_1 hown hW (km_o q hq) (cm_o hq) rfl 5 (by decide) (hts _ mX1_begin_l22) (fun _ h9 => h9) rfl dX1_begin_38 ?_
  refine lv_iconst (v := 0) hx hb dX1_begin_41 (by decide) ?_
  obtain ⟨μ_6, hh_5, h⟩ := bdv_s h
  refine wo_Sv (rest := []) C hW (kJ7_fill_53178 l D g ad (q := q) (f := 5) (i := 0) (km_a q hq 5 (by decide) (by decide)) (fun _ => (cm_a hq (by decide))) (am_a q hq 5 (by decide) (by decide)) hh_5) (va_cwS 2 hts gX1_begin_J7_fill_53178 rfl rfl rfl (by decide +kernel) ⟨Nat.le_of_ble_eq_true rfl, Nat.le_of_ble_eq_true rfl⟩) rfl hl.1 rfl (Nat.le_of_ble_eq_true rfl) dX1_begin_42 ⟨Nat.zero_le _, Nat.zero_le _⟩ (fun H locs hW => ?_)
  refine lv_iconst (v := 0) hx hb dX1_begin_45 (by decide) ?_
  refine lv_istore_n (lv' := [(2, .int 0), (0, .ref (ad (q, 50, 0))), (1, .int v1)]) hx hb dX1_begin_46 rfl hl (by decide) rfl (fun ls hl => ?_)
  exact tX1_begin_b47 C hq 1000 _ _ _ _ _ hW (lv_sub hl [1, 0] rfl) h
abbrev rX1_dearestOf : Room := { frames := 0, cells := 0, slots := 0, locals := 0 }
theorem mX1_dearestOf_l39 : Cond.fieldLink RX1 39 "NearlyBought$Market" "tale" "LNearlyBought$Tale;" ∈ wsX1_dearestOf := by decide +kernel
theorem mX1_dearestOf_l96 : Cond.fieldLink RX1 96 "NearlyBought$Tale" "things" "I" ∈ wsX1_dearestOf := by decide +kernel
theorem mX1_dearestOf_l36 : Cond.fieldLink RX1 36 "NearlyBought$Market" "price" "[[I" ∈ wsX1_dearestOf := by decide +kernel
theorem iX1_dearestOf_1 : ∀ w ∈ wsX10, w ∈ wsX1_dearestOf := fun _ h => List.mem_cons_of_mem _ (List.mem_append_left _ (List.mem_append_right _ h))
theorem iX1_dearestOf_4 : ∀ w ∈ wsX40, w ∈ wsX1_dearestOf := fun _ h => List.mem_cons_of_mem _ (List.mem_append_right _ h)
set_option maxHeartbeats 4000000 in
set_option maxRecDepth 100000 in
theorem tX1_dearestOf_b37 {p : Program} {l : Launch} {e : Env} {s : State} {m : MethodId} {args : Array Value} {below : List Frame} {meth : Method} {c : Code} {A : Nat → Prop} {D : va_G} {g : G3} {ad : Ky → Nat} (C : Cx p s m args meth c cX1_dearestOf (some .int) 4 RX1 wsX1_dearestOf A) {q : Nat} (hq : q < 12) {r0 : Int32} {μ0 : Mem} {v1 v2 v3 : Int32} {k5 : Int32 → Int32 → Mem → Option (Int32 × Mem)} (h5 : ∀ (v2 v3 : Int32) (μ : Mem) (H : Heap) (locs : List Loc) (ls : Array Slot), WX D g keysX ad A s s.heap μ H locs → lv_has ls 4 [(0, .ref (ad (q, 50, 0))), (1, .int v1), (2, .int v2), (3, .int v3)] → k5 v2 v3 μ = some (r0, μ0) → TgI r0 p l e rX1_dearestOf s m args below meth c D g keysX ad A μ0 H locs (F0 m 5 ls [])) {μ : Mem} {H : Heap} {locs : List Loc} {ls : Array Slot} (hW : WX D g keysX ad A s s.heap μ H locs) (hl : lv_has ls 4 [(0, .ref (ad (q, 50, 0))), (1, .int v1), (2, .int v2), (3, .int v3)]) (h : X1_dearestOf_b37 q k5 v1 v2 v3 μ = some (r0, μ0)) : TgI r0 p l e rX1_dearestOf s m args below meth c D g keysX ad A μ0 H locs (F0 m 37 ls []) := by
  obtain ⟨hx, hb, hr, hts, hown, hlocks, hml, hA⟩ := id C
  refine lv_iinc (v := v3 + 1) (lv' := [(3, .int (v3 + 1)), (0, .ref (ad (q, 50, 0))), (1, .int v1), (2, .int v2)]) hx hb dX1_dearestOf_37 hl (k := 3) rfl rfl (by decide) rfl (fun ls hl => ?_)
  refine lv_goto (tgt := 5) hx hb dX1_dearestOf_40 (by decide) ?_
  exact h5 _ _ _ _ _ _ hW (lv_sub hl [1, 2, 3, 0] rfl) h
set_option maxHeartbeats 4000000 in
set_option maxRecDepth 100000 in
theorem tX1_dearestOf_b5 {p : Program} {l : Launch} {e : Env} {s : State} {m : MethodId} {args : Array Value} {below : List Frame} {meth : Method} {c : Code} {A : Nat → Prop} {D : va_G} {g : G3} {ad : Ky → Nat} (C : Cx p s m args meth c cX1_dearestOf (some .int) 4 RX1 wsX1_dearestOf A) {q : Nat} (hq : q < 12) {r0 : Int32} {μ0 : Mem} {v1 : Int32} (n : Nat) : ∀ (v2 v3 : Int32) (μ : Mem) (H : Heap) (locs : List Loc) (ls : Array Slot), WX D g keysX ad A s s.heap μ H locs → lv_has ls 4 [(0, .ref (ad (q, 50, 0))), (1, .int v1), (2, .int v2), (3, .int v3)] → lo2 (X1_dearestOf_b5 q v1) n v2 v3 μ = some (r0, μ0) → TgI r0 p l e rX1_dearestOf s m args below meth c D g keysX ad A μ0 H locs (F0 m 5 ls []) := by
  obtain ⟨hx, hb, hr, hts, hown, hlocks, hml, hA⟩ := id C
  induction n with
  | zero =>
    intro v2 v3 μ H locs ls hW hl h
    cases h
  | succ n h5 =>
    intro v2 v3 μ H locs ls hW hl h
    have h : X1_dearestOf_b5 q v1 (lo2 (X1_dearestOf_b5 q v1) n) v2 v3 μ = some (r0, μ0) := h
    refine lv_iload_n hx hb dX1_dearestOf_5 rfl (lv_at hl 3 rfl) ?_
    refine lv_aload_n hx hb dX1_dearestOf_6 rfl (lv_at hl 0 rfl) ?_
    refine wo_get (C := RX1) (T := TX1) (N := 10) hx hb hts iX1_dearestOf_1 hown hW (km_o q hq) (cm_o hq) rfl 0 (by decide) (hts _ mX1_dearestOf_l39) (fun _ h9 => h9) rfl dX1_dearestOf_7 ?_
    refine wo_get (C := RX4) (T := TX4) (N := 12) hx hb hts iX1_dearestOf_4 hown hW (kt_o 13 (by decide) (by decide)) (ct_o (by decide) (by decide)) rfl 1 (by decide) (hts _ mX1_dearestOf_l96) (fun _ h9 => h9) rfl dX1_dearestOf_10 ?_
    refine lv_icmp_ge (tgt := 43) hx hb dX1_dearestOf_13 (by decide) (fun c_1 => ?_) (fun c_1 => ?_)
    · have h := ite_p c_1 h
      refine lv_iload_n hx hb dX1_dearestOf_43 rfl (lv_at hl 2 rfl) ?_
      exact xw_iret C rfl hW dX1_dearestOf_44 h
    have h := ite_n c_1 h
    refine lv_aload_n hx hb dX1_dearestOf_16 rfl (lv_at hl 0 rfl) ?_
    refine wo_get (C := RX1) (T := TX1) (N := 10) hx hb hts iX1_dearestOf_1 hown hW (km_o q hq) (cm_o hq) rfl 9 (by decide) (hts _ mX1_dearestOf_l36) (fun _ h9 => h9) rfl dX1_dearestOf_17 ?_
    refine lv_iload_n hx hb dX1_dearestOf_20 rfl (lv_at hl 1 rfl) ?_
    obtain ⟨hi_2, h⟩ := gi_s h
    refine wo_ldq hx hb hW (km_q q hq 9 (by decide) (by decide)) 1 rfl (cm_q hq (by decide)) rfl hi_2 dX1_dearestOf_21 ?_
    refine lv_iload_n hx hb dX1_dearestOf_22 rfl (lv_at hl 3 rfl) ?_
    obtain ⟨hi_3, h⟩ := gi_s h
    refine xw_ald hx hb hW (km_r q hq 9 (by decide) (by decide) _ (vp_lt hi_2)) (cm_r hq (by decide) (vp_lt hi_2)) hi_3 dX1_dearestOf_23 ?_
    refine lv_iload_n hx hb dX1_dearestOf_24 rfl (lv_at hl 2 rfl) ?_
    refine lv_icmp_le (tgt := 37) hx hb dX1_dearestOf_25 (by decide) (fun c_4 => ?_) (fun c_4 => ?_)
    · have h := ite_p c_4 h
      exact tX1_dearestOf_b37 C hq h5 hW (lv_sub hl [0, 1, 2, 3] rfl) h
    have h := ite_n c_4 h
    refine lv_aload_n hx hb dX1_dearestOf_28 rfl (lv_at hl 0 rfl) ?_
    refine wo_get (C := RX1) (T := TX1) (N := 10) hx hb hts iX1_dearestOf_1 hown hW (km_o q hq) (cm_o hq) rfl 9 (by decide) (hts _ mX1_dearestOf_l36) (fun _ h9 => h9) rfl dX1_dearestOf_29 ?_
    refine lv_iload_n hx hb dX1_dearestOf_32 rfl (lv_at hl 1 rfl) ?_
    obtain ⟨hi_5, h⟩ := gi_s h
    refine wo_ldq hx hb hW (km_q q hq 9 (by decide) (by decide)) 1 rfl (cm_q hq (by decide)) rfl hi_5 dX1_dearestOf_33 ?_
    refine lv_iload_n hx hb dX1_dearestOf_34 rfl (lv_at hl 3 rfl) ?_
    obtain ⟨hi_6, h⟩ := gi_s h
    refine xw_ald hx hb hW (km_r q hq 9 (by decide) (by decide) _ (vp_lt hi_5)) (cm_r hq (by decide) (vp_lt hi_5)) hi_6 dX1_dearestOf_35 ?_
    refine lv_istore_n (lv' := [(2, .int (μ q 9 v1.toNatClampNeg v3.toNatClampNeg)), (0, .ref (ad (q, 50, 0))), (1, .int v1), (3, .int v3)]) hx hb dX1_dearestOf_36 rfl hl (by decide) rfl (fun ls hl => ?_)
    exact tX1_dearestOf_b37 C hq h5 hW (lv_sub hl [1, 2, 0, 3] rfl) h
set_option maxHeartbeats 4000000 in
set_option maxRecDepth 100000 in
theorem kX1_dearestOf (l : Launch) (D : va_G) (g : G3) (ad : Ky → Nat) {q : Nat} (hq : q < 12) {v1 : Int32} {μ μ' : Mem} {r : Int32} (h : X1_dearestOf q v1 μ = some (r, μ')) : CtI l yX1_dearestOf wsX1_dearestOf rX1_dearestOf D (tysX g) keysX ad (cX g ad) [.ref (ad (q, 50, 0)), .int v1] μ r μ' := by
  refine ctI_of (cc := cX1_dearestOf) (maxL := 4) (ret := (some .int)) keysX_nd (by decide) rfl (Nat.le_of_ble_eq_true rfl) (fun p e s m below meth c A ls C hW hl => ?_)
  have hl : lv_has ls 4 [(0, .ref (ad (q, 50, 0))), (1, .int v1)] := hl
  obtain ⟨hx, hb, hr, hts, hown, hlocks, hml, hA⟩ := id C
  refine lv_bipush (v := (-4)) hx hb dX1_dearestOf_0 (by decide) ?_
  refine lv_istore_n (lv' := [(2, .int (-4)), (0, .ref (ad (q, 50, 0))), (1, .int v1)]) hx hb dX1_dearestOf_2 rfl hl (by decide) rfl (fun ls hl => ?_)
  refine lv_iconst (v := 0) hx hb dX1_dearestOf_3 (by decide) ?_
  refine lv_istore_n (lv' := [(3, .int 0), (2, .int (-4)), (0, .ref (ad (q, 50, 0))), (1, .int v1)]) hx hb dX1_dearestOf_4 rfl hl (by decide) rfl (fun ls hl => ?_)
  exact tX1_dearestOf_b5 C hq 1000 _ _ _ _ _ _ hW (lv_sub hl [2, 3, 1, 0] rfl) h
abbrev rX1_buyerInsteadOf : Room := { frames := 1, cells := 0, slots := 0, locals := 23 }
theorem mX1_buyerInsteadOf_l39 : Cond.fieldLink RX1 39 "NearlyBought$Market" "tale" "LNearlyBought$Tale;" ∈ wsX1_buyerInsteadOf := by decide +kernel
theorem mX1_buyerInsteadOf_l93 : Cond.fieldLink RX1 93 "NearlyBought$Tale" "persons" "I" ∈ wsX1_buyerInsteadOf := by decide +kernel
theorem mX1_buyerInsteadOf_l15 : Cond.fieldLink RX1 15 "NearlyBought$Market" "coins" "[I" ∈ wsX1_buyerInsteadOf := by decide +kernel
theorem iX1_buyerInsteadOf_1 : ∀ w ∈ wsX10, w ∈ wsX1_buyerInsteadOf := fun _ h => List.mem_cons_of_mem _ (List.mem_append_left _ (List.mem_append_right _ h))
theorem iX1_buyerInsteadOf_4 : ∀ w ∈ wsX40, w ∈ wsX1_buyerInsteadOf := fun _ h => List.mem_cons_of_mem _ (List.mem_append_right _ h)
set_option maxHeartbeats 4000000 in
set_option maxRecDepth 100000 in
theorem tX1_buyerInsteadOf_b60 {p : Program} {l : Launch} {e : Env} {s : State} {m : MethodId} {args : Array Value} {below : List Frame} {meth : Method} {c : Code} {A : Nat → Prop} {D : va_G} {g : G3} {ad : Ky → Nat} (C : Cx p s m args meth c cX1_buyerInsteadOf (some .int) 6 RX1 wsX1_buyerInsteadOf A) {q : Nat} (hq : q < 12) {r0 : Int32} {μ0 : Mem} {v1 v2 v3 v4 v5 : Int32} {k9 : Int32 → Int32 → Int32 → Mem → Option (Int32 × Mem)} (h9 : ∀ (v3 v4 v5 : Int32) (μ : Mem) (H : Heap) (locs : List Loc) (ls : Array Slot), WX D g keysX ad A s s.heap μ H locs → lv_has ls 6 [(0, .ref (ad (q, 50, 0))), (1, .int v1), (2, .int v2), (3, .int v3), (4, .int v4), (5, .int v5)] → k9 v3 v4 v5 μ = some (r0, μ0) → TgI r0 p l e rX1_buyerInsteadOf s m args below meth c D g keysX ad A μ0 H locs (F0 m 9 ls [])) {μ : Mem} {H : Heap} {locs : List Loc} {ls : Array Slot} (hW : WX D g keysX ad A s s.heap μ H locs) (hl : lv_has ls 6 [(0, .ref (ad (q, 50, 0))), (1, .int v1), (2, .int v2), (3, .int v3), (4, .int v4), (5, .int v5)]) (h : X1_buyerInsteadOf_b60 q k9 v1 v2 v3 v4 v5 μ = some (r0, μ0)) : TgI r0 p l e rX1_buyerInsteadOf s m args below meth c D g keysX ad A μ0 H locs (F0 m 60 ls []) := by
  obtain ⟨hx, hb, hr, hts, hown, hlocks, hml, hA⟩ := id C
  refine lv_iinc (v := v5 + 1) (lv' := [(5, .int (v5 + 1)), (0, .ref (ad (q, 50, 0))), (1, .int v1), (2, .int v2), (3, .int v3), (4, .int v4)]) hx hb dX1_buyerInsteadOf_60 hl (k := 5) rfl rfl (by decide) rfl (fun ls hl => ?_)
  refine lv_goto (tgt := 9) hx hb dX1_buyerInsteadOf_63 (by decide) ?_
  exact h9 _ _ _ _ _ _ _ hW (lv_sub hl [1, 2, 3, 4, 5, 0] rfl) h
set_option maxHeartbeats 4000000 in
set_option maxRecDepth 100000 in
theorem tX1_buyerInsteadOf_b9 {p : Program} {l : Launch} {e : Env} {s : State} {m : MethodId} {args : Array Value} {below : List Frame} {meth : Method} {c : Code} {A : Nat → Prop} {D : va_G} {g : G3} {ad : Ky → Nat} (C : Cx p s m args meth c cX1_buyerInsteadOf (some .int) 6 RX1 wsX1_buyerInsteadOf A) {q : Nat} (hq : q < 12) {r0 : Int32} {μ0 : Mem} {v1 v2 : Int32} (n : Nat) : ∀ (v3 v4 v5 : Int32) (μ : Mem) (H : Heap) (locs : List Loc) (ls : Array Slot), WX D g keysX ad A s s.heap μ H locs → lv_has ls 6 [(0, .ref (ad (q, 50, 0))), (1, .int v1), (2, .int v2), (3, .int v3), (4, .int v4), (5, .int v5)] → lo3 (X1_buyerInsteadOf_b9 q v1 v2) n v3 v4 v5 μ = some (r0, μ0) → TgI r0 p l e rX1_buyerInsteadOf s m args below meth c D g keysX ad A μ0 H locs (F0 m 9 ls []) := by
  obtain ⟨hx, hb, hr, hts, hown, hlocks, hml, hA⟩ := id C
  induction n with
  | zero =>
    intro v3 v4 v5 μ H locs ls hW hl h
    cases h
  | succ n h9 =>
    intro v3 v4 v5 μ H locs ls hW hl h
    have h : X1_buyerInsteadOf_b9 q v1 v2 (lo3 (X1_buyerInsteadOf_b9 q v1 v2) n) v3 v4 v5 μ = some (r0, μ0) := h
    refine lv_iload hx hb dX1_buyerInsteadOf_9 (lv_at hl 5 rfl) ?_
    refine lv_aload_n hx hb dX1_buyerInsteadOf_11 rfl (lv_at hl 0 rfl) ?_
    refine wo_get (C := RX1) (T := TX1) (N := 10) hx hb hts iX1_buyerInsteadOf_1 hown hW (km_o q hq) (cm_o hq) rfl 0 (by decide) (hts _ mX1_buyerInsteadOf_l39) (fun _ h9 => h9) rfl dX1_buyerInsteadOf_12 ?_
    refine wo_get (C := RX4) (T := TX4) (N := 12) hx hb hts iX1_buyerInsteadOf_4 hown hW (kt_o 13 (by decide) (by decide)) (ct_o (by decide) (by decide)) rfl 0 (by decide) (hts _ mX1_buyerInsteadOf_l93) (fun _ h9 => h9) rfl dX1_buyerInsteadOf_15 ?_
    refine lv_icmp_ge (tgt := 66) hx hb dX1_buyerInsteadOf_18 (by decide) (fun c_1 => ?_) (fun c_1 => ?_)
    · have h := ite_p c_1 h
      refine lv_iload_n hx hb dX1_buyerInsteadOf_66 rfl (lv_at hl 3 rfl) ?_
      exact xw_iret C rfl hW dX1_buyerInsteadOf_67 h
    have h := ite_n c_1 h
    refine lv_iload hx hb dX1_buyerInsteadOf_21 (lv_at hl 5 rfl) ?_
    refine lv_iload_n hx hb dX1_buyerInsteadOf_23 rfl (lv_at hl 1 rfl) ?_
    refine lv_icmp_eq (tgt := 60) hx hb dX1_buyerInsteadOf_24 (by decide) (fun c_2 => ?_) (fun c_2 => ?_)
    · have h := ite_p c_2 h
      exact tX1_buyerInsteadOf_b60 C hq h9 hW (lv_sub hl [0, 1, 2, 3, 4, 5] rfl) h
    have h := ite_n c_2 h
    refine lv_aload_n hx hb dX1_buyerInsteadOf_27 rfl (lv_at hl 0 rfl) ?_
    refine wo_get (C := RX1) (T := TX1) (N := 10) hx hb hts iX1_buyerInsteadOf_1 hown hW (km_o q hq) (cm_o hq) rfl 3 (by decide) (hts _ mX1_buyerInsteadOf_l15) (fun _ h9 => h9) rfl dX1_buyerInsteadOf_28 ?_
    refine lv_iload hx hb dX1_buyerInsteadOf_31 (lv_at hl 5 rfl) ?_
    obtain ⟨hi_3, h⟩ := gi_s h
    refine xw_ald hx hb hW (km_a q hq 3 (by decide) (by decide)) (cm_a hq (by decide)) hi_3 dX1_buyerInsteadOf_33 ?_
    refine lv_iload_n hx hb dX1_buyerInsteadOf_34 rfl (lv_at hl 2 rfl) ?_
    refine lv_icmp_lt (tgt := 60) hx hb dX1_buyerInsteadOf_35 (by decide) (fun c_4 => ?_) (fun c_4 => ?_)
    · have h := ite_p c_4 h
      exact tX1_buyerInsteadOf_b60 C hq h9 hW (lv_sub hl [0, 1, 2, 3, 4, 5] rfl) h
    have h := ite_n c_4 h
    refine lv_aload_n hx hb dX1_buyerInsteadOf_38 rfl (lv_at hl 0 rfl) ?_
    refine lv_iload hx hb dX1_buyerInsteadOf_39 (lv_at hl 5 rfl) ?_
    obtain ⟨r_7, μ_6, hh_5, h⟩ := bd_s h
    refine wo_Vi (rest := []) C hW (kX1_dearestOf l D g ad (q := q) hq hh_5) (cwV 1 hts gX1_buyerInsteadOf_X1_dearestOf rfl rfl rfl (by decide +kernel) ⟨Nat.le_of_ble_eq_true rfl, Nat.le_of_ble_eq_true rfl⟩) (km_o q hq) (cm_o hq) rfl rfl hl.1 rfl (Nat.le_of_ble_eq_true rfl) dX1_buyerInsteadOf_41 ⟨Nat.zero_le _, Nat.zero_le _⟩ (fun H locs hW => ?_)
    refine lv_iload hx hb dX1_buyerInsteadOf_44 (lv_at hl 4 rfl) ?_
    refine lv_icmp_le (tgt := 60) hx hb dX1_buyerInsteadOf_46 (by decide) (fun c_8 => ?_) (fun c_8 => ?_)
    · have h := ite_p c_8 h
      exact tX1_buyerInsteadOf_b60 C hq h9 hW (lv_sub hl [0, 1, 2, 3, 4, 5] rfl) h
    have h := ite_n c_8 h
    refine lv_iload hx hb dX1_buyerInsteadOf_49 (lv_at hl 5 rfl) ?_
    refine lv_istore_n (lv' := [(3, .int v5), (0, .ref (ad (q, 50, 0))), (1, .int v1), (2, .int v2), (4, .int v4), (5, .int v5)]) hx hb dX1_buyerInsteadOf_51 rfl hl (by decide) rfl (fun ls hl => ?_)
    refine lv_aload_n hx hb dX1_buyerInsteadOf_52 rfl (lv_at hl 1 rfl) ?_
    refine lv_iload hx hb dX1_buyerInsteadOf_53 (lv_at hl 5 rfl) ?_
    obtain ⟨r_11, μ_10, hh_9, h⟩ := bd_s h
    refine wo_Vi (rest := []) C hW (kX1_dearestOf l D g ad (q := q) hq hh_9) (cwV 1 hts gX1_buyerInsteadOf_X1_dearestOf rfl rfl rfl (by decide +kernel) ⟨Nat.le_of_ble_eq_true rfl, Nat.le_of_ble_eq_true rfl⟩) (km_o q hq) (cm_o hq) rfl rfl hl.1 rfl (Nat.le_of_ble_eq_true rfl) dX1_buyerInsteadOf_55 ⟨Nat.zero_le _, Nat.zero_le _⟩ (fun H locs hW => ?_)
    refine lv_istore (lv' := [(4, .int r_11), (3, .int v5), (0, .ref (ad (q, 50, 0))), (1, .int v1), (2, .int v2), (5, .int v5)]) hx hb dX1_buyerInsteadOf_58 hl (by decide) rfl (fun ls hl => ?_)
    exact tX1_buyerInsteadOf_b60 C hq h9 hW (lv_sub hl [2, 3, 4, 1, 0, 5] rfl) h
set_option maxHeartbeats 4000000 in
set_option maxRecDepth 100000 in
theorem kX1_buyerInsteadOf (l : Launch) (D : va_G) (g : G3) (ad : Ky → Nat) {q : Nat} (hq : q < 12) {v1 v2 : Int32} {μ μ' : Mem} {r : Int32} (h : X1_buyerInsteadOf q v1 v2 μ = some (r, μ')) : CtI l yX1_buyerInsteadOf wsX1_buyerInsteadOf rX1_buyerInsteadOf D (tysX g) keysX ad (cX g ad) [.ref (ad (q, 50, 0)), .int v1, .int v2] μ r μ' := by
  refine ctI_of (cc := cX1_buyerInsteadOf) (maxL := 6) (ret := (some .int)) keysX_nd (by decide) rfl (Nat.le_of_ble_eq_true rfl) (fun p e s m below meth c A ls C hW hl => ?_)
  have hl : lv_has ls 6 [(0, .ref (ad (q, 50, 0))), (1, .int v1), (2, .int v2)] := hl
  obtain ⟨hx, hb, hr, hts, hown, hlocks, hml, hA⟩ := id C
  refine lv_bipush (v := (-4)) hx hb dX1_buyerInsteadOf_0 (by decide) ?_
  refine lv_istore_n (lv' := [(3, .int (-4)), (0, .ref (ad (q, 50, 0))), (1, .int v1), (2, .int v2)]) hx hb dX1_buyerInsteadOf_2 rfl hl (by decide) rfl (fun ls hl => ?_)
  refine lv_iload_n hx hb dX1_buyerInsteadOf_3 rfl (lv_at hl 3 rfl) ?_
  refine lv_istore (lv' := [(4, .int v2), (3, .int (-4)), (0, .ref (ad (q, 50, 0))), (1, .int v1), (2, .int v2)]) hx hb dX1_buyerInsteadOf_4 hl (by decide) rfl (fun ls hl => ?_)
  refine lv_iconst (v := 0) hx hb dX1_buyerInsteadOf_6 (by decide) ?_
  refine lv_istore (lv' := [(5, .int 0), (4, .int v2), (3, .int (-4)), (0, .ref (ad (q, 50, 0))), (1, .int v1), (2, .int v2)]) hx hb dX1_buyerInsteadOf_7 hl (by decide) rfl (fun ls hl => ?_)
  exact tX1_buyerInsteadOf_b9 C hq 1000 _ _ _ _ _ _ _ hW (lv_sub hl [3, 4, 5, 2, 1, 0] rfl) h
abbrev rX1_claimantOf : Room := { frames := 0, cells := 0, slots := 0, locals := 0 }
theorem mX1_claimantOf_l39 : Cond.fieldLink RX1 39 "NearlyBought$Market" "tale" "LNearlyBought$Tale;" ∈ wsX1_claimantOf := by decide +kernel
theorem mX1_claimantOf_l93 : Cond.fieldLink RX1 93 "NearlyBought$Tale" "persons" "I" ∈ wsX1_claimantOf := by decide +kernel
theorem mX1_claimantOf_l33 : Cond.fieldLink RX1 33 "NearlyBought$Market" "counted" "[[I" ∈ wsX1_claimantOf := by decide +kernel
theorem iX1_claimantOf_1 : ∀ w ∈ wsX10, w ∈ wsX1_claimantOf := fun _ h => List.mem_cons_of_mem _ (List.mem_append_left _ (List.mem_append_right _ h))
theorem iX1_claimantOf_4 : ∀ w ∈ wsX40, w ∈ wsX1_claimantOf := fun _ h => List.mem_cons_of_mem _ (List.mem_append_right _ h)
set_option maxHeartbeats 4000000 in
set_option maxRecDepth 100000 in
theorem tX1_claimantOf_b47 {p : Program} {l : Launch} {e : Env} {s : State} {m : MethodId} {args : Array Value} {below : List Frame} {meth : Method} {c : Code} {A : Nat → Prop} {D : va_G} {g : G3} {ad : Ky → Nat} (C : Cx p s m args meth c cX1_claimantOf (some .int) 5 RX1 wsX1_claimantOf A) {q : Nat} (hq : q < 12) {r0 : Int32} {μ0 : Mem} {v1 v2 v3 v4 : Int32} {k9 : Int32 → Int32 → Int32 → Mem → Option (Int32 × Mem)} (h9 : ∀ (v2 v3 v4 : Int32) (μ : Mem) (H : Heap) (locs : List Loc) (ls : Array Slot), WX D g keysX ad A s s.heap μ H locs → lv_has ls 5 [(0, .ref (ad (q, 50, 0))), (1, .int v1), (2, .int v2), (3, .int v3), (4, .int v4)] → k9 v2 v3 v4 μ = some (r0, μ0) → TgI r0 p l e rX1_claimantOf s m args below meth c D g keysX ad A μ0 H locs (F0 m 9 ls [])) {μ : Mem} {H : Heap} {locs : List Loc} {ls : Array Slot} (hW : WX D g keysX ad A s s.heap μ H locs) (hl : lv_has ls 5 [(0, .ref (ad (q, 50, 0))), (1, .int v1), (2, .int v2), (3, .int v3), (4, .int v4)]) (h : X1_claimantOf_b47 q k9 v1 v2 v3 v4 μ = some (r0, μ0)) : TgI r0 p l e rX1_claimantOf s m args below meth c D g keysX ad A μ0 H locs (F0 m 47 ls []) := by
  obtain ⟨hx, hb, hr, hts, hown, hlocks, hml, hA⟩ := id C
  refine lv_iinc (v := v4 + 1) (lv' := [(4, .int (v4 + 1)), (0, .ref (ad (q, 50, 0))), (1, .int v1), (2, .int v2), (3, .int v3)]) hx hb dX1_claimantOf_47 hl (k := 4) rfl rfl (by decide) rfl (fun ls hl => ?_)
  refine lv_goto (tgt := 9) hx hb dX1_claimantOf_50 (by decide) ?_
  exact h9 _ _ _ _ _ _ _ hW (lv_sub hl [1, 2, 3, 4, 0] rfl) h
set_option maxHeartbeats 4000000 in
set_option maxRecDepth 100000 in
theorem tX1_claimantOf_b9 {p : Program} {l : Launch} {e : Env} {s : State} {m : MethodId} {args : Array Value} {below : List Frame} {meth : Method} {c : Code} {A : Nat → Prop} {D : va_G} {g : G3} {ad : Ky → Nat} (C : Cx p s m args meth c cX1_claimantOf (some .int) 5 RX1 wsX1_claimantOf A) {q : Nat} (hq : q < 12) {r0 : Int32} {μ0 : Mem} {v1 : Int32} (n : Nat) : ∀ (v2 v3 v4 : Int32) (μ : Mem) (H : Heap) (locs : List Loc) (ls : Array Slot), WX D g keysX ad A s s.heap μ H locs → lv_has ls 5 [(0, .ref (ad (q, 50, 0))), (1, .int v1), (2, .int v2), (3, .int v3), (4, .int v4)] → lo3 (X1_claimantOf_b9 q v1) n v2 v3 v4 μ = some (r0, μ0) → TgI r0 p l e rX1_claimantOf s m args below meth c D g keysX ad A μ0 H locs (F0 m 9 ls []) := by
  obtain ⟨hx, hb, hr, hts, hown, hlocks, hml, hA⟩ := id C
  induction n with
  | zero =>
    intro v2 v3 v4 μ H locs ls hW hl h
    cases h
  | succ n h9 =>
    intro v2 v3 v4 μ H locs ls hW hl h
    have h : X1_claimantOf_b9 q v1 (lo3 (X1_claimantOf_b9 q v1) n) v2 v3 v4 μ = some (r0, μ0) := h
    refine lv_iload hx hb dX1_claimantOf_9 (lv_at hl 4 rfl) ?_
    refine lv_aload_n hx hb dX1_claimantOf_11 rfl (lv_at hl 0 rfl) ?_
    refine wo_get (C := RX1) (T := TX1) (N := 10) hx hb hts iX1_claimantOf_1 hown hW (km_o q hq) (cm_o hq) rfl 0 (by decide) (hts _ mX1_claimantOf_l39) (fun _ h9 => h9) rfl dX1_claimantOf_12 ?_
    refine wo_get (C := RX4) (T := TX4) (N := 12) hx hb hts iX1_claimantOf_4 hown hW (kt_o 13 (by decide) (by decide)) (ct_o (by decide) (by decide)) rfl 0 (by decide) (hts _ mX1_claimantOf_l93) (fun _ h9 => h9) rfl dX1_claimantOf_15 ?_
    refine lv_icmp_ge (tgt := 53) hx hb dX1_claimantOf_18 (by decide) (fun c_1 => ?_) (fun c_1 => ?_)
    · have h := ite_p c_1 h
      refine lv_iload_n hx hb dX1_claimantOf_53 rfl (lv_at hl 2 rfl) ?_
      exact xw_iret C rfl hW dX1_claimantOf_54 h
    have h := ite_n c_1 h
    refine lv_aload_n hx hb dX1_claimantOf_21 rfl (lv_at hl 0 rfl) ?_
    refine wo_get (C := RX1) (T := TX1) (N := 10) hx hb hts iX1_claimantOf_1 hown hW (km_o q hq) (cm_o hq) rfl 8 (by decide) (hts _ mX1_claimantOf_l33) (fun _ h9 => h9) rfl dX1_claimantOf_22 ?_
    refine lv_iload hx hb dX1_claimantOf_25 (lv_at hl 4 rfl) ?_
    obtain ⟨hi_2, h⟩ := gi_s h
    refine wo_ldq hx hb hW (km_q q hq 8 (by decide) (by decide)) 1 rfl (cm_q hq (by decide)) rfl hi_2 dX1_claimantOf_27 ?_
    refine lv_iload_n hx hb dX1_claimantOf_28 rfl (lv_at hl 1 rfl) ?_
    obtain ⟨hi_3, h⟩ := gi_s h
    refine xw_ald hx hb hW (km_r q hq 8 (by decide) (by decide) _ (vp_lt hi_2)) (cm_r hq (by decide) (vp_lt hi_2)) hi_3 dX1_claimantOf_29 ?_
    refine lv_iload_n hx hb dX1_claimantOf_30 rfl (lv_at hl 3 rfl) ?_
    refine lv_icmp_le (tgt := 47) hx hb dX1_claimantOf_31 (by decide) (fun c_4 => ?_) (fun c_4 => ?_)
    · have h := ite_p c_4 h
      exact tX1_claimantOf_b47 C hq h9 hW (lv_sub hl [0, 1, 2, 3, 4] rfl) h
    have h := ite_n c_4 h
    refine lv_iload hx hb dX1_claimantOf_34 (lv_at hl 4 rfl) ?_
    refine lv_istore_n (lv' := [(2, .int v4), (0, .ref (ad (q, 50, 0))), (1, .int v1), (3, .int v3), (4, .int v4)]) hx hb dX1_claimantOf_36 rfl hl (by decide) rfl (fun ls hl => ?_)
    refine lv_aload_n hx hb dX1_claimantOf_37 rfl (lv_at hl 1 rfl) ?_
    refine wo_get (C := RX1) (T := TX1) (N := 10) hx hb hts iX1_claimantOf_1 hown hW (km_o q hq) (cm_o hq) rfl 8 (by decide) (hts _ mX1_claimantOf_l33) (fun _ h9 => h9) rfl dX1_claimantOf_38 ?_
    refine lv_iload hx hb dX1_claimantOf_41 (lv_at hl 4 rfl) ?_
    obtain ⟨hi_5, h⟩ := gi_s h
    refine wo_ldq hx hb hW (km_q q hq 8 (by decide) (by decide)) 1 rfl (cm_q hq (by decide)) rfl hi_5 dX1_claimantOf_43 ?_
    refine lv_iload_n hx hb dX1_claimantOf_44 rfl (lv_at hl 2 rfl) ?_
    obtain ⟨hi_6, h⟩ := gi_s h
    refine xw_ald hx hb hW (km_r q hq 8 (by decide) (by decide) _ (vp_lt hi_5)) (cm_r hq (by decide) (vp_lt hi_5)) hi_6 dX1_claimantOf_45 ?_
    refine lv_istore_n (lv' := [(3, .int (μ q 8 v4.toNatClampNeg v1.toNatClampNeg)), (2, .int v4), (0, .ref (ad (q, 50, 0))), (1, .int v1), (4, .int v4)]) hx hb dX1_claimantOf_46 rfl hl (by decide) rfl (fun ls hl => ?_)
    exact tX1_claimantOf_b47 C hq h9 hW (lv_sub hl [2, 3, 1, 0, 4] rfl) h
set_option maxHeartbeats 4000000 in
set_option maxRecDepth 100000 in
theorem kX1_claimantOf (l : Launch) (D : va_G) (g : G3) (ad : Ky → Nat) {q : Nat} (hq : q < 12) {v1 : Int32} {μ μ' : Mem} {r : Int32} (h : X1_claimantOf q v1 μ = some (r, μ')) : CtI l yX1_claimantOf wsX1_claimantOf rX1_claimantOf D (tysX g) keysX ad (cX g ad) [.ref (ad (q, 50, 0)), .int v1] μ r μ' := by
  refine ctI_of (cc := cX1_claimantOf) (maxL := 5) (ret := (some .int)) keysX_nd (by decide) rfl (Nat.le_of_ble_eq_true rfl) (fun p e s m below meth c A ls C hW hl => ?_)
  have hl : lv_has ls 5 [(0, .ref (ad (q, 50, 0))), (1, .int v1)] := hl
  obtain ⟨hx, hb, hr, hts, hown, hlocks, hml, hA⟩ := id C
  refine lv_bipush (v := (-4)) hx hb dX1_claimantOf_0 (by decide) ?_
  refine lv_istore_n (lv' := [(2, .int (-4)), (0, .ref (ad (q, 50, 0))), (1, .int v1)]) hx hb dX1_claimantOf_2 rfl hl (by decide) rfl (fun ls hl => ?_)
  refine lv_bipush (v := 8) hx hb dX1_claimantOf_3 (by decide) ?_
  refine lv_istore_n (lv' := [(3, .int 8), (2, .int (-4)), (0, .ref (ad (q, 50, 0))), (1, .int v1)]) hx hb dX1_claimantOf_5 rfl hl (by decide) rfl (fun ls hl => ?_)
  refine lv_iconst (v := 0) hx hb dX1_claimantOf_6 (by decide) ?_
  refine lv_istore (lv' := [(4, .int 0), (3, .int 8), (2, .int (-4)), (0, .ref (ad (q, 50, 0))), (1, .int v1)]) hx hb dX1_claimantOf_7 hl (by decide) rfl (fun ls hl => ?_)
  exact tX1_claimantOf_b9 C hq 1000 _ _ _ _ _ _ _ hW (lv_sub hl [3, 4, 2, 1, 0] rfl) h
abbrev rX1_coinsOfAll : Room := { frames := 0, cells := 0, slots := 0, locals := 0 }
theorem mX1_coinsOfAll_l39 : Cond.fieldLink RX1 39 "NearlyBought$Market" "tale" "LNearlyBought$Tale;" ∈ wsX1_coinsOfAll := by decide +kernel
theorem mX1_coinsOfAll_l93 : Cond.fieldLink RX1 93 "NearlyBought$Tale" "persons" "I" ∈ wsX1_coinsOfAll := by decide +kernel
theorem mX1_coinsOfAll_l15 : Cond.fieldLink RX1 15 "NearlyBought$Market" "coins" "[I" ∈ wsX1_coinsOfAll := by decide +kernel
theorem iX1_coinsOfAll_1 : ∀ w ∈ wsX10, w ∈ wsX1_coinsOfAll := fun _ h => List.mem_cons_of_mem _ (List.mem_append_left _ (List.mem_append_right _ h))
theorem iX1_coinsOfAll_4 : ∀ w ∈ wsX40, w ∈ wsX1_coinsOfAll := fun _ h => List.mem_cons_of_mem _ (List.mem_append_right _ h)
set_option maxHeartbeats 4000000 in
set_option maxRecDepth 100000 in
theorem tX1_coinsOfAll_b4 {p : Program} {l : Launch} {e : Env} {s : State} {m : MethodId} {args : Array Value} {below : List Frame} {meth : Method} {c : Code} {A : Nat → Prop} {D : va_G} {g : G3} {ad : Ky → Nat} (C : Cx p s m args meth c cX1_coinsOfAll (some .int) 3 RX1 wsX1_coinsOfAll A) {q : Nat} (hq : q < 12) {r0 : Int32} {μ0 : Mem} (n : Nat) : ∀ (v1 v2 : Int32) (μ : Mem) (H : Heap) (locs : List Loc) (ls : Array Slot), WX D g keysX ad A s s.heap μ H locs → lv_has ls 3 [(0, .ref (ad (q, 50, 0))), (1, .int v1), (2, .int v2)] → lo2 (X1_coinsOfAll_b4 q) n v1 v2 μ = some (r0, μ0) → TgI r0 p l e rX1_coinsOfAll s m args below meth c D g keysX ad A μ0 H locs (F0 m 4 ls []) := by
  obtain ⟨hx, hb, hr, hts, hown, hlocks, hml, hA⟩ := id C
  induction n with
  | zero =>
    intro v1 v2 μ H locs ls hW hl h
    cases h
  | succ n h4 =>
    intro v1 v2 μ H locs ls hW hl h
    have h : X1_coinsOfAll_b4 q (lo2 (X1_coinsOfAll_b4 q) n) v1 v2 μ = some (r0, μ0) := h
    refine lv_iload_n hx hb dX1_coinsOfAll_4 rfl (lv_at hl 2 rfl) ?_
    refine lv_aload_n hx hb dX1_coinsOfAll_5 rfl (lv_at hl 0 rfl) ?_
    refine wo_get (C := RX1) (T := TX1) (N := 10) hx hb hts iX1_coinsOfAll_1 hown hW (km_o q hq) (cm_o hq) rfl 0 (by decide) (hts _ mX1_coinsOfAll_l39) (fun _ h9 => h9) rfl dX1_coinsOfAll_6 ?_
    refine wo_get (C := RX4) (T := TX4) (N := 12) hx hb hts iX1_coinsOfAll_4 hown hW (kt_o 13 (by decide) (by decide)) (ct_o (by decide) (by decide)) rfl 0 (by decide) (hts _ mX1_coinsOfAll_l93) (fun _ h9 => h9) rfl dX1_coinsOfAll_9 ?_
    refine lv_icmp_ge (tgt := 30) hx hb dX1_coinsOfAll_12 (by decide) (fun c_1 => ?_) (fun c_1 => ?_)
    · have h := ite_p c_1 h
      refine lv_iload_n hx hb dX1_coinsOfAll_30 rfl (lv_at hl 1 rfl) ?_
      exact xw_iret C rfl hW dX1_coinsOfAll_31 h
    have h := ite_n c_1 h
    refine lv_iload_n hx hb dX1_coinsOfAll_15 rfl (lv_at hl 1 rfl) ?_
    refine lv_aload_n hx hb dX1_coinsOfAll_16 rfl (lv_at hl 0 rfl) ?_
    refine wo_get (C := RX1) (T := TX1) (N := 10) hx hb hts iX1_coinsOfAll_1 hown hW (km_o q hq) (cm_o hq) rfl 3 (by decide) (hts _ mX1_coinsOfAll_l15) (fun _ h9 => h9) rfl dX1_coinsOfAll_17 ?_
    refine lv_iload_n hx hb dX1_coinsOfAll_20 rfl (lv_at hl 2 rfl) ?_
    obtain ⟨hi_2, h⟩ := gi_s h
    refine xw_ald hx hb hW (km_a q hq 3 (by decide) (by decide)) (cm_a hq (by decide)) hi_2 dX1_coinsOfAll_21 ?_
    refine lv_iadd hx hb dX1_coinsOfAll_22 ?_
    refine lv_istore_n (lv' := [(1, .int (v1 + (μ q 3 0 v2.toNatClampNeg))), (0, .ref (ad (q, 50, 0))), (2, .int v2)]) hx hb dX1_coinsOfAll_23 rfl hl (by decide) rfl (fun ls hl => ?_)
    refine lv_iinc (v := v2 + 1) (lv' := [(2, .int (v2 + 1)), (1, .int (v1 + (μ q 3 0 v2.toNatClampNeg))), (0, .ref (ad (q, 50, 0)))]) hx hb dX1_coinsOfAll_24 hl (k := 2) rfl rfl (by decide) rfl (fun ls hl => ?_)
    refine lv_goto (tgt := 4) hx hb dX1_coinsOfAll_27 (by decide) ?_
    exact h4 _ _ _ _ _ _ hW (lv_sub hl [2, 1, 0] rfl) h
set_option maxHeartbeats 4000000 in
set_option maxRecDepth 100000 in
theorem kX1_coinsOfAll (l : Launch) (D : va_G) (g : G3) (ad : Ky → Nat) {q : Nat} (hq : q < 12) {μ μ' : Mem} {r : Int32} (h : X1_coinsOfAll q μ = some (r, μ')) : CtI l yX1_coinsOfAll wsX1_coinsOfAll rX1_coinsOfAll D (tysX g) keysX ad (cX g ad) [.ref (ad (q, 50, 0))] μ r μ' := by
  refine ctI_of (cc := cX1_coinsOfAll) (maxL := 3) (ret := (some .int)) keysX_nd (by decide) rfl (Nat.le_of_ble_eq_true rfl) (fun p e s m below meth c A ls C hW hl => ?_)
  have hl : lv_has ls 3 [(0, .ref (ad (q, 50, 0)))] := hl
  obtain ⟨hx, hb, hr, hts, hown, hlocks, hml, hA⟩ := id C
  refine lv_iconst (v := 0) hx hb dX1_coinsOfAll_0 (by decide) ?_
  refine lv_istore_n (lv' := [(1, .int 0), (0, .ref (ad (q, 50, 0)))]) hx hb dX1_coinsOfAll_1 rfl hl (by decide) rfl (fun ls hl => ?_)
  refine lv_iconst (v := 0) hx hb dX1_coinsOfAll_2 (by decide) ?_
  refine lv_istore_n (lv' := [(2, .int 0), (1, .int 0), (0, .ref (ad (q, 50, 0)))]) hx hb dX1_coinsOfAll_3 rfl hl (by decide) rfl (fun ls hl => ?_)
  exact tX1_coinsOfAll_b4 C hq 1000 _ _ _ _ _ _ hW (lv_sub hl [2, 1, 0] rfl) h
abbrev rX1_dearerTo : Room := { frames := 0, cells := 0, slots := 0, locals := 0 }
theorem mX1_dearerTo_l39 : Cond.fieldLink RX1 39 "NearlyBought$Market" "tale" "LNearlyBought$Tale;" ∈ wsX1_dearerTo := by decide +kernel
theorem mX1_dearerTo_l96 : Cond.fieldLink RX1 96 "NearlyBought$Tale" "things" "I" ∈ wsX1_dearerTo := by decide +kernel
theorem mX1_dearerTo_l36 : Cond.fieldLink RX1 36 "NearlyBought$Market" "price" "[[I" ∈ wsX1_dearerTo := by decide +kernel
theorem iX1_dearerTo_1 : ∀ w ∈ wsX10, w ∈ wsX1_dearerTo := fun _ h => List.mem_cons_of_mem _ (List.mem_append_left _ (List.mem_append_right _ h))
theorem iX1_dearerTo_4 : ∀ w ∈ wsX40, w ∈ wsX1_dearerTo := fun _ h => List.mem_cons_of_mem _ (List.mem_append_right _ h)
set_option maxHeartbeats 4000000 in
set_option maxRecDepth 100000 in
theorem tX1_dearerTo_b66 {p : Program} {l : Launch} {e : Env} {s : State} {m : MethodId} {args : Array Value} {below : List Frame} {meth : Method} {c : Code} {A : Nat → Prop} {D : va_G} {g : G3} {ad : Ky → Nat} (C : Cx p s m args meth c cX1_dearerTo (some .int) 5 RX1 wsX1_dearerTo A) {q : Nat} (hq : q < 12) {r0 : Int32} {μ0 : Mem} {v1 v2 v3 v4 : Int32} {k5 : Int32 → Int32 → Mem → Option (Int32 × Mem)} (h5 : ∀ (v3 v4 : Int32) (μ : Mem) (H : Heap) (locs : List Loc) (ls : Array Slot), WX D g keysX ad A s s.heap μ H locs → lv_has ls 5 [(0, .ref (ad (q, 50, 0))), (1, .int v1), (2, .int v2), (3, .int v3), (4, .int v4)] → k5 v3 v4 μ = some (r0, μ0) → TgI r0 p l e rX1_dearerTo s m args below meth c D g keysX ad A μ0 H locs (F0 m 5 ls [])) {μ : Mem} {H : Heap} {locs : List Loc} {ls : Array Slot} (hW : WX D g keysX ad A s s.heap μ H locs) (hl : lv_has ls 5 [(0, .ref (ad (q, 50, 0))), (1, .int v1), (2, .int v2), (3, .int v3), (4, .int v4)]) (h : X1_dearerTo_b66 q k5 v1 v2 v3 v4 μ = some (r0, μ0)) : TgI r0 p l e rX1_dearerTo s m args below meth c D g keysX ad A μ0 H locs (F0 m 66 ls []) := by
  obtain ⟨hx, hb, hr, hts, hown, hlocks, hml, hA⟩ := id C
  refine lv_iinc (v := v4 + 1) (lv' := [(4, .int (v4 + 1)), (0, .ref (ad (q, 50, 0))), (1, .int v1), (2, .int v2), (3, .int v3)]) hx hb dX1_dearerTo_66 hl (k := 4) rfl rfl (by decide) rfl (fun ls hl => ?_)
  refine lv_goto (tgt := 5) hx hb dX1_dearerTo_69 (by decide) ?_
  exact h5 _ _ _ _ _ _ hW (lv_sub hl [1, 2, 3, 4, 0] rfl) h
set_option maxHeartbeats 4000000 in
set_option maxRecDepth 100000 in
theorem tX1_dearerTo_b63 {p : Program} {l : Launch} {e : Env} {s : State} {m : MethodId} {args : Array Value} {below : List Frame} {meth : Method} {c : Code} {A : Nat → Prop} {D : va_G} {g : G3} {ad : Ky → Nat} (C : Cx p s m args meth c cX1_dearerTo (some .int) 5 RX1 wsX1_dearerTo A) {q : Nat} (hq : q < 12) {r0 : Int32} {μ0 : Mem} {v1 v2 v3 v4 : Int32} {k5 : Int32 → Int32 → Mem → Option (Int32 × Mem)} (h5 : ∀ (v3 v4 : Int32) (μ : Mem) (H : Heap) (locs : List Loc) (ls : Array Slot), WX D g keysX ad A s s.heap μ H locs → lv_has ls 5 [(0, .ref (ad (q, 50, 0))), (1, .int v1), (2, .int v2), (3, .int v3), (4, .int v4)] → k5 v3 v4 μ = some (r0, μ0) → TgI r0 p l e rX1_dearerTo s m args below meth c D g keysX ad A μ0 H locs (F0 m 5 ls [])) {μ : Mem} {H : Heap} {locs : List Loc} {ls : Array Slot} (hW : WX D g keysX ad A s s.heap μ H locs) (hl : lv_has ls 5 [(0, .ref (ad (q, 50, 0))), (1, .int v1), (2, .int v2), (3, .int v3), (4, .int v4)]) (h : X1_dearerTo_b63 q k5 v1 v2 v3 v4 μ = some (r0, μ0)) : TgI r0 p l e rX1_dearerTo s m args below meth c D g keysX ad A μ0 H locs (F0 m 63 ls []) := by
  obtain ⟨hx, hb, hr, hts, hown, hlocks, hml, hA⟩ := id C
  refine lv_iinc (v := v3 + 1) (lv' := [(3, .int (v3 + 1)), (0, .ref (ad (q, 50, 0))), (1, .int v1), (2, .int v2), (4, .int v4)]) hx hb dX1_dearerTo_63 hl (k := 3) rfl rfl (by decide) rfl (fun ls hl => ?_)
  exact tX1_dearerTo_b66 C hq h5 hW (lv_sub hl [1, 2, 3, 0, 4] rfl) h
set_option maxHeartbeats 4000000 in
set_option maxRecDepth 100000 in
theorem tX1_dearerTo_b5 {p : Program} {l : Launch} {e : Env} {s : State} {m : MethodId} {args : Array Value} {below : List Frame} {meth : Method} {c : Code} {A : Nat → Prop} {D : va_G} {g : G3} {ad : Ky → Nat} (C : Cx p s m args meth c cX1_dearerTo (some .int) 5 RX1 wsX1_dearerTo A) {q : Nat} (hq : q < 12) {r0 : Int32} {μ0 : Mem} {v1 v2 : Int32} (n : Nat) : ∀ (v3 v4 : Int32) (μ : Mem) (H : Heap) (locs : List Loc) (ls : Array Slot), WX D g keysX ad A s s.heap μ H locs → lv_has ls 5 [(0, .ref (ad (q, 50, 0))), (1, .int v1), (2, .int v2), (3, .int v3), (4, .int v4)] → lo2 (X1_dearerTo_b5 q v1 v2) n v3 v4 μ = some (r0, μ0) → TgI r0 p l e rX1_dearerTo s m args below meth c D g keysX ad A μ0 H locs (F0 m 5 ls []) := by
  obtain ⟨hx, hb, hr, hts, hown, hlocks, hml, hA⟩ := id C
  induction n with
  | zero =>
    intro v3 v4 μ H locs ls hW hl h
    cases h
  | succ n h5 =>
    intro v3 v4 μ H locs ls hW hl h
    have h : X1_dearerTo_b5 q v1 v2 (lo2 (X1_dearerTo_b5 q v1 v2) n) v3 v4 μ = some (r0, μ0) := h
    refine lv_iload hx hb dX1_dearerTo_5 (lv_at hl 4 rfl) ?_
    refine lv_aload_n hx hb dX1_dearerTo_7 rfl (lv_at hl 0 rfl) ?_
    refine wo_get (C := RX1) (T := TX1) (N := 10) hx hb hts iX1_dearerTo_1 hown hW (km_o q hq) (cm_o hq) rfl 0 (by decide) (hts _ mX1_dearerTo_l39) (fun _ h9 => h9) rfl dX1_dearerTo_8 ?_
    refine wo_get (C := RX4) (T := TX4) (N := 12) hx hb hts iX1_dearerTo_4 hown hW (kt_o 13 (by decide) (by decide)) (ct_o (by decide) (by decide)) rfl 1 (by decide) (hts _ mX1_dearerTo_l96) (fun _ h9 => h9) rfl dX1_dearerTo_11 ?_
    refine lv_icmp_ge (tgt := 72) hx hb dX1_dearerTo_14 (by decide) (fun c_1 => ?_) (fun c_1 => ?_)
    · have h := ite_p c_1 h
      refine lv_iload_n hx hb dX1_dearerTo_72 rfl (lv_at hl 3 rfl) ?_
      exact xw_iret C rfl hW dX1_dearerTo_73 h
    have h := ite_n c_1 h
    refine lv_aload_n hx hb dX1_dearerTo_17 rfl (lv_at hl 0 rfl) ?_
    refine wo_get (C := RX1) (T := TX1) (N := 10) hx hb hts iX1_dearerTo_1 hown hW (km_o q hq) (cm_o hq) rfl 9 (by decide) (hts _ mX1_dearerTo_l36) (fun _ h9 => h9) rfl dX1_dearerTo_18 ?_
    refine lv_iload_n hx hb dX1_dearerTo_21 rfl (lv_at hl 1 rfl) ?_
    obtain ⟨hi_2, h⟩ := gi_s h
    refine wo_ldq hx hb hW (km_q q hq 9 (by decide) (by decide)) 1 rfl (cm_q hq (by decide)) rfl hi_2 dX1_dearerTo_22 ?_
    refine lv_iload hx hb dX1_dearerTo_23 (lv_at hl 4 rfl) ?_
    obtain ⟨hi_3, h⟩ := gi_s h
    refine xw_ald hx hb hW (km_r q hq 9 (by decide) (by decide) _ (vp_lt hi_2)) (cm_r hq (by decide) (vp_lt hi_2)) hi_3 dX1_dearerTo_25 ?_
    refine lv_aload_n hx hb dX1_dearerTo_26 rfl (lv_at hl 0 rfl) ?_
    refine wo_get (C := RX1) (T := TX1) (N := 10) hx hb hts iX1_dearerTo_1 hown hW (km_o q hq) (cm_o hq) rfl 9 (by decide) (hts _ mX1_dearerTo_l36) (fun _ h9 => h9) rfl dX1_dearerTo_27 ?_
    refine lv_iload_n hx hb dX1_dearerTo_30 rfl (lv_at hl 1 rfl) ?_
    obtain ⟨hi_4, h⟩ := gi_s h
    refine wo_ldq hx hb hW (km_q q hq 9 (by decide) (by decide)) 1 rfl (cm_q hq (by decide)) rfl hi_4 dX1_dearerTo_31 ?_
    refine lv_iload_n hx hb dX1_dearerTo_32 rfl (lv_at hl 2 rfl) ?_
    obtain ⟨hi_5, h⟩ := gi_s h
    refine xw_ald hx hb hW (km_r q hq 9 (by decide) (by decide) _ (vp_lt hi_4)) (cm_r hq (by decide) (vp_lt hi_4)) hi_5 dX1_dearerTo_33 ?_
    refine lv_icmp_gt (tgt := 63) hx hb dX1_dearerTo_34 (by decide) (fun c_6 => ?_) (fun c_6 => ?_)
    · have h := ite_p c_6 h
      exact tX1_dearerTo_b63 C hq h5 hW (lv_sub hl [0, 1, 2, 3, 4] rfl) h
    have h := ite_n c_6 h
    refine lv_aload_n hx hb dX1_dearerTo_37 rfl (lv_at hl 0 rfl) ?_
    refine wo_get (C := RX1) (T := TX1) (N := 10) hx hb hts iX1_dearerTo_1 hown hW (km_o q hq) (cm_o hq) rfl 9 (by decide) (hts _ mX1_dearerTo_l36) (fun _ h9 => h9) rfl dX1_dearerTo_38 ?_
    refine lv_iload_n hx hb dX1_dearerTo_41 rfl (lv_at hl 1 rfl) ?_
    obtain ⟨hi_7, h⟩ := gi_s h
    refine wo_ldq hx hb hW (km_q q hq 9 (by decide) (by decide)) 1 rfl (cm_q hq (by decide)) rfl hi_7 dX1_dearerTo_42 ?_
    refine lv_iload hx hb dX1_dearerTo_43 (lv_at hl 4 rfl) ?_
    obtain ⟨hi_8, h⟩ := gi_s h
    refine xw_ald hx hb hW (km_r q hq 9 (by decide) (by decide) _ (vp_lt hi_7)) (cm_r hq (by decide) (vp_lt hi_7)) hi_8 dX1_dearerTo_45 ?_
    refine lv_aload_n hx hb dX1_dearerTo_46 rfl (lv_at hl 0 rfl) ?_
    refine wo_get (C := RX1) (T := TX1) (N := 10) hx hb hts iX1_dearerTo_1 hown hW (km_o q hq) (cm_o hq) rfl 9 (by decide) (hts _ mX1_dearerTo_l36) (fun _ h9 => h9) rfl dX1_dearerTo_47 ?_
    refine lv_iload_n hx hb dX1_dearerTo_50 rfl (lv_at hl 1 rfl) ?_
    obtain ⟨hi_9, h⟩ := gi_s h
    refine wo_ldq hx hb hW (km_q q hq 9 (by decide) (by decide)) 1 rfl (cm_q hq (by decide)) rfl hi_9 dX1_dearerTo_51 ?_
    refine lv_iload_n hx hb dX1_dearerTo_52 rfl (lv_at hl 2 rfl) ?_
    obtain ⟨hi_10, h⟩ := gi_s h
    refine xw_ald hx hb hW (km_r q hq 9 (by decide) (by decide) _ (vp_lt hi_9)) (cm_r hq (by decide) (vp_lt hi_9)) hi_10 dX1_dearerTo_53 ?_
    refine lv_icmp_ne (tgt := 66) hx hb dX1_dearerTo_54 (by decide) (fun c_11 => ?_) (fun c_11 => ?_)
    · have h := ite_n c_11 h
      exact tX1_dearerTo_b66 C hq h5 hW (lv_sub hl [0, 1, 2, 3, 4] rfl) h
    have h := ite_p c_11 h
    refine lv_iload hx hb dX1_dearerTo_57 (lv_at hl 4 rfl) ?_
    refine lv_iload_n hx hb dX1_dearerTo_59 rfl (lv_at hl 2 rfl) ?_
    refine lv_icmp_ge (tgt := 66) hx hb dX1_dearerTo_60 (by decide) (fun c_12 => ?_) (fun c_12 => ?_)
    · have h := ite_p c_12 h
      exact tX1_dearerTo_b66 C hq h5 hW (lv_sub hl [0, 1, 2, 3, 4] rfl) h
    have h := ite_n c_12 h
    exact tX1_dearerTo_b63 C hq h5 hW (lv_sub hl [0, 1, 2, 3, 4] rfl) h
set_option maxHeartbeats 4000000 in
set_option maxRecDepth 100000 in
theorem kX1_dearerTo (l : Launch) (D : va_G) (g : G3) (ad : Ky → Nat) {q : Nat} (hq : q < 12) {v1 v2 : Int32} {μ μ' : Mem} {r : Int32} (h : X1_dearerTo q v1 v2 μ = some (r, μ')) : CtI l yX1_dearerTo wsX1_dearerTo rX1_dearerTo D (tysX g) keysX ad (cX g ad) [.ref (ad (q, 50, 0)), .int v1, .int v2] μ r μ' := by
  refine ctI_of (cc := cX1_dearerTo) (maxL := 5) (ret := (some .int)) keysX_nd (by decide) rfl (Nat.le_of_ble_eq_true rfl) (fun p e s m below meth c A ls C hW hl => ?_)
  have hl : lv_has ls 5 [(0, .ref (ad (q, 50, 0))), (1, .int v1), (2, .int v2)] := hl
  obtain ⟨hx, hb, hr, hts, hown, hlocks, hml, hA⟩ := id C
  refine lv_iconst (v := 0) hx hb dX1_dearerTo_0 (by decide) ?_
  refine lv_istore_n (lv' := [(3, .int 0), (0, .ref (ad (q, 50, 0))), (1, .int v1), (2, .int v2)]) hx hb dX1_dearerTo_1 rfl hl (by decide) rfl (fun ls hl => ?_)
  refine lv_iconst (v := 0) hx hb dX1_dearerTo_2 (by decide) ?_
  refine lv_istore (lv' := [(4, .int 0), (3, .int 0), (0, .ref (ad (q, 50, 0))), (1, .int v1), (2, .int v2)]) hx hb dX1_dearerTo_3 hl (by decide) rfl (fun ls hl => ?_)
  exact tX1_dearerTo_b5 C hq 1000 _ _ _ _ _ _ hW (lv_sub hl [2, 3, 4, 1, 0] rfl) h
abbrev rX1_isFree : Room := { frames := 0, cells := 0, slots := 0, locals := 0 }
theorem mX1_isFree_l19 : Cond.fieldLink RX1 19 "NearlyBought$Market" "owner" "[I" ∈ wsX1_isFree := by decide +kernel
theorem iX1_isFree_1 : ∀ w ∈ wsX10, w ∈ wsX1_isFree := fun _ h => List.mem_cons_of_mem _ (List.mem_append_right _ h)
set_option maxHeartbeats 4000000 in
set_option maxRecDepth 100000 in
theorem kX1_isFree (l : Launch) (D : va_G) (g : G3) (ad : Ky → Nat) {q : Nat} (hq : q < 12) {v1 : Int32} {μ μ' : Mem} {r : Int32} (h : X1_isFree q v1 μ = some (r, μ')) : CtI l yX1_isFree wsX1_isFree rX1_isFree D (tysX g) keysX ad (cX g ad) [.ref (ad (q, 50, 0)), .int v1] μ r μ' := by
  refine ctI_of (cc := cX1_isFree) (maxL := 2) (ret := (some .boolean)) keysX_nd (by decide) rfl (Nat.le_of_ble_eq_true rfl) (fun p e s m below meth c A ls C hW hl => ?_)
  have hl : lv_has ls 2 [(0, .ref (ad (q, 50, 0))), (1, .int v1)] := hl
  obtain ⟨hx, hb, hr, hts, hown, hlocks, hml, hA⟩ := id C
  refine lv_aload_n hx hb dX1_isFree_0 rfl (lv_at hl 0 rfl) ?_
  refine wo_get (C := RX1) (T := TX1) (N := 10) hx hb hts iX1_isFree_1 hown hW (km_o q hq) (cm_o hq) rfl 4 (by decide) (hts _ mX1_isFree_l19) (fun _ h9 => h9) rfl dX1_isFree_1 ?_
  refine lv_iload_n hx hb dX1_isFree_4 rfl (lv_at hl 1 rfl) ?_
  obtain ⟨hi_1, h⟩ := gi_s h
  refine xw_ald hx hb hW (km_a q hq 4 (by decide) (by decide)) (cm_a hq (by decide)) hi_1 dX1_isFree_5 ?_
  refine lv_bipush (v := (-4)) hx hb dX1_isFree_6 (by decide) ?_
  refine lv_icmp_ne (tgt := 15) hx hb dX1_isFree_8 (by decide) (fun c_2 => ?_) (fun c_2 => ?_)
  · have h := ite_n c_2 h
    refine lv_iconst (v := 0) hx hb dX1_isFree_15 (by decide) ?_
    exact xw_zret C rfl (by decide) hW dX1_isFree_16 h
  have h := ite_p c_2 h
  refine lv_iconst (v := 1) hx hb dX1_isFree_11 (by decide) ?_
  refine lv_goto (tgt := 16) hx hb dX1_isFree_12 (by decide) ?_
  exact xw_zret C rfl (by decide) hW dX1_isFree_16 h
abbrev rX1_sell : Room := { frames := 2, cells := 0, slots := 0, locals := 48 }
theorem mX1_sell_l36 : Cond.fieldLink RX1 36 "NearlyBought$Market" "price" "[[I" ∈ wsX1_sell := by decide +kernel
theorem mX1_sell_l15 : Cond.fieldLink RX1 15 "NearlyBought$Market" "coins" "[I" ∈ wsX1_sell := by decide +kernel
theorem mX1_sell_l19 : Cond.fieldLink RX1 19 "NearlyBought$Market" "owner" "[I" ∈ wsX1_sell := by decide +kernel
theorem mX1_sell_l22 : Cond.fieldLink RX1 22 "NearlyBought$Market" "missed" "[I" ∈ wsX1_sell := by decide +kernel
theorem mX1_sell_l109 : Cond.methodLink RX1 109 Lib.Math.min.name ∈ wsX1_sell := by decide +kernel
theorem mX1_sell_stmin : Cond.static Lib.Math.min.name ∈ wsX1_sell := by decide +kernel
theorem mX1_sell_inm : Cond.initialized "java/lang/Math" ∈ wsX1_sell := by decide +kernel
theorem mX1_sell_comin : Cond.code Lib.Math.min.name Lib.Math.min.code 2 (some .int) ∈ wsX1_sell := by decide +kernel
theorem iX1_sell_1 : ∀ w ∈ wsX10, w ∈ wsX1_sell := fun _ h => List.mem_cons_of_mem _ (List.mem_append_left _ (List.mem_append_right _ h))
set_option maxHeartbeats 4000000 in
set_option maxRecDepth 100000 in
theorem tX1_sell_b77 {p : Program} {l : Launch} {e : Env} {s : State} {m : MethodId} {args : Array Value} {below : List Frame} {meth : Method} {c : Code} {A : Nat → Prop} {D : va_G} {g : G3} {ad : Ky → Nat} (C : Cx p s m args meth c cX1_sell (some .boolean) 5 RX1 wsX1_sell A) {q : Nat} (hq : q < 12) {r0 : Int32} {μ0 : Mem} {v1 v3 v4 : Int32} {μ : Mem} {H : Heap} {locs : List Loc} {ls : Array Slot} (hW : WX D g keysX ad A s s.heap μ H locs) (hl : lv_has ls 5 [(0, .ref (ad (q, 50, 0))), (1, .int v1), (3, .int v3), (4, .int v4)]) (h : X1_sell_b77 q v1 v3 v4 μ = some (r0, μ0)) : TgI r0 p l e rX1_sell s m args below meth c D g keysX ad A μ0 H locs (F0 m 77 ls []) := by
  obtain ⟨hx, hb, hr, hts, hown, hlocks, hml, hA⟩ := id C
  refine lv_iload hx hb dX1_sell_77 (lv_at hl 3 rfl) ?_
  refine lv_bipush (v := (-4)) hx hb dX1_sell_79 (by decide) ?_
  refine lv_icmp_ne (tgt := 86) hx hb dX1_sell_81 (by decide) (fun c_9 => ?_) (fun c_9 => ?_)
  · have h := ite_n c_9 h
    refine lv_aload_n hx hb dX1_sell_86 rfl (lv_at hl 0 rfl) ?_
    refine wo_get (C := RX1) (T := TX1) (N := 10) hx hb hts iX1_sell_1 hown hW (km_o q hq) (cm_o hq) rfl 3 (by decide) (hts _ mX1_sell_l15) (fun _ h9 => h9) rfl dX1_sell_87 ?_
    refine lv_iload hx hb dX1_sell_90 (lv_at hl 3 rfl) ?_
    refine lv_dup2_11 hx hb dX1_sell_92 rfl rfl ?_
    obtain ⟨hi_10, h⟩ := gi_s h
    refine xw_ald hx hb hW (km_a q hq 3 (by decide) (by decide)) (cm_a hq (by decide)) hi_10 dX1_sell_93 ?_
    refine lv_iload_n hx hb dX1_sell_94 rfl (lv_at hl 2 rfl) ?_
    refine lv_isub hx hb dX1_sell_95 ?_
    obtain ⟨hi_11, h⟩ := gi_s h
    refine xw_ast hx hb hW (km_a q hq 3 (by decide) (by decide)) (fun _ => (cm_a hq (by decide))) (am_a q hq 3 (by decide) (by decide)) hi_11 dX1_sell_96 (fun H locs hW => ?_)
    refine lv_aload_n hx hb dX1_sell_97 rfl (lv_at hl 0 rfl) ?_
    refine wo_get (C := RX1) (T := TX1) (N := 10) hx hb hts iX1_sell_1 hown hW (km_o q hq) (cm_o hq) rfl 4 (by decide) (hts _ mX1_sell_l19) (fun _ h9 => h9) rfl dX1_sell_98 ?_
    refine lv_iload_n hx hb dX1_sell_101 rfl (lv_at hl 1 rfl) ?_
    refine lv_iload hx hb dX1_sell_102 (lv_at hl 3 rfl) ?_
    obtain ⟨hi_12, h⟩ := gi_s h
    refine xw_ast hx hb hW (km_a q hq 4 (by decide) (by decide)) (fun _ => (cm_a hq (by decide))) (am_a q hq 4 (by decide) (by decide)) hi_12 dX1_sell_104 (fun H locs hW => ?_)
    refine lv_iconst (v := 1) hx hb dX1_sell_105 (by decide) ?_
    exact xw_zret C rfl (by decide) hW dX1_sell_106 h
  have h := ite_p c_9 h
  refine lv_iconst (v := 0) hx hb dX1_sell_84 (by decide) ?_
  exact xw_zret C rfl (by decide) hW dX1_sell_85 h
set_option maxHeartbeats 4000000 in
set_option maxRecDepth 100000 in
theorem tX1_sell_b75 {p : Program} {l : Launch} {e : Env} {s : State} {m : MethodId} {args : Array Value} {below : List Frame} {meth : Method} {c : Code} {A : Nat → Prop} {D : va_G} {g : G3} {ad : Ky → Nat} (C : Cx p s m args meth c cX1_sell (some .boolean) 5 RX1 wsX1_sell A) {q : Nat} (hq : q < 12) {r0 : Int32} {μ0 : Mem} {v1 v3 s0 : Int32} {μ : Mem} {H : Heap} {locs : List Loc} {ls : Array Slot} (hW : WX D g keysX ad A s s.heap μ H locs) (hl : lv_has ls 5 [(0, .ref (ad (q, 50, 0))), (1, .int v1), (3, .int v3)]) (h : X1_sell_b75 q v1 v3 s0 μ = some (r0, μ0)) : TgI r0 p l e rX1_sell s m args below meth c D g keysX ad A μ0 H locs (F0 m 75 ls [.int s0]) := by
  obtain ⟨hx, hb, hr, hts, hown, hlocks, hml, hA⟩ := id C
  refine lv_istore (lv' := [(4, .int s0), (0, .ref (ad (q, 50, 0))), (1, .int v1), (3, .int v3)]) hx hb dX1_sell_75 hl (by decide) rfl (fun ls hl => ?_)
  exact tX1_sell_b77 C hq hW (lv_sub hl [1, 2, 3, 0] rfl) h
set_option maxHeartbeats 4000000 in
set_option maxRecDepth 100000 in
theorem kX1_sell (l : Launch) (D : va_G) (g : G3) (ad : Ky → Nat) {q : Nat} (hq : q < 12) {v1 : Int32} {μ μ' : Mem} {r : Int32} (h : X1_sell q v1 μ = some (r, μ')) : CtI l yX1_sell wsX1_sell rX1_sell D (tysX g) keysX ad (cX g ad) [.ref (ad (q, 50, 0)), .int v1] μ r μ' := by
  refine ctI_of (cc := cX1_sell) (maxL := 5) (ret := (some .boolean)) keysX_nd (by decide) rfl (Nat.le_of_ble_eq_true rfl) (fun p e s m below meth c A ls C hW hl => ?_)
  have hl : lv_has ls 5 [(0, .ref (ad (q, 50, 0))), (1, .int v1)] := hl
  obtain ⟨hx, hb, hr, hts, hown, hlocks, hml, hA⟩ := id C
  refine lv_aload_n hx hb dX1_sell_0 rfl (lv_at hl 0 rfl) ?_
  refine lv_iload_n hx hb dX1_sell_1 rfl (lv_at hl 1 rfl) ?_
  obtain ⟨r_3, μ_2, hh_1, h⟩ := bd_s h
  refine wo_Vi (rest := []) C hW (kX1_claimantOf l D g ad (q := q) hq hh_1) (cwV 1 hts gX1_sell_X1_claimantOf rfl rfl rfl (by decide +kernel) ⟨Nat.le_of_ble_eq_true rfl, Nat.le_of_ble_eq_true rfl⟩) (km_o q hq) (cm_o hq) rfl rfl hl.1 rfl (Nat.le_of_ble_eq_true rfl) dX1_sell_2 ⟨Nat.zero_le _, Nat.zero_le _⟩ (fun H locs hW => ?_)
  refine lv_istore_n (lv' := [(2, .int r_3), (0, .ref (ad (q, 50, 0))), (1, .int v1)]) hx hb dX1_sell_5 rfl hl (by decide) rfl (fun ls hl => ?_)
  refine lv_iload_n hx hb dX1_sell_6 rfl (lv_at hl 0 rfl) ?_
  refine lv_bipush (v := (-4)) hx hb dX1_sell_7 (by decide) ?_
  refine lv_icmp_ne (tgt := 14) hx hb dX1_sell_9 (by decide) (fun c_4 => ?_) (fun c_4 => ?_)
  · have h := ite_n c_4 h
    refine lv_aload_n hx hb dX1_sell_14 rfl (lv_at hl 1 rfl) ?_
    refine wo_get (C := RX1) (T := TX1) (N := 10) hx hb hts iX1_sell_1 hown hW (km_o q hq) (cm_o hq) rfl 9 (by decide) (hts _ mX1_sell_l36) (fun _ h9 => h9) rfl dX1_sell_15 ?_
    refine lv_iload_n hx hb dX1_sell_18 rfl (lv_at hl 0 rfl) ?_
    obtain ⟨hi_5, h⟩ := gi_s h
    refine wo_ldq hx hb hW (km_q q hq 9 (by decide) (by decide)) 1 rfl (cm_q hq (by decide)) rfl hi_5 dX1_sell_19 ?_
    refine lv_iload_n hx hb dX1_sell_20 rfl (lv_at hl 2 rfl) ?_
    obtain ⟨hi_6, h⟩ := gi_s h
    refine xw_ald hx hb hW (km_r q hq 9 (by decide) (by decide) _ (vp_lt hi_5)) (cm_r hq (by decide) (vp_lt hi_5)) hi_6 dX1_sell_21 ?_
    refine lv_istore_n (lv' := [(3, .int (μ_2 q 9 r_3.toNatClampNeg v1.toNatClampNeg)), (2, .int r_3), (0, .ref (ad (q, 50, 0))), (1, .int v1)]) hx hb dX1_sell_22 rfl hl (by decide) rfl (fun ls hl => ?_)
    refine lv_iload_n hx hb dX1_sell_23 rfl (lv_at hl 1 rfl) ?_
    refine lv_istore (lv' := [(4, .int r_3), (3, .int (μ_2 q 9 r_3.toNatClampNeg v1.toNatClampNeg)), (2, .int r_3), (0, .ref (ad (q, 50, 0))), (1, .int v1)]) hx hb dX1_sell_24 hl (by decide) rfl (fun ls hl => ?_)
    refine lv_aload_n hx hb dX1_sell_26 rfl (lv_at hl 3 rfl) ?_
    refine wo_get (C := RX1) (T := TX1) (N := 10) hx hb hts iX1_sell_1 hown hW (km_o q hq) (cm_o hq) rfl 3 (by decide) (hts _ mX1_sell_l15) (fun _ h9 => h9) rfl dX1_sell_27 ?_
    refine lv_iload_n hx hb dX1_sell_30 rfl (lv_at hl 2 rfl) ?_
    obtain ⟨hi_7, h⟩ := gi_s h
    refine xw_ald hx hb hW (km_a q hq 3 (by decide) (by decide)) (cm_a hq (by decide)) hi_7 dX1_sell_31 ?_
    refine lv_iload_n hx hb dX1_sell_32 rfl (lv_at hl 1 rfl) ?_
    refine lv_icmp_ge (tgt := 77) hx hb dX1_sell_33 (by decide) (fun c_8 => ?_) (fun c_8 => ?_)
    · have h := ite_p c_8 h
      exact tX1_sell_b77 C hq hW (lv_sub hl [3, 4, 1, 0] rfl) h
    have h := ite_n c_8 h
    refine lv_aload_n hx hb dX1_sell_36 rfl (lv_at hl 3 rfl) ?_
    refine wo_get (C := RX1) (T := TX1) (N := 10) hx hb hts iX1_sell_1 hown hW (km_o q hq) (cm_o hq) rfl 5 (by decide) (hts _ mX1_sell_l22) (fun _ h9 => h9) rfl dX1_sell_37 ?_
    refine lv_iload_n hx hb dX1_sell_40 rfl (lv_at hl 4 rfl) ?_
    refine lv_aload_n hx hb dX1_sell_41 rfl (lv_at hl 3 rfl) ?_
    refine wo_get (C := RX1) (T := TX1) (N := 10) hx hb hts iX1_sell_1 hown hW (km_o q hq) (cm_o hq) rfl 5 (by decide) (hts _ mX1_sell_l22) (fun _ h9 => h9) rfl dX1_sell_42 ?_
    refine lv_iload_n hx hb dX1_sell_45 rfl (lv_at hl 4 rfl) ?_
    obtain ⟨hi_13, h⟩ := gi_s h
    refine xw_ald hx hb hW (km_a q hq 5 (by decide) (by decide)) (cm_a hq (by decide)) hi_13 dX1_sell_46 ?_
    refine lv_iconst (v := 1) hx hb dX1_sell_47 (by decide) ?_
    refine lv_iadd hx hb dX1_sell_48 ?_
    refine lv_iconst (v := 3) hx hb dX1_sell_49 (by decide) ?_
    refine va_mmin (ls := ls) (rest := [.int v1, .ref (ad (q, 5, 0))]) hx hb (hml.trans hl.1.symm) hown (hts _ mX1_sell_l109) (hts _ mX1_sell_stmin) (hts _ mX1_sell_inm) (hts _ mX1_sell_comin) (Nat.le_of_ble_eq_true rfl) (Nat.le_of_ble_eq_true rfl) (Nat.zero_le _) (Nat.zero_le _) dX1_sell_50 ?_
    obtain ⟨hi_14, h⟩ := gi_s h
    refine xw_ast hx hb hW (km_a q hq 5 (by decide) (by decide)) (fun _ => (cm_a hq (by decide))) (am_a q hq 5 (by decide) (by decide)) hi_14 dX1_sell_53 (fun H locs hW => ?_)
    refine lv_aload_n hx hb dX1_sell_54 rfl (lv_at hl 3 rfl) ?_
    refine wo_get (C := RX1) (T := TX1) (N := 10) hx hb hts iX1_sell_1 hown hW (km_o q hq) (cm_o hq) rfl 5 (by decide) (hts _ mX1_sell_l22) (fun _ h9 => h9) rfl dX1_sell_55 ?_
    refine lv_iload_n hx hb dX1_sell_58 rfl (lv_at hl 4 rfl) ?_
    obtain ⟨hi_15, h⟩ := gi_s h
    refine xw_ald hx hb hW (km_a q hq 5 (by decide) (by decide)) (cm_a hq (by decide)) hi_15 dX1_sell_59 ?_
    refine lv_iconst (v := 3) hx hb dX1_sell_60 (by decide) ?_
    refine lv_icmp_ne (tgt := 73) hx hb dX1_sell_61 (by decide) (fun c_16 => ?_) (fun c_16 => ?_)
    · have h := ite_n c_16 h
      refine lv_bipush (v := (-4)) hx hb dX1_sell_73 (by decide) ?_
      exact tX1_sell_b75 C hq hW (lv_sub hl [3, 4, 1] rfl) h
    have h := ite_p c_16 h
    refine lv_aload_n hx hb dX1_sell_64 rfl (lv_at hl 3 rfl) ?_
    refine lv_iload_n hx hb dX1_sell_65 rfl (lv_at hl 2 rfl) ?_
    refine lv_iload_n hx hb dX1_sell_66 rfl (lv_at hl 1 rfl) ?_
    obtain ⟨r_19, μ_18, hh_17, h⟩ := bd_s h
    refine wo_Vi (rest := []) C hW (kX1_buyerInsteadOf l D g ad (q := q) hq hh_17) (cwV 2 hts gX1_sell_X1_buyerInsteadOf rfl rfl rfl (by decide +kernel) ⟨Nat.le_of_ble_eq_true rfl, Nat.le_of_ble_eq_true rfl⟩) (km_o q hq) (cm_o hq) rfl rfl hl.1 rfl (Nat.le_of_ble_eq_true rfl) dX1_sell_67 ⟨Nat.zero_le _, Nat.zero_le _⟩ (fun H locs hW => ?_)
    refine lv_goto (tgt := 75) hx hb dX1_sell_70 (by decide) ?_
    exact tX1_sell_b75 C hq hW (lv_sub hl [3, 4, 1] rfl) h
  have h := ite_p c_4 h
  refine lv_iconst (v := 0) hx hb dX1_sell_12 (by decide) ?_
  exact xw_zret C rfl (by decide) hW dX1_sell_13 h
abbrev rX1_holdFair : Room := { frames := 4, cells := 0, slots := 0, locals := 90 }
theorem mX1_holdFair_l39 : Cond.fieldLink RX1 39 "NearlyBought$Market" "tale" "LNearlyBought$Tale;" ∈ wsX1_holdFair := by decide +kernel
theorem mX1_holdFair_l96 : Cond.fieldLink RX1 96 "NearlyBought$Tale" "things" "I" ∈ wsX1_holdFair := by decide +kernel
theorem mX1_holdFair_l93 : Cond.fieldLink RX1 93 "NearlyBought$Tale" "persons" "I" ∈ wsX1_holdFair := by decide +kernel
theorem mX1_holdFair_l43 : Cond.fieldLink RX1 43 "NearlyBought$Market" "year" "I" ∈ wsX1_holdFair := by decide +kernel
theorem mX1_holdFair_l15 : Cond.fieldLink RX1 15 "NearlyBought$Market" "coins" "[I" ∈ wsX1_holdFair := by decide +kernel
theorem mX1_holdFair_l106 : Cond.fieldLink RX1 106 "NearlyBought$Tale" "earned" "I" ∈ wsX1_holdFair := by decide +kernel
theorem mX1_holdFair_l109 : Cond.methodLink RX1 109 Lib.Math.min.name ∈ wsX1_holdFair := by decide +kernel
theorem mX1_holdFair_stmin : Cond.static Lib.Math.min.name ∈ wsX1_holdFair := by decide +kernel
theorem mX1_holdFair_inm : Cond.initialized "java/lang/Math" ∈ wsX1_holdFair := by decide +kernel
theorem mX1_holdFair_comin : Cond.code Lib.Math.min.name Lib.Math.min.code 2 (some .int) ∈ wsX1_holdFair := by decide +kernel
theorem iX1_holdFair_1 : ∀ w ∈ wsX10, w ∈ wsX1_holdFair := fun _ h => List.mem_cons_of_mem _ (List.mem_append_left _ (List.mem_append_right _ h))
theorem iX1_holdFair_4 : ∀ w ∈ wsX40, w ∈ wsX1_holdFair := fun _ h => List.mem_cons_of_mem _ (List.mem_append_right _ h)
set_option maxHeartbeats 4000000 in
set_option maxRecDepth 100000 in
theorem tX1_holdFair_b42 {p : Program} {l : Launch} {e : Env} {s : State} {m : MethodId} {args : Array Value} {below : List Frame} {meth : Method} {c : Code} {A : Nat → Prop} {D : va_G} {g : G3} {ad : Ky → Nat} (C : Cx p s m args meth c cX1_holdFair (some .int) 3 RX1 wsX1_holdFair A) {q : Nat} (hq : q < 12) {r0 : Int32} {μ0 : Mem} {v1 : Int32} (n : Nat) : ∀ (v2 : Int32) (μ : Mem) (H : Heap) (locs : List Loc) (ls : Array Slot), WX D g keysX ad A s s.heap μ H locs → lv_has ls 3 [(0, .ref (ad (q, 50, 0))), (1, .int v1), (2, .int v2)] → lo1 (X1_holdFair_b42 q v1) n v2 μ = some (r0, μ0) → TgI r0 p l e rX1_holdFair s m args below meth c D g keysX ad A μ0 H locs (F0 m 42 ls []) := by
  obtain ⟨hx, hb, hr, hts, hown, hlocks, hml, hA⟩ := id C
  induction n with
  | zero =>
    intro v2 μ H locs ls hW hl h
    cases h
  | succ n h42 =>
    intro v2 μ H locs ls hW hl h
    have h : X1_holdFair_b42 q v1 (lo1 (X1_holdFair_b42 q v1) n) v2 μ = some (r0, μ0) := h
    refine lv_iload_n hx hb dX1_holdFair_42 rfl (lv_at hl 2 rfl) ?_
    refine lv_aload_n hx hb dX1_holdFair_43 rfl (lv_at hl 0 rfl) ?_
    refine wo_get (C := RX1) (T := TX1) (N := 10) hx hb hts iX1_holdFair_1 hown hW (km_o q hq) (cm_o hq) rfl 0 (by decide) (hts _ mX1_holdFair_l39) (fun _ h9 => h9) rfl dX1_holdFair_44 ?_
    refine wo_get (C := RX4) (T := TX4) (N := 12) hx hb hts iX1_holdFair_4 hown hW (kt_o 13 (by decide) (by decide)) (ct_o (by decide) (by decide)) rfl 0 (by decide) (hts _ mX1_holdFair_l93) (fun _ h9 => h9) rfl dX1_holdFair_47 ?_
    refine lv_icmp_ge (tgt := 85) hx hb dX1_holdFair_50 (by decide) (fun c_2 => ?_) (fun c_2 => ?_)
    · have h := ite_p c_2 h
      refine lv_aload_n hx hb dX1_holdFair_85 rfl (lv_at hl 0 rfl) ?_
      refine lv_dup hx hb dX1_holdFair_86 rfl ?_
      refine wo_get (C := RX1) (T := TX1) (N := 10) hx hb hts iX1_holdFair_1 hown hW (km_o q hq) (cm_o hq) rfl 1 (by decide) (hts _ mX1_holdFair_l43) (fun _ h9 => h9) rfl dX1_holdFair_87 ?_
      refine lv_iconst (v := 1) hx hb dX1_holdFair_90 (by decide) ?_
      refine lv_iadd hx hb dX1_holdFair_91 ?_
      refine xw_put (C := RX1) (T := TX1) (N := 10) hx hb hts iX1_holdFair_1 tyX1 tyX1_ok nmX1 hown hW (km_o q hq) (cm_o hq) rfl 1 (by decide) (hts _ mX1_holdFair_l43) (fun _ h9 => h9) rfl (by decide +kernel) (Nat.le_of_ble_eq_true rfl) keysX_ok (sm_s q hq 1 (by decide) (by decide)) (pm_1 hq _) dX1_holdFair_92 (fun H locs hW => ?_)
      refine lv_aload_n hx hb dX1_holdFair_95 rfl (lv_at hl 0 rfl) ?_
      obtain ⟨μ_4, hh_3, h⟩ := bdv_s h
      refine wo_Vv (rest := []) C hW (kX1_addToldPauses l D g ad (q := q) hq hh_3) (cwV 0 hts gX1_holdFair_X1_addToldPauses rfl rfl rfl (by decide +kernel) ⟨Nat.le_of_ble_eq_true rfl, Nat.le_of_ble_eq_true rfl⟩) (km_o q hq) (cm_o hq) rfl rfl hl.1 rfl (Nat.le_of_ble_eq_true rfl) dX1_holdFair_96 ⟨Nat.zero_le _, Nat.zero_le _⟩ (fun H locs hW => ?_)
      refine lv_iload_n hx hb dX1_holdFair_99 rfl (lv_at hl 1 rfl) ?_
      exact xw_iret C rfl hW dX1_holdFair_100 h
    have h := ite_n c_2 h
    refine lv_aload_n hx hb dX1_holdFair_53 rfl (lv_at hl 0 rfl) ?_
    refine wo_get (C := RX1) (T := TX1) (N := 10) hx hb hts iX1_holdFair_1 hown hW (km_o q hq) (cm_o hq) rfl 3 (by decide) (hts _ mX1_holdFair_l15) (fun _ h9 => h9) rfl dX1_holdFair_54 ?_
    refine lv_iload_n hx hb dX1_holdFair_57 rfl (lv_at hl 2 rfl) ?_
    refine lv_aload_n hx hb dX1_holdFair_58 rfl (lv_at hl 0 rfl) ?_
    refine wo_get (C := RX1) (T := TX1) (N := 10) hx hb hts iX1_holdFair_1 hown hW (km_o q hq) (cm_o hq) rfl 3 (by decide) (hts _ mX1_holdFair_l15) (fun _ h9 => h9) rfl dX1_holdFair_59 ?_
    refine lv_iload_n hx hb dX1_holdFair_62 rfl (lv_at hl 2 rfl) ?_
    obtain ⟨hi_5, h⟩ := gi_s h
    refine xw_ald hx hb hW (km_a q hq 3 (by decide) (by decide)) (cm_a hq (by decide)) hi_5 dX1_holdFair_63 ?_
    refine lv_aload_n hx hb dX1_holdFair_64 rfl (lv_at hl 0 rfl) ?_
    refine wo_get (C := RX1) (T := TX1) (N := 10) hx hb hts iX1_holdFair_1 hown hW (km_o q hq) (cm_o hq) rfl 0 (by decide) (hts _ mX1_holdFair_l39) (fun _ h9 => h9) rfl dX1_holdFair_65 ?_
    refine wo_get (C := RX4) (T := TX4) (N := 12) hx hb hts iX1_holdFair_4 hown hW (kt_o 13 (by decide) (by decide)) (ct_o (by decide) (by decide)) rfl 3 (by decide) (hts _ mX1_holdFair_l106) (fun _ h9 => h9) rfl dX1_holdFair_68 ?_
    refine lv_iadd hx hb dX1_holdFair_71 ?_
    refine lv_sipush (v := 999) hx hb dX1_holdFair_72 (by decide) ?_
    refine va_mmin (ls := ls) (rest := [.int v2, .ref (ad (q, 3, 0))]) hx hb (hml.trans hl.1.symm) hown (hts _ mX1_holdFair_l109) (hts _ mX1_holdFair_stmin) (hts _ mX1_holdFair_inm) (hts _ mX1_holdFair_comin) (Nat.le_of_ble_eq_true rfl) (Nat.le_of_ble_eq_true rfl) (Nat.zero_le _) (Nat.zero_le _) dX1_holdFair_75 ?_
    obtain ⟨hi_6, h⟩ := gi_s h
    refine xw_ast hx hb hW (km_a q hq 3 (by decide) (by decide)) (fun _ => (cm_a hq (by decide))) (am_a q hq 3 (by decide) (by decide)) hi_6 dX1_holdFair_78 (fun H locs hW => ?_)
    refine lv_iinc (v := v2 + 1) (lv' := [(2, .int (v2 + 1)), (0, .ref (ad (q, 50, 0))), (1, .int v1)]) hx hb dX1_holdFair_79 hl (k := 2) rfl rfl (by decide) rfl (fun ls hl => ?_)
    refine lv_goto (tgt := 42) hx hb dX1_holdFair_82 (by decide) ?_
    exact h42 _ _ _ _ _ hW (lv_sub hl [1, 2, 0] rfl) h
set_option maxHeartbeats 4000000 in
set_option maxRecDepth 100000 in
theorem tX1_holdFair_b34 {p : Program} {l : Launch} {e : Env} {s : State} {m : MethodId} {args : Array Value} {below : List Frame} {meth : Method} {c : Code} {A : Nat → Prop} {D : va_G} {g : G3} {ad : Ky → Nat} (C : Cx p s m args meth c cX1_holdFair (some .int) 3 RX1 wsX1_holdFair A) {q : Nat} (hq : q < 12) {r0 : Int32} {μ0 : Mem} {v1 v2 : Int32} {k4 : Int32 → Int32 → Mem → Option (Int32 × Mem)} (h4 : ∀ (v1 v2 : Int32) (μ : Mem) (H : Heap) (locs : List Loc) (ls : Array Slot), WX D g keysX ad A s s.heap μ H locs → lv_has ls 3 [(0, .ref (ad (q, 50, 0))), (1, .int v1), (2, .int v2)] → k4 v1 v2 μ = some (r0, μ0) → TgI r0 p l e rX1_holdFair s m args below meth c D g keysX ad A μ0 H locs (F0 m 4 ls [])) {μ : Mem} {H : Heap} {locs : List Loc} {ls : Array Slot} (hW : WX D g keysX ad A s s.heap μ H locs) (hl : lv_has ls 3 [(0, .ref (ad (q, 50, 0))), (1, .int v1), (2, .int v2)]) (h : X1_holdFair_b34 q k4 v1 v2 μ = some (r0, μ0)) : TgI r0 p l e rX1_holdFair s m args below meth c D g keysX ad A μ0 H locs (F0 m 34 ls []) := by
  obtain ⟨hx, hb, hr, hts, hown, hlocks, hml, hA⟩ := id C
  refine lv_iinc (v := v2 + 1) (lv' := [(2, .int (v2 + 1)), (0, .ref (ad (q, 50, 0))), (1, .int v1)]) hx hb dX1_holdFair_34 hl (k := 2) rfl rfl (by decide) rfl (fun ls hl => ?_)
  refine lv_goto (tgt := 4) hx hb dX1_holdFair_37 (by decide) ?_
  exact h4 _ _ _ _ _ _ hW (lv_sub hl [1, 2, 0] rfl) h
set_option maxHeartbeats 4000000 in
set_option maxRecDepth 100000 in
theorem tX1_holdFair_b4 {p : Program} {l : Launch} {e : Env} {s : State} {m : MethodId} {args : Array Value} {below : List Frame} {meth : Method} {c : Code} {A : Nat → Prop} {D : va_G} {g : G3} {ad : Ky → Nat} (C : Cx p s m args meth c cX1_holdFair (some .int) 3 RX1 wsX1_holdFair A) {q : Nat} (hq : q < 12) {r0 : Int32} {μ0 : Mem} (n : Nat) : ∀ (v1 v2 : Int32) (μ : Mem) (H : Heap) (locs : List Loc) (ls : Array Slot), WX D g keysX ad A s s.heap μ H locs → lv_has ls 3 [(0, .ref (ad (q, 50, 0))), (1, .int v1), (2, .int v2)] → lo2 (X1_holdFair_b4 q) n v1 v2 μ = some (r0, μ0) → TgI r0 p l e rX1_holdFair s m args below meth c D g keysX ad A μ0 H locs (F0 m 4 ls []) := by
  obtain ⟨hx, hb, hr, hts, hown, hlocks, hml, hA⟩ := id C
  induction n with
  | zero =>
    intro v1 v2 μ H locs ls hW hl h
    cases h
  | succ n h4 =>
    intro v1 v2 μ H locs ls hW hl h
    have h : X1_holdFair_b4 q (lo2 (X1_holdFair_b4 q) n) v1 v2 μ = some (r0, μ0) := h
    refine lv_iload_n hx hb dX1_holdFair_4 rfl (lv_at hl 2 rfl) ?_
    refine lv_aload_n hx hb dX1_holdFair_5 rfl (lv_at hl 0 rfl) ?_
    refine wo_get (C := RX1) (T := TX1) (N := 10) hx hb hts iX1_holdFair_1 hown hW (km_o q hq) (cm_o hq) rfl 0 (by decide) (hts _ mX1_holdFair_l39) (fun _ h9 => h9) rfl dX1_holdFair_6 ?_
    refine wo_get (C := RX4) (T := TX4) (N := 12) hx hb hts iX1_holdFair_4 hown hW (kt_o 13 (by decide) (by decide)) (ct_o (by decide) (by decide)) rfl 1 (by decide) (hts _ mX1_holdFair_l96) (fun _ h9 => h9) rfl dX1_holdFair_9 ?_
    refine lv_icmp_ge (tgt := 40) hx hb dX1_holdFair_12 (by decide) (fun c_1 => ?_) (fun c_1 => ?_)
    · have h := ite_p c_1 h
      refine lv_iconst (v := 0) hx hb dX1_holdFair_40 (by decide) ?_
      refine lv_istore_n (lv' := [(2, .int 0), (0, .ref (ad (q, 50, 0))), (1, .int v1)]) hx hb dX1_holdFair_41 rfl hl (by decide) rfl (fun ls hl => ?_)
      exact tX1_holdFair_b42 C hq 1000 _ _ _ _ _ hW (lv_sub hl [1, 2, 0] rfl) h
    have h := ite_n c_1 h
    refine lv_aload_n hx hb dX1_holdFair_15 rfl (lv_at hl 0 rfl) ?_
    refine lv_iload_n hx hb dX1_holdFair_16 rfl (lv_at hl 2 rfl) ?_
    obtain ⟨r_9, μ_8, hh_7, h⟩ := bd_s h
    refine wo_Vi (rest := []) C hW (kX1_isFree l D g ad (q := q) hq hh_7) (cwV 1 hts gX1_holdFair_X1_isFree rfl rfl rfl (by decide +kernel) ⟨Nat.le_of_ble_eq_true rfl, Nat.le_of_ble_eq_true rfl⟩) (km_o q hq) (cm_o hq) rfl rfl hl.1 rfl (Nat.le_of_ble_eq_true rfl) dX1_holdFair_17 ⟨Nat.zero_le _, Nat.zero_le _⟩ (fun H locs hW => ?_)
    refine lv_if_eq (tgt := 34) hx hb dX1_holdFair_20 (by decide) (fun c_10 => ?_) (fun c_10 => ?_)
    · have h := ite_p c_10 h
      exact tX1_holdFair_b34 C hq h4 hW (lv_sub hl [0, 1, 2] rfl) h
    have h := ite_n c_10 h
    refine lv_aload_n hx hb dX1_holdFair_23 rfl (lv_at hl 0 rfl) ?_
    refine lv_iload_n hx hb dX1_holdFair_24 rfl (lv_at hl 2 rfl) ?_
    obtain ⟨r_13, μ_12, hh_11, h⟩ := bd_s h
    refine wo_Vi (rest := []) C hW (kX1_sell l D g ad (q := q) hq hh_11) (cwV 1 hts gX1_holdFair_X1_sell rfl rfl rfl (by decide +kernel) ⟨Nat.le_of_ble_eq_true rfl, Nat.le_of_ble_eq_true rfl⟩) (km_o q hq) (cm_o hq) rfl rfl hl.1 rfl (Nat.le_of_ble_eq_true rfl) dX1_holdFair_25 ⟨Nat.zero_le _, Nat.zero_le _⟩ (fun H locs hW => ?_)
    refine lv_if_eq (tgt := 34) hx hb dX1_holdFair_28 (by decide) (fun c_14 => ?_) (fun c_14 => ?_)
    · have h := ite_p c_14 h
      exact tX1_holdFair_b34 C hq h4 hW (lv_sub hl [0, 1, 2] rfl) h
    have h := ite_n c_14 h
    refine lv_iinc (v := v1 + 1) (lv' := [(1, .int (v1 + 1)), (0, .ref (ad (q, 50, 0))), (2, .int v2)]) hx hb dX1_holdFair_31 hl (k := 1) rfl rfl (by decide) rfl (fun ls hl => ?_)
    exact tX1_holdFair_b34 C hq h4 hW (lv_sub hl [1, 0, 2] rfl) h
set_option maxHeartbeats 4000000 in
set_option maxRecDepth 100000 in
theorem kX1_holdFair (l : Launch) (D : va_G) (g : G3) (ad : Ky → Nat) {q : Nat} (hq : q < 12) {μ μ' : Mem} {r : Int32} (h : X1_holdFair q μ = some (r, μ')) : CtI l yX1_holdFair wsX1_holdFair rX1_holdFair D (tysX g) keysX ad (cX g ad) [.ref (ad (q, 50, 0))] μ r μ' := by
  refine ctI_of (cc := cX1_holdFair) (maxL := 3) (ret := (some .int)) keysX_nd (by decide) rfl (Nat.le_of_ble_eq_true rfl) (fun p e s m below meth c A ls C hW hl => ?_)
  have hl : lv_has ls 3 [(0, .ref (ad (q, 50, 0)))] := hl
  obtain ⟨hx, hb, hr, hts, hown, hlocks, hml, hA⟩ := id C
  refine lv_iconst (v := 0) hx hb dX1_holdFair_0 (by decide) ?_
  refine lv_istore_n (lv' := [(1, .int 0), (0, .ref (ad (q, 50, 0)))]) hx hb dX1_holdFair_1 rfl hl (by decide) rfl (fun ls hl => ?_)
  refine lv_iconst (v := 0) hx hb dX1_holdFair_2 (by decide) ?_
  refine lv_istore_n (lv' := [(2, .int 0), (1, .int 0), (0, .ref (ad (q, 50, 0)))]) hx hb dX1_holdFair_3 rfl hl (by decide) rfl (fun ls hl => ?_)
  exact tX1_holdFair_b4 C hq 1000 _ _ _ _ _ _ hW (lv_sub hl [2, 1, 0] rfl) h
abbrev rX1_fairsTillGone : Room := { frames := 5, cells := 0, slots := 0, locals := 112 }
set_option maxHeartbeats 4000000 in
set_option maxRecDepth 100000 in
theorem tX1_fairsTillGone_b27 {p : Program} {l : Launch} {e : Env} {s : State} {m : MethodId} {args : Array Value} {below : List Frame} {meth : Method} {c : Code} {A : Nat → Prop} {D : va_G} {g : G3} {ad : Ky → Nat} (C : Cx p s m args meth c cX1_fairsTillGone (some .int) 3 RX1 wsX1_fairsTillGone A) {q : Nat} (hq : q < 12) {r0 : Int32} {μ0 : Mem} {v1 v2 : Int32} {μ : Mem} {H : Heap} {locs : List Loc} {ls : Array Slot} (hW : WX D g keysX ad A s s.heap μ H locs) (hl : lv_has ls 3 [(0, .ref (ad (q, 50, 0))), (1, .int v1), (2, .int v2)]) (h : X1_fairsTillGone_b27 q v1 v2 μ = some (r0, μ0)) : TgI r0 p l e rX1_fairsTillGone s m args below meth c D g keysX ad A μ0 H locs (F0 m 27 ls []) := by
  obtain ⟨hx, hb, hr, hts, hown, hlocks, hml, hA⟩ := id C
  refine lv_aload_n hx hb dX1_fairsTillGone_27 rfl (lv_at hl 0 rfl) ?_
  refine lv_iload_n hx hb dX1_fairsTillGone_28 rfl (lv_at hl 1 rfl) ?_
  obtain ⟨r_4, μ_3, hh_2, h⟩ := bd_s h
  refine wo_Vi (rest := []) C hW (kX1_isFree l D g ad (q := q) hq hh_2) (cwV 1 hts gX1_fairsTillGone_X1_isFree rfl rfl rfl (by decide +kernel) ⟨Nat.le_of_ble_eq_true rfl, Nat.le_of_ble_eq_true rfl⟩) (km_o q hq) (cm_o hq) rfl rfl hl.1 rfl (Nat.le_of_ble_eq_true rfl) dX1_fairsTillGone_29 ⟨Nat.zero_le _, Nat.zero_le _⟩ (fun H locs hW => ?_)
  refine lv_if_eq (tgt := 40) hx hb dX1_fairsTillGone_32 (by decide) (fun c_5 => ?_) (fun c_5 => ?_)
  · have h := ite_p c_5 h
    refine lv_iload_n hx hb dX1_fairsTillGone_40 rfl (lv_at hl 2 rfl) ?_
    exact xw_iret C rfl hW dX1_fairsTillGone_41 h
  have h := ite_n c_5 h
  refine lv_bipush (v := (-4)) hx hb dX1_fairsTillGone_35 (by decide) ?_
  refine lv_goto (tgt := 41) hx hb dX1_fairsTillGone_37 (by decide) ?_
  exact xw_iret C rfl hW dX1_fairsTillGone_41 h
set_option maxHeartbeats 4000000 in
set_option maxRecDepth 100000 in
theorem tX1_fairsTillGone_b2 {p : Program} {l : Launch} {e : Env} {s : State} {m : MethodId} {args : Array Value} {below : List Frame} {meth : Method} {c : Code} {A : Nat → Prop} {D : va_G} {g : G3} {ad : Ky → Nat} (C : Cx p s m args meth c cX1_fairsTillGone (some .int) 3 RX1 wsX1_fairsTillGone A) {q : Nat} (hq : q < 12) {r0 : Int32} {μ0 : Mem} {v1 : Int32} (n : Nat) : ∀ (v2 : Int32) (μ : Mem) (H : Heap) (locs : List Loc) (ls : Array Slot), WX D g keysX ad A s s.heap μ H locs → lv_has ls 3 [(0, .ref (ad (q, 50, 0))), (1, .int v1), (2, .int v2)] → lo1 (X1_fairsTillGone_b2 q v1) n v2 μ = some (r0, μ0) → TgI r0 p l e rX1_fairsTillGone s m args below meth c D g keysX ad A μ0 H locs (F0 m 2 ls []) := by
  obtain ⟨hx, hb, hr, hts, hown, hlocks, hml, hA⟩ := id C
  induction n with
  | zero =>
    intro v2 μ H locs ls hW hl h
    cases h
  | succ n h2 =>
    intro v2 μ H locs ls hW hl h
    have h : X1_fairsTillGone_b2 q v1 (lo1 (X1_fairsTillGone_b2 q v1) n) v2 μ = some (r0, μ0) := h
    refine lv_iload_n hx hb dX1_fairsTillGone_2 rfl (lv_at hl 2 rfl) ?_
    refine lv_bipush (v := 9) hx hb dX1_fairsTillGone_3 (by decide) ?_
    refine lv_icmp_ge (tgt := 27) hx hb dX1_fairsTillGone_5 (by decide) (fun c_1 => ?_) (fun c_1 => ?_)
    · have h := ite_p c_1 h
      exact tX1_fairsTillGone_b27 C hq hW (lv_sub hl [0, 1, 2] rfl) h
    have h := ite_n c_1 h
    refine lv_aload_n hx hb dX1_fairsTillGone_8 rfl (lv_at hl 0 rfl) ?_
    refine lv_iload_n hx hb dX1_fairsTillGone_9 rfl (lv_at hl 1 rfl) ?_
    obtain ⟨r_8, μ_7, hh_6, h⟩ := bd_s h
    refine wo_Vi (rest := []) C hW (kX1_isFree l D g ad (q := q) hq hh_6) (cwV 1 hts gX1_fairsTillGone_X1_isFree rfl rfl rfl (by decide +kernel) ⟨Nat.le_of_ble_eq_true rfl, Nat.le_of_ble_eq_true rfl⟩) (km_o q hq) (cm_o hq) rfl rfl hl.1 rfl (Nat.le_of_ble_eq_true rfl) dX1_fairsTillGone_10 ⟨Nat.zero_le _, Nat.zero_le _⟩ (fun H locs hW => ?_)
    refine lv_if_eq (tgt := 27) hx hb dX1_fairsTillGone_13 (by decide) (fun c_9 => ?_) (fun c_9 => ?_)
    · have h := ite_p c_9 h
      exact tX1_fairsTillGone_b27 C hq hW (lv_sub hl [0, 1, 2] rfl) h
    have h := ite_n c_9 h
    refine lv_aload_n hx hb dX1_fairsTillGone_16 rfl (lv_at hl 0 rfl) ?_
    obtain ⟨r_12, μ_11, hh_10, h⟩ := bd_s h
    refine wo_Vi (rest := []) C hW (kX1_holdFair l D g ad (q := q) hq hh_10) (cwV 0 hts gX1_fairsTillGone_X1_holdFair rfl rfl rfl (by decide +kernel) ⟨Nat.le_of_ble_eq_true rfl, Nat.le_of_ble_eq_true rfl⟩) (km_o q hq) (cm_o hq) rfl rfl hl.1 rfl (Nat.le_of_ble_eq_true rfl) dX1_fairsTillGone_17 ⟨Nat.zero_le _, Nat.zero_le _⟩ (fun H locs hW => ?_)
    refine lv_pop hx hb dX1_fairsTillGone_20 rfl ?_
    refine lv_iinc (v := v2 + 1) (lv' := [(2, .int (v2 + 1)), (0, .ref (ad (q, 50, 0))), (1, .int v1)]) hx hb dX1_fairsTillGone_21 hl (k := 2) rfl rfl (by decide) rfl (fun ls hl => ?_)
    refine lv_goto (tgt := 2) hx hb dX1_fairsTillGone_24 (by decide) ?_
    exact h2 _ _ _ _ _ hW (lv_sub hl [1, 2, 0] rfl) h
set_option maxHeartbeats 4000000 in
set_option maxRecDepth 100000 in
theorem kX1_fairsTillGone (l : Launch) (D : va_G) (g : G3) (ad : Ky → Nat) {q : Nat} (hq : q < 12) {v1 : Int32} {μ μ' : Mem} {r : Int32} (h : X1_fairsTillGone q v1 μ = some (r, μ')) : CtI l yX1_fairsTillGone wsX1_fairsTillGone rX1_fairsTillGone D (tysX g) keysX ad (cX g ad) [.ref (ad (q, 50, 0)), .int v1] μ r μ' := by
  refine ctI_of (cc := cX1_fairsTillGone) (maxL := 3) (ret := (some .int)) keysX_nd (by decide) rfl (Nat.le_of_ble_eq_true rfl) (fun p e s m below meth c A ls C hW hl => ?_)
  have hl : lv_has ls 3 [(0, .ref (ad (q, 50, 0))), (1, .int v1)] := hl
  obtain ⟨hx, hb, hr, hts, hown, hlocks, hml, hA⟩ := id C
  refine lv_iconst (v := 0) hx hb dX1_fairsTillGone_0 (by decide) ?_
  refine lv_istore_n (lv' := [(2, .int 0), (0, .ref (ad (q, 50, 0))), (1, .int v1)]) hx hb dX1_fairsTillGone_1 rfl hl (by decide) rfl (fun ls hl => ?_)
  exact tX1_fairsTillGone_b2 C hq 1000 _ _ _ _ _ hW (lv_sub hl [1, 2, 0] rfl) h
abbrev rX1_holdFairs : Room := { frames := 5, cells := 0, slots := 0, locals := 112 }
set_option maxHeartbeats 4000000 in
set_option maxRecDepth 100000 in
theorem tX1_holdFairs_b2 {p : Program} {l : Launch} {e : Env} {s : State} {m : MethodId} {args : Array Value} {below : List Frame} {meth : Method} {c : Code} {A : Nat → Prop} {D : va_G} {g : G3} {ad : Ky → Nat} (C : Cx p s m args meth c cX1_holdFairs none 3 RX1 wsX1_holdFairs A) {q : Nat} (hq : q < 12) {μ0 : Mem} {v1 : Int32} (n : Nat) : ∀ (v2 : Int32) (μ : Mem) (H : Heap) (locs : List Loc) (ls : Array Slot), WX D g keysX ad A s s.heap μ H locs → lv_has ls 3 [(0, .ref (ad (q, 50, 0))), (1, .int v1), (2, .int v2)] → lo1 (X1_holdFairs_b2 q v1) n v2 μ = some μ0 → TgV p l e rX1_holdFairs s m args below meth c D g keysX ad A μ0 H locs (F0 m 2 ls []) := by
  obtain ⟨hx, hb, hr, hts, hown, hlocks, hml, hA⟩ := id C
  induction n with
  | zero =>
    intro v2 μ H locs ls hW hl h
    cases h
  | succ n h2 =>
    intro v2 μ H locs ls hW hl h
    have h : X1_holdFairs_b2 q v1 (lo1 (X1_holdFairs_b2 q v1) n) v2 μ = some μ0 := h
    refine lv_iload_n hx hb dX1_holdFairs_2 rfl (lv_at hl 2 rfl) ?_
    refine lv_iload_n hx hb dX1_holdFairs_3 rfl (lv_at hl 1 rfl) ?_
    refine lv_icmp_ge (tgt := 18) hx hb dX1_holdFairs_4 (by decide) (fun c_1 => ?_) (fun c_1 => ?_)
    · have h := ite_p c_1 h
      exact xw_vret C rfl hW dX1_holdFairs_18 h
    have h := ite_n c_1 h
    refine lv_aload_n hx hb dX1_holdFairs_7 rfl (lv_at hl 0 rfl) ?_
    obtain ⟨r_4, μ_3, hh_2, h⟩ := bd_s h
    refine wo_Vi (rest := []) C hW (kX1_holdFair l D g ad (q := q) hq hh_2) (cwV 0 hts gX1_holdFairs_X1_holdFair rfl rfl rfl (by decide +kernel) ⟨Nat.le_of_ble_eq_true rfl, Nat.le_of_ble_eq_true rfl⟩) (km_o q hq) (cm_o hq) rfl rfl hl.1 rfl (Nat.le_of_ble_eq_true rfl) dX1_holdFairs_8 ⟨Nat.zero_le _, Nat.zero_le _⟩ (fun H locs hW => ?_)
    refine lv_pop hx hb dX1_holdFairs_11 rfl ?_
    refine lv_iinc (v := v2 + 1) (lv' := [(2, .int (v2 + 1)), (0, .ref (ad (q, 50, 0))), (1, .int v1)]) hx hb dX1_holdFairs_12 hl (k := 2) rfl rfl (by decide) rfl (fun ls hl => ?_)
    refine lv_goto (tgt := 2) hx hb dX1_holdFairs_15 (by decide) ?_
    exact h2 _ _ _ _ _ hW (lv_sub hl [1, 2, 0] rfl) h
set_option maxHeartbeats 4000000 in
set_option maxRecDepth 100000 in
theorem kX1_holdFairs (l : Launch) (D : va_G) (g : G3) (ad : Ky → Nat) {q : Nat} (hq : q < 12) {v1 : Int32} {μ μ' : Mem} (h : X1_holdFairs q v1 μ = some μ') : CtV l yX1_holdFairs wsX1_holdFairs rX1_holdFairs D (tysX g) keysX ad (cX g ad) [.ref (ad (q, 50, 0)), .int v1] μ μ' := by
  refine ctV_of (cc := cX1_holdFairs) (maxL := 3) (ret := none) keysX_nd (by decide) rfl (Nat.le_of_ble_eq_true rfl) (fun p e s m below meth c A ls C hW hl => ?_)
  have hl : lv_has ls 3 [(0, .ref (ad (q, 50, 0))), (1, .int v1)] := hl
  obtain ⟨hx, hb, hr, hts, hown, hlocks, hml, hA⟩ := id C
  refine lv_iconst (v := 0) hx hb dX1_holdFairs_0 (by decide) ?_
  refine lv_istore_n (lv' := [(2, .int 0), (0, .ref (ad (q, 50, 0))), (1, .int v1)]) hx hb dX1_holdFairs_1 rfl hl (by decide) rfl (fun ls hl => ?_)
  exact tX1_holdFairs_b2 C hq 1000 _ _ _ _ _ hW (lv_sub hl [1, 2, 0] rfl) h
abbrev rX1_thingsGone : Room := { frames := 1, cells := 0, slots := 0, locals := 21 }
theorem mX1_thingsGone_l39 : Cond.fieldLink RX1 39 "NearlyBought$Market" "tale" "LNearlyBought$Tale;" ∈ wsX1_thingsGone := by decide +kernel
theorem mX1_thingsGone_l96 : Cond.fieldLink RX1 96 "NearlyBought$Tale" "things" "I" ∈ wsX1_thingsGone := by decide +kernel
theorem iX1_thingsGone_1 : ∀ w ∈ wsX10, w ∈ wsX1_thingsGone := fun _ h => List.mem_cons_of_mem _ (List.mem_append_left _ (List.mem_append_right _ h))
theorem iX1_thingsGone_4 : ∀ w ∈ wsX40, w ∈ wsX1_thingsGone := fun _ h => List.mem_cons_of_mem _ (List.mem_append_right _ h)
set_option maxHeartbeats 4000000 in
set_option maxRecDepth 100000 in
theorem tX1_thingsGone_b26 {p : Program} {l : Launch} {e : Env} {s : State} {m : MethodId} {args : Array Value} {below : List Frame} {meth : Method} {c : Code} {A : Nat → Prop} {D : va_G} {g : G3} {ad : Ky → Nat} (C : Cx p s m args meth c cX1_thingsGone (some .int) 3 RX1 wsX1_thingsGone A) {q : Nat} (hq : q < 12) {r0 : Int32} {μ0 : Mem} {v1 v2 : Int32} {k4 : Int32 → Int32 → Mem → Option (Int32 × Mem)} (h4 : ∀ (v1 v2 : Int32) (μ : Mem) (H : Heap) (locs : List Loc) (ls : Array Slot), WX D g keysX ad A s s.heap μ H locs → lv_has ls 3 [(0, .ref (ad (q, 50, 0))), (1, .int v1), (2, .int v2)] → k4 v1 v2 μ = some (r0, μ0) → TgI r0 p l e rX1_thingsGone s m args below meth c D g keysX ad A μ0 H locs (F0 m 4 ls [])) {μ : Mem} {H : Heap} {locs : List Loc} {ls : Array Slot} (hW : WX D g keysX ad A s s.heap μ H locs) (hl : lv_has ls 3 [(0, .ref (ad (q, 50, 0))), (1, .int v1), (2, .int v2)]) (h : X1_thingsGone_b26 q k4 v1 v2 μ = some (r0, μ0)) : TgI r0 p l e rX1_thingsGone s m args below meth c D g keysX ad A μ0 H locs (F0 m 26 ls []) := by
  obtain ⟨hx, hb, hr, hts, hown, hlocks, hml, hA⟩ := id C
  refine lv_iinc (v := v2 + 1) (lv' := [(2, .int (v2 + 1)), (0, .ref (ad (q, 50, 0))), (1, .int v1)]) hx hb dX1_thingsGone_26 hl (k := 2) rfl rfl (by decide) rfl (fun ls hl => ?_)
  refine lv_goto (tgt := 4) hx hb dX1_thingsGone_29 (by decide) ?_
  exact h4 _ _ _ _ _ _ hW (lv_sub hl [1, 2, 0] rfl) h
set_option maxHeartbeats 4000000 in
set_option maxRecDepth 100000 in
theorem tX1_thingsGone_b4 {p : Program} {l : Launch} {e : Env} {s : State} {m : MethodId} {args : Array Value} {below : List Frame} {meth : Method} {c : Code} {A : Nat → Prop} {D : va_G} {g : G3} {ad : Ky → Nat} (C : Cx p s m args meth c cX1_thingsGone (some .int) 3 RX1 wsX1_thingsGone A) {q : Nat} (hq : q < 12) {r0 : Int32} {μ0 : Mem} (n : Nat) : ∀ (v1 v2 : Int32) (μ : Mem) (H : Heap) (locs : List Loc) (ls : Array Slot), WX D g keysX ad A s s.heap μ H locs → lv_has ls 3 [(0, .ref (ad (q, 50, 0))), (1, .int v1), (2, .int v2)] → lo2 (X1_thingsGone_b4 q) n v1 v2 μ = some (r0, μ0) → TgI r0 p l e rX1_thingsGone s m args below meth c D g keysX ad A μ0 H locs (F0 m 4 ls []) := by
  obtain ⟨hx, hb, hr, hts, hown, hlocks, hml, hA⟩ := id C
  induction n with
  | zero =>
    intro v1 v2 μ H locs ls hW hl h
    cases h
  | succ n h4 =>
    intro v1 v2 μ H locs ls hW hl h
    have h : X1_thingsGone_b4 q (lo2 (X1_thingsGone_b4 q) n) v1 v2 μ = some (r0, μ0) := h
    refine lv_iload_n hx hb dX1_thingsGone_4 rfl (lv_at hl 2 rfl) ?_
    refine lv_aload_n hx hb dX1_thingsGone_5 rfl (lv_at hl 0 rfl) ?_
    refine wo_get (C := RX1) (T := TX1) (N := 10) hx hb hts iX1_thingsGone_1 hown hW (km_o q hq) (cm_o hq) rfl 0 (by decide) (hts _ mX1_thingsGone_l39) (fun _ h9 => h9) rfl dX1_thingsGone_6 ?_
    refine wo_get (C := RX4) (T := TX4) (N := 12) hx hb hts iX1_thingsGone_4 hown hW (kt_o 13 (by decide) (by decide)) (ct_o (by decide) (by decide)) rfl 1 (by decide) (hts _ mX1_thingsGone_l96) (fun _ h9 => h9) rfl dX1_thingsGone_9 ?_
    refine lv_icmp_ge (tgt := 32) hx hb dX1_thingsGone_12 (by decide) (fun c_1 => ?_) (fun c_1 => ?_)
    · have h := ite_p c_1 h
      refine lv_iload_n hx hb dX1_thingsGone_32 rfl (lv_at hl 1 rfl) ?_
      exact xw_iret C rfl hW dX1_thingsGone_33 h
    have h := ite_n c_1 h
    refine lv_aload_n hx hb dX1_thingsGone_15 rfl (lv_at hl 0 rfl) ?_
    refine lv_iload_n hx hb dX1_thingsGone_16 rfl (lv_at hl 2 rfl) ?_
    obtain ⟨r_4, μ_3, hh_2, h⟩ := bd_s h
    refine wo_Vi (rest := []) C hW (kX1_isFree l D g ad (q := q) hq hh_2) (cwV 1 hts gX1_thingsGone_X1_isFree rfl rfl rfl (by decide +kernel) ⟨Nat.le_of_ble_eq_true rfl, Nat.le_of_ble_eq_true rfl⟩) (km_o q hq) (cm_o hq) rfl rfl hl.1 rfl (Nat.le_of_ble_eq_true rfl) dX1_thingsGone_17 ⟨Nat.zero_le _, Nat.zero_le _⟩ (fun H locs hW => ?_)
    refine lv_if_ne (tgt := 26) hx hb dX1_thingsGone_20 (by decide) (fun c_5 => ?_) (fun c_5 => ?_)
    · have h := ite_n c_5 h
      exact tX1_thingsGone_b26 C hq h4 hW (lv_sub hl [0, 1, 2] rfl) h
    have h := ite_p c_5 h
    refine lv_iinc (v := v1 + 1) (lv' := [(1, .int (v1 + 1)), (0, .ref (ad (q, 50, 0))), (2, .int v2)]) hx hb dX1_thingsGone_23 hl (k := 1) rfl rfl (by decide) rfl (fun ls hl => ?_)
    exact tX1_thingsGone_b26 C hq h4 hW (lv_sub hl [1, 0, 2] rfl) h
set_option maxHeartbeats 4000000 in
set_option maxRecDepth 100000 in
theorem kX1_thingsGone (l : Launch) (D : va_G) (g : G3) (ad : Ky → Nat) {q : Nat} (hq : q < 12) {μ μ' : Mem} {r : Int32} (h : X1_thingsGone q μ = some (r, μ')) : CtI l yX1_thingsGone wsX1_thingsGone rX1_thingsGone D (tysX g) keysX ad (cX g ad) [.ref (ad (q, 50, 0))] μ r μ' := by
  refine ctI_of (cc := cX1_thingsGone) (maxL := 3) (ret := (some .int)) keysX_nd (by decide) rfl (Nat.le_of_ble_eq_true rfl) (fun p e s m below meth c A ls C hW hl => ?_)
  have hl : lv_has ls 3 [(0, .ref (ad (q, 50, 0)))] := hl
  obtain ⟨hx, hb, hr, hts, hown, hlocks, hml, hA⟩ := id C
  refine lv_iconst (v := 0) hx hb dX1_thingsGone_0 (by decide) ?_
  refine lv_istore_n (lv' := [(1, .int 0), (0, .ref (ad (q, 50, 0)))]) hx hb dX1_thingsGone_1 rfl hl (by decide) rfl (fun ls hl => ?_)
  refine lv_iconst (v := 0) hx hb dX1_thingsGone_2 (by decide) ?_
  refine lv_istore_n (lv' := [(2, .int 0), (1, .int 0), (0, .ref (ad (q, 50, 0)))]) hx hb dX1_thingsGone_3 rfl hl (by decide) rfl (fun ls hl => ?_)
  exact tX1_thingsGone_b4 C hq 1000 _ _ _ _ _ _ hW (lv_sub hl [2, 1, 0] rfl) h
abbrev rX1_thingsOf : Room := { frames := 0, cells := 0, slots := 0, locals := 0 }
theorem mX1_thingsOf_l39 : Cond.fieldLink RX1 39 "NearlyBought$Market" "tale" "LNearlyBought$Tale;" ∈ wsX1_thingsOf := by decide +kernel
theorem mX1_thingsOf_l96 : Cond.fieldLink RX1 96 "NearlyBought$Tale" "things" "I" ∈ wsX1_thingsOf := by decide +kernel
theorem mX1_thingsOf_l19 : Cond.fieldLink RX1 19 "NearlyBought$Market" "owner" "[I" ∈ wsX1_thingsOf := by decide +kernel
theorem iX1_thingsOf_1 : ∀ w ∈ wsX10, w ∈ wsX1_thingsOf := fun _ h => List.mem_cons_of_mem _ (List.mem_append_left _ (List.mem_append_right _ h))
theorem iX1_thingsOf_4 : ∀ w ∈ wsX40, w ∈ wsX1_thingsOf := fun _ h => List.mem_cons_of_mem _ (List.mem_append_right _ h)
set_option maxHeartbeats 4000000 in
set_option maxRecDepth 100000 in
theorem tX1_thingsOf_b28 {p : Program} {l : Launch} {e : Env} {s : State} {m : MethodId} {args : Array Value} {below : List Frame} {meth : Method} {c : Code} {A : Nat → Prop} {D : va_G} {g : G3} {ad : Ky → Nat} (C : Cx p s m args meth c cX1_thingsOf (some .int) 4 RX1 wsX1_thingsOf A) {q : Nat} (hq : q < 12) {r0 : Int32} {μ0 : Mem} {v1 v2 v3 : Int32} {k4 : Int32 → Int32 → Mem → Option (Int32 × Mem)} (h4 : ∀ (v2 v3 : Int32) (μ : Mem) (H : Heap) (locs : List Loc) (ls : Array Slot), WX D g keysX ad A s s.heap μ H locs → lv_has ls 4 [(0, .ref (ad (q, 50, 0))), (1, .int v1), (2, .int v2), (3, .int v3)] → k4 v2 v3 μ = some (r0, μ0) → TgI r0 p l e rX1_thingsOf s m args below meth c D g keysX ad A μ0 H locs (F0 m 4 ls [])) {μ : Mem} {H : Heap} {locs : List Loc} {ls : Array Slot} (hW : WX D g keysX ad A s s.heap μ H locs) (hl : lv_has ls 4 [(0, .ref (ad (q, 50, 0))), (1, .int v1), (2, .int v2), (3, .int v3)]) (h : X1_thingsOf_b28 q k4 v1 v2 v3 μ = some (r0, μ0)) : TgI r0 p l e rX1_thingsOf s m args below meth c D g keysX ad A μ0 H locs (F0 m 28 ls []) := by
  obtain ⟨hx, hb, hr, hts, hown, hlocks, hml, hA⟩ := id C
  refine lv_iinc (v := v3 + 1) (lv' := [(3, .int (v3 + 1)), (0, .ref (ad (q, 50, 0))), (1, .int v1), (2, .int v2)]) hx hb dX1_thingsOf_28 hl (k := 3) rfl rfl (by decide) rfl (fun ls hl => ?_)
  refine lv_goto (tgt := 4) hx hb dX1_thingsOf_31 (by decide) ?_
  exact h4 _ _ _ _ _ _ hW (lv_sub hl [1, 2, 3, 0] rfl) h
set_option maxHeartbeats 4000000 in
set_option maxRecDepth 100000 in
theorem tX1_thingsOf_b4 {p : Program} {l : Launch} {e : Env} {s : State} {m : MethodId} {args : Array Value} {below : List Frame} {meth : Method} {c : Code} {A : Nat → Prop} {D : va_G} {g : G3} {ad : Ky → Nat} (C : Cx p s m args meth c cX1_thingsOf (some .int) 4 RX1 wsX1_thingsOf A) {q : Nat} (hq : q < 12) {r0 : Int32} {μ0 : Mem} {v1 : Int32} (n : Nat) : ∀ (v2 v3 : Int32) (μ : Mem) (H : Heap) (locs : List Loc) (ls : Array Slot), WX D g keysX ad A s s.heap μ H locs → lv_has ls 4 [(0, .ref (ad (q, 50, 0))), (1, .int v1), (2, .int v2), (3, .int v3)] → lo2 (X1_thingsOf_b4 q v1) n v2 v3 μ = some (r0, μ0) → TgI r0 p l e rX1_thingsOf s m args below meth c D g keysX ad A μ0 H locs (F0 m 4 ls []) := by
  obtain ⟨hx, hb, hr, hts, hown, hlocks, hml, hA⟩ := id C
  induction n with
  | zero =>
    intro v2 v3 μ H locs ls hW hl h
    cases h
  | succ n h4 =>
    intro v2 v3 μ H locs ls hW hl h
    have h : X1_thingsOf_b4 q v1 (lo2 (X1_thingsOf_b4 q v1) n) v2 v3 μ = some (r0, μ0) := h
    refine lv_iload_n hx hb dX1_thingsOf_4 rfl (lv_at hl 3 rfl) ?_
    refine lv_aload_n hx hb dX1_thingsOf_5 rfl (lv_at hl 0 rfl) ?_
    refine wo_get (C := RX1) (T := TX1) (N := 10) hx hb hts iX1_thingsOf_1 hown hW (km_o q hq) (cm_o hq) rfl 0 (by decide) (hts _ mX1_thingsOf_l39) (fun _ h9 => h9) rfl dX1_thingsOf_6 ?_
    refine wo_get (C := RX4) (T := TX4) (N := 12) hx hb hts iX1_thingsOf_4 hown hW (kt_o 13 (by decide) (by decide)) (ct_o (by decide) (by decide)) rfl 1 (by decide) (hts _ mX1_thingsOf_l96) (fun _ h9 => h9) rfl dX1_thingsOf_9 ?_
    refine lv_icmp_ge (tgt := 34) hx hb dX1_thingsOf_12 (by decide) (fun c_1 => ?_) (fun c_1 => ?_)
    · have h := ite_p c_1 h
      refine lv_iload_n hx hb dX1_thingsOf_34 rfl (lv_at hl 2 rfl) ?_
      exact xw_iret C rfl hW dX1_thingsOf_35 h
    have h := ite_n c_1 h
    refine lv_aload_n hx hb dX1_thingsOf_15 rfl (lv_at hl 0 rfl) ?_
    refine wo_get (C := RX1) (T := TX1) (N := 10) hx hb hts iX1_thingsOf_1 hown hW (km_o q hq) (cm_o hq) rfl 4 (by decide) (hts _ mX1_thingsOf_l19) (fun _ h9 => h9) rfl dX1_thingsOf_16 ?_
    refine lv_iload_n hx hb dX1_thingsOf_19 rfl (lv_at hl 3 rfl) ?_
    obtain ⟨hi_2, h⟩ := gi_s h
    refine xw_ald hx hb hW (km_a q hq 4 (by decide) (by decide)) (cm_a hq (by decide)) hi_2 dX1_thingsOf_20 ?_
    refine lv_iload_n hx hb dX1_thingsOf_21 rfl (lv_at hl 1 rfl) ?_
    refine lv_icmp_ne (tgt := 28) hx hb dX1_thingsOf_22 (by decide) (fun c_3 => ?_) (fun c_3 => ?_)
    · have h := ite_n c_3 h
      exact tX1_thingsOf_b28 C hq h4 hW (lv_sub hl [0, 1, 2, 3] rfl) h
    have h := ite_p c_3 h
    refine lv_iinc (v := v2 + 1) (lv' := [(2, .int (v2 + 1)), (0, .ref (ad (q, 50, 0))), (1, .int v1), (3, .int v3)]) hx hb dX1_thingsOf_25 hl (k := 2) rfl rfl (by decide) rfl (fun ls hl => ?_)
    exact tX1_thingsOf_b28 C hq h4 hW (lv_sub hl [1, 2, 0, 3] rfl) h
set_option maxHeartbeats 4000000 in
set_option maxRecDepth 100000 in
theorem kX1_thingsOf (l : Launch) (D : va_G) (g : G3) (ad : Ky → Nat) {q : Nat} (hq : q < 12) {v1 : Int32} {μ μ' : Mem} {r : Int32} (h : X1_thingsOf q v1 μ = some (r, μ')) : CtI l yX1_thingsOf wsX1_thingsOf rX1_thingsOf D (tysX g) keysX ad (cX g ad) [.ref (ad (q, 50, 0)), .int v1] μ r μ' := by
  refine ctI_of (cc := cX1_thingsOf) (maxL := 4) (ret := (some .int)) keysX_nd (by decide) rfl (Nat.le_of_ble_eq_true rfl) (fun p e s m below meth c A ls C hW hl => ?_)
  have hl : lv_has ls 4 [(0, .ref (ad (q, 50, 0))), (1, .int v1)] := hl
  obtain ⟨hx, hb, hr, hts, hown, hlocks, hml, hA⟩ := id C
  refine lv_iconst (v := 0) hx hb dX1_thingsOf_0 (by decide) ?_
  refine lv_istore_n (lv' := [(2, .int 0), (0, .ref (ad (q, 50, 0))), (1, .int v1)]) hx hb dX1_thingsOf_1 rfl hl (by decide) rfl (fun ls hl => ?_)
  refine lv_iconst (v := 0) hx hb dX1_thingsOf_2 (by decide) ?_
  refine lv_istore_n (lv' := [(3, .int 0), (2, .int 0), (0, .ref (ad (q, 50, 0))), (1, .int v1)]) hx hb dX1_thingsOf_3 rfl hl (by decide) rfl (fun ls hl => ?_)
  exact tX1_thingsOf_b4 C hq 1000 _ _ _ _ _ _ hW (lv_sub hl [2, 3, 1, 0] rfl) h
abbrev rX1_wantersOf : Room := { frames := 0, cells := 0, slots := 0, locals := 0 }
theorem mX1_wantersOf_l39 : Cond.fieldLink RX1 39 "NearlyBought$Market" "tale" "LNearlyBought$Tale;" ∈ wsX1_wantersOf := by decide +kernel
theorem mX1_wantersOf_l93 : Cond.fieldLink RX1 93 "NearlyBought$Tale" "persons" "I" ∈ wsX1_wantersOf := by decide +kernel
theorem mX1_wantersOf_l36 : Cond.fieldLink RX1 36 "NearlyBought$Market" "price" "[[I" ∈ wsX1_wantersOf := by decide +kernel
theorem iX1_wantersOf_1 : ∀ w ∈ wsX10, w ∈ wsX1_wantersOf := fun _ h => List.mem_cons_of_mem _ (List.mem_append_left _ (List.mem_append_right _ h))
theorem iX1_wantersOf_4 : ∀ w ∈ wsX40, w ∈ wsX1_wantersOf := fun _ h => List.mem_cons_of_mem _ (List.mem_append_right _ h)
set_option maxHeartbeats 4000000 in
set_option maxRecDepth 100000 in
theorem tX1_wantersOf_b31 {p : Program} {l : Launch} {e : Env} {s : State} {m : MethodId} {args : Array Value} {below : List Frame} {meth : Method} {c : Code} {A : Nat → Prop} {D : va_G} {g : G3} {ad : Ky → Nat} (C : Cx p s m args meth c cX1_wantersOf (some .int) 4 RX1 wsX1_wantersOf A) {q : Nat} (hq : q < 12) {r0 : Int32} {μ0 : Mem} {v1 v2 v3 : Int32} {k4 : Int32 → Int32 → Mem → Option (Int32 × Mem)} (h4 : ∀ (v2 v3 : Int32) (μ : Mem) (H : Heap) (locs : List Loc) (ls : Array Slot), WX D g keysX ad A s s.heap μ H locs → lv_has ls 4 [(0, .ref (ad (q, 50, 0))), (1, .int v1), (2, .int v2), (3, .int v3)] → k4 v2 v3 μ = some (r0, μ0) → TgI r0 p l e rX1_wantersOf s m args below meth c D g keysX ad A μ0 H locs (F0 m 4 ls [])) {μ : Mem} {H : Heap} {locs : List Loc} {ls : Array Slot} (hW : WX D g keysX ad A s s.heap μ H locs) (hl : lv_has ls 4 [(0, .ref (ad (q, 50, 0))), (1, .int v1), (2, .int v2), (3, .int v3)]) (h : X1_wantersOf_b31 q k4 v1 v2 v3 μ = some (r0, μ0)) : TgI r0 p l e rX1_wantersOf s m args below meth c D g keysX ad A μ0 H locs (F0 m 31 ls []) := by
  obtain ⟨hx, hb, hr, hts, hown, hlocks, hml, hA⟩ := id C
  refine lv_iinc (v := v3 + 1) (lv' := [(3, .int (v3 + 1)), (0, .ref (ad (q, 50, 0))), (1, .int v1), (2, .int v2)]) hx hb dX1_wantersOf_31 hl (k := 3) rfl rfl (by decide) rfl (fun ls hl => ?_)
  refine lv_goto (tgt := 4) hx hb dX1_wantersOf_34 (by decide) ?_
  exact h4 _ _ _ _ _ _ hW (lv_sub hl [1, 2, 3, 0] rfl) h
set_option maxHeartbeats 4000000 in
set_option maxRecDepth 100000 in
theorem tX1_wantersOf_b4 {p : Program} {l : Launch} {e : Env} {s : State} {m : MethodId} {args : Array Value} {below : List Frame} {meth : Method} {c : Code} {A : Nat → Prop} {D : va_G} {g : G3} {ad : Ky → Nat} (C : Cx p s m args meth c cX1_wantersOf (some .int) 4 RX1 wsX1_wantersOf A) {q : Nat} (hq : q < 12) {r0 : Int32} {μ0 : Mem} {v1 : Int32} (n : Nat) : ∀ (v2 v3 : Int32) (μ : Mem) (H : Heap) (locs : List Loc) (ls : Array Slot), WX D g keysX ad A s s.heap μ H locs → lv_has ls 4 [(0, .ref (ad (q, 50, 0))), (1, .int v1), (2, .int v2), (3, .int v3)] → lo2 (X1_wantersOf_b4 q v1) n v2 v3 μ = some (r0, μ0) → TgI r0 p l e rX1_wantersOf s m args below meth c D g keysX ad A μ0 H locs (F0 m 4 ls []) := by
  obtain ⟨hx, hb, hr, hts, hown, hlocks, hml, hA⟩ := id C
  induction n with
  | zero =>
    intro v2 v3 μ H locs ls hW hl h
    cases h
  | succ n h4 =>
    intro v2 v3 μ H locs ls hW hl h
    have h : X1_wantersOf_b4 q v1 (lo2 (X1_wantersOf_b4 q v1) n) v2 v3 μ = some (r0, μ0) := h
    refine lv_iload_n hx hb dX1_wantersOf_4 rfl (lv_at hl 3 rfl) ?_
    refine lv_aload_n hx hb dX1_wantersOf_5 rfl (lv_at hl 0 rfl) ?_
    refine wo_get (C := RX1) (T := TX1) (N := 10) hx hb hts iX1_wantersOf_1 hown hW (km_o q hq) (cm_o hq) rfl 0 (by decide) (hts _ mX1_wantersOf_l39) (fun _ h9 => h9) rfl dX1_wantersOf_6 ?_
    refine wo_get (C := RX4) (T := TX4) (N := 12) hx hb hts iX1_wantersOf_4 hown hW (kt_o 13 (by decide) (by decide)) (ct_o (by decide) (by decide)) rfl 0 (by decide) (hts _ mX1_wantersOf_l93) (fun _ h9 => h9) rfl dX1_wantersOf_9 ?_
    refine lv_icmp_ge (tgt := 37) hx hb dX1_wantersOf_12 (by decide) (fun c_1 => ?_) (fun c_1 => ?_)
    · have h := ite_p c_1 h
      refine lv_iload_n hx hb dX1_wantersOf_37 rfl (lv_at hl 2 rfl) ?_
      exact xw_iret C rfl hW dX1_wantersOf_38 h
    have h := ite_n c_1 h
    refine lv_aload_n hx hb dX1_wantersOf_15 rfl (lv_at hl 0 rfl) ?_
    refine wo_get (C := RX1) (T := TX1) (N := 10) hx hb hts iX1_wantersOf_1 hown hW (km_o q hq) (cm_o hq) rfl 9 (by decide) (hts _ mX1_wantersOf_l36) (fun _ h9 => h9) rfl dX1_wantersOf_16 ?_
    refine lv_iload_n hx hb dX1_wantersOf_19 rfl (lv_at hl 3 rfl) ?_
    obtain ⟨hi_2, h⟩ := gi_s h
    refine wo_ldq hx hb hW (km_q q hq 9 (by decide) (by decide)) 1 rfl (cm_q hq (by decide)) rfl hi_2 dX1_wantersOf_20 ?_
    refine lv_iload_n hx hb dX1_wantersOf_21 rfl (lv_at hl 1 rfl) ?_
    obtain ⟨hi_3, h⟩ := gi_s h
    refine xw_ald hx hb hW (km_r q hq 9 (by decide) (by decide) _ (vp_lt hi_2)) (cm_r hq (by decide) (vp_lt hi_2)) hi_3 dX1_wantersOf_22 ?_
    refine lv_bipush (v := (-4)) hx hb dX1_wantersOf_23 (by decide) ?_
    refine lv_icmp_eq (tgt := 31) hx hb dX1_wantersOf_25 (by decide) (fun c_4 => ?_) (fun c_4 => ?_)
    · have h := ite_p c_4 h
      exact tX1_wantersOf_b31 C hq h4 hW (lv_sub hl [0, 1, 2, 3] rfl) h
    have h := ite_n c_4 h
    refine lv_iinc (v := v2 + 1) (lv' := [(2, .int (v2 + 1)), (0, .ref (ad (q, 50, 0))), (1, .int v1), (3, .int v3)]) hx hb dX1_wantersOf_28 hl (k := 2) rfl rfl (by decide) rfl (fun ls hl => ?_)
    exact tX1_wantersOf_b31 C hq h4 hW (lv_sub hl [1, 2, 0, 3] rfl) h
set_option maxHeartbeats 4000000 in
set_option maxRecDepth 100000 in
theorem kX1_wantersOf (l : Launch) (D : va_G) (g : G3) (ad : Ky → Nat) {q : Nat} (hq : q < 12) {v1 : Int32} {μ μ' : Mem} {r : Int32} (h : X1_wantersOf q v1 μ = some (r, μ')) : CtI l yX1_wantersOf wsX1_wantersOf rX1_wantersOf D (tysX g) keysX ad (cX g ad) [.ref (ad (q, 50, 0)), .int v1] μ r μ' := by
  refine ctI_of (cc := cX1_wantersOf) (maxL := 4) (ret := (some .int)) keysX_nd (by decide) rfl (Nat.le_of_ble_eq_true rfl) (fun p e s m below meth c A ls C hW hl => ?_)
  have hl : lv_has ls 4 [(0, .ref (ad (q, 50, 0))), (1, .int v1)] := hl
  obtain ⟨hx, hb, hr, hts, hown, hlocks, hml, hA⟩ := id C
  refine lv_iconst (v := 0) hx hb dX1_wantersOf_0 (by decide) ?_
  refine lv_istore_n (lv' := [(2, .int 0), (0, .ref (ad (q, 50, 0))), (1, .int v1)]) hx hb dX1_wantersOf_1 rfl hl (by decide) rfl (fun ls hl => ?_)
  refine lv_iconst (v := 0) hx hb dX1_wantersOf_2 (by decide) ?_
  refine lv_istore_n (lv' := [(3, .int 0), (2, .int 0), (0, .ref (ad (q, 50, 0))), (1, .int v1)]) hx hb dX1_wantersOf_3 rfl hl (by decide) rfl (fun ls hl => ?_)
  exact tX1_wantersOf_b4 C hq 1000 _ _ _ _ _ _ hW (lv_sub hl [2, 3, 1, 0] rfl) h
abbrev rX1_worthOf : Room := { frames := 1, cells := 0, slots := 0, locals := 22 }
theorem mX1_worthOf_l15 : Cond.fieldLink RX1 15 "NearlyBought$Market" "coins" "[I" ∈ wsX1_worthOf := by decide +kernel
theorem mX1_worthOf_l39 : Cond.fieldLink RX1 39 "NearlyBought$Market" "tale" "LNearlyBought$Tale;" ∈ wsX1_worthOf := by decide +kernel
theorem mX1_worthOf_l96 : Cond.fieldLink RX1 96 "NearlyBought$Tale" "things" "I" ∈ wsX1_worthOf := by decide +kernel
theorem mX1_worthOf_l19 : Cond.fieldLink RX1 19 "NearlyBought$Market" "owner" "[I" ∈ wsX1_worthOf := by decide +kernel
theorem mX1_worthOf_l43 : Cond.fieldLink RX1 43 "NearlyBought$Market" "year" "I" ∈ wsX1_worthOf := by decide +kernel
theorem iX1_worthOf_1 : ∀ w ∈ wsX10, w ∈ wsX1_worthOf := fun _ h => List.mem_cons_of_mem _ (List.mem_append_left _ (List.mem_append_right _ h))
theorem iX1_worthOf_4 : ∀ w ∈ wsX40, w ∈ wsX1_worthOf := fun _ h => List.mem_cons_of_mem _ (List.mem_append_right _ h)
set_option maxHeartbeats 4000000 in
set_option maxRecDepth 100000 in
theorem tX1_worthOf_b45 {p : Program} {l : Launch} {e : Env} {s : State} {m : MethodId} {args : Array Value} {below : List Frame} {meth : Method} {c : Code} {A : Nat → Prop} {D : va_G} {g : G3} {ad : Ky → Nat} (C : Cx p s m args meth c cX1_worthOf (some .int) 4 RX1 wsX1_worthOf A) {q : Nat} (hq : q < 12) {r0 : Int32} {μ0 : Mem} {v1 v2 v3 : Int32} {k9 : Int32 → Int32 → Mem → Option (Int32 × Mem)} (h9 : ∀ (v2 v3 : Int32) (μ : Mem) (H : Heap) (locs : List Loc) (ls : Array Slot), WX D g keysX ad A s s.heap μ H locs → lv_has ls 4 [(0, .ref (ad (q, 50, 0))), (1, .int v1), (2, .int v2), (3, .int v3)] → k9 v2 v3 μ = some (r0, μ0) → TgI r0 p l e rX1_worthOf s m args below meth c D g keysX ad A μ0 H locs (F0 m 9 ls [])) {μ : Mem} {H : Heap} {locs : List Loc} {ls : Array Slot} (hW : WX D g keysX ad A s s.heap μ H locs) (hl : lv_has ls 4 [(0, .ref (ad (q, 50, 0))), (1, .int v1), (2, .int v2), (3, .int v3)]) (h : X1_worthOf_b45 q k9 v1 v2 v3 μ = some (r0, μ0)) : TgI r0 p l e rX1_worthOf s m args below meth c D g keysX ad A μ0 H locs (F0 m 45 ls []) := by
  obtain ⟨hx, hb, hr, hts, hown, hlocks, hml, hA⟩ := id C
  refine lv_iinc (v := v3 + 1) (lv' := [(3, .int (v3 + 1)), (0, .ref (ad (q, 50, 0))), (1, .int v1), (2, .int v2)]) hx hb dX1_worthOf_45 hl (k := 3) rfl rfl (by decide) rfl (fun ls hl => ?_)
  refine lv_goto (tgt := 9) hx hb dX1_worthOf_48 (by decide) ?_
  exact h9 _ _ _ _ _ _ hW (lv_sub hl [1, 2, 3, 0] rfl) h
set_option maxHeartbeats 4000000 in
set_option maxRecDepth 100000 in
theorem tX1_worthOf_b9 {p : Program} {l : Launch} {e : Env} {s : State} {m : MethodId} {args : Array Value} {below : List Frame} {meth : Method} {c : Code} {A : Nat → Prop} {D : va_G} {g : G3} {ad : Ky → Nat} (C : Cx p s m args meth c cX1_worthOf (some .int) 4 RX1 wsX1_worthOf A) {q : Nat} (hq : q < 12) {r0 : Int32} {μ0 : Mem} {v1 : Int32} (n : Nat) : ∀ (v2 v3 : Int32) (μ : Mem) (H : Heap) (locs : List Loc) (ls : Array Slot), WX D g keysX ad A s s.heap μ H locs → lv_has ls 4 [(0, .ref (ad (q, 50, 0))), (1, .int v1), (2, .int v2), (3, .int v3)] → lo2 (X1_worthOf_b9 q v1) n v2 v3 μ = some (r0, μ0) → TgI r0 p l e rX1_worthOf s m args below meth c D g keysX ad A μ0 H locs (F0 m 9 ls []) := by
  obtain ⟨hx, hb, hr, hts, hown, hlocks, hml, hA⟩ := id C
  induction n with
  | zero =>
    intro v2 v3 μ H locs ls hW hl h
    cases h
  | succ n h9 =>
    intro v2 v3 μ H locs ls hW hl h
    have h : X1_worthOf_b9 q v1 (lo2 (X1_worthOf_b9 q v1) n) v2 v3 μ = some (r0, μ0) := h
    refine lv_iload_n hx hb dX1_worthOf_9 rfl (lv_at hl 3 rfl) ?_
    refine lv_aload_n hx hb dX1_worthOf_10 rfl (lv_at hl 0 rfl) ?_
    refine wo_get (C := RX1) (T := TX1) (N := 10) hx hb hts iX1_worthOf_1 hown hW (km_o q hq) (cm_o hq) rfl 0 (by decide) (hts _ mX1_worthOf_l39) (fun _ h9 => h9) rfl dX1_worthOf_11 ?_
    refine wo_get (C := RX4) (T := TX4) (N := 12) hx hb hts iX1_worthOf_4 hown hW (kt_o 13 (by decide) (by decide)) (ct_o (by decide) (by decide)) rfl 1 (by decide) (hts _ mX1_worthOf_l96) (fun _ h9 => h9) rfl dX1_worthOf_14 ?_
    refine lv_icmp_ge (tgt := 51) hx hb dX1_worthOf_17 (by decide) (fun c_2 => ?_) (fun c_2 => ?_)
    · have h := ite_p c_2 h
      refine lv_iload_n hx hb dX1_worthOf_51 rfl (lv_at hl 2 rfl) ?_
      exact xw_iret C rfl hW dX1_worthOf_52 h
    have h := ite_n c_2 h
    refine lv_aload_n hx hb dX1_worthOf_20 rfl (lv_at hl 0 rfl) ?_
    refine wo_get (C := RX1) (T := TX1) (N := 10) hx hb hts iX1_worthOf_1 hown hW (km_o q hq) (cm_o hq) rfl 4 (by decide) (hts _ mX1_worthOf_l19) (fun _ h9 => h9) rfl dX1_worthOf_21 ?_
    refine lv_iload_n hx hb dX1_worthOf_24 rfl (lv_at hl 3 rfl) ?_
    obtain ⟨hi_3, h⟩ := gi_s h
    refine xw_ald hx hb hW (km_a q hq 4 (by decide) (by decide)) (cm_a hq (by decide)) hi_3 dX1_worthOf_25 ?_
    refine lv_iload_n hx hb dX1_worthOf_26 rfl (lv_at hl 1 rfl) ?_
    refine lv_icmp_ne (tgt := 45) hx hb dX1_worthOf_27 (by decide) (fun c_4 => ?_) (fun c_4 => ?_)
    · have h := ite_n c_4 h
      exact tX1_worthOf_b45 C hq h9 hW (lv_sub hl [0, 1, 2, 3] rfl) h
    have h := ite_p c_4 h
    refine lv_iload_n hx hb dX1_worthOf_30 rfl (lv_at hl 2 rfl) ?_
    refine lv_aload_n hx hb dX1_worthOf_31 rfl (lv_at hl 0 rfl) ?_
    refine wo_get (C := RX1) (T := TX1) (N := 10) hx hb hts iX1_worthOf_1 hown hW (km_o q hq) (cm_o hq) rfl 0 (by decide) (hts _ mX1_worthOf_l39) (fun _ h9 => h9) rfl dX1_worthOf_32 ?_
    refine lv_iload_n hx hb dX1_worthOf_35 rfl (lv_at hl 3 rfl) ?_
    refine lv_aload_n hx hb dX1_worthOf_36 rfl (lv_at hl 0 rfl) ?_
    refine wo_get (C := RX1) (T := TX1) (N := 10) hx hb hts iX1_worthOf_1 hown hW (km_o q hq) (cm_o hq) rfl 1 (by decide) (hts _ mX1_worthOf_l43) (fun _ h9 => h9) rfl dX1_worthOf_37 ?_
    obtain ⟨r_7, μ_6, hh_5, h⟩ := bd_s h
    refine wo_Vi (rest := [.int v2]) C hW (kX4_costIn l D g ad (q := 13) (by decide) (by decide) hh_5) (cwV 2 hts gX1_worthOf_X4_costIn rfl rfl rfl (by decide +kernel) ⟨Nat.le_of_ble_eq_true rfl, Nat.le_of_ble_eq_true rfl⟩) (kt_o 13 (by decide) (by decide)) (ct_o (by decide) (by decide)) rfl rfl hl.1 rfl (Nat.le_of_ble_eq_true rfl) dX1_worthOf_40 ⟨Nat.zero_le _, Nat.zero_le _⟩ (fun H locs hW => ?_)
    refine lv_iadd hx hb dX1_worthOf_43 ?_
    refine lv_istore_n (lv' := [(2, .int (v2 + r_7)), (0, .ref (ad (q, 50, 0))), (1, .int v1), (3, .int v3)]) hx hb dX1_worthOf_44 rfl hl (by decide) rfl (fun ls hl => ?_)
    exact tX1_worthOf_b45 C hq h9 hW (lv_sub hl [1, 2, 0, 3] rfl) h
set_option maxHeartbeats 4000000 in
set_option maxRecDepth 100000 in
theorem kX1_worthOf (l : Launch) (D : va_G) (g : G3) (ad : Ky → Nat) {q : Nat} (hq : q < 12) {v1 : Int32} {μ μ' : Mem} {r : Int32} (h : X1_worthOf q v1 μ = some (r, μ')) : CtI l yX1_worthOf wsX1_worthOf rX1_worthOf D (tysX g) keysX ad (cX g ad) [.ref (ad (q, 50, 0)), .int v1] μ r μ' := by
  refine ctI_of (cc := cX1_worthOf) (maxL := 4) (ret := (some .int)) keysX_nd (by decide) rfl (Nat.le_of_ble_eq_true rfl) (fun p e s m below meth c A ls C hW hl => ?_)
  have hl : lv_has ls 4 [(0, .ref (ad (q, 50, 0))), (1, .int v1)] := hl
  obtain ⟨hx, hb, hr, hts, hown, hlocks, hml, hA⟩ := id C
  refine lv_aload_n hx hb dX1_worthOf_0 rfl (lv_at hl 0 rfl) ?_
  refine wo_get (C := RX1) (T := TX1) (N := 10) hx hb hts iX1_worthOf_1 hown hW (km_o q hq) (cm_o hq) rfl 3 (by decide) (hts _ mX1_worthOf_l15) (fun _ h9 => h9) rfl dX1_worthOf_1 ?_
  refine lv_iload_n hx hb dX1_worthOf_4 rfl (lv_at hl 1 rfl) ?_
  obtain ⟨hi_1, h⟩ := gi_s h
  refine xw_ald hx hb hW (km_a q hq 3 (by decide) (by decide)) (cm_a hq (by decide)) hi_1 dX1_worthOf_5 ?_
  refine lv_istore_n (lv' := [(2, .int (μ q 3 0 v1.toNatClampNeg)), (0, .ref (ad (q, 50, 0))), (1, .int v1)]) hx hb dX1_worthOf_6 rfl hl (by decide) rfl (fun ls hl => ?_)
  refine lv_iconst (v := 0) hx hb dX1_worthOf_7 (by decide) ?_
  refine lv_istore_n (lv' := [(3, .int 0), (2, .int (μ q 3 0 v1.toNatClampNeg)), (0, .ref (ad (q, 50, 0))), (1, .int v1)]) hx hb dX1_worthOf_8 rfl hl (by decide) rfl (fun ls hl => ?_)
  exact tX1_worthOf_b9 C hq 1000 _ _ _ _ _ _ hW (lv_sub hl [2, 3, 1, 0] rfl) h
abbrev rX4_clear : Room := { frames := 0, cells := 0, slots := 0, locals := 0 }
theorem mX4_clear_l33 : Cond.fieldLink RX4 33 "NearlyBought$Tale" "persons" "I" ∈ wsX4_clear := by decide +kernel
theorem mX4_clear_l37 : Cond.fieldLink RX4 37 "NearlyBought$Tale" "things" "I" ∈ wsX4_clear := by decide +kernel
theorem mX4_clear_l40 : Cond.fieldLink RX4 40 "NearlyBought$Tale" "pauses" "I" ∈ wsX4_clear := by decide +kernel
theorem mX4_clear_l43 : Cond.fieldLink RX4 43 "NearlyBought$Tale" "earned" "I" ∈ wsX4_clear := by decide +kernel
theorem mX4_clear_l46 : Cond.fieldLink RX4 46 "NearlyBought$Tale" "dearer" "I" ∈ wsX4_clear := by decide +kernel
theorem iX4_clear_4 : ∀ w ∈ wsX40, w ∈ wsX4_clear := fun _ h => List.mem_cons_of_mem _ (List.mem_append_right _ h)
set_option maxHeartbeats 4000000 in
set_option maxRecDepth 100000 in
theorem kX4_clear (l : Launch) (D : va_G) (g : G3) (ad : Ky → Nat) {q : Nat} (h2 : q < 14) (h1 : 12 ≤ q) {μ μ' : Mem} (h : X4_clear q μ = some μ') : CtV l yX4_clear wsX4_clear rX4_clear D (tysX g) keysX ad (cX g ad) [.ref (ad (q, 50, 0))] μ μ' := by
  refine ctV_of (cc := cX4_clear) (maxL := 1) (ret := none) keysX_nd (by decide) rfl (Nat.le_of_ble_eq_true rfl) (fun p e s m below meth c A ls C hW hl => ?_)
  have hl : lv_has ls 1 [(0, .ref (ad (q, 50, 0)))] := hl
  obtain ⟨hx, hb, hr, hts, hown, hlocks, hml, hA⟩ := id C
  refine lv_aload_n hx hb dX4_clear_0 rfl (lv_at hl 0 rfl) ?_
  refine lv_iconst (v := 0) hx hb dX4_clear_1 (by decide) ?_
  refine xw_put (C := RX4) (T := TX4) (N := 12) hx hb hts iX4_clear_4 tyX4 tyX4_ok nmX4 hown hW (kt_o q h2 h1) (ct_o h2 h1) rfl 0 (by decide) (hts _ mX4_clear_l33) (fun _ h9 => h9) rfl (by decide +kernel) (Nat.le_of_ble_eq_true rfl) keysX_ok (st_s q h2 h1 0 (by decide)) (pt_0 h2 h1 _) dX4_clear_2 (fun H locs hW => ?_)
  refine lv_aload_n hx hb dX4_clear_5 rfl (lv_at hl 0 rfl) ?_
  refine lv_iconst (v := 0) hx hb dX4_clear_6 (by decide) ?_
  refine xw_put (C := RX4) (T := TX4) (N := 12) hx hb hts iX4_clear_4 tyX4 tyX4_ok nmX4 hown hW (kt_o q h2 h1) (ct_o h2 h1) rfl 1 (by decide) (hts _ mX4_clear_l37) (fun _ h9 => h9) rfl (by decide +kernel) (Nat.le_of_ble_eq_true rfl) keysX_ok (st_s q h2 h1 1 (by decide)) (pt_1 h2 h1 _) dX4_clear_7 (fun H locs hW => ?_)
  refine lv_aload_n hx hb dX4_clear_10 rfl (lv_at hl 0 rfl) ?_
  refine lv_iconst (v := 0) hx hb dX4_clear_11 (by decide) ?_
  refine xw_put (C := RX4) (T := TX4) (N := 12) hx hb hts iX4_clear_4 tyX4 tyX4_ok nmX4 hown hW (kt_o q h2 h1) (ct_o h2 h1) rfl 2 (by decide) (hts _ mX4_clear_l40) (fun _ h9 => h9) rfl (by decide +kernel) (Nat.le_of_ble_eq_true rfl) keysX_ok (st_s q h2 h1 2 (by decide)) (pt_2 h2 h1 _) dX4_clear_12 (fun H locs hW => ?_)
  refine lv_aload_n hx hb dX4_clear_15 rfl (lv_at hl 0 rfl) ?_
  refine lv_iconst (v := 5) hx hb dX4_clear_16 (by decide) ?_
  refine xw_put (C := RX4) (T := TX4) (N := 12) hx hb hts iX4_clear_4 tyX4 tyX4_ok nmX4 hown hW (kt_o q h2 h1) (ct_o h2 h1) rfl 3 (by decide) (hts _ mX4_clear_l43) (fun _ h9 => h9) rfl (by decide +kernel) (Nat.le_of_ble_eq_true rfl) keysX_ok (st_s q h2 h1 3 (by decide)) (pt_3 h2 h1 _) dX4_clear_17 (fun H locs hW => ?_)
  refine lv_aload_n hx hb dX4_clear_20 rfl (lv_at hl 0 rfl) ?_
  refine lv_iconst (v := 2) hx hb dX4_clear_21 (by decide) ?_
  refine xw_put (C := RX4) (T := TX4) (N := 12) hx hb hts iX4_clear_4 tyX4 tyX4_ok nmX4 hown hW (kt_o q h2 h1) (ct_o h2 h1) rfl 4 (by decide) (hts _ mX4_clear_l46) (fun _ h9 => h9) rfl (by decide +kernel) (Nat.le_of_ble_eq_true rfl) keysX_ok (st_s q h2 h1 4 (by decide)) (pt_4 h2 h1 _) dX4_clear_22 (fun H locs hW => ?_)
  exact xw_vret C rfl hW dX4_clear_25 h
abbrev rX4_hasPerson : Room := { frames := 0, cells := 0, slots := 0, locals := 0 }
theorem mX4_hasPerson_l33 : Cond.fieldLink RX4 33 "NearlyBought$Tale" "persons" "I" ∈ wsX4_hasPerson := by decide +kernel
theorem iX4_hasPerson_4 : ∀ w ∈ wsX40, w ∈ wsX4_hasPerson := fun _ h => List.mem_cons_of_mem _ (List.mem_append_right _ h)
set_option maxHeartbeats 4000000 in
set_option maxRecDepth 100000 in
theorem kX4_hasPerson (l : Launch) (D : va_G) (g : G3) (ad : Ky → Nat) {q : Nat} (h2 : q < 14) (h1 : 12 ≤ q) {v1 : Int32} {μ μ' : Mem} {r : Int32} (h : X4_hasPerson q v1 μ = some (r, μ')) : CtI l yX4_hasPerson wsX4_hasPerson rX4_hasPerson D (tysX g) keysX ad (cX g ad) [.ref (ad (q, 50, 0)), .int v1] μ r μ' := by
  refine ctI_of (cc := cX4_hasPerson) (maxL := 2) (ret := (some .boolean)) keysX_nd (by decide) rfl (Nat.le_of_ble_eq_true rfl) (fun p e s m below meth c A ls C hW hl => ?_)
  have hl : lv_has ls 2 [(0, .ref (ad (q, 50, 0))), (1, .int v1)] := hl
  obtain ⟨hx, hb, hr, hts, hown, hlocks, hml, hA⟩ := id C
  refine lv_iload_n hx hb dX4_hasPerson_0 rfl (lv_at hl 1 rfl) ?_
  refine lv_if_lt (tgt := 16) hx hb dX4_hasPerson_1 (by decide) (fun c_1 => ?_) (fun c_1 => ?_)
  · have h := ite_p c_1 h
    refine lv_iconst (v := 0) hx hb dX4_hasPerson_16 (by decide) ?_
    exact xw_zret C rfl (by decide) hW dX4_hasPerson_17 h
  have h := ite_n c_1 h
  refine lv_iload_n hx hb dX4_hasPerson_4 rfl (lv_at hl 1 rfl) ?_
  refine lv_aload_n hx hb dX4_hasPerson_5 rfl (lv_at hl 0 rfl) ?_
  refine wo_get (C := RX4) (T := TX4) (N := 12) hx hb hts iX4_hasPerson_4 hown hW (kt_o q h2 h1) (ct_o h2 h1) rfl 0 (by decide) (hts _ mX4_hasPerson_l33) (fun _ h9 => h9) rfl dX4_hasPerson_6 ?_
  refine lv_icmp_ge (tgt := 16) hx hb dX4_hasPerson_9 (by decide) (fun c_2 => ?_) (fun c_2 => ?_)
  · have h := ite_p c_2 h
    refine lv_iconst (v := 0) hx hb dX4_hasPerson_16 (by decide) ?_
    exact xw_zret C rfl (by decide) hW dX4_hasPerson_17 h
  have h := ite_n c_2 h
  refine lv_iconst (v := 1) hx hb dX4_hasPerson_12 (by decide) ?_
  refine lv_goto (tgt := 17) hx hb dX4_hasPerson_13 (by decide) ?_
  exact xw_zret C rfl (by decide) hW dX4_hasPerson_17 h
abbrev rX4_hasThing : Room := { frames := 0, cells := 0, slots := 0, locals := 0 }
theorem mX4_hasThing_l37 : Cond.fieldLink RX4 37 "NearlyBought$Tale" "things" "I" ∈ wsX4_hasThing := by decide +kernel
theorem iX4_hasThing_4 : ∀ w ∈ wsX40, w ∈ wsX4_hasThing := fun _ h => List.mem_cons_of_mem _ (List.mem_append_right _ h)
set_option maxHeartbeats 4000000 in
set_option maxRecDepth 100000 in
theorem kX4_hasThing (l : Launch) (D : va_G) (g : G3) (ad : Ky → Nat) {q : Nat} (h2 : q < 14) (h1 : 12 ≤ q) {v1 : Int32} {μ μ' : Mem} {r : Int32} (h : X4_hasThing q v1 μ = some (r, μ')) : CtI l yX4_hasThing wsX4_hasThing rX4_hasThing D (tysX g) keysX ad (cX g ad) [.ref (ad (q, 50, 0)), .int v1] μ r μ' := by
  refine ctI_of (cc := cX4_hasThing) (maxL := 2) (ret := (some .boolean)) keysX_nd (by decide) rfl (Nat.le_of_ble_eq_true rfl) (fun p e s m below meth c A ls C hW hl => ?_)
  have hl : lv_has ls 2 [(0, .ref (ad (q, 50, 0))), (1, .int v1)] := hl
  obtain ⟨hx, hb, hr, hts, hown, hlocks, hml, hA⟩ := id C
  refine lv_iload_n hx hb dX4_hasThing_0 rfl (lv_at hl 1 rfl) ?_
  refine lv_if_lt (tgt := 16) hx hb dX4_hasThing_1 (by decide) (fun c_1 => ?_) (fun c_1 => ?_)
  · have h := ite_p c_1 h
    refine lv_iconst (v := 0) hx hb dX4_hasThing_16 (by decide) ?_
    exact xw_zret C rfl (by decide) hW dX4_hasThing_17 h
  have h := ite_n c_1 h
  refine lv_iload_n hx hb dX4_hasThing_4 rfl (lv_at hl 1 rfl) ?_
  refine lv_aload_n hx hb dX4_hasThing_5 rfl (lv_at hl 0 rfl) ?_
  refine wo_get (C := RX4) (T := TX4) (N := 12) hx hb hts iX4_hasThing_4 hown hW (kt_o q h2 h1) (ct_o h2 h1) rfl 1 (by decide) (hts _ mX4_hasThing_l37) (fun _ h9 => h9) rfl dX4_hasThing_6 ?_
  refine lv_icmp_ge (tgt := 16) hx hb dX4_hasThing_9 (by decide) (fun c_2 => ?_) (fun c_2 => ?_)
  · have h := ite_p c_2 h
    refine lv_iconst (v := 0) hx hb dX4_hasThing_16 (by decide) ?_
    exact xw_zret C rfl (by decide) hW dX4_hasThing_17 h
  have h := ite_n c_2 h
  refine lv_iconst (v := 1) hx hb dX4_hasThing_12 (by decide) ?_
  refine lv_goto (tgt := 17) hx hb dX4_hasThing_13 (by decide) ?_
  exact xw_zret C rfl (by decide) hW dX4_hasThing_17 h
abbrev rX4_takePause : Room := { frames := 1, cells := 0, slots := 0, locals := 21 }
theorem mX4_takePause_l40 : Cond.fieldLink RX4 40 "NearlyBought$Tale" "pauses" "I" ∈ wsX4_takePause := by decide +kernel
theorem mX4_takePause_l21 : Cond.fieldLink RX4 21 "NearlyBought$Tale" "pauser" "[I" ∈ wsX4_takePause := by decide +kernel
theorem mX4_takePause_l24 : Cond.fieldLink RX4 24 "NearlyBought$Tale" "pausedAt" "[I" ∈ wsX4_takePause := by decide +kernel
theorem mX4_takePause_l27 : Cond.fieldLink RX4 27 "NearlyBought$Tale" "pauseBreaths" "[I" ∈ wsX4_takePause := by decide +kernel
theorem mX4_takePause_l30 : Cond.fieldLink RX4 30 "NearlyBought$Tale" "pauseYear" "[I" ∈ wsX4_takePause := by decide +kernel
theorem iX4_takePause_4 : ∀ w ∈ wsX40, w ∈ wsX4_takePause := fun _ h => List.mem_cons_of_mem _ (List.mem_append_right _ h)
set_option maxHeartbeats 4000000 in
set_option maxRecDepth 100000 in
theorem kX4_takePause (l : Launch) (D : va_G) (g : G3) (ad : Ky → Nat) {q : Nat} (h2 : q < 14) (h1 : 12 ≤ q) {μ μ' : Mem} {r : Int32} (h : X4_takePause q μ = some (r, μ')) : CtI l yX4_takePause wsX4_takePause rX4_takePause D (tysX g) keysX ad (cX g ad) [.ref (ad (q, 50, 0)), .ref (ad (14, 0, 0))] μ r μ' := by
  refine ctI_of (cc := cX4_takePause) (maxL := 6) (ret := (some .boolean)) keysX_nd (by decide) rfl (Nat.le_of_ble_eq_true rfl) (fun p e s m below meth c A ls C hW hl => ?_)
  have hl : lv_has ls 6 [(0, .ref (ad (q, 50, 0))), (1, .ref (ad (14, 0, 0)))] := hl
  obtain ⟨hx, hb, hr, hts, hown, hlocks, hml, hA⟩ := id C
  refine lv_aload_n hx hb dX4_takePause_0 rfl (lv_at hl 1 rfl) ?_
  refine lv_iconst (v := 0) hx hb dX4_takePause_1 (by decide) ?_
  obtain ⟨hi_1, h⟩ := gi_s h
  refine xw_ald hx hb hW kl_14_0_0 rfl hi_1 dX4_takePause_2 ?_
  refine lv_istore_n (lv' := [(2, .int (μ 14 0 0 (0 : Int32).toNatClampNeg)), (0, .ref (ad (q, 50, 0))), (1, .ref (ad (14, 0, 0)))]) hx hb dX4_takePause_3 rfl hl (by decide) rfl (fun ls hl => ?_)
  refine lv_aload_n hx hb dX4_takePause_4 rfl (lv_at hl 2 rfl) ?_
  refine lv_iconst (v := 1) hx hb dX4_takePause_5 (by decide) ?_
  obtain ⟨hi_2, h⟩ := gi_s h
  refine xw_ald hx hb hW kl_14_0_0 rfl hi_2 dX4_takePause_6 ?_
  refine lv_istore_n (lv' := [(3, .int (μ 14 0 0 (1 : Int32).toNatClampNeg)), (2, .int (μ 14 0 0 (0 : Int32).toNatClampNeg)), (0, .ref (ad (q, 50, 0))), (1, .ref (ad (14, 0, 0)))]) hx hb dX4_takePause_7 rfl hl (by decide) rfl (fun ls hl => ?_)
  refine lv_aload_n hx hb dX4_takePause_8 rfl (lv_at hl 3 rfl) ?_
  refine lv_iconst (v := 2) hx hb dX4_takePause_9 (by decide) ?_
  obtain ⟨hi_3, h⟩ := gi_s h
  refine xw_ald hx hb hW kl_14_0_0 rfl hi_3 dX4_takePause_10 ?_
  refine lv_istore (lv' := [(4, .int (μ 14 0 0 (2 : Int32).toNatClampNeg)), (3, .int (μ 14 0 0 (1 : Int32).toNatClampNeg)), (2, .int (μ 14 0 0 (0 : Int32).toNatClampNeg)), (0, .ref (ad (q, 50, 0))), (1, .ref (ad (14, 0, 0)))]) hx hb dX4_takePause_11 hl (by decide) rfl (fun ls hl => ?_)
  refine lv_aload_n hx hb dX4_takePause_13 rfl (lv_at hl 4 rfl) ?_
  refine lv_iconst (v := 3) hx hb dX4_takePause_14 (by decide) ?_
  obtain ⟨hi_4, h⟩ := gi_s h
  refine xw_ald hx hb hW kl_14_0_0 rfl hi_4 dX4_takePause_15 ?_
  refine lv_istore (lv' := [(5, .int (μ 14 0 0 (3 : Int32).toNatClampNeg)), (4, .int (μ 14 0 0 (2 : Int32).toNatClampNeg)), (3, .int (μ 14 0 0 (1 : Int32).toNatClampNeg)), (2, .int (μ 14 0 0 (0 : Int32).toNatClampNeg)), (0, .ref (ad (q, 50, 0))), (1, .ref (ad (14, 0, 0)))]) hx hb dX4_takePause_16 hl (by decide) rfl (fun ls hl => ?_)
  refine lv_aload_n hx hb dX4_takePause_18 rfl (lv_at hl 4 rfl) ?_
  refine wo_get (C := RX4) (T := TX4) (N := 12) hx hb hts iX4_takePause_4 hown hW (kt_o q h2 h1) (ct_o h2 h1) rfl 2 (by decide) (hts _ mX4_takePause_l40) (fun _ h9 => h9) rfl dX4_takePause_19 ?_
  refine lv_bipush (v := 9) hx hb dX4_takePause_22 (by decide) ?_
  refine lv_icmp_ge (tgt := 43) hx hb dX4_takePause_24 (by decide) (fun c_5 => ?_) (fun c_5 => ?_)
  · have h := ite_p c_5 h
    refine lv_iconst (v := 0) hx hb dX4_takePause_43 (by decide) ?_
    exact xw_zret C rfl (by decide) hW dX4_takePause_44 h
  have h := ite_n c_5 h
  refine lv_aload_n hx hb dX4_takePause_27 rfl (lv_at hl 4 rfl) ?_
  refine lv_iload_n hx hb dX4_takePause_28 rfl (lv_at hl 3 rfl) ?_
  obtain ⟨r_8, μ_7, hh_6, h⟩ := bd_s h
  refine wo_Vi (rest := []) C hW (kX4_hasPerson l D g ad (q := q) h2 h1 hh_6) (cwV 1 hts gX4_takePause_X4_hasPerson rfl rfl rfl (by decide +kernel) ⟨Nat.le_of_ble_eq_true rfl, Nat.le_of_ble_eq_true rfl⟩) (kt_o q h2 h1) (ct_o h2 h1) rfl rfl hl.1 rfl (Nat.le_of_ble_eq_true rfl) dX4_takePause_29 ⟨Nat.zero_le _, Nat.zero_le _⟩ (fun H locs hW => ?_)
  refine lv_if_eq (tgt := 43) hx hb dX4_takePause_32 (by decide) (fun c_9 => ?_) (fun c_9 => ?_)
  · have h := ite_p c_9 h
    refine lv_iconst (v := 0) hx hb dX4_takePause_43 (by decide) ?_
    exact xw_zret C rfl (by decide) hW dX4_takePause_44 h
  have h := ite_n c_9 h
  refine lv_aload_n hx hb dX4_takePause_35 rfl (lv_at hl 4 rfl) ?_
  refine lv_iload_n hx hb dX4_takePause_36 rfl (lv_at hl 2 rfl) ?_
  obtain ⟨r_12, μ_11, hh_10, h⟩ := bd_s h
  refine wo_Vi (rest := []) C hW (kX4_hasThing l D g ad (q := q) h2 h1 hh_10) (cwV 1 hts gX4_takePause_X4_hasThing rfl rfl rfl (by decide +kernel) ⟨Nat.le_of_ble_eq_true rfl, Nat.le_of_ble_eq_true rfl⟩) (kt_o q h2 h1) (ct_o h2 h1) rfl rfl hl.1 rfl (Nat.le_of_ble_eq_true rfl) dX4_takePause_37 ⟨Nat.zero_le _, Nat.zero_le _⟩ (fun H locs hW => ?_)
  refine lv_if_ne (tgt := 45) hx hb dX4_takePause_40 (by decide) (fun c_13 => ?_) (fun c_13 => ?_)
  · have h := ite_n c_13 h
    refine lv_iload hx hb dX4_takePause_45 (lv_at hl 1 rfl) ?_
    refine lv_iconst (v := 1) hx hb dX4_takePause_47 (by decide) ?_
    refine lv_icmp_lt (tgt := 65) hx hb dX4_takePause_48 (by decide) (fun c_14 => ?_) (fun c_14 => ?_)
    · have h := ite_p c_14 h
      refine lv_iconst (v := 0) hx hb dX4_takePause_65 (by decide) ?_
      exact xw_zret C rfl (by decide) hW dX4_takePause_66 h
    have h := ite_n c_14 h
    refine lv_iload hx hb dX4_takePause_51 (lv_at hl 1 rfl) ?_
    refine lv_bipush (v := 30) hx hb dX4_takePause_53 (by decide) ?_
    refine lv_icmp_gt (tgt := 65) hx hb dX4_takePause_55 (by decide) (fun c_15 => ?_) (fun c_15 => ?_)
    · have h := ite_p c_15 h
      refine lv_iconst (v := 0) hx hb dX4_takePause_65 (by decide) ?_
      exact xw_zret C rfl (by decide) hW dX4_takePause_66 h
    have h := ite_n c_15 h
    refine lv_iload hx hb dX4_takePause_58 (lv_at hl 0 rfl) ?_
    refine lv_bipush (v := 9) hx hb dX4_takePause_60 (by decide) ?_
    refine lv_icmp_le (tgt := 67) hx hb dX4_takePause_62 (by decide) (fun c_16 => ?_) (fun c_16 => ?_)
    · have h := ite_p c_16 h
      refine lv_aload_n hx hb dX4_takePause_67 rfl (lv_at hl 4 rfl) ?_
      refine wo_get (C := RX4) (T := TX4) (N := 12) hx hb hts iX4_takePause_4 hown hW (kt_o q h2 h1) (ct_o h2 h1) rfl 8 (by decide) (hts _ mX4_takePause_l21) (fun _ h9 => h9) rfl dX4_takePause_68 ?_
      refine lv_aload_n hx hb dX4_takePause_71 rfl (lv_at hl 4 rfl) ?_
      refine wo_get (C := RX4) (T := TX4) (N := 12) hx hb hts iX4_takePause_4 hown hW (kt_o q h2 h1) (ct_o h2 h1) rfl 2 (by decide) (hts _ mX4_takePause_l40) (fun _ h9 => h9) rfl dX4_takePause_72 ?_
      refine lv_iload_n hx hb dX4_takePause_75 rfl (lv_at hl 3 rfl) ?_
      obtain ⟨hi_17, h⟩ := gi_s h
      refine xw_ast hx hb hW (kt_a q h2 h1 8 (by decide) (by decide)) (fun _ => (ct_9 h2 h1 (by decide) (by decide))) (at_a q h2 h1 8 (by decide) (by decide)) hi_17 dX4_takePause_76 (fun H locs hW => ?_)
      refine lv_aload_n hx hb dX4_takePause_77 rfl (lv_at hl 4 rfl) ?_
      refine wo_get (C := RX4) (T := TX4) (N := 12) hx hb hts iX4_takePause_4 hown hW (kt_o q h2 h1) (ct_o h2 h1) rfl 9 (by decide) (hts _ mX4_takePause_l24) (fun _ h9 => h9) rfl dX4_takePause_78 ?_
      refine lv_aload_n hx hb dX4_takePause_81 rfl (lv_at hl 4 rfl) ?_
      refine wo_get (C := RX4) (T := TX4) (N := 12) hx hb hts iX4_takePause_4 hown hW (kt_o q h2 h1) (ct_o h2 h1) rfl 2 (by decide) (hts _ mX4_takePause_l40) (fun _ h9 => h9) rfl dX4_takePause_82 ?_
      refine lv_iload_n hx hb dX4_takePause_85 rfl (lv_at hl 2 rfl) ?_
      obtain ⟨hi_18, h⟩ := gi_s h
      refine xw_ast hx hb hW (kt_a q h2 h1 9 (by decide) (by decide)) (fun _ => (ct_9 h2 h1 (by decide) (by decide))) (at_a q h2 h1 9 (by decide) (by decide)) hi_18 dX4_takePause_86 (fun H locs hW => ?_)
      refine lv_aload_n hx hb dX4_takePause_87 rfl (lv_at hl 4 rfl) ?_
      refine wo_get (C := RX4) (T := TX4) (N := 12) hx hb hts iX4_takePause_4 hown hW (kt_o q h2 h1) (ct_o h2 h1) rfl 10 (by decide) (hts _ mX4_takePause_l27) (fun _ h9 => h9) rfl dX4_takePause_88 ?_
      refine lv_aload_n hx hb dX4_takePause_91 rfl (lv_at hl 4 rfl) ?_
      refine wo_get (C := RX4) (T := TX4) (N := 12) hx hb hts iX4_takePause_4 hown hW (kt_o q h2 h1) (ct_o h2 h1) rfl 2 (by decide) (hts _ mX4_takePause_l40) (fun _ h9 => h9) rfl dX4_takePause_92 ?_
      refine lv_iload hx hb dX4_takePause_95 (lv_at hl 1 rfl) ?_
      obtain ⟨hi_19, h⟩ := gi_s h
      refine xw_ast hx hb hW (kt_a q h2 h1 10 (by decide) (by decide)) (fun _ => (ct_9 h2 h1 (by decide) (by decide))) (at_a q h2 h1 10 (by decide) (by decide)) hi_19 dX4_takePause_97 (fun H locs hW => ?_)
      refine lv_aload_n hx hb dX4_takePause_98 rfl (lv_at hl 4 rfl) ?_
      refine wo_get (C := RX4) (T := TX4) (N := 12) hx hb hts iX4_takePause_4 hown hW (kt_o q h2 h1) (ct_o h2 h1) rfl 11 (by decide) (hts _ mX4_takePause_l30) (fun _ h9 => h9) rfl dX4_takePause_99 ?_
      refine lv_aload_n hx hb dX4_takePause_102 rfl (lv_at hl 4 rfl) ?_
      refine wo_get (C := RX4) (T := TX4) (N := 12) hx hb hts iX4_takePause_4 hown hW (kt_o q h2 h1) (ct_o h2 h1) rfl 2 (by decide) (hts _ mX4_takePause_l40) (fun _ h9 => h9) rfl dX4_takePause_103 ?_
      refine lv_iload hx hb dX4_takePause_106 (lv_at hl 0 rfl) ?_
      obtain ⟨hi_20, h⟩ := gi_s h
      refine xw_ast hx hb hW (kt_a q h2 h1 11 (by decide) (by decide)) (fun _ => (ct_9 h2 h1 (by decide) (by decide))) (at_a q h2 h1 11 (by decide) (by decide)) hi_20 dX4_takePause_108 (fun H locs hW => ?_)
      refine lv_aload_n hx hb dX4_takePause_109 rfl (lv_at hl 4 rfl) ?_
      refine lv_dup hx hb dX4_takePause_110 rfl ?_
      refine wo_get (C := RX4) (T := TX4) (N := 12) hx hb hts iX4_takePause_4 hown hW (kt_o q h2 h1) (ct_o h2 h1) rfl 2 (by decide) (hts _ mX4_takePause_l40) (fun _ h9 => h9) rfl dX4_takePause_111 ?_
      refine lv_iconst (v := 1) hx hb dX4_takePause_114 (by decide) ?_
      refine lv_iadd hx hb dX4_takePause_115 ?_
      refine xw_put (C := RX4) (T := TX4) (N := 12) hx hb hts iX4_takePause_4 tyX4 tyX4_ok nmX4 hown hW (kt_o q h2 h1) (ct_o h2 h1) rfl 2 (by decide) (hts _ mX4_takePause_l40) (fun _ h9 => h9) rfl (by decide +kernel) (Nat.le_of_ble_eq_true rfl) keysX_ok (st_s q h2 h1 2 (by decide)) (pt_2 h2 h1 _) dX4_takePause_116 (fun H locs hW => ?_)
      refine lv_iconst (v := 1) hx hb dX4_takePause_119 (by decide) ?_
      exact xw_zret C rfl (by decide) hW dX4_takePause_120 h
    have h := ite_n c_16 h
    refine lv_iconst (v := 0) hx hb dX4_takePause_65 (by decide) ?_
    exact xw_zret C rfl (by decide) hW dX4_takePause_66 h
  have h := ite_p c_13 h
  refine lv_iconst (v := 0) hx hb dX4_takePause_43 (by decide) ?_
  exact xw_zret C rfl (by decide) hW dX4_takePause_44 h
abbrev rX4_takeEarned : Room := { frames := 0, cells := 0, slots := 0, locals := 0 }
theorem mX4_takeEarned_l43 : Cond.fieldLink RX4 43 "NearlyBought$Tale" "earned" "I" ∈ wsX4_takeEarned := by decide +kernel
theorem iX4_takeEarned_4 : ∀ w ∈ wsX40, w ∈ wsX4_takeEarned := fun _ h => List.mem_cons_of_mem _ (List.mem_append_right _ h)
set_option maxHeartbeats 4000000 in
set_option maxRecDepth 100000 in
theorem kX4_takeEarned (l : Launch) (D : va_G) (g : G3) (ad : Ky → Nat) {q : Nat} (h2 : q < 14) (h1 : 12 ≤ q) {v1 : Int32} {μ μ' : Mem} {r : Int32} (h : X4_takeEarned q v1 μ = some (r, μ')) : CtI l yX4_takeEarned wsX4_takeEarned rX4_takeEarned D (tysX g) keysX ad (cX g ad) [.ref (ad (q, 50, 0)), .int v1] μ r μ' := by
  refine ctI_of (cc := cX4_takeEarned) (maxL := 2) (ret := (some .boolean)) keysX_nd (by decide) rfl (Nat.le_of_ble_eq_true rfl) (fun p e s m below meth c A ls C hW hl => ?_)
  have hl : lv_has ls 2 [(0, .ref (ad (q, 50, 0))), (1, .int v1)] := hl
  obtain ⟨hx, hb, hr, hts, hown, hlocks, hml, hA⟩ := id C
  refine lv_aload_n hx hb dX4_takeEarned_0 rfl (lv_at hl 0 rfl) ?_
  refine lv_iload_n hx hb dX4_takeEarned_1 rfl (lv_at hl 1 rfl) ?_
  refine xw_put (C := RX4) (T := TX4) (N := 12) hx hb hts iX4_takeEarned_4 tyX4 tyX4_ok nmX4 hown hW (kt_o q h2 h1) (ct_o h2 h1) rfl 3 (by decide) (hts _ mX4_takeEarned_l43) (fun _ h9 => h9) rfl (by decide +kernel) (Nat.le_of_ble_eq_true rfl) keysX_ok (st_s q h2 h1 3 (by decide)) (pt_3 h2 h1 _) dX4_takeEarned_2 (fun H locs hW => ?_)
  refine lv_iload_n hx hb dX4_takeEarned_5 rfl (lv_at hl 1 rfl) ?_
  refine lv_bipush (v := 30) hx hb dX4_takeEarned_6 (by decide) ?_
  refine lv_icmp_gt (tgt := 15) hx hb dX4_takeEarned_8 (by decide) (fun c_1 => ?_) (fun c_1 => ?_)
  · have h := ite_p c_1 h
    refine lv_iconst (v := 0) hx hb dX4_takeEarned_15 (by decide) ?_
    exact xw_zret C rfl (by decide) hW dX4_takeEarned_16 h
  have h := ite_n c_1 h
  refine lv_iconst (v := 1) hx hb dX4_takeEarned_11 (by decide) ?_
  refine lv_goto (tgt := 16) hx hb dX4_takeEarned_12 (by decide) ?_
  exact xw_zret C rfl (by decide) hW dX4_takeEarned_16 h
abbrev rX4_takeDearer : Room := { frames := 0, cells := 0, slots := 0, locals := 0 }
theorem mX4_takeDearer_l46 : Cond.fieldLink RX4 46 "NearlyBought$Tale" "dearer" "I" ∈ wsX4_takeDearer := by decide +kernel
theorem iX4_takeDearer_4 : ∀ w ∈ wsX40, w ∈ wsX4_takeDearer := fun _ h => List.mem_cons_of_mem _ (List.mem_append_right _ h)
set_option maxHeartbeats 4000000 in
set_option maxRecDepth 100000 in
theorem kX4_takeDearer (l : Launch) (D : va_G) (g : G3) (ad : Ky → Nat) {q : Nat} (h2 : q < 14) (h1 : 12 ≤ q) {v1 : Int32} {μ μ' : Mem} {r : Int32} (h : X4_takeDearer q v1 μ = some (r, μ')) : CtI l yX4_takeDearer wsX4_takeDearer rX4_takeDearer D (tysX g) keysX ad (cX g ad) [.ref (ad (q, 50, 0)), .int v1] μ r μ' := by
  refine ctI_of (cc := cX4_takeDearer) (maxL := 2) (ret := (some .boolean)) keysX_nd (by decide) rfl (Nat.le_of_ble_eq_true rfl) (fun p e s m below meth c A ls C hW hl => ?_)
  have hl : lv_has ls 2 [(0, .ref (ad (q, 50, 0))), (1, .int v1)] := hl
  obtain ⟨hx, hb, hr, hts, hown, hlocks, hml, hA⟩ := id C
  refine lv_aload_n hx hb dX4_takeDearer_0 rfl (lv_at hl 0 rfl) ?_
  refine lv_iload_n hx hb dX4_takeDearer_1 rfl (lv_at hl 1 rfl) ?_
  refine xw_put (C := RX4) (T := TX4) (N := 12) hx hb hts iX4_takeDearer_4 tyX4 tyX4_ok nmX4 hown hW (kt_o q h2 h1) (ct_o h2 h1) rfl 4 (by decide) (hts _ mX4_takeDearer_l46) (fun _ h9 => h9) rfl (by decide +kernel) (Nat.le_of_ble_eq_true rfl) keysX_ok (st_s q h2 h1 4 (by decide)) (pt_4 h2 h1 _) dX4_takeDearer_2 (fun H locs hW => ?_)
  refine lv_iload_n hx hb dX4_takeDearer_5 rfl (lv_at hl 1 rfl) ?_
  refine lv_bipush (v := 9) hx hb dX4_takeDearer_6 (by decide) ?_
  refine lv_icmp_gt (tgt := 15) hx hb dX4_takeDearer_8 (by decide) (fun c_1 => ?_) (fun c_1 => ?_)
  · have h := ite_p c_1 h
    refine lv_iconst (v := 0) hx hb dX4_takeDearer_15 (by decide) ?_
    exact xw_zret C rfl (by decide) hW dX4_takeDearer_16 h
  have h := ite_n c_1 h
  refine lv_iconst (v := 1) hx hb dX4_takeDearer_11 (by decide) ?_
  refine lv_goto (tgt := 16) hx hb dX4_takeDearer_12 (by decide) ?_
  exact xw_zret C rfl (by decide) hW dX4_takeDearer_16 h
abbrev rX4_takePerson : Room := { frames := 0, cells := 0, slots := 0, locals := 0 }
theorem mX4_takePerson_l33 : Cond.fieldLink RX4 33 "NearlyBought$Tale" "persons" "I" ∈ wsX4_takePerson := by decide +kernel
theorem mX4_takePerson_l9 : Cond.fieldLink RX4 9 "NearlyBought$Tale" "kind" "[I" ∈ wsX4_takePerson := by decide +kernel
theorem mX4_takePerson_l15 : Cond.fieldLink RX4 15 "NearlyBought$Tale" "firstCoins" "[I" ∈ wsX4_takePerson := by decide +kernel
theorem iX4_takePerson_4 : ∀ w ∈ wsX40, w ∈ wsX4_takePerson := fun _ h => List.mem_cons_of_mem _ (List.mem_append_right _ h)
set_option maxHeartbeats 4000000 in
set_option maxRecDepth 100000 in
theorem kX4_takePerson (l : Launch) (D : va_G) (g : G3) (ad : Ky → Nat) {q : Nat} (h2 : q < 14) (h1 : 12 ≤ q) {v1 v2 : Int32} {μ μ' : Mem} {r : Int32} (h : X4_takePerson q v1 v2 μ = some (r, μ')) : CtI l yX4_takePerson wsX4_takePerson rX4_takePerson D (tysX g) keysX ad (cX g ad) [.ref (ad (q, 50, 0)), .int v1, .int v2] μ r μ' := by
  refine ctI_of (cc := cX4_takePerson) (maxL := 3) (ret := (some .boolean)) keysX_nd (by decide) rfl (Nat.le_of_ble_eq_true rfl) (fun p e s m below meth c A ls C hW hl => ?_)
  have hl : lv_has ls 3 [(0, .ref (ad (q, 50, 0))), (1, .int v1), (2, .int v2)] := hl
  obtain ⟨hx, hb, hr, hts, hown, hlocks, hml, hA⟩ := id C
  refine lv_aload_n hx hb dX4_takePerson_0 rfl (lv_at hl 0 rfl) ?_
  refine wo_get (C := RX4) (T := TX4) (N := 12) hx hb hts iX4_takePerson_4 hown hW (kt_o q h2 h1) (ct_o h2 h1) rfl 0 (by decide) (hts _ mX4_takePerson_l33) (fun _ h9 => h9) rfl dX4_takePerson_1 ?_
  refine lv_bipush (v := 6) hx hb dX4_takePerson_4 (by decide) ?_
  refine lv_icmp_ge (tgt := 14) hx hb dX4_takePerson_6 (by decide) (fun c_1 => ?_) (fun c_1 => ?_)
  · have h := ite_p c_1 h
    refine lv_iconst (v := 0) hx hb dX4_takePerson_14 (by decide) ?_
    exact xw_zret C rfl (by decide) hW dX4_takePerson_15 h
  have h := ite_n c_1 h
  refine lv_iload_n hx hb dX4_takePerson_9 rfl (lv_at hl 1 rfl) ?_
  refine lv_iconst (v := 3) hx hb dX4_takePerson_10 (by decide) ?_
  refine lv_icmp_le (tgt := 16) hx hb dX4_takePerson_11 (by decide) (fun c_2 => ?_) (fun c_2 => ?_)
  · have h := ite_p c_2 h
    refine lv_aload_n hx hb dX4_takePerson_16 rfl (lv_at hl 0 rfl) ?_
    refine wo_get (C := RX4) (T := TX4) (N := 12) hx hb hts iX4_takePerson_4 hown hW (kt_o q h2 h1) (ct_o h2 h1) rfl 5 (by decide) (hts _ mX4_takePerson_l9) (fun _ h9 => h9) rfl dX4_takePerson_17 ?_
    refine lv_aload_n hx hb dX4_takePerson_20 rfl (lv_at hl 0 rfl) ?_
    refine wo_get (C := RX4) (T := TX4) (N := 12) hx hb hts iX4_takePerson_4 hown hW (kt_o q h2 h1) (ct_o h2 h1) rfl 0 (by decide) (hts _ mX4_takePerson_l33) (fun _ h9 => h9) rfl dX4_takePerson_21 ?_
    refine lv_iload_n hx hb dX4_takePerson_24 rfl (lv_at hl 1 rfl) ?_
    obtain ⟨hi_3, h⟩ := gi_s h
    refine xw_ast hx hb hW (kt_a q h2 h1 5 (by decide) (by decide)) (fun _ => (ct_6 h2 h1 (by decide))) (at_a q h2 h1 5 (by decide) (by decide)) hi_3 dX4_takePerson_25 (fun H locs hW => ?_)
    refine lv_aload_n hx hb dX4_takePerson_26 rfl (lv_at hl 0 rfl) ?_
    refine wo_get (C := RX4) (T := TX4) (N := 12) hx hb hts iX4_takePerson_4 hown hW (kt_o q h2 h1) (ct_o h2 h1) rfl 6 (by decide) (hts _ mX4_takePerson_l15) (fun _ h9 => h9) rfl dX4_takePerson_27 ?_
    refine lv_aload_n hx hb dX4_takePerson_30 rfl (lv_at hl 0 rfl) ?_
    refine wo_get (C := RX4) (T := TX4) (N := 12) hx hb hts iX4_takePerson_4 hown hW (kt_o q h2 h1) (ct_o h2 h1) rfl 0 (by decide) (hts _ mX4_takePerson_l33) (fun _ h9 => h9) rfl dX4_takePerson_31 ?_
    refine lv_iload_n hx hb dX4_takePerson_34 rfl (lv_at hl 2 rfl) ?_
    obtain ⟨hi_4, h⟩ := gi_s h
    refine xw_ast hx hb hW (kt_a q h2 h1 6 (by decide) (by decide)) (fun _ => (ct_6 h2 h1 (by decide))) (at_a q h2 h1 6 (by decide) (by decide)) hi_4 dX4_takePerson_35 (fun H locs hW => ?_)
    refine lv_aload_n hx hb dX4_takePerson_36 rfl (lv_at hl 0 rfl) ?_
    refine lv_dup hx hb dX4_takePerson_37 rfl ?_
    refine wo_get (C := RX4) (T := TX4) (N := 12) hx hb hts iX4_takePerson_4 hown hW (kt_o q h2 h1) (ct_o h2 h1) rfl 0 (by decide) (hts _ mX4_takePerson_l33) (fun _ h9 => h9) rfl dX4_takePerson_38 ?_
    refine lv_iconst (v := 1) hx hb dX4_takePerson_41 (by decide) ?_
    refine lv_iadd hx hb dX4_takePerson_42 ?_
    refine xw_put (C := RX4) (T := TX4) (N := 12) hx hb hts iX4_takePerson_4 tyX4 tyX4_ok nmX4 hown hW (kt_o q h2 h1) (ct_o h2 h1) rfl 0 (by decide) (hts _ mX4_takePerson_l33) (fun _ h9 => h9) rfl (by decide +kernel) (Nat.le_of_ble_eq_true rfl) keysX_ok (st_s q h2 h1 0 (by decide)) (pt_0 h2 h1 _) dX4_takePerson_43 (fun H locs hW => ?_)
    refine lv_iconst (v := 1) hx hb dX4_takePerson_46 (by decide) ?_
    exact xw_zret C rfl (by decide) hW dX4_takePerson_47 h
  have h := ite_n c_2 h
  refine lv_iconst (v := 0) hx hb dX4_takePerson_14 (by decide) ?_
  exact xw_zret C rfl (by decide) hW dX4_takePerson_15 h
abbrev rX4_takeThing : Room := { frames := 0, cells := 0, slots := 0, locals := 0 }
theorem mX4_takeThing_l37 : Cond.fieldLink RX4 37 "NearlyBought$Tale" "things" "I" ∈ wsX4_takeThing := by decide +kernel
theorem mX4_takeThing_l18 : Cond.fieldLink RX4 18 "NearlyBought$Tale" "firstCost" "[I" ∈ wsX4_takeThing := by decide +kernel
theorem iX4_takeThing_4 : ∀ w ∈ wsX40, w ∈ wsX4_takeThing := fun _ h => List.mem_cons_of_mem _ (List.mem_append_right _ h)
set_option maxHeartbeats 4000000 in
set_option maxRecDepth 100000 in
theorem kX4_takeThing (l : Launch) (D : va_G) (g : G3) (ad : Ky → Nat) {q : Nat} (h2 : q < 14) (h1 : 12 ≤ q) {v1 : Int32} {μ μ' : Mem} {r : Int32} (h : X4_takeThing q v1 μ = some (r, μ')) : CtI l yX4_takeThing wsX4_takeThing rX4_takeThing D (tysX g) keysX ad (cX g ad) [.ref (ad (q, 50, 0)), .int v1] μ r μ' := by
  refine ctI_of (cc := cX4_takeThing) (maxL := 2) (ret := (some .boolean)) keysX_nd (by decide) rfl (Nat.le_of_ble_eq_true rfl) (fun p e s m below meth c A ls C hW hl => ?_)
  have hl : lv_has ls 2 [(0, .ref (ad (q, 50, 0))), (1, .int v1)] := hl
  obtain ⟨hx, hb, hr, hts, hown, hlocks, hml, hA⟩ := id C
  refine lv_aload_n hx hb dX4_takeThing_0 rfl (lv_at hl 0 rfl) ?_
  refine wo_get (C := RX4) (T := TX4) (N := 12) hx hb hts iX4_takeThing_4 hown hW (kt_o q h2 h1) (ct_o h2 h1) rfl 1 (by decide) (hts _ mX4_takeThing_l37) (fun _ h9 => h9) rfl dX4_takeThing_1 ?_
  refine lv_bipush (v := 6) hx hb dX4_takeThing_4 (by decide) ?_
  refine lv_icmp_ge (tgt := 20) hx hb dX4_takeThing_6 (by decide) (fun c_1 => ?_) (fun c_1 => ?_)
  · have h := ite_p c_1 h
    refine lv_iconst (v := 0) hx hb dX4_takeThing_20 (by decide) ?_
    exact xw_zret C rfl (by decide) hW dX4_takeThing_21 h
  have h := ite_n c_1 h
  refine lv_iload_n hx hb dX4_takeThing_9 rfl (lv_at hl 1 rfl) ?_
  refine lv_iconst (v := 1) hx hb dX4_takeThing_10 (by decide) ?_
  refine lv_icmp_lt (tgt := 20) hx hb dX4_takeThing_11 (by decide) (fun c_2 => ?_) (fun c_2 => ?_)
  · have h := ite_p c_2 h
    refine lv_iconst (v := 0) hx hb dX4_takeThing_20 (by decide) ?_
    exact xw_zret C rfl (by decide) hW dX4_takeThing_21 h
  have h := ite_n c_2 h
  refine lv_iload_n hx hb dX4_takeThing_14 rfl (lv_at hl 1 rfl) ?_
  refine lv_bipush (v := 60) hx hb dX4_takeThing_15 (by decide) ?_
  refine lv_icmp_le (tgt := 22) hx hb dX4_takeThing_17 (by decide) (fun c_3 => ?_) (fun c_3 => ?_)
  · have h := ite_p c_3 h
    refine lv_aload_n hx hb dX4_takeThing_22 rfl (lv_at hl 0 rfl) ?_
    refine wo_get (C := RX4) (T := TX4) (N := 12) hx hb hts iX4_takeThing_4 hown hW (kt_o q h2 h1) (ct_o h2 h1) rfl 7 (by decide) (hts _ mX4_takeThing_l18) (fun _ h9 => h9) rfl dX4_takeThing_23 ?_
    refine lv_aload_n hx hb dX4_takeThing_26 rfl (lv_at hl 0 rfl) ?_
    refine wo_get (C := RX4) (T := TX4) (N := 12) hx hb hts iX4_takeThing_4 hown hW (kt_o q h2 h1) (ct_o h2 h1) rfl 1 (by decide) (hts _ mX4_takeThing_l37) (fun _ h9 => h9) rfl dX4_takeThing_27 ?_
    refine lv_iload_n hx hb dX4_takeThing_30 rfl (lv_at hl 1 rfl) ?_
    obtain ⟨hi_4, h⟩ := gi_s h
    refine xw_ast hx hb hW (kt_a q h2 h1 7 (by decide) (by decide)) (fun _ => (ct_6 h2 h1 (by decide))) (at_a q h2 h1 7 (by decide) (by decide)) hi_4 dX4_takeThing_31 (fun H locs hW => ?_)
    refine lv_aload_n hx hb dX4_takeThing_32 rfl (lv_at hl 0 rfl) ?_
    refine lv_dup hx hb dX4_takeThing_33 rfl ?_
    refine wo_get (C := RX4) (T := TX4) (N := 12) hx hb hts iX4_takeThing_4 hown hW (kt_o q h2 h1) (ct_o h2 h1) rfl 1 (by decide) (hts _ mX4_takeThing_l37) (fun _ h9 => h9) rfl dX4_takeThing_34 ?_
    refine lv_iconst (v := 1) hx hb dX4_takeThing_37 (by decide) ?_
    refine lv_iadd hx hb dX4_takeThing_38 ?_
    refine xw_put (C := RX4) (T := TX4) (N := 12) hx hb hts iX4_takeThing_4 tyX4 tyX4_ok nmX4 hown hW (kt_o q h2 h1) (ct_o h2 h1) rfl 1 (by decide) (hts _ mX4_takeThing_l37) (fun _ h9 => h9) rfl (by decide +kernel) (Nat.le_of_ble_eq_true rfl) keysX_ok (st_s q h2 h1 1 (by decide)) (pt_1 h2 h1 _) dX4_takeThing_39 (fun H locs hW => ?_)
    refine lv_iconst (v := 1) hx hb dX4_takeThing_42 (by decide) ?_
    exact xw_zret C rfl (by decide) hW dX4_takeThing_43 h
  have h := ite_n c_3 h
  refine lv_iconst (v := 0) hx hb dX4_takeThing_20 (by decide) ?_
  exact xw_zret C rfl (by decide) hW dX4_takeThing_21 h
abbrev rX4_takeItem : Room := { frames := 2, cells := 0, slots := 0, locals := 46 }
set_option maxHeartbeats 4000000 in
set_option maxRecDepth 100000 in
theorem kX4_takeItem (l : Launch) (D : va_G) (g : G3) (ad : Ky → Nat) {q : Nat} (h2 : q < 14) (h1 : 12 ≤ q) {v1 : Int32} {μ μ' : Mem} {r : Int32} (h : X4_takeItem q v1 μ = some (r, μ')) : CtI l yX4_takeItem wsX4_takeItem rX4_takeItem D (tysX g) keysX ad (cX g ad) [.ref (ad (q, 50, 0)), .int v1, .ref (ad (14, 0, 0))] μ r μ' := by
  refine ctI_of (cc := cX4_takeItem) (maxL := 3) (ret := (some .boolean)) keysX_nd (by decide) rfl (Nat.le_of_ble_eq_true rfl) (fun p e s m below meth c A ls C hW hl => ?_)
  have hl : lv_has ls 3 [(0, .ref (ad (q, 50, 0))), (1, .int v1), (2, .ref (ad (14, 0, 0)))] := hl
  obtain ⟨hx, hb, hr, hts, hown, hlocks, hml, hA⟩ := id C
  refine lv_iload_n hx hb dX4_takeItem_0 rfl (lv_at hl 1 rfl) ?_
  by_cases c_1 : v1 = 97
  · have h := ite_p c_1 h
    refine lv_lookup (off := 70) (tgt := 71) hx hb dX4_takeItem_1 (by decide) (by rw [c_1]; decide) (by decide) ?_
    refine lv_aload_n hx hb dX4_takeItem_71 rfl (lv_at hl 0 rfl) ?_
    refine lv_aload_n hx hb dX4_takeItem_72 rfl (lv_at hl 2 rfl) ?_
    obtain ⟨r_4, μ_3, hh_2, h⟩ := bd_s h
    refine wo_Vi (rest := []) C hW (kX4_takePause l D g ad (q := q) h2 h1 hh_2) (cwV 1 hts gX4_takeItem_X4_takePause rfl rfl rfl (by decide +kernel) ⟨Nat.le_of_ble_eq_true rfl, Nat.le_of_ble_eq_true rfl⟩) (kt_o q h2 h1) (ct_o h2 h1) rfl rfl hl.1 rfl (Nat.le_of_ble_eq_true rfl) dX4_takeItem_73 ⟨Nat.zero_le _, Nat.zero_le _⟩ (fun H locs hW => ?_)
    obtain ⟨hb_5, h⟩ := gb_s h
    exact xw_zret C rfl hb_5 hW dX4_takeItem_76 h
  have h := ite_n c_1 h
  by_cases c_6 : v1 = 101
  · have h := ite_p c_6 h
    refine lv_lookup (off := 76) (tgt := 77) hx hb dX4_takeItem_1 (by decide) (by rw [c_6]; decide) (by decide) ?_
    refine lv_aload_n hx hb dX4_takeItem_77 rfl (lv_at hl 0 rfl) ?_
    refine lv_aload_n hx hb dX4_takeItem_78 rfl (lv_at hl 2 rfl) ?_
    refine lv_iconst (v := 0) hx hb dX4_takeItem_79 (by decide) ?_
    obtain ⟨hi_7, h⟩ := gi_s h
    refine xw_ald hx hb hW kl_14_0_0 rfl hi_7 dX4_takeItem_80 ?_
    obtain ⟨r_10, μ_9, hh_8, h⟩ := bd_s h
    refine wo_Vi (rest := []) C hW (kX4_takeEarned l D g ad (q := q) h2 h1 hh_8) (cwV 1 hts gX4_takeItem_X4_takeEarned rfl rfl rfl (by decide +kernel) ⟨Nat.le_of_ble_eq_true rfl, Nat.le_of_ble_eq_true rfl⟩) (kt_o q h2 h1) (ct_o h2 h1) rfl rfl hl.1 rfl (Nat.le_of_ble_eq_true rfl) dX4_takeItem_81 ⟨Nat.zero_le _, Nat.zero_le _⟩ (fun H locs hW => ?_)
    obtain ⟨hb_11, h⟩ := gb_s h
    exact xw_zret C rfl hb_11 hW dX4_takeItem_84 h
  have h := ite_n c_6 h
  by_cases c_12 : v1 = 103
  · have h := ite_p c_12 h
    refine lv_lookup (off := 84) (tgt := 85) hx hb dX4_takeItem_1 (by decide) (by rw [c_12]; decide) (by decide) ?_
    refine lv_aload_n hx hb dX4_takeItem_85 rfl (lv_at hl 0 rfl) ?_
    refine lv_aload_n hx hb dX4_takeItem_86 rfl (lv_at hl 2 rfl) ?_
    refine lv_iconst (v := 0) hx hb dX4_takeItem_87 (by decide) ?_
    obtain ⟨hi_13, h⟩ := gi_s h
    refine xw_ald hx hb hW kl_14_0_0 rfl hi_13 dX4_takeItem_88 ?_
    obtain ⟨r_16, μ_15, hh_14, h⟩ := bd_s h
    refine wo_Vi (rest := []) C hW (kX4_takeDearer l D g ad (q := q) h2 h1 hh_14) (cwV 1 hts gX4_takeItem_X4_takeDearer rfl rfl rfl (by decide +kernel) ⟨Nat.le_of_ble_eq_true rfl, Nat.le_of_ble_eq_true rfl⟩) (kt_o q h2 h1) (ct_o h2 h1) rfl rfl hl.1 rfl (Nat.le_of_ble_eq_true rfl) dX4_takeItem_89 ⟨Nat.zero_le _, Nat.zero_le _⟩ (fun H locs hW => ?_)
    obtain ⟨hb_17, h⟩ := gb_s h
    exact xw_zret C rfl hb_17 hW dX4_takeItem_92 h
  have h := ite_n c_12 h
  by_cases c_18 : v1 = 112
  · have h := ite_p c_18 h
    refine lv_lookup (off := 51) (tgt := 52) hx hb dX4_takeItem_1 (by decide) (by rw [c_18]; decide) (by decide) ?_
    refine lv_aload_n hx hb dX4_takeItem_52 rfl (lv_at hl 0 rfl) ?_
    refine lv_aload_n hx hb dX4_takeItem_53 rfl (lv_at hl 2 rfl) ?_
    refine lv_iconst (v := 0) hx hb dX4_takeItem_54 (by decide) ?_
    obtain ⟨hi_19, h⟩ := gi_s h
    refine xw_ald hx hb hW kl_14_0_0 rfl hi_19 dX4_takeItem_55 ?_
    refine lv_aload_n hx hb dX4_takeItem_56 rfl (lv_at hl 2 rfl) ?_
    refine lv_iconst (v := 1) hx hb dX4_takeItem_57 (by decide) ?_
    obtain ⟨hi_20, h⟩ := gi_s h
    refine xw_ald hx hb hW kl_14_0_0 rfl hi_20 dX4_takeItem_58 ?_
    obtain ⟨r_23, μ_22, hh_21, h⟩ := bd_s h
    refine wo_Vi (rest := []) C hW (kX4_takePerson l D g ad (q := q) h2 h1 hh_21) (cwV 2 hts gX4_takeItem_X4_takePerson rfl rfl rfl (by decide +kernel) ⟨Nat.le_of_ble_eq_true rfl, Nat.le_of_ble_eq_true rfl⟩) (kt_o q h2 h1) (ct_o h2 h1) rfl rfl hl.1 rfl (Nat.le_of_ble_eq_true rfl) dX4_takeItem_59 ⟨Nat.zero_le _, Nat.zero_le _⟩ (fun H locs hW => ?_)
    obtain ⟨hb_24, h⟩ := gb_s h
    exact xw_zret C rfl hb_24 hW dX4_takeItem_62 h
  have h := ite_n c_18 h
  by_cases c_25 : v1 = 116
  · have h := ite_p c_25 h
    refine lv_lookup (off := 62) (tgt := 63) hx hb dX4_takeItem_1 (by decide) (by rw [c_25]; decide) (by decide) ?_
    refine lv_aload_n hx hb dX4_takeItem_63 rfl (lv_at hl 0 rfl) ?_
    refine lv_aload_n hx hb dX4_takeItem_64 rfl (lv_at hl 2 rfl) ?_
    refine lv_iconst (v := 0) hx hb dX4_takeItem_65 (by decide) ?_
    obtain ⟨hi_26, h⟩ := gi_s h
    refine xw_ald hx hb hW kl_14_0_0 rfl hi_26 dX4_takeItem_66 ?_
    obtain ⟨r_29, μ_28, hh_27, h⟩ := bd_s h
    refine wo_Vi (rest := []) C hW (kX4_takeThing l D g ad (q := q) h2 h1 hh_27) (cwV 1 hts gX4_takeItem_X4_takeThing rfl rfl rfl (by decide +kernel) ⟨Nat.le_of_ble_eq_true rfl, Nat.le_of_ble_eq_true rfl⟩) (kt_o q h2 h1) (ct_o h2 h1) rfl rfl hl.1 rfl (Nat.le_of_ble_eq_true rfl) dX4_takeItem_67 ⟨Nat.zero_le _, Nat.zero_le _⟩ (fun H locs hW => ?_)
    obtain ⟨hb_30, h⟩ := gb_s h
    exact xw_zret C rfl hb_30 hW dX4_takeItem_70 h
  have h := ite_n c_25 h
  have t_31 := ne_ti (k := 97) rfl c_1
  have t_32 := ne_ti (k := 101) rfl c_6
  have t_33 := ne_ti (k := 103) rfl c_12
  have t_34 := ne_ti (k := 112) rfl c_18
  have t_35 := ne_ti (k := 116) rfl c_25
  refine lv_lookup (off := 92) (tgt := 93) hx hb dX4_takeItem_1 (by decide) (by simp [Op.lookupswitch.offset, Ne.symm t_31, Ne.symm t_32, Ne.symm t_33, Ne.symm t_34, Ne.symm t_35]) (by decide) ?_
  refine lv_iconst (v := 0) hx hb dX4_takeItem_93 (by decide) ?_
  exact xw_zret C rfl (by decide) hW dX4_takeItem_94 h
abbrev rX4_canBeLaid : Room := { frames := 0, cells := 0, slots := 0, locals := 0 }
theorem mX4_canBeLaid_l33 : Cond.fieldLink RX4 33 "NearlyBought$Tale" "persons" "I" ∈ wsX4_canBeLaid := by decide +kernel
theorem mX4_canBeLaid_l37 : Cond.fieldLink RX4 37 "NearlyBought$Tale" "things" "I" ∈ wsX4_canBeLaid := by decide +kernel
theorem iX4_canBeLaid_4 : ∀ w ∈ wsX40, w ∈ wsX4_canBeLaid := fun _ h => List.mem_cons_of_mem _ (List.mem_append_right _ h)
set_option maxHeartbeats 4000000 in
set_option maxRecDepth 100000 in
theorem kX4_canBeLaid (l : Launch) (D : va_G) (g : G3) (ad : Ky → Nat) {q : Nat} (h2 : q < 14) (h1 : 12 ≤ q) {μ μ' : Mem} {r : Int32} (h : X4_canBeLaid q μ = some (r, μ')) : CtI l yX4_canBeLaid wsX4_canBeLaid rX4_canBeLaid D (tysX g) keysX ad (cX g ad) [.ref (ad (q, 50, 0))] μ r μ' := by
  refine ctI_of (cc := cX4_canBeLaid) (maxL := 1) (ret := (some .boolean)) keysX_nd (by decide) rfl (Nat.le_of_ble_eq_true rfl) (fun p e s m below meth c A ls C hW hl => ?_)
  have hl : lv_has ls 1 [(0, .ref (ad (q, 50, 0)))] := hl
  obtain ⟨hx, hb, hr, hts, hown, hlocks, hml, hA⟩ := id C
  refine lv_aload_n hx hb dX4_canBeLaid_0 rfl (lv_at hl 0 rfl) ?_
  refine wo_get (C := RX4) (T := TX4) (N := 12) hx hb hts iX4_canBeLaid_4 hown hW (kt_o q h2 h1) (ct_o h2 h1) rfl 0 (by decide) (hts _ mX4_canBeLaid_l33) (fun _ h9 => h9) rfl dX4_canBeLaid_1 ?_
  refine lv_if_le (tgt := 18) hx hb dX4_canBeLaid_4 (by decide) (fun c_1 => ?_) (fun c_1 => ?_)
  · have h := ite_p c_1 h
    refine lv_iconst (v := 0) hx hb dX4_canBeLaid_18 (by decide) ?_
    exact xw_zret C rfl (by decide) hW dX4_canBeLaid_19 h
  have h := ite_n c_1 h
  refine lv_aload_n hx hb dX4_canBeLaid_7 rfl (lv_at hl 0 rfl) ?_
  refine wo_get (C := RX4) (T := TX4) (N := 12) hx hb hts iX4_canBeLaid_4 hown hW (kt_o q h2 h1) (ct_o h2 h1) rfl 1 (by decide) (hts _ mX4_canBeLaid_l37) (fun _ h9 => h9) rfl dX4_canBeLaid_8 ?_
  refine lv_if_le (tgt := 18) hx hb dX4_canBeLaid_11 (by decide) (fun c_2 => ?_) (fun c_2 => ?_)
  · have h := ite_p c_2 h
    refine lv_iconst (v := 0) hx hb dX4_canBeLaid_18 (by decide) ?_
    exact xw_zret C rfl (by decide) hW dX4_canBeLaid_19 h
  have h := ite_n c_2 h
  refine lv_iconst (v := 1) hx hb dX4_canBeLaid_14 (by decide) ?_
  refine lv_goto (tgt := 19) hx hb dX4_canBeLaid_15 (by decide) ?_
  exact xw_zret C rfl (by decide) hW dX4_canBeLaid_19 h
