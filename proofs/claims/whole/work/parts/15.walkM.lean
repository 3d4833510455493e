/-! WALKS, laid by program out of the bytecode -/
abbrev rX6_personOf : Room := { frames := 0, cells := 0, slots := 0, locals := 0 }
theorem mX6_personOf_l16 : Cond.fieldLink RX6 16 "NearlyBoughtModel" "draft" "[I" ∈ wsX6_personOf := by decide +kernel
theorem iX6_personOf_6 : ∀ w ∈ wsX60, w ∈ wsX6_personOf := fun _ h => List.mem_cons_of_mem _ (List.mem_append_right _ h)
set_option maxHeartbeats 4000000 in
set_option maxRecDepth 100000 in
theorem kX6_personOf (l : Launch) (D : va_G) (g : G3) (ad : Ky → Nat) {v1 v2 : Int32} {μ μ' : Mem} (h : X6_personOf v1 v2 μ = some μ') : CtV l yX6_personOf wsX6_personOf rX6_personOf D (tysX g) keysM ad (cX g ad) [.ref (ad (20, 50, 0)), .int v1, .int v2] μ μ' := by
  refine ctV_of (cc := cX6_personOf) (maxL := 4) (ret := none) keysM_nd (by decide) rfl (Nat.le_of_ble_eq_true rfl) (fun p e s m below meth c A ls C hW hl => ?_)
  have hl : lv_has ls 4 [(0, .ref (ad (20, 50, 0))), (1, .int v1), (2, .int v2)] := hl
  obtain ⟨hx, hb, hr, hts, hown, hlocks, hml, hA⟩ := id C
  refine lv_aload_n hx hb dX6_personOf_0 rfl (lv_at hl 0 rfl) ?_
  refine wo_get (C := RX6) (T := TX6) (N := 14) hx hb hts iX6_personOf_6 hown hW kl_20_50_0 co_o rfl 3 (by decide) (hts _ mX6_personOf_l16) (fun _ h9 => h9) rfl dX6_personOf_1 ?_
  refine lv_iconst (v := 0) hx hb dX6_personOf_4 (by decide) ?_
  obtain ⟨hi_1, h⟩ := gi_s h
  refine xw_ald hx hb hW kl_20_3_0 rfl hi_1 dX6_personOf_5 ?_
  refine lv_istore_n (lv' := [(3, .int (μ 20 3 0 (0 : Int32).toNatClampNeg)), (0, .ref (ad (20, 50, 0))), (1, .int v1), (2, .int v2)]) hx hb dX6_personOf_6 rfl hl (by decide) rfl (fun ls hl => ?_)
  refine lv_aload_n hx hb dX6_personOf_7 rfl (lv_at hl 1 rfl) ?_
  refine wo_get (C := RX6) (T := TX6) (N := 14) hx hb hts iX6_personOf_6 hown hW kl_20_50_0 co_o rfl 3 (by decide) (hts _ mX6_personOf_l16) (fun _ h9 => h9) rfl dX6_personOf_8 ?_
  refine lv_iconst (v := 5) hx hb dX6_personOf_11 (by decide) ?_
  refine lv_iload_n hx hb dX6_personOf_12 rfl (lv_at hl 0 rfl) ?_
  refine lv_iadd hx hb dX6_personOf_13 ?_
  refine lv_iload_n hx hb dX6_personOf_14 rfl (lv_at hl 2 rfl) ?_
  obtain ⟨hi_2, h⟩ := gi_s h
  refine xw_ast hx hb hW kl_20_3_0 (fun _ => rfl) rfl hi_2 dX6_personOf_15 (fun H locs hW => ?_)
  refine lv_aload_n hx hb dX6_personOf_16 rfl (lv_at hl 1 rfl) ?_
  refine wo_get (C := RX6) (T := TX6) (N := 14) hx hb hts iX6_personOf_6 hown hW kl_20_50_0 co_o rfl 3 (by decide) (hts _ mX6_personOf_l16) (fun _ h9 => h9) rfl dX6_personOf_17 ?_
  refine lv_bipush (v := 11) hx hb dX6_personOf_20 (by decide) ?_
  refine lv_iload_n hx hb dX6_personOf_22 rfl (lv_at hl 0 rfl) ?_
  refine lv_iadd hx hb dX6_personOf_23 ?_
  refine lv_iload_n hx hb dX6_personOf_24 rfl (lv_at hl 3 rfl) ?_
  obtain ⟨hi_3, h⟩ := gi_s h
  refine xw_ast hx hb hW kl_20_3_0 (fun _ => rfl) rfl hi_3 dX6_personOf_25 (fun H locs hW => ?_)
  refine lv_aload_n hx hb dX6_personOf_26 rfl (lv_at hl 1 rfl) ?_
  refine wo_get (C := RX6) (T := TX6) (N := 14) hx hb hts iX6_personOf_6 hown hW kl_20_50_0 co_o rfl 3 (by decide) (hts _ mX6_personOf_l16) (fun _ h9 => h9) rfl dX6_personOf_27 ?_
  refine lv_iconst (v := 0) hx hb dX6_personOf_30 (by decide) ?_
  refine lv_dup2_11 hx hb dX6_personOf_31 rfl rfl ?_
  obtain ⟨hi_4, h⟩ := gi_s h
  refine xw_ald hx hb hW kl_20_3_0 rfl hi_4 dX6_personOf_32 ?_
  refine lv_iconst (v := 1) hx hb dX6_personOf_33 (by decide) ?_
  refine lv_iadd hx hb dX6_personOf_34 ?_
  obtain ⟨hi_5, h⟩ := gi_s h
  refine xw_ast hx hb hW kl_20_3_0 (fun _ => rfl) rfl hi_5 dX6_personOf_35 (fun H locs hW => ?_)
  exact xw_vret C rfl hW dX6_personOf_36 h
abbrev rX6_thingOf : Room := { frames := 0, cells := 0, slots := 0, locals := 0 }
theorem mX6_thingOf_l16 : Cond.fieldLink RX6 16 "NearlyBoughtModel" "draft" "[I" ∈ wsX6_thingOf := by decide +kernel
theorem iX6_thingOf_6 : ∀ w ∈ wsX60, w ∈ wsX6_thingOf := fun _ h => List.mem_cons_of_mem _ (List.mem_append_right _ h)
set_option maxHeartbeats 4000000 in
set_option maxRecDepth 100000 in
theorem kX6_thingOf (l : Launch) (D : va_G) (g : G3) (ad : Ky → Nat) {v1 : Int32} {μ μ' : Mem} (h : X6_thingOf v1 μ = some μ') : CtV l yX6_thingOf wsX6_thingOf rX6_thingOf D (tysX g) keysM ad (cX g ad) [.ref (ad (20, 50, 0)), .int v1] μ μ' := by
  refine ctV_of (cc := cX6_thingOf) (maxL := 2) (ret := none) keysM_nd (by decide) rfl (Nat.le_of_ble_eq_true rfl) (fun p e s m below meth c A ls C hW hl => ?_)
  have hl : lv_has ls 2 [(0, .ref (ad (20, 50, 0))), (1, .int v1)] := hl
  obtain ⟨hx, hb, hr, hts, hown, hlocks, hml, hA⟩ := id C
  refine lv_aload_n hx hb dX6_thingOf_0 rfl (lv_at hl 0 rfl) ?_
  refine wo_get (C := RX6) (T := TX6) (N := 14) hx hb hts iX6_thingOf_6 hown hW kl_20_50_0 co_o rfl 3 (by decide) (hts _ mX6_thingOf_l16) (fun _ h9 => h9) rfl dX6_thingOf_1 ?_
  refine lv_bipush (v := 17) hx hb dX6_thingOf_4 (by decide) ?_
  refine lv_aload_n hx hb dX6_thingOf_6 rfl (lv_at hl 0 rfl) ?_
  refine wo_get (C := RX6) (T := TX6) (N := 14) hx hb hts iX6_thingOf_6 hown hW kl_20_50_0 co_o rfl 3 (by decide) (hts _ mX6_thingOf_l16) (fun _ h9 => h9) rfl dX6_thingOf_7 ?_
  refine lv_iconst (v := 1) hx hb dX6_thingOf_10 (by decide) ?_
  obtain ⟨hi_1, h⟩ := gi_s h
  refine xw_ald hx hb hW kl_20_3_0 rfl hi_1 dX6_thingOf_11 ?_
  refine lv_iadd hx hb dX6_thingOf_12 ?_
  refine lv_iload_n hx hb dX6_thingOf_13 rfl (lv_at hl 1 rfl) ?_
  obtain ⟨hi_2, h⟩ := gi_s h
  refine xw_ast hx hb hW kl_20_3_0 (fun _ => rfl) rfl hi_2 dX6_thingOf_14 (fun H locs hW => ?_)
  refine lv_aload_n hx hb dX6_thingOf_15 rfl (lv_at hl 0 rfl) ?_
  refine wo_get (C := RX6) (T := TX6) (N := 14) hx hb hts iX6_thingOf_6 hown hW kl_20_50_0 co_o rfl 3 (by decide) (hts _ mX6_thingOf_l16) (fun _ h9 => h9) rfl dX6_thingOf_16 ?_
  refine lv_iconst (v := 1) hx hb dX6_thingOf_19 (by decide) ?_
  refine lv_dup2_11 hx hb dX6_thingOf_20 rfl rfl ?_
  obtain ⟨hi_3, h⟩ := gi_s h
  refine xw_ald hx hb hW kl_20_3_0 rfl hi_3 dX6_thingOf_21 ?_
  refine lv_iconst (v := 1) hx hb dX6_thingOf_22 (by decide) ?_
  refine lv_iadd hx hb dX6_thingOf_23 ?_
  obtain ⟨hi_4, h⟩ := gi_s h
  refine xw_ast hx hb hW kl_20_3_0 (fun _ => rfl) rfl hi_4 dX6_thingOf_24 (fun H locs hW => ?_)
  exact xw_vret C rfl hW dX6_thingOf_25 h
abbrev rX6_readsItem : Room := { frames := 3, cells := 0, slots := 0, locals := 67 }
theorem mX6_readsItem_l16 : Cond.fieldLink RX6 16 "NearlyBoughtModel" "draft" "[I" ∈ wsX6_readsItem := by decide +kernel
theorem iX6_readsItem_6 : ∀ w ∈ wsX60, w ∈ wsX6_readsItem := fun _ h => List.mem_cons_of_mem _ (List.mem_append_right _ h)
set_option maxHeartbeats 4000000 in
set_option maxRecDepth 100000 in
theorem tX6_readsItem_b215 {p : Program} {l : Launch} {e : Env} {s : State} {m : MethodId} {args : Array Value} {below : List Frame} {meth : Method} {c : Code} {A : Nat → Prop} {D : va_G} {g : G3} {ad : Ky → Nat} (C : Cx p s m args meth c cX6_readsItem (some .boolean) 6 RX6 wsX6_readsItem A) {r0 : Int32} {μ0 : Mem} {v2 v3 v4 s0 : Int32} {μ : Mem} {H : Heap} {locs : List Loc} {ls : Array Slot} (hW : WX D g keysM ad A s s.heap μ H locs) (hl : lv_has ls 6 [(0, .ref (ad (20, 50, 0))), (2, .int v2), (3, .int v3), (4, .int v4)]) (h : X6_readsItem_b215 v2 v3 v4 s0 μ = some (r0, μ0)) : TgI r0 p l e rX6_readsItem s m args below meth c D g keysM ad A μ0 H locs (F0 m 215 ls [.int s0]) := by
  obtain ⟨hx, hb, hr, hts, hown, hlocks, hml, hA⟩ := id C
  refine lv_istore (lv' := [(5, .int s0), (0, .ref (ad (20, 50, 0))), (2, .int v2), (3, .int v3), (4, .int v4)]) hx hb dX6_readsItem_215 hl (by decide) rfl (fun ls hl => ?_)
  refine lv_iload hx hb dX6_readsItem_217 (lv_at hl 0 rfl) ?_
  refine lv_if_lt (tgt := 233) hx hb dX6_readsItem_219 (by decide) (fun c_19 => ?_) (fun c_19 => ?_)
  · have h := ite_p c_19 h
    refine lv_iconst (v := 0) hx hb dX6_readsItem_233 (by decide) ?_
    exact xw_zret C rfl (by decide) hW dX6_readsItem_234 h
  have h := ite_n c_19 h
  refine lv_aload_n hx hb dX6_readsItem_222 rfl (lv_at hl 1 rfl) ?_
  refine wo_get (C := RX6) (T := TX6) (N := 14) hx hb hts iX6_readsItem_6 hown hW kl_20_50_0 co_o rfl 3 (by decide) (hts _ mX6_readsItem_l16) (fun _ h9 => h9) rfl dX6_readsItem_223 ?_
  refine lv_iconst (v := 2) hx hb dX6_readsItem_226 (by decide) ?_
  obtain ⟨hi_20, h⟩ := gi_s h
  refine xw_ald hx hb hW kl_20_3_0 rfl hi_20 dX6_readsItem_227 ?_
  refine lv_bipush (v := 9) hx hb dX6_readsItem_228 (by decide) ?_
  refine lv_icmp_ne (tgt := 235) hx hb dX6_readsItem_230 (by decide) (fun c_21 => ?_) (fun c_21 => ?_)
  · have h := ite_n c_21 h
    refine lv_aload_n hx hb dX6_readsItem_235 rfl (lv_at hl 1 rfl) ?_
    refine lv_iload_n hx hb dX6_readsItem_236 rfl (lv_at hl 2 rfl) ?_
    refine lv_iload_n hx hb dX6_readsItem_237 rfl (lv_at hl 3 rfl) ?_
    refine lv_iload hx hb dX6_readsItem_238 (lv_at hl 4 rfl) ?_
    refine lv_iload hx hb dX6_readsItem_240 (lv_at hl 0 rfl) ?_
    obtain ⟨μ_23, hh_22, h⟩ := bdv_s h
    refine wo_Vv (rest := []) C hW (kX6_pauseOf l D g ad  hh_22) (cwV 4 hts gX6_readsItem_X6_pauseOf rfl rfl rfl (by decide +kernel) ⟨Nat.le_of_ble_eq_true rfl, Nat.le_of_ble_eq_true rfl⟩) kl_20_50_0 co_o rfl rfl hl.1 rfl (Nat.le_of_ble_eq_true rfl) dX6_readsItem_242 ⟨Nat.zero_le _, Nat.zero_le _⟩ (fun H locs hW => ?_)
    refine lv_iconst (v := 1) hx hb dX6_readsItem_245 (by decide) ?_
    exact xw_zret C rfl (by decide) hW dX6_readsItem_246 h
  have h := ite_p c_21 h
  refine lv_iconst (v := 0) hx hb dX6_readsItem_233 (by decide) ?_
  exact xw_zret C rfl (by decide) hW dX6_readsItem_234 h
set_option maxHeartbeats 4000000 in
set_option maxRecDepth 100000 in
theorem tX6_readsItem_b195 {p : Program} {l : Launch} {e : Env} {s : State} {m : MethodId} {args : Array Value} {below : List Frame} {meth : Method} {c : Code} {A : Nat → Prop} {D : va_G} {g : G3} {ad : Ky → Nat} (C : Cx p s m args meth c cX6_readsItem (some .boolean) 6 RX6 wsX6_readsItem A) {r0 : Int32} {μ0 : Mem} {v2 v3 s0 : Int32} {μ : Mem} {H : Heap} {locs : List Loc} {ls : Array Slot} (hW : WX D g keysM ad A s s.heap μ H locs) (hl : lv_has ls 6 [(0, .ref (ad (20, 50, 0))), (2, .int v2), (3, .int v3)]) (h : X6_readsItem_b195 v2 v3 s0 μ = some (r0, μ0)) : TgI r0 p l e rX6_readsItem s m args below meth c D g keysM ad A μ0 H locs (F0 m 195 ls [.int s0]) := by
  obtain ⟨hx, hb, hr, hts, hown, hlocks, hml, hA⟩ := id C
  refine lv_istore (lv' := [(4, .int s0), (0, .ref (ad (20, 50, 0))), (2, .int v2), (3, .int v3)]) hx hb dX6_readsItem_195 hl (by decide) rfl (fun ls hl => ?_)
  refine lv_iload hx hb dX6_readsItem_197 (lv_at hl 0 rfl) ?_
  refine lv_if_ge (tgt := 206) hx hb dX6_readsItem_199 (by decide) (fun c_15 => ?_) (fun c_15 => ?_)
  · have h := ite_p c_15 h
    refine lv_aload_n hx hb dX6_readsItem_206 rfl (lv_at hl 1 rfl) ?_
    refine lv_iconst (v := 0) hx hb dX6_readsItem_207 (by decide) ?_
    refine lv_bipush (v := 9) hx hb dX6_readsItem_208 (by decide) ?_
    refine lv_bipush (v := 59) hx hb dX6_readsItem_210 (by decide) ?_
    obtain ⟨r_18, μ_17, hh_16, h⟩ := bd_s h
    refine wo_Vi (rest := []) C hW (kX6_number l D g ad  hh_16) (cwV 3 hts gX6_readsItem_X6_number rfl rfl rfl (by decide +kernel) ⟨Nat.le_of_ble_eq_true rfl, Nat.le_of_ble_eq_true rfl⟩) kl_20_50_0 co_o rfl rfl hl.1 rfl (Nat.le_of_ble_eq_true rfl) dX6_readsItem_212 ⟨Nat.zero_le _, Nat.zero_le _⟩ (fun H locs hW => ?_)
    exact tX6_readsItem_b215 C hW (lv_sub hl [1, 2, 3, 0] rfl) h
  have h := ite_n c_15 h
  refine lv_iconst (v := (-1)) hx hb dX6_readsItem_202 (by decide) ?_
  refine lv_goto (tgt := 215) hx hb dX6_readsItem_203 (by decide) ?_
  exact tX6_readsItem_b215 C hW (lv_sub hl [1, 2, 3, 0] rfl) h
set_option maxHeartbeats 4000000 in
set_option maxRecDepth 100000 in
theorem tX6_readsItem_b177 {p : Program} {l : Launch} {e : Env} {s : State} {m : MethodId} {args : Array Value} {below : List Frame} {meth : Method} {c : Code} {A : Nat → Prop} {D : va_G} {g : G3} {ad : Ky → Nat} (C : Cx p s m args meth c cX6_readsItem (some .boolean) 6 RX6 wsX6_readsItem A) {r0 : Int32} {μ0 : Mem} {v2 s0 : Int32} {μ : Mem} {H : Heap} {locs : List Loc} {ls : Array Slot} (hW : WX D g keysM ad A s s.heap μ H locs) (hl : lv_has ls 6 [(0, .ref (ad (20, 50, 0))), (2, .int v2)]) (h : X6_readsItem_b177 v2 s0 μ = some (r0, μ0)) : TgI r0 p l e rX6_readsItem s m args below meth c D g keysM ad A μ0 H locs (F0 m 177 ls [.int s0]) := by
  obtain ⟨hx, hb, hr, hts, hown, hlocks, hml, hA⟩ := id C
  refine lv_istore_n (lv' := [(3, .int s0), (0, .ref (ad (20, 50, 0))), (2, .int v2)]) hx hb dX6_readsItem_177 rfl hl (by decide) rfl (fun ls hl => ?_)
  refine lv_iload_n hx hb dX6_readsItem_178 rfl (lv_at hl 0 rfl) ?_
  refine lv_if_ge (tgt := 186) hx hb dX6_readsItem_179 (by decide) (fun c_11 => ?_) (fun c_11 => ?_)
  · have h := ite_p c_11 h
    refine lv_aload_n hx hb dX6_readsItem_186 rfl (lv_at hl 1 rfl) ?_
    refine lv_iconst (v := 1) hx hb dX6_readsItem_187 (by decide) ?_
    refine lv_bipush (v := 30) hx hb dX6_readsItem_188 (by decide) ?_
    refine lv_bipush (v := 44) hx hb dX6_readsItem_190 (by decide) ?_
    obtain ⟨r_14, μ_13, hh_12, h⟩ := bd_s h
    refine wo_Vi (rest := []) C hW (kX6_number l D g ad  hh_12) (cwV 3 hts gX6_readsItem_X6_number rfl rfl rfl (by decide +kernel) ⟨Nat.le_of_ble_eq_true rfl, Nat.le_of_ble_eq_true rfl⟩) kl_20_50_0 co_o rfl rfl hl.1 rfl (Nat.le_of_ble_eq_true rfl) dX6_readsItem_192 ⟨Nat.zero_le _, Nat.zero_le _⟩ (fun H locs hW => ?_)
    exact tX6_readsItem_b195 C hW (lv_sub hl [1, 2, 0] rfl) h
  have h := ite_n c_11 h
  refine lv_iconst (v := (-1)) hx hb dX6_readsItem_182 (by decide) ?_
  refine lv_goto (tgt := 195) hx hb dX6_readsItem_183 (by decide) ?_
  exact tX6_readsItem_b195 C hW (lv_sub hl [1, 2, 0] rfl) h
set_option maxHeartbeats 4000000 in
set_option maxRecDepth 100000 in
theorem tX6_readsItem_b78 {p : Program} {l : Launch} {e : Env} {s : State} {m : MethodId} {args : Array Value} {below : List Frame} {meth : Method} {c : Code} {A : Nat → Prop} {D : va_G} {g : G3} {ad : Ky → Nat} (C : Cx p s m args meth c cX6_readsItem (some .boolean) 6 RX6 wsX6_readsItem A) {r0 : Int32} {μ0 : Mem} {v2 s0 : Int32} {μ : Mem} {H : Heap} {locs : List Loc} {ls : Array Slot} (hW : WX D g keysM ad A s s.heap μ H locs) (hl : lv_has ls 6 [(0, .ref (ad (20, 50, 0))), (2, .int v2)]) (h : X6_readsItem_b78 v2 s0 μ = some (r0, μ0)) : TgI r0 p l e rX6_readsItem s m args below meth c D g keysM ad A μ0 H locs (F0 m 78 ls [.int s0]) := by
  obtain ⟨hx, hb, hr, hts, hown, hlocks, hml, hA⟩ := id C
  refine lv_istore_n (lv' := [(3, .int s0), (0, .ref (ad (20, 50, 0))), (2, .int v2)]) hx hb dX6_readsItem_78 rfl hl (by decide) rfl (fun ls hl => ?_)
  refine lv_iload_n hx hb dX6_readsItem_79 rfl (lv_at hl 0 rfl) ?_
  refine lv_if_lt (tgt := 94) hx hb dX6_readsItem_80 (by decide) (fun c_46 => ?_) (fun c_46 => ?_)
  · have h := ite_p c_46 h
    refine lv_iconst (v := 0) hx hb dX6_readsItem_94 (by decide) ?_
    exact xw_zret C rfl (by decide) hW dX6_readsItem_95 h
  have h := ite_n c_46 h
  refine lv_aload_n hx hb dX6_readsItem_83 rfl (lv_at hl 1 rfl) ?_
  refine wo_get (C := RX6) (T := TX6) (N := 14) hx hb hts iX6_readsItem_6 hown hW kl_20_50_0 co_o rfl 3 (by decide) (hts _ mX6_readsItem_l16) (fun _ h9 => h9) rfl dX6_readsItem_84 ?_
  refine lv_iconst (v := 0) hx hb dX6_readsItem_87 (by decide) ?_
  obtain ⟨hi_47, h⟩ := gi_s h
  refine xw_ald hx hb hW kl_20_3_0 rfl hi_47 dX6_readsItem_88 ?_
  refine lv_bipush (v := 6) hx hb dX6_readsItem_89 (by decide) ?_
  refine lv_icmp_ne (tgt := 96) hx hb dX6_readsItem_91 (by decide) (fun c_48 => ?_) (fun c_48 => ?_)
  · have h := ite_n c_48 h
    refine lv_aload_n hx hb dX6_readsItem_96 rfl (lv_at hl 1 rfl) ?_
    refine lv_iload_n hx hb dX6_readsItem_97 rfl (lv_at hl 2 rfl) ?_
    refine lv_iload_n hx hb dX6_readsItem_98 rfl (lv_at hl 0 rfl) ?_
    obtain ⟨μ_50, hh_49, h⟩ := bdv_s h
    refine wo_Vv (rest := []) C hW (kX6_personOf l D g ad  hh_49) (cwV 2 hts gX6_readsItem_X6_personOf rfl rfl rfl (by decide +kernel) ⟨Nat.le_of_ble_eq_true rfl, Nat.le_of_ble_eq_true rfl⟩) kl_20_50_0 co_o rfl rfl hl.1 rfl (Nat.le_of_ble_eq_true rfl) dX6_readsItem_99 ⟨Nat.zero_le _, Nat.zero_le _⟩ (fun H locs hW => ?_)
    refine lv_iconst (v := 1) hx hb dX6_readsItem_102 (by decide) ?_
    exact xw_zret C rfl (by decide) hW dX6_readsItem_103 h
  have h := ite_p c_48 h
  refine lv_iconst (v := 0) hx hb dX6_readsItem_94 (by decide) ?_
  exact xw_zret C rfl (by decide) hW dX6_readsItem_95 h
set_option maxHeartbeats 4000000 in
set_option maxRecDepth 100000 in
theorem kX6_readsItem (l : Launch) (D : va_G) (g : G3) (ad : Ky → Nat) {v1 : Int32} {μ μ' : Mem} {r : Int32} (h : X6_readsItem v1 μ = some (r, μ')) : CtI l yX6_readsItem wsX6_readsItem rX6_readsItem D (tysX g) keysM ad (cX g ad) [.ref (ad (20, 50, 0)), .int v1] μ r μ' := by
  refine ctI_of (cc := cX6_readsItem) (maxL := 6) (ret := (some .boolean)) keysM_nd (by decide) rfl (Nat.le_of_ble_eq_true rfl) (fun p e s m below meth c A ls C hW hl => ?_)
  have hl : lv_has ls 6 [(0, .ref (ad (20, 50, 0))), (1, .int v1)] := hl
  obtain ⟨hx, hb, hr, hts, hown, hlocks, hml, hA⟩ := id C
  refine lv_iload_n hx hb dX6_readsItem_0 rfl (lv_at hl 1 rfl) ?_
  by_cases c_1 : v1 = 97
  · have h := ite_p c_1 h
    refine lv_lookup (off := 137) (tgt := 138) hx hb dX6_readsItem_1 (by decide) (by rw [c_1]; decide) (by decide) ?_
    refine lv_aload_n hx hb dX6_readsItem_138 rfl (lv_at hl 0 rfl) ?_
    refine lv_iconst (v := 0) hx hb dX6_readsItem_139 (by decide) ?_
    refine lv_aload_n hx hb dX6_readsItem_140 rfl (lv_at hl 0 rfl) ?_
    refine wo_get (C := RX6) (T := TX6) (N := 14) hx hb hts iX6_readsItem_6 hown hW kl_20_50_0 co_o rfl 3 (by decide) (hts _ mX6_readsItem_l16) (fun _ h9 => h9) rfl dX6_readsItem_141 ?_
    refine lv_iconst (v := 0) hx hb dX6_readsItem_144 (by decide) ?_
    obtain ⟨hi_2, h⟩ := gi_s h
    refine xw_ald hx hb hW kl_20_3_0 rfl hi_2 dX6_readsItem_145 ?_
    refine lv_iconst (v := 1) hx hb dX6_readsItem_146 (by decide) ?_
    refine lv_isub hx hb dX6_readsItem_147 ?_
    refine lv_bipush (v := 44) hx hb dX6_readsItem_148 (by decide) ?_
    obtain ⟨r_5, μ_4, hh_3, h⟩ := bd_s h
    refine wo_Vi (rest := []) C hW (kX6_number l D g ad  hh_3) (cwV 3 hts gX6_readsItem_X6_number rfl rfl rfl (by decide +kernel) ⟨Nat.le_of_ble_eq_true rfl, Nat.le_of_ble_eq_true rfl⟩) kl_20_50_0 co_o rfl rfl hl.1 rfl (Nat.le_of_ble_eq_true rfl) dX6_readsItem_150 ⟨Nat.zero_le _, Nat.zero_le _⟩ (fun H locs hW => ?_)
    refine lv_istore_n (lv' := [(2, .int r_5), (0, .ref (ad (20, 50, 0))), (1, .int v1)]) hx hb dX6_readsItem_153 rfl hl (by decide) rfl (fun ls hl => ?_)
    refine lv_iload_n hx hb dX6_readsItem_154 rfl (lv_at hl 0 rfl) ?_
    refine lv_if_ge (tgt := 162) hx hb dX6_readsItem_155 (by decide) (fun c_6 => ?_) (fun c_6 => ?_)
    · have h := ite_p c_6 h
      refine lv_aload_n hx hb dX6_readsItem_162 rfl (lv_at hl 1 rfl) ?_
      refine lv_iconst (v := 0) hx hb dX6_readsItem_163 (by decide) ?_
      refine lv_aload_n hx hb dX6_readsItem_164 rfl (lv_at hl 1 rfl) ?_
      refine wo_get (C := RX6) (T := TX6) (N := 14) hx hb hts iX6_readsItem_6 hown hW kl_20_50_0 co_o rfl 3 (by decide) (hts _ mX6_readsItem_l16) (fun _ h9 => h9) rfl dX6_readsItem_165 ?_
      refine lv_iconst (v := 1) hx hb dX6_readsItem_168 (by decide) ?_
      obtain ⟨hi_7, h⟩ := gi_s h
      refine xw_ald hx hb hW kl_20_3_0 rfl hi_7 dX6_readsItem_169 ?_
      refine lv_iconst (v := 1) hx hb dX6_readsItem_170 (by decide) ?_
      refine lv_isub hx hb dX6_readsItem_171 ?_
      refine lv_bipush (v := 44) hx hb dX6_readsItem_172 (by decide) ?_
      obtain ⟨r_10, μ_9, hh_8, h⟩ := bd_s h
      refine wo_Vi (rest := []) C hW (kX6_number l D g ad  hh_8) (cwV 3 hts gX6_readsItem_X6_number rfl rfl rfl (by decide +kernel) ⟨Nat.le_of_ble_eq_true rfl, Nat.le_of_ble_eq_true rfl⟩) kl_20_50_0 co_o rfl rfl hl.1 rfl (Nat.le_of_ble_eq_true rfl) dX6_readsItem_174 ⟨Nat.zero_le _, Nat.zero_le _⟩ (fun H locs hW => ?_)
      exact tX6_readsItem_b177 C hW (lv_sub hl [1, 0] rfl) h
    have h := ite_n c_6 h
    refine lv_iconst (v := (-1)) hx hb dX6_readsItem_158 (by decide) ?_
    refine lv_goto (tgt := 177) hx hb dX6_readsItem_159 (by decide) ?_
    exact tX6_readsItem_b177 C hW (lv_sub hl [1, 0] rfl) h
  have h := ite_n c_1 h
  by_cases c_24 : v1 = 101
  · have h := ite_p c_24 h
    refine lv_lookup (off := 246) (tgt := 247) hx hb dX6_readsItem_1 (by decide) (by rw [c_24]; decide) (by decide) ?_
    refine lv_aload_n hx hb dX6_readsItem_247 rfl (lv_at hl 0 rfl) ?_
    refine wo_get (C := RX6) (T := TX6) (N := 14) hx hb hts iX6_readsItem_6 hown hW kl_20_50_0 co_o rfl 3 (by decide) (hts _ mX6_readsItem_l16) (fun _ h9 => h9) rfl dX6_readsItem_248 ?_
    refine lv_iconst (v := 3) hx hb dX6_readsItem_251 (by decide) ?_
    refine lv_aload_n hx hb dX6_readsItem_252 rfl (lv_at hl 0 rfl) ?_
    refine lv_iconst (v := 0) hx hb dX6_readsItem_253 (by decide) ?_
    refine lv_bipush (v := 30) hx hb dX6_readsItem_254 (by decide) ?_
    refine lv_bipush (v := 59) hx hb dX6_readsItem_256 (by decide) ?_
    obtain ⟨r_27, μ_26, hh_25, h⟩ := bd_s h
    refine wo_Vi (rest := [.int 3, .ref (ad (20, 3, 0))]) C hW (kX6_number l D g ad  hh_25) (cwV 3 hts gX6_readsItem_X6_number rfl rfl rfl (by decide +kernel) ⟨Nat.le_of_ble_eq_true rfl, Nat.le_of_ble_eq_true rfl⟩) kl_20_50_0 co_o rfl rfl hl.1 rfl (Nat.le_of_ble_eq_true rfl) dX6_readsItem_258 ⟨Nat.zero_le _, Nat.zero_le _⟩ (fun H locs hW => ?_)
    obtain ⟨hi_28, h⟩ := gi_s h
    refine xw_ast hx hb hW kl_20_3_0 (fun _ => rfl) rfl hi_28 dX6_readsItem_261 (fun H locs hW => ?_)
    refine lv_aload_n hx hb dX6_readsItem_262 rfl (lv_at hl 0 rfl) ?_
    refine wo_get (C := RX6) (T := TX6) (N := 14) hx hb hts iX6_readsItem_6 hown hW kl_20_50_0 co_o rfl 3 (by decide) (hts _ mX6_readsItem_l16) (fun _ h9 => h9) rfl dX6_readsItem_263 ?_
    refine lv_iconst (v := 3) hx hb dX6_readsItem_266 (by decide) ?_
    obtain ⟨hi_29, h⟩ := gi_s h
    refine xw_ald hx hb hW kl_20_3_0 rfl hi_29 dX6_readsItem_267 ?_
    refine lv_if_lt (tgt := 275) hx hb dX6_readsItem_268 (by decide) (fun c_30 => ?_) (fun c_30 => ?_)
    · have h := ite_p c_30 h
      refine lv_iconst (v := 0) hx hb dX6_readsItem_275 (by decide) ?_
      exact xw_zret C rfl (by decide) hW dX6_readsItem_276 h
    have h := ite_n c_30 h
    refine lv_iconst (v := 1) hx hb dX6_readsItem_271 (by decide) ?_
    refine lv_goto (tgt := 276) hx hb dX6_readsItem_272 (by decide) ?_
    exact xw_zret C rfl (by decide) hW dX6_readsItem_276 h
  have h := ite_n c_24 h
  by_cases c_31 : v1 = 103
  · have h := ite_p c_31 h
    refine lv_lookup (off := 276) (tgt := 277) hx hb dX6_readsItem_1 (by decide) (by rw [c_31]; decide) (by decide) ?_
    refine lv_aload_n hx hb dX6_readsItem_277 rfl (lv_at hl 0 rfl) ?_
    refine wo_get (C := RX6) (T := TX6) (N := 14) hx hb hts iX6_readsItem_6 hown hW kl_20_50_0 co_o rfl 3 (by decide) (hts _ mX6_readsItem_l16) (fun _ h9 => h9) rfl dX6_readsItem_278 ?_
    refine lv_iconst (v := 4) hx hb dX6_readsItem_281 (by decide) ?_
    refine lv_aload_n hx hb dX6_readsItem_282 rfl (lv_at hl 0 rfl) ?_
    refine lv_iconst (v := 0) hx hb dX6_readsItem_283 (by decide) ?_
    refine lv_bipush (v := 9) hx hb dX6_readsItem_284 (by decide) ?_
    refine lv_bipush (v := 59) hx hb dX6_readsItem_286 (by decide) ?_
    obtain ⟨r_34, μ_33, hh_32, h⟩ := bd_s h
    refine wo_Vi (rest := [.int 4, .ref (ad (20, 3, 0))]) C hW (kX6_number l D g ad  hh_32) (cwV 3 hts gX6_readsItem_X6_number rfl rfl rfl (by decide +kernel) ⟨Nat.le_of_ble_eq_true rfl, Nat.le_of_ble_eq_true rfl⟩) kl_20_50_0 co_o rfl rfl hl.1 rfl (Nat.le_of_ble_eq_true rfl) dX6_readsItem_288 ⟨Nat.zero_le _, Nat.zero_le _⟩ (fun H locs hW => ?_)
    obtain ⟨hi_35, h⟩ := gi_s h
    refine xw_ast hx hb hW kl_20_3_0 (fun _ => rfl) rfl hi_35 dX6_readsItem_291 (fun H locs hW => ?_)
    refine lv_aload_n hx hb dX6_readsItem_292 rfl (lv_at hl 0 rfl) ?_
    refine wo_get (C := RX6) (T := TX6) (N := 14) hx hb hts iX6_readsItem_6 hown hW kl_20_50_0 co_o rfl 3 (by decide) (hts _ mX6_readsItem_l16) (fun _ h9 => h9) rfl dX6_readsItem_293 ?_
    refine lv_iconst (v := 4) hx hb dX6_readsItem_296 (by decide) ?_
    obtain ⟨hi_36, h⟩ := gi_s h
    refine xw_ald hx hb hW kl_20_3_0 rfl hi_36 dX6_readsItem_297 ?_
    refine lv_if_lt (tgt := 305) hx hb dX6_readsItem_298 (by decide) (fun c_37 => ?_) (fun c_37 => ?_)
    · have h := ite_p c_37 h
      refine lv_iconst (v := 0) hx hb dX6_readsItem_305 (by decide) ?_
      exact xw_zret C rfl (by decide) hW dX6_readsItem_306 h
    have h := ite_n c_37 h
    refine lv_iconst (v := 1) hx hb dX6_readsItem_301 (by decide) ?_
    refine lv_goto (tgt := 306) hx hb dX6_readsItem_302 (by decide) ?_
    exact xw_zret C rfl (by decide) hW dX6_readsItem_306 h
  have h := ite_n c_31 h
  by_cases c_38 : v1 = 112
  · have h := ite_p c_38 h
    refine lv_lookup (off := 51) (tgt := 52) hx hb dX6_readsItem_1 (by decide) (by rw [c_38]; decide) (by decide) ?_
    refine lv_aload_n hx hb dX6_readsItem_52 rfl (lv_at hl 0 rfl) ?_
    refine lv_iconst (v := 0) hx hb dX6_readsItem_53 (by decide) ?_
    refine lv_iconst (v := 3) hx hb dX6_readsItem_54 (by decide) ?_
    refine lv_bipush (v := 44) hx hb dX6_readsItem_55 (by decide) ?_
    obtain ⟨r_41, μ_40, hh_39, h⟩ := bd_s h
    refine wo_Vi (rest := []) C hW (kX6_number l D g ad  hh_39) (cwV 3 hts gX6_readsItem_X6_number rfl rfl rfl (by decide +kernel) ⟨Nat.le_of_ble_eq_true rfl, Nat.le_of_ble_eq_true rfl⟩) kl_20_50_0 co_o rfl rfl hl.1 rfl (Nat.le_of_ble_eq_true rfl) dX6_readsItem_57 ⟨Nat.zero_le _, Nat.zero_le _⟩ (fun H locs hW => ?_)
    refine lv_istore_n (lv' := [(2, .int r_41), (0, .ref (ad (20, 50, 0))), (1, .int v1)]) hx hb dX6_readsItem_60 rfl hl (by decide) rfl (fun ls hl => ?_)
    refine lv_iload_n hx hb dX6_readsItem_61 rfl (lv_at hl 0 rfl) ?_
    refine lv_if_ge (tgt := 69) hx hb dX6_readsItem_62 (by decide) (fun c_42 => ?_) (fun c_42 => ?_)
    · have h := ite_p c_42 h
      refine lv_aload_n hx hb dX6_readsItem_69 rfl (lv_at hl 1 rfl) ?_
      refine lv_iconst (v := 0) hx hb dX6_readsItem_70 (by decide) ?_
      refine lv_bipush (v := 99) hx hb dX6_readsItem_71 (by decide) ?_
      refine lv_bipush (v := 59) hx hb dX6_readsItem_73 (by decide) ?_
      obtain ⟨r_45, μ_44, hh_43, h⟩ := bd_s h
      refine wo_Vi (rest := []) C hW (kX6_number l D g ad  hh_43) (cwV 3 hts gX6_readsItem_X6_number rfl rfl rfl (by decide +kernel) ⟨Nat.le_of_ble_eq_true rfl, Nat.le_of_ble_eq_true rfl⟩) kl_20_50_0 co_o rfl rfl hl.1 rfl (Nat.le_of_ble_eq_true rfl) dX6_readsItem_75 ⟨Nat.zero_le _, Nat.zero_le _⟩ (fun H locs hW => ?_)
      exact tX6_readsItem_b78 C hW (lv_sub hl [1, 0] rfl) h
    have h := ite_n c_42 h
    refine lv_iconst (v := (-1)) hx hb dX6_readsItem_65 (by decide) ?_
    refine lv_goto (tgt := 78) hx hb dX6_readsItem_66 (by decide) ?_
    exact tX6_readsItem_b78 C hW (lv_sub hl [1, 0] rfl) h
  have h := ite_n c_38 h
  by_cases c_51 : v1 = 116
  · have h := ite_p c_51 h
    refine lv_lookup (off := 103) (tgt := 104) hx hb dX6_readsItem_1 (by decide) (by rw [c_51]; decide) (by decide) ?_
    refine lv_aload_n hx hb dX6_readsItem_104 rfl (lv_at hl 0 rfl) ?_
    refine lv_iconst (v := 1) hx hb dX6_readsItem_105 (by decide) ?_
    refine lv_bipush (v := 60) hx hb dX6_readsItem_106 (by decide) ?_
    refine lv_bipush (v := 59) hx hb dX6_readsItem_108 (by decide) ?_
    obtain ⟨r_54, μ_53, hh_52, h⟩ := bd_s h
    refine wo_Vi (rest := []) C hW (kX6_number l D g ad  hh_52) (cwV 3 hts gX6_readsItem_X6_number rfl rfl rfl (by decide +kernel) ⟨Nat.le_of_ble_eq_true rfl, Nat.le_of_ble_eq_true rfl⟩) kl_20_50_0 co_o rfl rfl hl.1 rfl (Nat.le_of_ble_eq_true rfl) dX6_readsItem_110 ⟨Nat.zero_le _, Nat.zero_le _⟩ (fun H locs hW => ?_)
    refine lv_istore_n (lv' := [(2, .int r_54), (0, .ref (ad (20, 50, 0))), (1, .int v1)]) hx hb dX6_readsItem_113 rfl hl (by decide) rfl (fun ls hl => ?_)
    refine lv_iload_n hx hb dX6_readsItem_114 rfl (lv_at hl 0 rfl) ?_
    refine lv_if_lt (tgt := 129) hx hb dX6_readsItem_115 (by decide) (fun c_55 => ?_) (fun c_55 => ?_)
    · have h := ite_p c_55 h
      refine lv_iconst (v := 0) hx hb dX6_readsItem_129 (by decide) ?_
      exact xw_zret C rfl (by decide) hW dX6_readsItem_130 h
    have h := ite_n c_55 h
    refine lv_aload_n hx hb dX6_readsItem_118 rfl (lv_at hl 1 rfl) ?_
    refine wo_get (C := RX6) (T := TX6) (N := 14) hx hb hts iX6_readsItem_6 hown hW kl_20_50_0 co_o rfl 3 (by decide) (hts _ mX6_readsItem_l16) (fun _ h9 => h9) rfl dX6_readsItem_119 ?_
    refine lv_iconst (v := 1) hx hb dX6_readsItem_122 (by decide) ?_
    obtain ⟨hi_56, h⟩ := gi_s h
    refine xw_ald hx hb hW kl_20_3_0 rfl hi_56 dX6_readsItem_123 ?_
    refine lv_bipush (v := 6) hx hb dX6_readsItem_124 (by decide) ?_
    refine lv_icmp_ne (tgt := 131) hx hb dX6_readsItem_126 (by decide) (fun c_57 => ?_) (fun c_57 => ?_)
    · have h := ite_n c_57 h
      refine lv_aload_n hx hb dX6_readsItem_131 rfl (lv_at hl 1 rfl) ?_
      refine lv_iload_n hx hb dX6_readsItem_132 rfl (lv_at hl 0 rfl) ?_
      obtain ⟨μ_59, hh_58, h⟩ := bdv_s h
      refine wo_Vv (rest := []) C hW (kX6_thingOf l D g ad  hh_58) (cwV 1 hts gX6_readsItem_X6_thingOf rfl rfl rfl (by decide +kernel) ⟨Nat.le_of_ble_eq_true rfl, Nat.le_of_ble_eq_true rfl⟩) kl_20_50_0 co_o rfl rfl hl.1 rfl (Nat.le_of_ble_eq_true rfl) dX6_readsItem_133 ⟨Nat.zero_le _, Nat.zero_le _⟩ (fun H locs hW => ?_)
      refine lv_iconst (v := 1) hx hb dX6_readsItem_136 (by decide) ?_
      exact xw_zret C rfl (by decide) hW dX6_readsItem_137 h
    have h := ite_p c_57 h
    refine lv_iconst (v := 0) hx hb dX6_readsItem_129 (by decide) ?_
    exact xw_zret C rfl (by decide) hW dX6_readsItem_130 h
  have h := ite_n c_51 h
  have t_60 := ne_ti (k := 97) rfl c_1
  have t_61 := ne_ti (k := 101) rfl c_24
  have t_62 := ne_ti (k := 103) rfl c_31
  have t_63 := ne_ti (k := 112) rfl c_38
  have t_64 := ne_ti (k := 116) rfl c_51
  refine lv_lookup (off := 306) (tgt := 307) hx hb dX6_readsItem_1 (by decide) (by simp [Op.lookupswitch.offset, Ne.symm t_60, Ne.symm t_61, Ne.symm t_62, Ne.symm t_63, Ne.symm t_64]) (by decide) ?_
  refine lv_iconst (v := 0) hx hb dX6_readsItem_307 (by decide) ?_
  exact xw_zret C rfl (by decide) hW dX6_readsItem_308 h
abbrev rX6_readsAll : Room := { frames := 4, cells := 0, slots := 0, locals := 92 }
theorem mX6_readsAll_l63 : Cond.fieldLink RX6 63 "NearlyBoughtModel" "at" "I" ∈ wsX6_readsAll := by decide +kernel
theorem mX6_readsAll_l60 : Cond.fieldLink RX6 60 "NearlyBoughtModel" "typed" "I" ∈ wsX6_readsAll := by decide +kernel
theorem mX6_readsAll_l7 : Cond.fieldLink RX6 7 "NearlyBoughtModel" "text" "[I" ∈ wsX6_readsAll := by decide +kernel
theorem iX6_readsAll_6 : ∀ w ∈ wsX60, w ∈ wsX6_readsAll := fun _ h => List.mem_cons_of_mem _ (List.mem_append_right _ h)
set_option maxHeartbeats 4000000 in
set_option maxRecDepth 100000 in
theorem tX6_readsAll_b9 {p : Program} {l : Launch} {e : Env} {s : State} {m : MethodId} {args : Array Value} {below : List Frame} {meth : Method} {c : Code} {A : Nat → Prop} {D : va_G} {g : G3} {ad : Ky → Nat} (C : Cx p s m args meth c cX6_readsAll (some .int) 2 RX6 wsX6_readsAll A) {r0 : Int32} {μ0 : Mem} (n : Nat) : ∀ (μ : Mem) (H : Heap) (locs : List Loc) (ls : Array Slot), WX D g keysM ad A s s.heap μ H locs → lv_has ls 2 [(0, .ref (ad (20, 50, 0)))] → lo0 (X6_readsAll_b9) n μ = some (r0, μ0) → TgI r0 p l e rX6_readsAll s m args below meth c D g keysM ad A μ0 H locs (F0 m 9 ls []) := by
  obtain ⟨hx, hb, hr, hts, hown, hlocks, hml, hA⟩ := id C
  induction n with
  | zero =>
    intro μ H locs ls hW hl h
    cases h
  | succ n h9 =>
    intro μ H locs ls hW hl h
    have h : X6_readsAll_b9 (lo0 (X6_readsAll_b9) n) μ = some (r0, μ0) := h
    refine lv_aload_n hx hb dX6_readsAll_9 rfl (lv_at hl 0 rfl) ?_
    refine wo_get (C := RX6) (T := TX6) (N := 14) hx hb hts iX6_readsAll_6 hown hW kl_20_50_0 co_o rfl 11 (by decide) (hts _ mX6_readsAll_l63) (fun _ h9 => h9) rfl dX6_readsAll_10 ?_
    refine lv_aload_n hx hb dX6_readsAll_13 rfl (lv_at hl 0 rfl) ?_
    refine wo_get (C := RX6) (T := TX6) (N := 14) hx hb hts iX6_readsAll_6 hown hW kl_20_50_0 co_o rfl 1 (by decide) (hts _ mX6_readsAll_l60) (fun _ h9 => h9) rfl dX6_readsAll_14 ?_
    refine lv_icmp_ge (tgt := 53) hx hb dX6_readsAll_17 (by decide) (fun c_3 => ?_) (fun c_3 => ?_)
    · have h := ite_p c_3 h
      refine lv_bipush (v := (-4)) hx hb dX6_readsAll_53 (by decide) ?_
      exact xw_iret C rfl hW dX6_readsAll_55 h
    have h := ite_n c_3 h
    refine lv_aload_n hx hb dX6_readsAll_20 rfl (lv_at hl 0 rfl) ?_
    refine wo_get (C := RX6) (T := TX6) (N := 14) hx hb hts iX6_readsAll_6 hown hW kl_20_50_0 co_o rfl 11 (by decide) (hts _ mX6_readsAll_l63) (fun _ h9 => h9) rfl dX6_readsAll_21 ?_
    refine lv_istore_n (lv' := [(1, .int (μ 20 11 0 0)), (0, .ref (ad (20, 50, 0)))]) hx hb dX6_readsAll_24 rfl hl (by decide) rfl (fun ls hl => ?_)
    refine lv_aload_n hx hb dX6_readsAll_25 rfl (lv_at hl 1 rfl) ?_
    refine lv_dup hx hb dX6_readsAll_26 rfl ?_
    refine wo_get (C := RX6) (T := TX6) (N := 14) hx hb hts iX6_readsAll_6 hown hW kl_20_50_0 co_o rfl 11 (by decide) (hts _ mX6_readsAll_l63) (fun _ h9 => h9) rfl dX6_readsAll_27 ?_
    refine lv_iconst (v := 1) hx hb dX6_readsAll_30 (by decide) ?_
    refine lv_iadd hx hb dX6_readsAll_31 ?_
    refine xw_put (C := RX6) (T := TX6) (N := 14) hx hb hts iX6_readsAll_6 tyX6 tyX6_ok nmX6 hown hW kl_20_50_0 co_o rfl 11 (by decide) (hts _ mX6_readsAll_l63) (fun _ h9 => h9) rfl (by decide +kernel) (Nat.le_of_ble_eq_true rfl) keysM_ok rfl (po_11 _) dX6_readsAll_32 (fun H locs hW => ?_)
    refine lv_aload_n hx hb dX6_readsAll_35 rfl (lv_at hl 1 rfl) ?_
    refine lv_aload_n hx hb dX6_readsAll_36 rfl (lv_at hl 1 rfl) ?_
    refine wo_get (C := RX6) (T := TX6) (N := 14) hx hb hts iX6_readsAll_6 hown hW kl_20_50_0 co_o rfl 0 (by decide) (hts _ mX6_readsAll_l7) (fun _ h9 => h9) rfl dX6_readsAll_37 ?_
    refine lv_iload_n hx hb dX6_readsAll_40 rfl (lv_at hl 0 rfl) ?_
    obtain ⟨hi_4, h⟩ := gi_s h
    refine xw_ald hx hb hW kl_20_0_0 rfl hi_4 dX6_readsAll_41 ?_
    obtain ⟨r_7, μ_6, hh_5, h⟩ := bd_s h
    refine wo_Vi (rest := []) C hW (kX6_readsItem l D g ad  hh_5) (cwV 1 hts gX6_readsAll_X6_readsItem rfl rfl rfl (by decide +kernel) ⟨Nat.le_of_ble_eq_true rfl, Nat.le_of_ble_eq_true rfl⟩) kl_20_50_0 co_o rfl rfl hl.1 rfl (Nat.le_of_ble_eq_true rfl) dX6_readsAll_42 ⟨Nat.zero_le _, Nat.zero_le _⟩ (fun H locs hW => ?_)
    refine lv_if_ne (tgt := 50) hx hb dX6_readsAll_45 (by decide) (fun c_8 => ?_) (fun c_8 => ?_)
    · have h := ite_n c_8 h
      refine lv_goto (tgt := 9) hx hb dX6_readsAll_50 (by decide) ?_
      exact h9 _ _ _ _ hW (lv_sub hl [1] rfl) h
    have h := ite_p c_8 h
    refine lv_iload_n hx hb dX6_readsAll_48 rfl (lv_at hl 0 rfl) ?_
    exact xw_iret C rfl hW dX6_readsAll_49 h
set_option maxHeartbeats 4000000 in
set_option maxRecDepth 100000 in
theorem kX6_readsAll (l : Launch) (D : va_G) (g : G3) (ad : Ky → Nat) {μ μ' : Mem} {r : Int32} (h : X6_readsAll μ = some (r, μ')) : CtI l yX6_readsAll wsX6_readsAll rX6_readsAll D (tysX g) keysM ad (cX g ad) [.ref (ad (20, 50, 0))] μ r μ' := by
  refine ctI_of (cc := cX6_readsAll) (maxL := 2) (ret := (some .int)) keysM_nd (by decide) rfl (Nat.le_of_ble_eq_true rfl) (fun p e s m below meth c A ls C hW hl => ?_)
  have hl : lv_has ls 2 [(0, .ref (ad (20, 50, 0)))] := hl
  obtain ⟨hx, hb, hr, hts, hown, hlocks, hml, hA⟩ := id C
  refine lv_aload_n hx hb dX6_readsAll_0 rfl (lv_at hl 0 rfl) ?_
  obtain ⟨μ_2, hh_1, h⟩ := bdv_s h
  refine wo_Vv (rest := []) C hW (kX6_begins l D g ad  hh_1) (cwV 0 hts gX6_readsAll_X6_begins rfl rfl rfl (by decide +kernel) ⟨Nat.le_of_ble_eq_true rfl, Nat.le_of_ble_eq_true rfl⟩) kl_20_50_0 co_o rfl rfl hl.1 rfl (Nat.le_of_ble_eq_true rfl) dX6_readsAll_1 ⟨Nat.zero_le _, Nat.zero_le _⟩ (fun H locs hW => ?_)
  refine lv_aload_n hx hb dX6_readsAll_4 rfl (lv_at hl 0 rfl) ?_
  refine lv_iconst (v := 0) hx hb dX6_readsAll_5 (by decide) ?_
  refine xw_put (C := RX6) (T := TX6) (N := 14) hx hb hts iX6_readsAll_6 tyX6 tyX6_ok nmX6 hown hW kl_20_50_0 co_o rfl 11 (by decide) (hts _ mX6_readsAll_l63) (fun _ h9 => h9) rfl (by decide +kernel) (Nat.le_of_ble_eq_true rfl) keysM_ok rfl (po_11 _) dX6_readsAll_6 (fun H locs hW => ?_)
  exact tX6_readsAll_b9 C 1000 _ _ _ _ hW (lv_sub hl [0] rfl) h
abbrev rX6_fault : Room := { frames := 5, cells := 0, slots := 0, locals := 113 }
set_option maxHeartbeats 4000000 in
set_option maxRecDepth 100000 in
theorem kX6_fault (l : Launch) (D : va_G) (g : G3) (ad : Ky → Nat) {μ μ' : Mem} {r : Int32} (h : X6_fault μ = some (r, μ')) : CtI l yX6_fault wsX6_fault rX6_fault D (tysX g) keysM ad (cX g ad) [.ref (ad (20, 50, 0))] μ r μ' := by
  refine ctI_of (cc := cX6_fault) (maxL := 1) (ret := (some .int)) keysM_nd (by decide) rfl (Nat.le_of_ble_eq_true rfl) (fun p e s m below meth c A ls C hW hl => ?_)
  have hl : lv_has ls 1 [(0, .ref (ad (20, 50, 0)))] := hl
  obtain ⟨hx, hb, hr, hts, hown, hlocks, hml, hA⟩ := id C
  refine lv_aload_n hx hb dX6_fault_0 rfl (lv_at hl 0 rfl) ?_
  obtain ⟨r_3, μ_2, hh_1, h⟩ := bd_s h
  refine wo_Vi (rest := []) C hW (kX6_readsAll l D g ad  hh_1) (cwV 0 hts gX6_fault_X6_readsAll rfl rfl rfl (by decide +kernel) ⟨Nat.le_of_ble_eq_true rfl, Nat.le_of_ble_eq_true rfl⟩) kl_20_50_0 co_o rfl rfl hl.1 rfl (Nat.le_of_ble_eq_true rfl) dX6_fault_1 ⟨Nat.zero_le _, Nat.zero_le _⟩ (fun H locs hW => ?_)
  exact xw_iret C rfl hW dX6_fault_4 h
abbrev rX6_starts : Room := { frames := 0, cells := 0, slots := 0, locals := 0 }
theorem mX6_starts_l19 : Cond.fieldLink RX6 19 "NearlyBoughtModel" "s" "[I" ∈ wsX6_starts := by decide +kernel
theorem mX6_starts_l13 : Cond.fieldLink RX6 13 "NearlyBoughtModel" "told" "[I" ∈ wsX6_starts := by decide +kernel
theorem iX6_starts_6 : ∀ w ∈ wsX60, w ∈ wsX6_starts := fun _ h => List.mem_cons_of_mem _ (List.mem_append_right _ h)
set_option maxHeartbeats 4000000 in
set_option maxRecDepth 100000 in
theorem tX6_starts_b43 {p : Program} {l : Launch} {e : Env} {s : State} {m : MethodId} {args : Array Value} {below : List Frame} {meth : Method} {c : Code} {A : Nat → Prop} {D : va_G} {g : G3} {ad : Ky → Nat} (C : Cx p s m args meth c cX6_starts none 2 RX6 wsX6_starts A) {μ0 : Mem} {v1 s1 s2 : Int32} {k2 : Int32 → Mem → Option (Mem)} (h2 : ∀ (v1 : Int32) (μ : Mem) (H : Heap) (locs : List Loc) (ls : Array Slot), WX D g keysM ad A s s.heap μ H locs → lv_has ls 2 [(0, .ref (ad (20, 50, 0))), (1, .int v1)] → k2 v1 μ = some μ0 → TgV p l e rX6_starts s m args below meth c D g keysM ad A μ0 H locs (F0 m 2 ls [])) {μ : Mem} {H : Heap} {locs : List Loc} {ls : Array Slot} (hW : WX D g keysM ad A s s.heap μ H locs) (hl : lv_has ls 2 [(0, .ref (ad (20, 50, 0))), (1, .int v1)]) (h : X6_starts_b43 k2 v1 s1 s2 μ = some μ0) : TgV p l e rX6_starts s m args below meth c D g keysM ad A μ0 H locs (F0 m 43 ls [.int s2, .int s1, .ref (ad (20, 4, 0))]) := by
  obtain ⟨hx, hb, hr, hts, hown, hlocks, hml, hA⟩ := id C
  obtain ⟨hi_4, h⟩ := gi_s h
  refine xw_ast hx hb hW kl_20_4_0 (fun _ => rfl) rfl hi_4 dX6_starts_43 (fun H locs hW => ?_)
  refine lv_iinc (v := v1 + 1) (lv' := [(1, .int (v1 + 1)), (0, .ref (ad (20, 50, 0)))]) hx hb dX6_starts_44 hl (k := 1) rfl rfl (by decide) rfl (fun ls hl => ?_)
  refine lv_goto (tgt := 2) hx hb dX6_starts_47 (by decide) ?_
  exact h2 _ _ _ _ _ hW (lv_sub hl [1, 0] rfl) h
set_option maxHeartbeats 4000000 in
set_option maxRecDepth 100000 in
theorem tX6_starts_b2 {p : Program} {l : Launch} {e : Env} {s : State} {m : MethodId} {args : Array Value} {below : List Frame} {meth : Method} {c : Code} {A : Nat → Prop} {D : va_G} {g : G3} {ad : Ky → Nat} (C : Cx p s m args meth c cX6_starts none 2 RX6 wsX6_starts A) {μ0 : Mem} (n : Nat) : ∀ (v1 : Int32) (μ : Mem) (H : Heap) (locs : List Loc) (ls : Array Slot), WX D g keysM ad A s s.heap μ H locs → lv_has ls 2 [(0, .ref (ad (20, 50, 0))), (1, .int v1)] → lo1 (X6_starts_b2) n v1 μ = some μ0 → TgV p l e rX6_starts s m args below meth c D g keysM ad A μ0 H locs (F0 m 2 ls []) := by
  obtain ⟨hx, hb, hr, hts, hown, hlocks, hml, hA⟩ := id C
  induction n with
  | zero =>
    intro v1 μ H locs ls hW hl h
    cases h
  | succ n h2 =>
    intro v1 μ H locs ls hW hl h
    have h : X6_starts_b2 (lo1 (X6_starts_b2) n) v1 μ = some μ0 := h
    refine lv_iload_n hx hb dX6_starts_2 rfl (lv_at hl 1 rfl) ?_
    refine lv_bipush (v := 55) hx hb dX6_starts_3 (by decide) ?_
    refine lv_icmp_ge (tgt := 50) hx hb dX6_starts_5 (by decide) (fun c_1 => ?_) (fun c_1 => ?_)
    · have h := ite_p c_1 h
      exact xw_vret C rfl hW dX6_starts_50 h
    have h := ite_n c_1 h
    refine lv_aload_n hx hb dX6_starts_8 rfl (lv_at hl 0 rfl) ?_
    refine wo_get (C := RX6) (T := TX6) (N := 14) hx hb hts iX6_starts_6 hown hW kl_20_50_0 co_o rfl 4 (by decide) (hts _ mX6_starts_l19) (fun _ h9 => h9) rfl dX6_starts_9 ?_
    refine lv_iload_n hx hb dX6_starts_12 rfl (lv_at hl 1 rfl) ?_
    refine lv_iload_n hx hb dX6_starts_13 rfl (lv_at hl 1 rfl) ?_
    refine lv_bipush (v := 6) hx hb dX6_starts_14 (by decide) ?_
    refine lv_icmp_ge (tgt := 31) hx hb dX6_starts_16 (by decide) (fun c_2 => ?_) (fun c_2 => ?_)
    · have h := ite_p c_2 h
      refine lv_iload_n hx hb dX6_starts_31 rfl (lv_at hl 1 rfl) ?_
      refine lv_bipush (v := 12) hx hb dX6_starts_32 (by decide) ?_
      refine lv_icmp_ge (tgt := 42) hx hb dX6_starts_34 (by decide) (fun c_3 => ?_) (fun c_3 => ?_)
      · have h := ite_p c_3 h
        refine lv_iconst (v := 0) hx hb dX6_starts_42 (by decide) ?_
        exact tX6_starts_b43 C h2 hW (lv_sub hl [0, 1] rfl) h
      have h := ite_n c_3 h
      refine lv_bipush (v := (-4)) hx hb dX6_starts_37 (by decide) ?_
      refine lv_goto (tgt := 43) hx hb dX6_starts_39 (by decide) ?_
      exact tX6_starts_b43 C h2 hW (lv_sub hl [0, 1] rfl) h
    have h := ite_n c_2 h
    refine lv_aload_n hx hb dX6_starts_19 rfl (lv_at hl 0 rfl) ?_
    refine wo_get (C := RX6) (T := TX6) (N := 14) hx hb hts iX6_starts_6 hown hW kl_20_50_0 co_o rfl 2 (by decide) (hts _ mX6_starts_l13) (fun _ h9 => h9) rfl dX6_starts_20 ?_
    refine lv_bipush (v := 11) hx hb dX6_starts_23 (by decide) ?_
    refine lv_iload_n hx hb dX6_starts_25 rfl (lv_at hl 1 rfl) ?_
    refine lv_iadd hx hb dX6_starts_26 ?_
    obtain ⟨hi_5, h⟩ := gi_s h
    refine xw_ald hx hb hW kl_20_2_0 rfl hi_5 dX6_starts_27 ?_
    refine lv_goto (tgt := 43) hx hb dX6_starts_28 (by decide) ?_
    exact tX6_starts_b43 C h2 hW (lv_sub hl [0, 1] rfl) h
set_option maxHeartbeats 4000000 in
set_option maxRecDepth 100000 in
theorem kX6_starts (l : Launch) (D : va_G) (g : G3) (ad : Ky → Nat) {μ μ' : Mem} (h : X6_starts μ = some μ') : CtV l yX6_starts wsX6_starts rX6_starts D (tysX g) keysM ad (cX g ad) [.ref (ad (20, 50, 0))] μ μ' := by
  refine ctV_of (cc := cX6_starts) (maxL := 2) (ret := none) keysM_nd (by decide) rfl (Nat.le_of_ble_eq_true rfl) (fun p e s m below meth c A ls C hW hl => ?_)
  have hl : lv_has ls 2 [(0, .ref (ad (20, 50, 0)))] := hl
  obtain ⟨hx, hb, hr, hts, hown, hlocks, hml, hA⟩ := id C
  refine lv_iconst (v := 0) hx hb dX6_starts_0 (by decide) ?_
  refine lv_istore_n (lv' := [(1, .int 0), (0, .ref (ad (20, 50, 0)))]) hx hb dX6_starts_1 rfl hl (by decide) rfl (fun ls hl => ?_)
  exact tX6_starts_b2 C 1000 _ _ _ _ _ hW (lv_sub hl [1, 0] rfl) h
abbrev rX6_isSo : Room := { frames := 7, cells := 0, slots := 0, locals := 163 }
theorem mX6_isSo_l31 : Cond.fieldLink RX6 31 "NearlyBoughtModel" "feign" "I" ∈ wsX6_isSo := by decide +kernel
theorem mX6_isSo_l94 : Cond.fieldLink RX6 94 "NearlyBoughtModel" "noted" "I" ∈ wsX6_isSo := by decide +kernel
theorem mX6_isSo_l28 : Cond.fieldLink RX6 28 "NearlyBoughtModel" "notes" "[I" ∈ wsX6_isSo := by decide +kernel
theorem mX6_isSo_l19 : Cond.fieldLink RX6 19 "NearlyBoughtModel" "s" "[I" ∈ wsX6_isSo := by decide +kernel
theorem iX6_isSo_6 : ∀ w ∈ wsX60, w ∈ wsX6_isSo := fun _ h => List.mem_cons_of_mem _ (List.mem_append_right _ h)
set_option maxHeartbeats 4000000 in
set_option maxRecDepth 100000 in
theorem tX6_isSo_b97 {p : Program} {l : Launch} {e : Env} {s : State} {m : MethodId} {args : Array Value} {below : List Frame} {meth : Method} {c : Code} {A : Nat → Prop} {D : va_G} {g : G3} {ad : Ky → Nat} (C : Cx p s m args meth c cX6_isSo (some .boolean) 5 RX6 wsX6_isSo A) {r0 : Int32} {μ0 : Mem} {v3 v4 s0 : Int32} {k17 : Int32 → Int32 → Mem → Option (Int32 × Mem)} (h17 : ∀ (v2 v3 : Int32) (μ : Mem) (H : Heap) (locs : List Loc) (ls : Array Slot), WX D g keysM ad A s s.heap μ H locs → lv_has ls 5 [(0, .ref (ad (20, 50, 0))), (2, .int v2), (3, .int v3)] → k17 v2 v3 μ = some (r0, μ0) → TgI r0 p l e rX6_isSo s m args below meth c D g keysM ad A μ0 H locs (F0 m 17 ls [])) {k31 : Int32 → Int32 → Mem → Option (Int32 × Mem)} (h31 : ∀ (v2 v4 : Int32) (μ : Mem) (H : Heap) (locs : List Loc) (ls : Array Slot), WX D g keysM ad A s s.heap μ H locs → lv_has ls 5 [(0, .ref (ad (20, 50, 0))), (2, .int v2), (3, .int v3), (4, .int v4)] → k31 v2 v4 μ = some (r0, μ0) → TgI r0 p l e rX6_isSo s m args below meth c D g keysM ad A μ0 H locs (F0 m 31 ls [])) {μ : Mem} {H : Heap} {locs : List Loc} {ls : Array Slot} (hW : WX D g keysM ad A s s.heap μ H locs) (hl : lv_has ls 5 [(0, .ref (ad (20, 50, 0))), (3, .int v3), (4, .int v4)]) (h : X6_isSo_b97 k17 k31 v3 v4 s0 μ = some (r0, μ0)) : TgI r0 p l e rX6_isSo s m args below meth c D g keysM ad A μ0 H locs (F0 m 97 ls [.int s0]) := by
  obtain ⟨hx, hb, hr, hts, hown, hlocks, hml, hA⟩ := id C
  refine lv_istore_n (lv' := [(2, .int s0), (0, .ref (ad (20, 50, 0))), (3, .int v3), (4, .int v4)]) hx hb dX6_isSo_97 rfl hl (by decide) rfl (fun ls hl => ?_)
  refine lv_iinc (v := v4 + 1) (lv' := [(4, .int (v4 + 1)), (2, .int s0), (0, .ref (ad (20, 50, 0))), (3, .int v3)]) hx hb dX6_isSo_98 hl (k := 3) rfl rfl (by decide) rfl (fun ls hl => ?_)
  refine lv_goto (tgt := 31) hx hb dX6_isSo_101 (by decide) ?_
  exact h31 _ _ _ _ _ _ hW (lv_sub hl [2, 1, 3, 0] rfl) h
set_option maxHeartbeats 4000000 in
set_option maxRecDepth 100000 in
theorem tX6_isSo_b96 {p : Program} {l : Launch} {e : Env} {s : State} {m : MethodId} {args : Array Value} {below : List Frame} {meth : Method} {c : Code} {A : Nat → Prop} {D : va_G} {g : G3} {ad : Ky → Nat} (C : Cx p s m args meth c cX6_isSo (some .boolean) 5 RX6 wsX6_isSo A) {r0 : Int32} {μ0 : Mem} {v3 v4 : Int32} {k17 : Int32 → Int32 → Mem → Option (Int32 × Mem)} (h17 : ∀ (v2 v3 : Int32) (μ : Mem) (H : Heap) (locs : List Loc) (ls : Array Slot), WX D g keysM ad A s s.heap μ H locs → lv_has ls 5 [(0, .ref (ad (20, 50, 0))), (2, .int v2), (3, .int v3)] → k17 v2 v3 μ = some (r0, μ0) → TgI r0 p l e rX6_isSo s m args below meth c D g keysM ad A μ0 H locs (F0 m 17 ls [])) {k31 : Int32 → Int32 → Mem → Option (Int32 × Mem)} (h31 : ∀ (v2 v4 : Int32) (μ : Mem) (H : Heap) (locs : List Loc) (ls : Array Slot), WX D g keysM ad A s s.heap μ H locs → lv_has ls 5 [(0, .ref (ad (20, 50, 0))), (2, .int v2), (3, .int v3), (4, .int v4)] → k31 v2 v4 μ = some (r0, μ0) → TgI r0 p l e rX6_isSo s m args below meth c D g keysM ad A μ0 H locs (F0 m 31 ls [])) {μ : Mem} {H : Heap} {locs : List Loc} {ls : Array Slot} (hW : WX D g keysM ad A s s.heap μ H locs) (hl : lv_has ls 5 [(0, .ref (ad (20, 50, 0))), (3, .int v3), (4, .int v4)]) (h : X6_isSo_b96 k17 k31 v3 v4 μ = some (r0, μ0)) : TgI r0 p l e rX6_isSo s m args below meth c D g keysM ad A μ0 H locs (F0 m 96 ls []) := by
  obtain ⟨hx, hb, hr, hts, hown, hlocks, hml, hA⟩ := id C
  refine lv_iconst (v := 0) hx hb dX6_isSo_96 (by decide) ?_
  exact tX6_isSo_b97 C h17 h31 hW (lv_sub hl [0, 1, 2] rfl) h
set_option maxHeartbeats 4000000 in
set_option maxRecDepth 100000 in
theorem tX6_isSo_b92 {p : Program} {l : Launch} {e : Env} {s : State} {m : MethodId} {args : Array Value} {below : List Frame} {meth : Method} {c : Code} {A : Nat → Prop} {D : va_G} {g : G3} {ad : Ky → Nat} (C : Cx p s m args meth c cX6_isSo (some .boolean) 5 RX6 wsX6_isSo A) {r0 : Int32} {μ0 : Mem} {v3 v4 : Int32} {k17 : Int32 → Int32 → Mem → Option (Int32 × Mem)} (h17 : ∀ (v2 v3 : Int32) (μ : Mem) (H : Heap) (locs : List Loc) (ls : Array Slot), WX D g keysM ad A s s.heap μ H locs → lv_has ls 5 [(0, .ref (ad (20, 50, 0))), (2, .int v2), (3, .int v3)] → k17 v2 v3 μ = some (r0, μ0) → TgI r0 p l e rX6_isSo s m args below meth c D g keysM ad A μ0 H locs (F0 m 17 ls [])) {k31 : Int32 → Int32 → Mem → Option (Int32 × Mem)} (h31 : ∀ (v2 v4 : Int32) (μ : Mem) (H : Heap) (locs : List Loc) (ls : Array Slot), WX D g keysM ad A s s.heap μ H locs → lv_has ls 5 [(0, .ref (ad (20, 50, 0))), (2, .int v2), (3, .int v3), (4, .int v4)] → k31 v2 v4 μ = some (r0, μ0) → TgI r0 p l e rX6_isSo s m args below meth c D g keysM ad A μ0 H locs (F0 m 31 ls [])) {μ : Mem} {H : Heap} {locs : List Loc} {ls : Array Slot} (hW : WX D g keysM ad A s s.heap μ H locs) (hl : lv_has ls 5 [(0, .ref (ad (20, 50, 0))), (3, .int v3), (4, .int v4)]) (h : X6_isSo_b92 k17 k31 v3 v4 μ = some (r0, μ0)) : TgI r0 p l e rX6_isSo s m args below meth c D g keysM ad A μ0 H locs (F0 m 92 ls []) := by
  obtain ⟨hx, hb, hr, hts, hown, hlocks, hml, hA⟩ := id C
  refine lv_iconst (v := 1) hx hb dX6_isSo_92 (by decide) ?_
  refine lv_goto (tgt := 97) hx hb dX6_isSo_93 (by decide) ?_
  exact tX6_isSo_b97 C h17 h31 hW (lv_sub hl [0, 1, 2] rfl) h
set_option maxHeartbeats 4000000 in
set_option maxRecDepth 100000 in
theorem tX6_isSo_b31 {p : Program} {l : Launch} {e : Env} {s : State} {m : MethodId} {args : Array Value} {below : List Frame} {meth : Method} {c : Code} {A : Nat → Prop} {D : va_G} {g : G3} {ad : Ky → Nat} (C : Cx p s m args meth c cX6_isSo (some .boolean) 5 RX6 wsX6_isSo A) {r0 : Int32} {μ0 : Mem} {v3 : Int32} {k17 : Int32 → Int32 → Mem → Option (Int32 × Mem)} (h17 : ∀ (v2 v3 : Int32) (μ : Mem) (H : Heap) (locs : List Loc) (ls : Array Slot), WX D g keysM ad A s s.heap μ H locs → lv_has ls 5 [(0, .ref (ad (20, 50, 0))), (2, .int v2), (3, .int v3)] → k17 v2 v3 μ = some (r0, μ0) → TgI r0 p l e rX6_isSo s m args below meth c D g keysM ad A μ0 H locs (F0 m 17 ls [])) (n : Nat) : ∀ (v2 v4 : Int32) (μ : Mem) (H : Heap) (locs : List Loc) (ls : Array Slot), WX D g keysM ad A s s.heap μ H locs → lv_has ls 5 [(0, .ref (ad (20, 50, 0))), (2, .int v2), (3, .int v3), (4, .int v4)] → lo2 (X6_isSo_b31 k17 v3) n v2 v4 μ = some (r0, μ0) → TgI r0 p l e rX6_isSo s m args below meth c D g keysM ad A μ0 H locs (F0 m 31 ls []) := by
  obtain ⟨hx, hb, hr, hts, hown, hlocks, hml, hA⟩ := id C
  induction n with
  | zero =>
    intro v2 v4 μ H locs ls hW hl h
    cases h
  | succ n h31 =>
    intro v2 v4 μ H locs ls hW hl h
    have h : X6_isSo_b31 k17 v3 (lo2 (X6_isSo_b31 k17 v3) n) v2 v4 μ = some (r0, μ0) := h
    refine lv_iload hx hb dX6_isSo_31 (lv_at hl 3 rfl) ?_
    refine lv_aload_n hx hb dX6_isSo_33 rfl (lv_at hl 0 rfl) ?_
    refine wo_get (C := RX6) (T := TX6) (N := 14) hx hb hts iX6_isSo_6 hown hW kl_20_50_0 co_o rfl 10 (by decide) (hts _ mX6_isSo_l94) (fun _ h9 => h9) rfl dX6_isSo_34 ?_
    refine lv_icmp_ge (tgt := 104) hx hb dX6_isSo_37 (by decide) (fun c_12 => ?_) (fun c_12 => ?_)
    · have h := ite_p c_12 h
      refine lv_iinc (v := v3 + 1) (lv' := [(3, .int (v3 + 1)), (0, .ref (ad (20, 50, 0))), (2, .int v2), (4, .int v4)]) hx hb dX6_isSo_104 hl (k := 2) rfl rfl (by decide) rfl (fun ls hl => ?_)
      refine lv_goto (tgt := 17) hx hb dX6_isSo_107 (by decide) ?_
      exact h17 _ _ _ _ _ _ hW (lv_sub hl [1, 2, 0] rfl) h
    have h := ite_n c_12 h
    refine lv_iload_n hx hb dX6_isSo_40 rfl (lv_at hl 1 rfl) ?_
    refine lv_if_eq (tgt := 96) hx hb dX6_isSo_41 (by decide) (fun c_13 => ?_) (fun c_13 => ?_)
    · have h := ite_p c_13 h
      exact tX6_isSo_b96 C h17 h31 hW (lv_sub hl [0, 2, 3] rfl) h
    have h := ite_n c_13 h
    refine lv_aload_n hx hb dX6_isSo_44 rfl (lv_at hl 0 rfl) ?_
    refine wo_get (C := RX6) (T := TX6) (N := 14) hx hb hts iX6_isSo_6 hown hW kl_20_50_0 co_o rfl 9 (by decide) (hts _ mX6_isSo_l28) (fun _ h9 => h9) rfl dX6_isSo_45 ?_
    refine lv_iload hx hb dX6_isSo_48 (lv_at hl 3 rfl) ?_
    obtain ⟨hi_14, h⟩ := gi_s h
    refine xw_ald hx hb hW kl_20_9_0 rfl hi_14 dX6_isSo_50 ?_
    refine lv_bipush (v := 100) hx hb dX6_isSo_51 (by decide) ?_
    refine lv_idiv hx hb dX6_isSo_53 (by decide) ?_
    refine lv_iload_n hx hb dX6_isSo_54 rfl (lv_at hl 2 rfl) ?_
    refine lv_icmp_ne (tgt := 92) hx hb dX6_isSo_55 (by decide) (fun c_15 => ?_) (fun c_15 => ?_)
    · have h := ite_n c_15 h
      exact tX6_isSo_b92 C h17 h31 hW (lv_sub hl [0, 2, 3] rfl) h
    have h := ite_p c_15 h
    refine lv_aload_n hx hb dX6_isSo_58 rfl (lv_at hl 0 rfl) ?_
    refine wo_get (C := RX6) (T := TX6) (N := 14) hx hb hts iX6_isSo_6 hown hW kl_20_50_0 co_o rfl 4 (by decide) (hts _ mX6_isSo_l19) (fun _ h9 => h9) rfl dX6_isSo_59 ?_
    refine lv_bipush (v := 6) hx hb dX6_isSo_62 (by decide) ?_
    refine lv_aload_n hx hb dX6_isSo_64 rfl (lv_at hl 0 rfl) ?_
    refine wo_get (C := RX6) (T := TX6) (N := 14) hx hb hts iX6_isSo_6 hown hW kl_20_50_0 co_o rfl 9 (by decide) (hts _ mX6_isSo_l28) (fun _ h9 => h9) rfl dX6_isSo_65 ?_
    refine lv_iload hx hb dX6_isSo_68 (lv_at hl 3 rfl) ?_
    obtain ⟨hi_16, h⟩ := gi_s h
    refine xw_ald hx hb hW kl_20_9_0 rfl hi_16 dX6_isSo_70 ?_
    refine lv_bipush (v := 10) hx hb dX6_isSo_71 (by decide) ?_
    refine lv_idiv hx hb dX6_isSo_73 (by decide) ?_
    refine lv_bipush (v := 10) hx hb dX6_isSo_74 (by decide) ?_
    refine lv_irem hx hb dX6_isSo_76 (by decide) ?_
    refine lv_iadd hx hb dX6_isSo_77 ?_
    obtain ⟨hi_17, h⟩ := gi_s h
    refine xw_ald hx hb hW kl_20_4_0 rfl hi_17 dX6_isSo_78 ?_
    refine lv_aload_n hx hb dX6_isSo_79 rfl (lv_at hl 0 rfl) ?_
    refine wo_get (C := RX6) (T := TX6) (N := 14) hx hb hts iX6_isSo_6 hown hW kl_20_50_0 co_o rfl 9 (by decide) (hts _ mX6_isSo_l28) (fun _ h9 => h9) rfl dX6_isSo_80 ?_
    refine lv_iload hx hb dX6_isSo_83 (lv_at hl 3 rfl) ?_
    obtain ⟨hi_18, h⟩ := gi_s h
    refine xw_ald hx hb hW kl_20_9_0 rfl hi_18 dX6_isSo_85 ?_
    refine lv_bipush (v := 10) hx hb dX6_isSo_86 (by decide) ?_
    refine lv_irem hx hb dX6_isSo_88 (by decide) ?_
    refine lv_icmp_ne (tgt := 96) hx hb dX6_isSo_89 (by decide) (fun c_19 => ?_) (fun c_19 => ?_)
    · have h := ite_n c_19 h
      exact tX6_isSo_b96 C h17 h31 hW (lv_sub hl [0, 2, 3] rfl) h
    have h := ite_p c_19 h
    exact tX6_isSo_b92 C h17 h31 hW (lv_sub hl [0, 2, 3] rfl) h
set_option maxHeartbeats 4000000 in
set_option maxRecDepth 100000 in
theorem tX6_isSo_b17 {p : Program} {l : Launch} {e : Env} {s : State} {m : MethodId} {args : Array Value} {below : List Frame} {meth : Method} {c : Code} {A : Nat → Prop} {D : va_G} {g : G3} {ad : Ky → Nat} (C : Cx p s m args meth c cX6_isSo (some .boolean) 5 RX6 wsX6_isSo A) {r0 : Int32} {μ0 : Mem} (n : Nat) : ∀ (v2 v3 : Int32) (μ : Mem) (H : Heap) (locs : List Loc) (ls : Array Slot), WX D g keysM ad A s s.heap μ H locs → lv_has ls 5 [(0, .ref (ad (20, 50, 0))), (2, .int v2), (3, .int v3)] → lo2 (X6_isSo_b17) n v2 v3 μ = some (r0, μ0) → TgI r0 p l e rX6_isSo s m args below meth c D g keysM ad A μ0 H locs (F0 m 17 ls []) := by
  obtain ⟨hx, hb, hr, hts, hown, hlocks, hml, hA⟩ := id C
  induction n with
  | zero =>
    intro v2 v3 μ H locs ls hW hl h
    cases h
  | succ n h17 =>
    intro v2 v3 μ H locs ls hW hl h
    have h : X6_isSo_b17 (lo2 (X6_isSo_b17) n) v2 v3 μ = some (r0, μ0) := h
    refine lv_iload_n hx hb dX6_isSo_17 rfl (lv_at hl 2 rfl) ?_
    refine lv_bipush (v := 9) hx hb dX6_isSo_18 (by decide) ?_
    refine lv_icmp_gt (tgt := 110) hx hb dX6_isSo_20 (by decide) (fun c_5 => ?_) (fun c_5 => ?_)
    · have h := ite_p c_5 h
      refine lv_aload_n hx hb dX6_isSo_110 rfl (lv_at hl 0 rfl) ?_
      refine lv_bipush (v := (-4)) hx hb dX6_isSo_111 (by decide) ?_
      refine xw_put (C := RX6) (T := TX6) (N := 14) hx hb hts iX6_isSo_6 tyX6 tyX6_ok nmX6 hown hW kl_20_50_0 co_o rfl 12 (by decide) (hts _ mX6_isSo_l31) (fun _ h9 => h9) rfl (by decide +kernel) (Nat.le_of_ble_eq_true rfl) keysM_ok rfl (po_12 _) dX6_isSo_113 (fun H locs hW => ?_)
      refine lv_aload_n hx hb dX6_isSo_116 rfl (lv_at hl 0 rfl) ?_
      obtain ⟨μ_7, hh_6, h⟩ := bdv_s h
      refine wo_Vv (rest := []) C hW (kX6_lets l D g ad  hh_6) (cwV 0 hts gX6_isSo_X6_lets rfl rfl rfl (by decide +kernel) ⟨Nat.le_of_ble_eq_true rfl, Nat.le_of_ble_eq_true rfl⟩) kl_20_50_0 co_o rfl rfl hl.1 rfl (Nat.le_of_ble_eq_true rfl) dX6_isSo_117 ⟨Nat.zero_le _, Nat.zero_le _⟩ (fun H locs hW => ?_)
      refine lv_iload_n hx hb dX6_isSo_120 rfl (lv_at hl 1 rfl) ?_
      obtain ⟨hb_8, h⟩ := gb_s h
      exact xw_zret C rfl hb_8 hW dX6_isSo_121 h
    have h := ite_n c_5 h
    refine lv_aload_n hx hb dX6_isSo_23 rfl (lv_at hl 0 rfl) ?_
    obtain ⟨r_11, μ_10, hh_9, h⟩ := bd_s h
    refine wo_Vi (rest := []) C hW (kX6_holds l D g ad  hh_9) (cwV 0 hts gX6_isSo_X6_holds rfl rfl rfl (by decide +kernel) ⟨Nat.le_of_ble_eq_true rfl, Nat.le_of_ble_eq_true rfl⟩) kl_20_50_0 co_o rfl rfl hl.1 rfl (Nat.le_of_ble_eq_true rfl) dX6_isSo_24 ⟨Nat.zero_le _, Nat.zero_le _⟩ (fun H locs hW => ?_)
    refine lv_pop hx hb dX6_isSo_27 rfl ?_
    refine lv_iconst (v := 0) hx hb dX6_isSo_28 (by decide) ?_
    refine lv_istore (lv' := [(4, .int 0), (0, .ref (ad (20, 50, 0))), (2, .int v2), (3, .int v3)]) hx hb dX6_isSo_29 hl (by decide) rfl (fun ls hl => ?_)
    exact tX6_isSo_b31 C h17 1000 _ _ _ _ _ _ hW (lv_sub hl [1, 2, 3, 0] rfl) h
set_option maxHeartbeats 4000000 in
set_option maxRecDepth 100000 in
theorem kX6_isSo (l : Launch) (D : va_G) (g : G3) (ad : Ky → Nat) {v1 : Int32} {μ μ' : Mem} {r : Int32} (h : X6_isSo v1 μ = some (r, μ')) : CtI l yX6_isSo wsX6_isSo rX6_isSo D (tysX g) keysM ad (cX g ad) [.ref (ad (20, 50, 0)), .int v1] μ r μ' := by
  refine ctI_of (cc := cX6_isSo) (maxL := 5) (ret := (some .boolean)) keysM_nd (by decide) rfl (Nat.le_of_ble_eq_true rfl) (fun p e s m below meth c A ls C hW hl => ?_)
  have hl : lv_has ls 5 [(0, .ref (ad (20, 50, 0))), (1, .int v1)] := hl
  obtain ⟨hx, hb, hr, hts, hown, hlocks, hml, hA⟩ := id C
  refine lv_aload_n hx hb dX6_isSo_0 rfl (lv_at hl 0 rfl) ?_
  obtain ⟨μ_2, hh_1, h⟩ := bdv_s h
  refine wo_Vv (rest := []) C hW (kX6_remembers l D g ad  hh_1) (cwV 0 hts gX6_isSo_X6_remembers rfl rfl rfl (by decide +kernel) ⟨Nat.le_of_ble_eq_true rfl, Nat.le_of_ble_eq_true rfl⟩) kl_20_50_0 co_o rfl rfl hl.1 rfl (Nat.le_of_ble_eq_true rfl) dX6_isSo_1 ⟨Nat.zero_le _, Nat.zero_le _⟩ (fun H locs hW => ?_)
  refine lv_aload_n hx hb dX6_isSo_4 rfl (lv_at hl 0 rfl) ?_
  refine lv_iload_n hx hb dX6_isSo_5 rfl (lv_at hl 1 rfl) ?_
  refine xw_put (C := RX6) (T := TX6) (N := 14) hx hb hts iX6_isSo_6 tyX6 tyX6_ok nmX6 hown hW kl_20_50_0 co_o rfl 12 (by decide) (hts _ mX6_isSo_l31) (fun _ h9 => h9) rfl (by decide +kernel) (Nat.le_of_ble_eq_true rfl) keysM_ok rfl (po_12 _) dX6_isSo_6 (fun H locs hW => ?_)
  refine lv_aload_n hx hb dX6_isSo_9 rfl (lv_at hl 0 rfl) ?_
  obtain ⟨μ_4, hh_3, h⟩ := bdv_s h
  refine wo_Vv (rest := []) C hW (kX6_starts l D g ad  hh_3) (cwV 0 hts gX6_isSo_X6_starts rfl rfl rfl (by decide +kernel) ⟨Nat.le_of_ble_eq_true rfl, Nat.le_of_ble_eq_true rfl⟩) kl_20_50_0 co_o rfl rfl hl.1 rfl (Nat.le_of_ble_eq_true rfl) dX6_isSo_10 ⟨Nat.zero_le _, Nat.zero_le _⟩ (fun H locs hW => ?_)
  refine lv_iconst (v := 1) hx hb dX6_isSo_13 (by decide) ?_
  refine lv_istore_n (lv' := [(2, .int 1), (0, .ref (ad (20, 50, 0))), (1, .int v1)]) hx hb dX6_isSo_14 rfl hl (by decide) rfl (fun ls hl => ?_)
  refine lv_iconst (v := 1) hx hb dX6_isSo_15 (by decide) ?_
  refine lv_istore_n (lv' := [(3, .int 1), (2, .int 1), (0, .ref (ad (20, 50, 0))), (1, .int v1)]) hx hb dX6_isSo_16 rfl hl (by decide) rfl (fun ls hl => ?_)
  exact tX6_isSo_b17 C 1000 _ _ _ _ _ _ hW (lv_sub hl [2, 1, 0] rfl) h
abbrev rX6_feigned : Room := { frames := 8, cells := 0, slots := 0, locals := 187 }
theorem mX6_feigned_l13 : Cond.fieldLink RX6 13 "NearlyBoughtModel" "told" "[I" ∈ wsX6_feigned := by decide +kernel
theorem iX6_feigned_6 : ∀ w ∈ wsX60, w ∈ wsX6_feigned := fun _ h => List.mem_cons_of_mem _ (List.mem_append_right _ h)
set_option maxHeartbeats 4000000 in
set_option maxRecDepth 100000 in
theorem tX6_feigned_b41 {p : Program} {l : Launch} {e : Env} {s : State} {m : MethodId} {args : Array Value} {below : List Frame} {meth : Method} {c : Code} {A : Nat → Prop} {D : va_G} {g : G3} {ad : Ky → Nat} (C : Cx p s m args meth c cX6_feigned (some .int) 4 RX6 wsX6_feigned A) {r0 : Int32} {μ0 : Mem} {v1 v3 s0 s1 : Int32} {k15 : Int32 → Int32 → Mem → Option (Int32 × Mem)} (h15 : ∀ (v2 v3 : Int32) (μ : Mem) (H : Heap) (locs : List Loc) (ls : Array Slot), WX D g keysM ad A s s.heap μ H locs → lv_has ls 4 [(0, .ref (ad (20, 50, 0))), (1, .int v1), (2, .int v2), (3, .int v3)] → k15 v2 v3 μ = some (r0, μ0) → TgI r0 p l e rX6_feigned s m args below meth c D g keysM ad A μ0 H locs (F0 m 15 ls [])) {μ : Mem} {H : Heap} {locs : List Loc} {ls : Array Slot} (hW : WX D g keysM ad A s s.heap μ H locs) (hl : lv_has ls 4 [(0, .ref (ad (20, 50, 0))), (1, .int v1), (3, .int v3)]) (h : X6_feigned_b41 k15 v1 v3 s0 s1 μ = some (r0, μ0)) : TgI r0 p l e rX6_feigned s m args below meth c D g keysM ad A μ0 H locs (F0 m 41 ls [.int s1, .int s0]) := by
  obtain ⟨hx, hb, hr, hts, hown, hlocks, hml, hA⟩ := id C
  refine lv_ior hx hb dX6_feigned_41 ?_
  refine lv_istore_n (lv' := [(2, .int (s0 ||| s1)), (0, .ref (ad (20, 50, 0))), (1, .int v1), (3, .int v3)]) hx hb dX6_feigned_42 rfl hl (by decide) rfl (fun ls hl => ?_)
  refine lv_iinc (v := v3 + 1) (lv' := [(3, .int (v3 + 1)), (2, .int (s0 ||| s1)), (0, .ref (ad (20, 50, 0))), (1, .int v1)]) hx hb dX6_feigned_43 hl (k := 3) rfl rfl (by decide) rfl (fun ls hl => ?_)
  refine lv_goto (tgt := 15) hx hb dX6_feigned_46 (by decide) ?_
  exact h15 _ _ _ _ _ _ hW (lv_sub hl [2, 3, 1, 0] rfl) h
set_option maxHeartbeats 4000000 in
set_option maxRecDepth 100000 in
theorem tX6_feigned_b15 {p : Program} {l : Launch} {e : Env} {s : State} {m : MethodId} {args : Array Value} {below : List Frame} {meth : Method} {c : Code} {A : Nat → Prop} {D : va_G} {g : G3} {ad : Ky → Nat} (C : Cx p s m args meth c cX6_feigned (some .int) 4 RX6 wsX6_feigned A) {r0 : Int32} {μ0 : Mem} {v1 : Int32} (n : Nat) : ∀ (v2 v3 : Int32) (μ : Mem) (H : Heap) (locs : List Loc) (ls : Array Slot), WX D g keysM ad A s s.heap μ H locs → lv_has ls 4 [(0, .ref (ad (20, 50, 0))), (1, .int v1), (2, .int v2), (3, .int v3)] → lo2 (X6_feigned_b15 v1) n v2 v3 μ = some (r0, μ0) → TgI r0 p l e rX6_feigned s m args below meth c D g keysM ad A μ0 H locs (F0 m 15 ls []) := by
  obtain ⟨hx, hb, hr, hts, hown, hlocks, hml, hA⟩ := id C
  induction n with
  | zero =>
    intro v2 v3 μ H locs ls hW hl h
    cases h
  | succ n h15 =>
    intro v2 v3 μ H locs ls hW hl h
    have h : X6_feigned_b15 v1 (lo2 (X6_feigned_b15 v1) n) v2 v3 μ = some (r0, μ0) := h
    refine lv_iload_n hx hb dX6_feigned_15 rfl (lv_at hl 3 rfl) ?_
    refine lv_aload_n hx hb dX6_feigned_16 rfl (lv_at hl 0 rfl) ?_
    refine wo_get (C := RX6) (T := TX6) (N := 14) hx hb hts iX6_feigned_6 hown hW kl_20_50_0 co_o rfl 2 (by decide) (hts _ mX6_feigned_l13) (fun _ h9 => h9) rfl dX6_feigned_17 ?_
    refine lv_iconst (v := 0) hx hb dX6_feigned_20 (by decide) ?_
    obtain ⟨hi_5, h⟩ := gi_s h
    refine xw_ald hx hb hW kl_20_2_0 rfl hi_5 dX6_feigned_21 ?_
    refine lv_icmp_ge (tgt := 49) hx hb dX6_feigned_22 (by decide) (fun c_6 => ?_) (fun c_6 => ?_)
    · have h := ite_p c_6 h
      refine lv_iload_n hx hb dX6_feigned_49 rfl (lv_at hl 1 rfl) ?_
      refine lv_if_ne (tgt := 57) hx hb dX6_feigned_50 (by decide) (fun c_7 => ?_) (fun c_7 => ?_)
      · have h := ite_n c_7 h
        refine lv_aload_n hx hb dX6_feigned_57 rfl (lv_at hl 0 rfl) ?_
        refine lv_bipush (v := (-4)) hx hb dX6_feigned_58 (by decide) ?_
        obtain ⟨r_10, μ_9, hh_8, h⟩ := bd_s h
        refine wo_Vi (rest := []) C hW (kX6_isSo l D g ad  hh_8) (cwV 1 hts gX6_feigned_X6_isSo rfl rfl rfl (by decide +kernel) ⟨Nat.le_of_ble_eq_true rfl, Nat.le_of_ble_eq_true rfl⟩) kl_20_50_0 co_o rfl rfl hl.1 rfl (Nat.le_of_ble_eq_true rfl) dX6_feigned_60 ⟨Nat.zero_le _, Nat.zero_le _⟩ (fun H locs hW => ?_)
        refine lv_if_eq (tgt := 70) hx hb dX6_feigned_63 (by decide) (fun c_11 => ?_) (fun c_11 => ?_)
        · have h := ite_p c_11 h
          refine lv_iconst (v := 0) hx hb dX6_feigned_70 (by decide) ?_
          exact xw_iret C rfl hW dX6_feigned_71 h
        have h := ite_n c_11 h
        refine lv_iconst (v := 1) hx hb dX6_feigned_66 (by decide) ?_
        refine lv_goto (tgt := 71) hx hb dX6_feigned_67 (by decide) ?_
        exact xw_iret C rfl hW dX6_feigned_71 h
      have h := ite_p c_7 h
      refine lv_iload_n hx hb dX6_feigned_53 rfl (lv_at hl 2 rfl) ?_
      refine lv_goto (tgt := 71) hx hb dX6_feigned_54 (by decide) ?_
      exact xw_iret C rfl hW dX6_feigned_71 h
    have h := ite_n c_6 h
    refine lv_iload_n hx hb dX6_feigned_25 rfl (lv_at hl 2 rfl) ?_
    refine lv_aload_n hx hb dX6_feigned_26 rfl (lv_at hl 0 rfl) ?_
    refine lv_iload_n hx hb dX6_feigned_27 rfl (lv_at hl 3 rfl) ?_
    obtain ⟨r_14, μ_13, hh_12, h⟩ := bd_s h
    refine wo_Vi (rest := [.int v2]) C hW (kX6_isSo l D g ad  hh_12) (cwV 1 hts gX6_feigned_X6_isSo rfl rfl rfl (by decide +kernel) ⟨Nat.le_of_ble_eq_true rfl, Nat.le_of_ble_eq_true rfl⟩) kl_20_50_0 co_o rfl rfl hl.1 rfl (Nat.le_of_ble_eq_true rfl) dX6_feigned_28 ⟨Nat.zero_le _, Nat.zero_le _⟩ (fun H locs hW => ?_)
    refine lv_if_eq (tgt := 40) hx hb dX6_feigned_31 (by decide) (fun c_15 => ?_) (fun c_15 => ?_)
    · have h := ite_p c_15 h
      refine lv_iconst (v := 0) hx hb dX6_feigned_40 (by decide) ?_
      exact tX6_feigned_b41 C h15 hW (lv_sub hl [0, 1, 3] rfl) h
    have h := ite_n c_15 h
    refine lv_iconst (v := 1) hx hb dX6_feigned_34 (by decide) ?_
    refine lv_iload_n hx hb dX6_feigned_35 rfl (lv_at hl 3 rfl) ?_
    refine lv_ishl hx hb dX6_feigned_36 ?_
    refine lv_goto (tgt := 41) hx hb dX6_feigned_37 (by decide) ?_
    exact tX6_feigned_b41 C h15 hW (lv_sub hl [0, 1, 3] rfl) h
set_option maxHeartbeats 4000000 in
set_option maxRecDepth 100000 in
theorem kX6_feigned (l : Launch) (D : va_G) (g : G3) (ad : Ky → Nat) {v1 : Int32} {μ μ' : Mem} {r : Int32} (h : X6_feigned v1 μ = some (r, μ')) : CtI l yX6_feigned wsX6_feigned rX6_feigned D (tysX g) keysM ad (cX g ad) [.ref (ad (20, 50, 0)), .int v1] μ r μ' := by
  refine ctI_of (cc := cX6_feigned) (maxL := 4) (ret := (some .int)) keysM_nd (by decide) rfl (Nat.le_of_ble_eq_true rfl) (fun p e s m below meth c A ls C hW hl => ?_)
  have hl : lv_has ls 4 [(0, .ref (ad (20, 50, 0))), (1, .int v1)] := hl
  obtain ⟨hx, hb, hr, hts, hown, hlocks, hml, hA⟩ := id C
  refine lv_iload_n hx hb dX6_feigned_0 rfl (lv_at hl 1 rfl) ?_
  refine lv_iconst (v := 0) hx hb dX6_feigned_1 (by decide) ?_
  refine lv_iconst (v := 1) hx hb dX6_feigned_2 (by decide) ?_
  obtain ⟨r_3, μ_2, hh_1, h⟩ := bd_s h
  refine wo_Si (rest := []) C hW (kX6_in l D g ad  hh_1) (cwS 3 hts gX6_feigned_X6_in rfl rfl rfl (by decide +kernel) ⟨Nat.le_of_ble_eq_true rfl, Nat.le_of_ble_eq_true rfl⟩) rfl hl.1 rfl (Nat.le_of_ble_eq_true rfl) dX6_feigned_3 ⟨Nat.zero_le _, Nat.zero_le _⟩ (fun H locs hW => ?_)
  refine lv_if_ne (tgt := 11) hx hb dX6_feigned_6 (by decide) (fun c_4 => ?_) (fun c_4 => ?_)
  · have h := ite_n c_4 h
    refine lv_iconst (v := 0) hx hb dX6_feigned_11 (by decide) ?_
    refine lv_istore_n (lv' := [(2, .int 0), (0, .ref (ad (20, 50, 0))), (1, .int v1)]) hx hb dX6_feigned_12 rfl hl (by decide) rfl (fun ls hl => ?_)
    refine lv_iconst (v := 0) hx hb dX6_feigned_13 (by decide) ?_
    refine lv_istore_n (lv' := [(3, .int 0), (2, .int 0), (0, .ref (ad (20, 50, 0))), (1, .int v1)]) hx hb dX6_feigned_14 rfl hl (by decide) rfl (fun ls hl => ?_)
    exact tX6_feigned_b15 C 1000 _ _ _ _ _ _ hW (lv_sub hl [2, 3, 1, 0] rfl) h
  have h := ite_p c_4 h
  refine lv_iconst (v := (-1)) hx hb dX6_feigned_9 (by decide) ?_
  exact xw_iret C rfl hW dX6_feigned_10 h
abbrev rX6_forget : Room := { frames := 0, cells := 0, slots := 0, locals := 0 }
theorem mX6_forget_l94 : Cond.fieldLink RX6 94 "NearlyBoughtModel" "noted" "I" ∈ wsX6_forget := by decide +kernel
theorem iX6_forget_6 : ∀ w ∈ wsX60, w ∈ wsX6_forget := fun _ h => List.mem_cons_of_mem _ (List.mem_append_right _ h)
set_option maxHeartbeats 4000000 in
set_option maxRecDepth 100000 in
theorem kX6_forget (l : Launch) (D : va_G) (g : G3) (ad : Ky → Nat) {μ μ' : Mem} {r : Int32} (h : X6_forget μ = some (r, μ')) : CtI l yX6_forget wsX6_forget rX6_forget D (tysX g) keysM ad (cX g ad) [.ref (ad (20, 50, 0))] μ r μ' := by
  refine ctI_of (cc := cX6_forget) (maxL := 2) (ret := (some .int)) keysM_nd (by decide) rfl (Nat.le_of_ble_eq_true rfl) (fun p e s m below meth c A ls C hW hl => ?_)
  have hl : lv_has ls 2 [(0, .ref (ad (20, 50, 0)))] := hl
  obtain ⟨hx, hb, hr, hts, hown, hlocks, hml, hA⟩ := id C
  refine lv_aload_n hx hb dX6_forget_0 rfl (lv_at hl 0 rfl) ?_
  refine wo_get (C := RX6) (T := TX6) (N := 14) hx hb hts iX6_forget_6 hown hW kl_20_50_0 co_o rfl 10 (by decide) (hts _ mX6_forget_l94) (fun _ h9 => h9) rfl dX6_forget_1 ?_
  refine lv_istore_n (lv' := [(1, .int (μ 20 10 0 0)), (0, .ref (ad (20, 50, 0)))]) hx hb dX6_forget_4 rfl hl (by decide) rfl (fun ls hl => ?_)
  refine lv_aload_n hx hb dX6_forget_5 rfl (lv_at hl 1 rfl) ?_
  refine lv_iconst (v := 0) hx hb dX6_forget_6 (by decide) ?_
  refine xw_put (C := RX6) (T := TX6) (N := 14) hx hb hts iX6_forget_6 tyX6 tyX6_ok nmX6 hown hW kl_20_50_0 co_o rfl 10 (by decide) (hts _ mX6_forget_l94) (fun _ h9 => h9) rfl (by decide +kernel) (Nat.le_of_ble_eq_true rfl) keysM_ok rfl (po_10 _) dX6_forget_7 (fun H locs hW => ?_)
  refine lv_iload_n hx hb dX6_forget_10 rfl (lv_at hl 0 rfl) ?_
  exact xw_iret C rfl hW dX6_forget_11 h
abbrev rX6_give : Room := { frames := 2, cells := 0, slots := 0, locals := 43 }
theorem mX6_give_l19 : Cond.fieldLink RX6 19 "NearlyBoughtModel" "s" "[I" ∈ wsX6_give := by decide +kernel
theorem iX6_give_6 : ∀ w ∈ wsX60, w ∈ wsX6_give := fun _ h => List.mem_cons_of_mem _ (List.mem_append_right _ h)
set_option maxHeartbeats 4000000 in
set_option maxRecDepth 100000 in
theorem kX6_give (l : Launch) (D : va_G) (g : G3) (ad : Ky → Nat) {v1 v2 v3 : Int32} {μ μ' : Mem} {r : Int32} (h : X6_give v1 v2 v3 μ = some (r, μ')) : CtI l yX6_give wsX6_give rX6_give D (tysX g) keysM ad (cX g ad) [.ref (ad (20, 50, 0)), .int v1, .int v2, .int v3] μ r μ' := by
  refine ctI_of (cc := cX6_give) (maxL := 4) (ret := (some .int)) keysM_nd (by decide) rfl (Nat.le_of_ble_eq_true rfl) (fun p e s m below meth c A ls C hW hl => ?_)
  have hl : lv_has ls 4 [(0, .ref (ad (20, 50, 0))), (1, .int v1), (2, .int v2), (3, .int v3)] := hl
  obtain ⟨hx, hb, hr, hts, hown, hlocks, hml, hA⟩ := id C
  refine lv_aload_n hx hb dX6_give_0 rfl (lv_at hl 0 rfl) ?_
  refine lv_iload_n hx hb dX6_give_1 rfl (lv_at hl 1 rfl) ?_
  obtain ⟨r_3, μ_2, hh_1, h⟩ := bd_s h
  refine wo_Vi (rest := []) C hW (kX6_isPerson l D g ad  hh_1) (cwV 1 hts gX6_give_X6_isPerson rfl rfl rfl (by decide +kernel) ⟨Nat.le_of_ble_eq_true rfl, Nat.le_of_ble_eq_true rfl⟩) kl_20_50_0 co_o rfl rfl hl.1 rfl (Nat.le_of_ble_eq_true rfl) dX6_give_2 ⟨Nat.zero_le _, Nat.zero_le _⟩ (fun H locs hW => ?_)
  refine lv_if_eq (tgt := 31) hx hb dX6_give_5 (by decide) (fun c_4 => ?_) (fun c_4 => ?_)
  · have h := ite_p c_4 h
    refine lv_iconst (v := (-1)) hx hb dX6_give_31 (by decide) ?_
    exact xw_iret C rfl hW dX6_give_32 h
  have h := ite_n c_4 h
  refine lv_aload_n hx hb dX6_give_8 rfl (lv_at hl 0 rfl) ?_
  refine lv_iload_n hx hb dX6_give_9 rfl (lv_at hl 2 rfl) ?_
  obtain ⟨r_7, μ_6, hh_5, h⟩ := bd_s h
  refine wo_Vi (rest := []) C hW (kX6_isPerson l D g ad  hh_5) (cwV 1 hts gX6_give_X6_isPerson rfl rfl rfl (by decide +kernel) ⟨Nat.le_of_ble_eq_true rfl, Nat.le_of_ble_eq_true rfl⟩) kl_20_50_0 co_o rfl rfl hl.1 rfl (Nat.le_of_ble_eq_true rfl) dX6_give_10 ⟨Nat.zero_le _, Nat.zero_le _⟩ (fun H locs hW => ?_)
  refine lv_if_eq (tgt := 31) hx hb dX6_give_13 (by decide) (fun c_8 => ?_) (fun c_8 => ?_)
  · have h := ite_p c_8 h
    refine lv_iconst (v := (-1)) hx hb dX6_give_31 (by decide) ?_
    exact xw_iret C rfl hW dX6_give_32 h
  have h := ite_n c_8 h
  refine lv_iload_n hx hb dX6_give_16 rfl (lv_at hl 1 rfl) ?_
  refine lv_iload_n hx hb dX6_give_17 rfl (lv_at hl 2 rfl) ?_
  refine lv_icmp_eq (tgt := 31) hx hb dX6_give_18 (by decide) (fun c_9 => ?_) (fun c_9 => ?_)
  · have h := ite_p c_9 h
    refine lv_iconst (v := (-1)) hx hb dX6_give_31 (by decide) ?_
    exact xw_iret C rfl hW dX6_give_32 h
  have h := ite_n c_9 h
  refine lv_iload_n hx hb dX6_give_21 rfl (lv_at hl 3 rfl) ?_
  refine lv_iconst (v := 1) hx hb dX6_give_22 (by decide) ?_
  refine lv_bipush (v := 99) hx hb dX6_give_23 (by decide) ?_
  obtain ⟨r_12, μ_11, hh_10, h⟩ := bd_s h
  refine wo_Si (rest := []) C hW (kX6_in l D g ad  hh_10) (cwS 3 hts gX6_give_X6_in rfl rfl rfl (by decide +kernel) ⟨Nat.le_of_ble_eq_true rfl, Nat.le_of_ble_eq_true rfl⟩) rfl hl.1 rfl (Nat.le_of_ble_eq_true rfl) dX6_give_25 ⟨Nat.zero_le _, Nat.zero_le _⟩ (fun H locs hW => ?_)
  refine lv_if_ne (tgt := 33) hx hb dX6_give_28 (by decide) (fun c_13 => ?_) (fun c_13 => ?_)
  · have h := ite_n c_13 h
    refine lv_aload_n hx hb dX6_give_33 rfl (lv_at hl 0 rfl) ?_
    refine wo_get (C := RX6) (T := TX6) (N := 14) hx hb hts iX6_give_6 hown hW kl_20_50_0 co_o rfl 4 (by decide) (hts _ mX6_give_l19) (fun _ h9 => h9) rfl dX6_give_34 ?_
    refine lv_iload_n hx hb dX6_give_37 rfl (lv_at hl 1 rfl) ?_
    obtain ⟨hi_14, h⟩ := gi_s h
    refine xw_ald hx hb hW kl_20_4_0 rfl hi_14 dX6_give_38 ?_
    refine lv_iload_n hx hb dX6_give_39 rfl (lv_at hl 3 rfl) ?_
    refine lv_icmp_ge (tgt := 46) hx hb dX6_give_40 (by decide) (fun c_15 => ?_) (fun c_15 => ?_)
    · have h := ite_p c_15 h
      refine lv_aload_n hx hb dX6_give_46 rfl (lv_at hl 0 rfl) ?_
      refine wo_get (C := RX6) (T := TX6) (N := 14) hx hb hts iX6_give_6 hown hW kl_20_50_0 co_o rfl 4 (by decide) (hts _ mX6_give_l19) (fun _ h9 => h9) rfl dX6_give_47 ?_
      refine lv_iload_n hx hb dX6_give_50 rfl (lv_at hl 2 rfl) ?_
      obtain ⟨hi_16, h⟩ := gi_s h
      refine xw_ald hx hb hW kl_20_4_0 rfl hi_16 dX6_give_51 ?_
      refine lv_iload_n hx hb dX6_give_52 rfl (lv_at hl 3 rfl) ?_
      refine lv_iadd hx hb dX6_give_53 ?_
      refine lv_sipush (v := 999) hx hb dX6_give_54 (by decide) ?_
      refine lv_icmp_le (tgt := 63) hx hb dX6_give_57 (by decide) (fun c_17 => ?_) (fun c_17 => ?_)
      · have h := ite_p c_17 h
        refine lv_aload_n hx hb dX6_give_63 rfl (lv_at hl 0 rfl) ?_
        obtain ⟨μ_19, hh_18, h⟩ := bdv_s h
        refine wo_Vv (rest := []) C hW (kX6_keeps l D g ad  hh_18) (cwV 0 hts gX6_give_X6_keeps rfl rfl rfl (by decide +kernel) ⟨Nat.le_of_ble_eq_true rfl, Nat.le_of_ble_eq_true rfl⟩) kl_20_50_0 co_o rfl rfl hl.1 rfl (Nat.le_of_ble_eq_true rfl) dX6_give_64 ⟨Nat.zero_le _, Nat.zero_le _⟩ (fun H locs hW => ?_)
        refine lv_aload_n hx hb dX6_give_67 rfl (lv_at hl 0 rfl) ?_
        refine wo_get (C := RX6) (T := TX6) (N := 14) hx hb hts iX6_give_6 hown hW kl_20_50_0 co_o rfl 4 (by decide) (hts _ mX6_give_l19) (fun _ h9 => h9) rfl dX6_give_68 ?_
        refine lv_iload_n hx hb dX6_give_71 rfl (lv_at hl 1 rfl) ?_
        refine lv_dup2_11 hx hb dX6_give_72 rfl rfl ?_
        obtain ⟨hi_20, h⟩ := gi_s h
        refine xw_ald hx hb hW kl_20_4_0 rfl hi_20 dX6_give_73 ?_
        refine lv_iload_n hx hb dX6_give_74 rfl (lv_at hl 3 rfl) ?_
        refine lv_isub hx hb dX6_give_75 ?_
        obtain ⟨hi_21, h⟩ := gi_s h
        refine xw_ast hx hb hW kl_20_4_0 (fun _ => rfl) rfl hi_21 dX6_give_76 (fun H locs hW => ?_)
        refine lv_aload_n hx hb dX6_give_77 rfl (lv_at hl 0 rfl) ?_
        refine wo_get (C := RX6) (T := TX6) (N := 14) hx hb hts iX6_give_6 hown hW kl_20_50_0 co_o rfl 4 (by decide) (hts _ mX6_give_l19) (fun _ h9 => h9) rfl dX6_give_78 ?_
        refine lv_iload_n hx hb dX6_give_81 rfl (lv_at hl 2 rfl) ?_
        refine lv_dup2_11 hx hb dX6_give_82 rfl rfl ?_
        obtain ⟨hi_22, h⟩ := gi_s h
        refine xw_ald hx hb hW kl_20_4_0 rfl hi_22 dX6_give_83 ?_
        refine lv_iload_n hx hb dX6_give_84 rfl (lv_at hl 3 rfl) ?_
        refine lv_iadd hx hb dX6_give_85 ?_
        obtain ⟨hi_23, h⟩ := gi_s h
        refine xw_ast hx hb hW kl_20_4_0 (fun _ => rfl) rfl hi_23 dX6_give_86 (fun H locs hW => ?_)
        refine lv_aload_n hx hb dX6_give_87 rfl (lv_at hl 0 rfl) ?_
        refine wo_get (C := RX6) (T := TX6) (N := 14) hx hb hts iX6_give_6 hown hW kl_20_50_0 co_o rfl 4 (by decide) (hts _ mX6_give_l19) (fun _ h9 => h9) rfl dX6_give_88 ?_
        refine lv_iload_n hx hb dX6_give_91 rfl (lv_at hl 1 rfl) ?_
        obtain ⟨hi_24, h⟩ := gi_s h
        refine xw_ald hx hb hW kl_20_4_0 rfl hi_24 dX6_give_92 ?_
        exact xw_iret C rfl hW dX6_give_93 h
      have h := ite_n c_17 h
      refine lv_bipush (v := (-3)) hx hb dX6_give_60 (by decide) ?_
      exact xw_iret C rfl hW dX6_give_62 h
    have h := ite_n c_15 h
    refine lv_bipush (v := (-2)) hx hb dX6_give_43 (by decide) ?_
    exact xw_iret C rfl hW dX6_give_45 h
  have h := ite_p c_13 h
  refine lv_iconst (v := (-1)) hx hb dX6_give_31 (by decide) ?_
  exact xw_iret C rfl hW dX6_give_32 h
abbrev rX6_goesBehind : Room := { frames := 7, cells := 0, slots := 0, locals := 163 }
theorem mX6_goesBehind_l19 : Cond.fieldLink RX6 19 "NearlyBoughtModel" "s" "[I" ∈ wsX6_goesBehind := by decide +kernel
theorem iX6_goesBehind_6 : ∀ w ∈ wsX60, w ∈ wsX6_goesBehind := fun _ h => List.mem_cons_of_mem _ (List.mem_append_right _ h)
set_option maxHeartbeats 4000000 in
set_option maxRecDepth 100000 in
theorem tX6_goesBehind_b49 {p : Program} {l : Launch} {e : Env} {s : State} {m : MethodId} {args : Array Value} {below : List Frame} {meth : Method} {c : Code} {A : Nat → Prop} {D : va_G} {g : G3} {ad : Ky → Nat} (C : Cx p s m args meth c cX6_goesBehind (some .int) 4 RX6 wsX6_goesBehind A) {r0 : Int32} {μ0 : Mem} {v2 : Int32} {μ : Mem} {H : Heap} {locs : List Loc} {ls : Array Slot} (hW : WX D g keysM ad A s s.heap μ H locs) (hl : lv_has ls 4 [(0, .ref (ad (20, 50, 0))), (2, .int v2)]) (h : X6_goesBehind_b49 v2 μ = some (r0, μ0)) : TgI r0 p l e rX6_goesBehind s m args below meth c D g keysM ad A μ0 H locs (F0 m 49 ls []) := by
  obtain ⟨hx, hb, hr, hts, hown, hlocks, hml, hA⟩ := id C
  refine lv_aload_n hx hb dX6_goesBehind_49 rfl (lv_at hl 0 rfl) ?_
  obtain ⟨μ_3, hh_2, h⟩ := bdv_s h
  refine wo_Vv (rest := []) C hW (kX6_lets l D g ad  hh_2) (cwV 0 hts gX6_goesBehind_X6_lets rfl rfl rfl (by decide +kernel) ⟨Nat.le_of_ble_eq_true rfl, Nat.le_of_ble_eq_true rfl⟩) kl_20_50_0 co_o rfl rfl hl.1 rfl (Nat.le_of_ble_eq_true rfl) dX6_goesBehind_50 ⟨Nat.zero_le _, Nat.zero_le _⟩ (fun H locs hW => ?_)
  refine lv_iload_n hx hb dX6_goesBehind_53 rfl (lv_at hl 1 rfl) ?_
  exact xw_iret C rfl hW dX6_goesBehind_54 h
set_option maxHeartbeats 4000000 in
set_option maxRecDepth 100000 in
theorem tX6_goesBehind_b37 {p : Program} {l : Launch} {e : Env} {s : State} {m : MethodId} {args : Array Value} {below : List Frame} {meth : Method} {c : Code} {A : Nat → Prop} {D : va_G} {g : G3} {ad : Ky → Nat} (C : Cx p s m args meth c cX6_goesBehind (some .int) 4 RX6 wsX6_goesBehind A) {r0 : Int32} {μ0 : Mem} {v1 v3 s0 : Int32} {k5 : Int32 → Int32 → Mem → Option (Int32 × Mem)} (h5 : ∀ (v2 v3 : Int32) (μ : Mem) (H : Heap) (locs : List Loc) (ls : Array Slot), WX D g keysM ad A s s.heap μ H locs → lv_has ls 4 [(0, .ref (ad (20, 50, 0))), (1, .int v1), (2, .int v2), (3, .int v3)] → k5 v2 v3 μ = some (r0, μ0) → TgI r0 p l e rX6_goesBehind s m args below meth c D g keysM ad A μ0 H locs (F0 m 5 ls [])) {μ : Mem} {H : Heap} {locs : List Loc} {ls : Array Slot} (hW : WX D g keysM ad A s s.heap μ H locs) (hl : lv_has ls 4 [(0, .ref (ad (20, 50, 0))), (1, .int v1), (3, .int v3)]) (h : X6_goesBehind_b37 k5 v1 v3 s0 μ = some (r0, μ0)) : TgI r0 p l e rX6_goesBehind s m args below meth c D g keysM ad A μ0 H locs (F0 m 37 ls [.int s0]) := by
  obtain ⟨hx, hb, hr, hts, hown, hlocks, hml, hA⟩ := id C
  refine lv_istore_n (lv' := [(2, .int s0), (0, .ref (ad (20, 50, 0))), (1, .int v1), (3, .int v3)]) hx hb dX6_goesBehind_37 rfl hl (by decide) rfl (fun ls hl => ?_)
  refine lv_aload_n hx hb dX6_goesBehind_38 rfl (lv_at hl 1 rfl) ?_
  obtain ⟨r_9, μ_8, hh_7, h⟩ := bd_s h
  refine wo_Vi (rest := []) C hW (kX6_holds l D g ad  hh_7) (cwV 0 hts gX6_goesBehind_X6_holds rfl rfl rfl (by decide +kernel) ⟨Nat.le_of_ble_eq_true rfl, Nat.le_of_ble_eq_true rfl⟩) kl_20_50_0 co_o rfl rfl hl.1 rfl (Nat.le_of_ble_eq_true rfl) dX6_goesBehind_39 ⟨Nat.zero_le _, Nat.zero_le _⟩ (fun H locs hW => ?_)
  refine lv_pop hx hb dX6_goesBehind_42 rfl ?_
  refine lv_iinc (v := v3 + 1) (lv' := [(3, .int (v3 + 1)), (2, .int s0), (0, .ref (ad (20, 50, 0))), (1, .int v1)]) hx hb dX6_goesBehind_43 hl (k := 3) rfl rfl (by decide) rfl (fun ls hl => ?_)
  refine lv_goto (tgt := 5) hx hb dX6_goesBehind_46 (by decide) ?_
  exact h5 _ _ _ _ _ _ hW (lv_sub hl [2, 3, 1, 0] rfl) h
set_option maxHeartbeats 4000000 in
set_option maxRecDepth 100000 in
theorem tX6_goesBehind_b5 {p : Program} {l : Launch} {e : Env} {s : State} {m : MethodId} {args : Array Value} {below : List Frame} {meth : Method} {c : Code} {A : Nat → Prop} {D : va_G} {g : G3} {ad : Ky → Nat} (C : Cx p s m args meth c cX6_goesBehind (some .int) 4 RX6 wsX6_goesBehind A) {r0 : Int32} {μ0 : Mem} {v1 : Int32} (n : Nat) : ∀ (v2 v3 : Int32) (μ : Mem) (H : Heap) (locs : List Loc) (ls : Array Slot), WX D g keysM ad A s s.heap μ H locs → lv_has ls 4 [(0, .ref (ad (20, 50, 0))), (1, .int v1), (2, .int v2), (3, .int v3)] → lo2 (X6_goesBehind_b5 v1) n v2 v3 μ = some (r0, μ0) → TgI r0 p l e rX6_goesBehind s m args below meth c D g keysM ad A μ0 H locs (F0 m 5 ls []) := by
  obtain ⟨hx, hb, hr, hts, hown, hlocks, hml, hA⟩ := id C
  induction n with
  | zero =>
    intro v2 v3 μ H locs ls hW hl h
    cases h
  | succ n h5 =>
    intro v2 v3 μ H locs ls hW hl h
    have h : X6_goesBehind_b5 v1 (lo2 (X6_goesBehind_b5 v1) n) v2 v3 μ = some (r0, μ0) := h
    refine lv_iload_n hx hb dX6_goesBehind_5 rfl (lv_at hl 3 rfl) ?_
    refine lv_bipush (v := 9) hx hb dX6_goesBehind_6 (by decide) ?_
    refine lv_icmp_gt (tgt := 49) hx hb dX6_goesBehind_8 (by decide) (fun c_1 => ?_) (fun c_1 => ?_)
    · have h := ite_p c_1 h
      exact tX6_goesBehind_b49 C hW (lv_sub hl [0, 2] rfl) h
    have h := ite_n c_1 h
    refine lv_iload_n hx hb dX6_goesBehind_11 rfl (lv_at hl 2 rfl) ?_
    refine lv_bipush (v := (-4)) hx hb dX6_goesBehind_12 (by decide) ?_
    refine lv_icmp_ne (tgt := 49) hx hb dX6_goesBehind_14 (by decide) (fun c_4 => ?_) (fun c_4 => ?_)
    · have h := ite_n c_4 h
      exact tX6_goesBehind_b49 C hW (lv_sub hl [0, 2] rfl) h
    have h := ite_p c_4 h
    refine lv_aload_n hx hb dX6_goesBehind_17 rfl (lv_at hl 0 rfl) ?_
    refine wo_get (C := RX6) (T := TX6) (N := 14) hx hb hts iX6_goesBehind_6 hown hW kl_20_50_0 co_o rfl 4 (by decide) (hts _ mX6_goesBehind_l19) (fun _ h9 => h9) rfl dX6_goesBehind_18 ?_
    refine lv_bipush (v := 6) hx hb dX6_goesBehind_21 (by decide) ?_
    refine lv_iload_n hx hb dX6_goesBehind_23 rfl (lv_at hl 1 rfl) ?_
    refine lv_iadd hx hb dX6_goesBehind_24 ?_
    obtain ⟨hi_5, h⟩ := gi_s h
    refine xw_ald hx hb hW kl_20_4_0 rfl hi_5 dX6_goesBehind_25 ?_
    refine lv_bipush (v := (-4)) hx hb dX6_goesBehind_26 (by decide) ?_
    refine lv_icmp_ne (tgt := 36) hx hb dX6_goesBehind_28 (by decide) (fun c_6 => ?_) (fun c_6 => ?_)
    · have h := ite_n c_6 h
      refine lv_iload_n hx hb dX6_goesBehind_36 rfl (lv_at hl 3 rfl) ?_
      exact tX6_goesBehind_b37 C h5 hW (lv_sub hl [0, 1, 3] rfl) h
    have h := ite_p c_6 h
    refine lv_bipush (v := (-4)) hx hb dX6_goesBehind_31 (by decide) ?_
    refine lv_goto (tgt := 37) hx hb dX6_goesBehind_33 (by decide) ?_
    exact tX6_goesBehind_b37 C h5 hW (lv_sub hl [0, 1, 3] rfl) h
set_option maxHeartbeats 4000000 in
set_option maxRecDepth 100000 in
theorem kX6_goesBehind (l : Launch) (D : va_G) (g : G3) (ad : Ky → Nat) {v1 : Int32} {μ μ' : Mem} {r : Int32} (h : X6_goesBehind v1 μ = some (r, μ')) : CtI l yX6_goesBehind wsX6_goesBehind rX6_goesBehind D (tysX g) keysM ad (cX g ad) [.ref (ad (20, 50, 0)), .int v1] μ r μ' := by
  refine ctI_of (cc := cX6_goesBehind) (maxL := 4) (ret := (some .int)) keysM_nd (by decide) rfl (Nat.le_of_ble_eq_true rfl) (fun p e s m below meth c A ls C hW hl => ?_)
  have hl : lv_has ls 4 [(0, .ref (ad (20, 50, 0))), (1, .int v1)] := hl
  obtain ⟨hx, hb, hr, hts, hown, hlocks, hml, hA⟩ := id C
  refine lv_bipush (v := (-4)) hx hb dX6_goesBehind_0 (by decide) ?_
  refine lv_istore_n (lv' := [(2, .int (-4)), (0, .ref (ad (20, 50, 0))), (1, .int v1)]) hx hb dX6_goesBehind_2 rfl hl (by decide) rfl (fun ls hl => ?_)
  refine lv_iconst (v := 0) hx hb dX6_goesBehind_3 (by decide) ?_
  refine lv_istore_n (lv' := [(3, .int 0), (2, .int (-4)), (0, .ref (ad (20, 50, 0))), (1, .int v1)]) hx hb dX6_goesBehind_4 rfl hl (by decide) rfl (fun ls hl => ?_)
  exact tX6_goesBehind_b5 C 1000 _ _ _ _ _ _ hW (lv_sub hl [2, 3, 1, 0] rfl) h
abbrev rX6_goes : Room := { frames := 8, cells := 0, slots := 0, locals := 186 }
set_option maxHeartbeats 4000000 in
set_option maxRecDepth 100000 in
theorem kX6_goes (l : Launch) (D : va_G) (g : G3) (ad : Ky → Nat) {v1 : Int32} {μ μ' : Mem} {r : Int32} (h : X6_goes v1 μ = some (r, μ')) : CtI l yX6_goes wsX6_goes rX6_goes D (tysX g) keysM ad (cX g ad) [.ref (ad (20, 50, 0)), .int v1] μ r μ' := by
  refine ctI_of (cc := cX6_goes) (maxL := 2) (ret := (some .int)) keysM_nd (by decide) rfl (Nat.le_of_ble_eq_true rfl) (fun p e s m below meth c A ls C hW hl => ?_)
  have hl : lv_has ls 2 [(0, .ref (ad (20, 50, 0))), (1, .int v1)] := hl
  obtain ⟨hx, hb, hr, hts, hown, hlocks, hml, hA⟩ := id C
  refine lv_aload_n hx hb dX6_goes_0 rfl (lv_at hl 0 rfl) ?_
  refine lv_iload_n hx hb dX6_goes_1 rfl (lv_at hl 1 rfl) ?_
  obtain ⟨r_3, μ_2, hh_1, h⟩ := bd_s h
  refine wo_Vi (rest := []) C hW (kX6_isThing l D g ad  hh_1) (cwV 1 hts gX6_goes_X6_isThing rfl rfl rfl (by decide +kernel) ⟨Nat.le_of_ble_eq_true rfl, Nat.le_of_ble_eq_true rfl⟩) kl_20_50_0 co_o rfl rfl hl.1 rfl (Nat.le_of_ble_eq_true rfl) dX6_goes_2 ⟨Nat.zero_le _, Nat.zero_le _⟩ (fun H locs hW => ?_)
  refine lv_if_ne (tgt := 10) hx hb dX6_goes_5 (by decide) (fun c_4 => ?_) (fun c_4 => ?_)
  · have h := ite_n c_4 h
    refine lv_aload_n hx hb dX6_goes_10 rfl (lv_at hl 0 rfl) ?_
    obtain ⟨μ_6, hh_5, h⟩ := bdv_s h
    refine wo_Vv (rest := []) C hW (kX6_remembers l D g ad  hh_5) (cwV 0 hts gX6_goes_X6_remembers rfl rfl rfl (by decide +kernel) ⟨Nat.le_of_ble_eq_true rfl, Nat.le_of_ble_eq_true rfl⟩) kl_20_50_0 co_o rfl rfl hl.1 rfl (Nat.le_of_ble_eq_true rfl) dX6_goes_11 ⟨Nat.zero_le _, Nat.zero_le _⟩ (fun H locs hW => ?_)
    refine lv_aload_n hx hb dX6_goes_14 rfl (lv_at hl 0 rfl) ?_
    refine lv_iload_n hx hb dX6_goes_15 rfl (lv_at hl 1 rfl) ?_
    obtain ⟨r_9, μ_8, hh_7, h⟩ := bd_s h
    refine wo_Vi (rest := []) C hW (kX6_goesBehind l D g ad  hh_7) (cwV 1 hts gX6_goes_X6_goesBehind rfl rfl rfl (by decide +kernel) ⟨Nat.le_of_ble_eq_true rfl, Nat.le_of_ble_eq_true rfl⟩) kl_20_50_0 co_o rfl rfl hl.1 rfl (Nat.le_of_ble_eq_true rfl) dX6_goes_16 ⟨Nat.zero_le _, Nat.zero_le _⟩ (fun H locs hW => ?_)
    exact xw_iret C rfl hW dX6_goes_19 h
  have h := ite_p c_4 h
  refine lv_iconst (v := (-1)) hx hb dX6_goes_8 (by decide) ?_
  exact xw_iret C rfl hW dX6_goes_9 h
abbrev rX6_pauses : Room := { frames := 1, cells := 0, slots := 0, locals := 22 }
theorem mX6_pauses_l19 : Cond.fieldLink RX6 19 "NearlyBoughtModel" "s" "[I" ∈ wsX6_pauses := by decide +kernel
theorem iX6_pauses_6 : ∀ w ∈ wsX60, w ∈ wsX6_pauses := fun _ h => List.mem_cons_of_mem _ (List.mem_append_right _ h)
set_option maxHeartbeats 4000000 in
set_option maxRecDepth 100000 in
theorem tX6_pauses_b59 {p : Program} {l : Launch} {e : Env} {s : State} {m : MethodId} {args : Array Value} {below : List Frame} {meth : Method} {c : Code} {A : Nat → Prop} {D : va_G} {g : G3} {ad : Ky → Nat} (C : Cx p s m args meth c cX6_pauses none 6 RX6 wsX6_pauses A) {μ0 : Mem} {s1 s2 : Int32} {μ : Mem} {H : Heap} {locs : List Loc} {ls : Array Slot} (hW : WX D g keysM ad A s s.heap μ H locs) (hl : lv_has ls 6 []) (h : X6_pauses_b59 s1 s2 μ = some μ0) : TgV p l e rX6_pauses s m args below meth c D g keysM ad A μ0 H locs (F0 m 59 ls [.int s2, .int s1, .ref (ad (20, 4, 0))]) := by
  obtain ⟨hx, hb, hr, hts, hown, hlocks, hml, hA⟩ := id C
  obtain ⟨hi_8, h⟩ := gi_s h
  refine xw_ast hx hb hW kl_20_4_0 (fun _ => rfl) rfl hi_8 dX6_pauses_59 (fun H locs hW => ?_)
  exact xw_vret C rfl hW dX6_pauses_60 h
set_option maxHeartbeats 4000000 in
set_option maxRecDepth 100000 in
theorem kX6_pauses (l : Launch) (D : va_G) (g : G3) (ad : Ky → Nat) {v1 v2 v3 : Int32} {μ μ' : Mem} (h : X6_pauses v1 v2 v3 μ = some μ') : CtV l yX6_pauses wsX6_pauses rX6_pauses D (tysX g) keysM ad (cX g ad) [.ref (ad (20, 50, 0)), .int v1, .int v2, .int v3] μ μ' := by
  refine ctV_of (cc := cX6_pauses) (maxL := 6) (ret := none) keysM_nd (by decide) rfl (Nat.le_of_ble_eq_true rfl) (fun p e s m below meth c A ls C hW hl => ?_)
  have hl : lv_has ls 6 [(0, .ref (ad (20, 50, 0))), (1, .int v1), (2, .int v2), (3, .int v3)] := hl
  obtain ⟨hx, hb, hr, hts, hown, hlocks, hml, hA⟩ := id C
  refine lv_bipush (v := 18) hx hb dX6_pauses_0 (by decide) ?_
  refine lv_bipush (v := 6) hx hb dX6_pauses_2 (by decide) ?_
  refine lv_iload_n hx hb dX6_pauses_4 rfl (lv_at hl 1 rfl) ?_
  refine lv_imul hx hb dX6_pauses_5 ?_
  refine lv_iadd hx hb dX6_pauses_6 ?_
  refine lv_iload_n hx hb dX6_pauses_7 rfl (lv_at hl 2 rfl) ?_
  refine lv_iadd hx hb dX6_pauses_8 ?_
  refine lv_istore (lv' := [(4, .int ((18 + (6 * v1)) + v2)), (0, .ref (ad (20, 50, 0))), (1, .int v1), (2, .int v2), (3, .int v3)]) hx hb dX6_pauses_9 hl (by decide) rfl (fun ls hl => ?_)
  refine lv_sipush (v := 128) hx hb dX6_pauses_11 (by decide) ?_
  refine lv_iload_n hx hb dX6_pauses_14 rfl (lv_at hl 4 rfl) ?_
  refine lv_imul hx hb dX6_pauses_15 ?_
  refine lv_aload_n hx hb dX6_pauses_16 rfl (lv_at hl 1 rfl) ?_
  refine wo_get (C := RX6) (T := TX6) (N := 14) hx hb hts iX6_pauses_6 hown hW kl_20_50_0 co_o rfl 4 (by decide) (hts _ mX6_pauses_l19) (fun _ h9 => h9) rfl dX6_pauses_17 ?_
  refine lv_bipush (v := 54) hx hb dX6_pauses_20 (by decide) ?_
  obtain ⟨hi_1, h⟩ := gi_s h
  refine xw_ald hx hb hW kl_20_4_0 rfl hi_1 dX6_pauses_22 ?_
  refine lv_iadd hx hb dX6_pauses_23 ?_
  refine lv_istore (lv' := [(5, .int ((128 * v3) + (μ 20 4 0 (54 : Int32).toNatClampNeg))), (4, .int ((18 + (6 * v1)) + v2)), (0, .ref (ad (20, 50, 0))), (1, .int v1), (2, .int v2), (3, .int v3)]) hx hb dX6_pauses_24 hl (by decide) rfl (fun ls hl => ?_)
  refine lv_aload_n hx hb dX6_pauses_26 rfl (lv_at hl 2 rfl) ?_
  refine wo_get (C := RX6) (T := TX6) (N := 14) hx hb hts iX6_pauses_6 hown hW kl_20_50_0 co_o rfl 4 (by decide) (hts _ mX6_pauses_l19) (fun _ h9 => h9) rfl dX6_pauses_27 ?_
  refine lv_iload hx hb dX6_pauses_30 (lv_at hl 1 rfl) ?_
  refine lv_aload_n hx hb dX6_pauses_32 rfl (lv_at hl 2 rfl) ?_
  refine wo_get (C := RX6) (T := TX6) (N := 14) hx hb hts iX6_pauses_6 hown hW kl_20_50_0 co_o rfl 4 (by decide) (hts _ mX6_pauses_l19) (fun _ h9 => h9) rfl dX6_pauses_33 ?_
  refine lv_iload hx hb dX6_pauses_36 (lv_at hl 1 rfl) ?_
  obtain ⟨hi_2, h⟩ := gi_s h
  refine xw_ald hx hb hW kl_20_4_0 rfl hi_2 dX6_pauses_38 ?_
  refine lv_if_ne (tgt := 47) hx hb dX6_pauses_39 (by decide) (fun c_3 => ?_) (fun c_3 => ?_)
  · have h := ite_n c_3 h
    refine lv_aload_n hx hb dX6_pauses_47 rfl (lv_at hl 2 rfl) ?_
    refine wo_get (C := RX6) (T := TX6) (N := 14) hx hb hts iX6_pauses_6 hown hW kl_20_50_0 co_o rfl 4 (by decide) (hts _ mX6_pauses_l19) (fun _ h9 => h9) rfl dX6_pauses_48 ?_
    refine lv_iload hx hb dX6_pauses_51 (lv_at hl 1 rfl) ?_
    obtain ⟨hi_4, h⟩ := gi_s h
    refine xw_ald hx hb hW kl_20_4_0 rfl hi_4 dX6_pauses_53 ?_
    refine lv_iload hx hb dX6_pauses_54 (lv_at hl 0 rfl) ?_
    obtain ⟨r_7, μ_6, hh_5, h⟩ := bd_s h
    refine wo_Si (rest := [.int ((18 + (6 * v1)) + v2), .ref (ad (20, 4, 0))]) C hW (kX6_better l D g ad  hh_5) (cwS 2 hts gX6_pauses_X6_better rfl rfl rfl (by decide +kernel) ⟨Nat.le_of_ble_eq_true rfl, Nat.le_of_ble_eq_true rfl⟩) rfl hl.1 rfl (Nat.le_of_ble_eq_true rfl) dX6_pauses_56 ⟨Nat.zero_le _, Nat.zero_le _⟩ (fun H locs hW => ?_)
    exact tX6_pauses_b59 C hW (lv_sub hl [] rfl) h
  have h := ite_p c_3 h
  refine lv_iload hx hb dX6_pauses_42 (lv_at hl 0 rfl) ?_
  refine lv_goto (tgt := 59) hx hb dX6_pauses_44 (by decide) ?_
  exact tX6_pauses_b59 C hW (lv_sub hl [] rfl) h
abbrev rX6_greens : Room := { frames := 7, cells := 0, slots := 0, locals := 163 }
theorem mX6_greens_l172 : Cond.constantLong RX6 172 (7919) ∈ wsX6_greens := by decide +kernel
theorem mX6_greens_l174 : Cond.constantLong RX6 174 (6151) ∈ wsX6_greens := by decide +kernel
theorem mX6_greens_l176 : Cond.constantLong RX6 176 (65521) ∈ wsX6_greens := by decide +kernel
theorem mX6_greens_l13 : Cond.fieldLink RX6 13 "NearlyBoughtModel" "told" "[I" ∈ wsX6_greens := by decide +kernel
theorem iX6_greens_6 : ∀ w ∈ wsX60, w ∈ wsX6_greens := fun _ h => List.mem_cons_of_mem _ (List.mem_append_right _ h)
set_option maxHeartbeats 4000000 in
set_option maxRecDepth 100000 in
theorem tX6_greens_b138 {p : Program} {l : Launch} {e : Env} {s : State} {m : MethodId} {args : Array Value} {below : List Frame} {meth : Method} {c : Code} {A : Nat → Prop} {D : va_G} {g : G3} {ad : Ky → Nat} (C : Cx p s m args meth c cX6_greens (some .int) 8 RX6 wsX6_greens A) {r0 : Int32} {μ0 : Mem} {s0 : Int32} {μ : Mem} {H : Heap} {locs : List Loc} {ls : Array Slot} (hW : WX D g keysM ad A s s.heap μ H locs) (hl : lv_has ls 8 [(0, .ref (ad (20, 50, 0)))]) (h : X6_greens_b138 s0 μ = some (r0, μ0)) : TgI r0 p l e rX6_greens s m args below meth c D g keysM ad A μ0 H locs (F0 m 138 ls [.int s0]) := by
  obtain ⟨hx, hb, hr, hts, hown, hlocks, hml, hA⟩ := id C
  refine lv_istore (lv' := [(4, .int s0), (0, .ref (ad (20, 50, 0)))]) hx hb dX6_greens_138 hl (by decide) rfl (fun ls hl => ?_)
  refine lv_aload_n hx hb dX6_greens_140 rfl (lv_at hl 1 rfl) ?_
  obtain ⟨μ_21, hh_20, h⟩ := bdv_s h
  refine wo_Vv (rest := []) C hW (kX6_lets l D g ad  hh_20) (cwV 0 hts gX6_greens_X6_lets rfl rfl rfl (by decide +kernel) ⟨Nat.le_of_ble_eq_true rfl, Nat.le_of_ble_eq_true rfl⟩) kl_20_50_0 co_o rfl rfl hl.1 rfl (Nat.le_of_ble_eq_true rfl) dX6_greens_141 ⟨Nat.zero_le _, Nat.zero_le _⟩ (fun H locs hW => ?_)
  refine lv_iload hx hb dX6_greens_144 (lv_at hl 0 rfl) ?_
  exact xw_iret C rfl hW dX6_greens_146 h
set_option maxHeartbeats 4000000 in
set_option maxRecDepth 100000 in
theorem tX6_greens_b39 {p : Program} {l : Launch} {e : Env} {s : State} {m : MethodId} {args : Array Value} {below : List Frame} {meth : Method} {c : Code} {A : Nat → Prop} {D : va_G} {g : G3} {ad : Ky → Nat} (C : Cx p s m args meth c cX6_greens (some .int) 8 RX6 wsX6_greens A) {r0 : Int32} {μ0 : Mem} {v1 v2 v3 : Int32} (n : Nat) : ∀ (v4 : Int32) (μ : Mem) (H : Heap) (locs : List Loc) (ls : Array Slot), WX D g keysM ad A s s.heap μ H locs → lv_has ls 8 [(0, .ref (ad (20, 50, 0))), (1, .int v1), (2, .int v2), (3, .int v3), (4, .int v4)] → lo1 (X6_greens_b39 v1 v2 v3) n v4 μ = some (r0, μ0) → TgI r0 p l e rX6_greens s m args below meth c D g keysM ad A μ0 H locs (F0 m 39 ls []) := by
  obtain ⟨hx, hb, hr, hts, hown, hlocks, hml, hA⟩ := id C
  induction n with
  | zero =>
    intro v4 μ H locs ls hW hl h
    cases h
  | succ n h39 =>
    intro v4 μ H locs ls hW hl h
    have h : X6_greens_b39 v1 v2 v3 (lo1 (X6_greens_b39 v1 v2 v3) n) v4 μ = some (r0, μ0) := h
    refine lv_iload hx hb dX6_greens_39 (lv_at hl 4 rfl) ?_
    refine lv_iload_n hx hb dX6_greens_41 rfl (lv_at hl 2 rfl) ?_
    refine lv_icmp_ge (tgt := 123) hx hb dX6_greens_42 (by decide) (fun c_15 => ?_) (fun c_15 => ?_)
    · have h := ite_p c_15 h
      refine lv_iload_n hx hb dX6_greens_123 rfl (lv_at hl 3 rfl) ?_
      refine lv_if_ne (tgt := 134) hx hb dX6_greens_124 (by decide) (fun c_16 => ?_) (fun c_16 => ?_)
      · have h := ite_n c_16 h
        refine lv_aload_n hx hb dX6_greens_134 rfl (lv_at hl 0 rfl) ?_
        obtain ⟨r_19, μ_18, hh_17, h⟩ := bd_s h
        refine wo_Vi (rest := []) C hW (kX6_allCoins l D g ad  hh_17) (cwV 0 hts gX6_greens_X6_allCoins rfl rfl rfl (by decide +kernel) ⟨Nat.le_of_ble_eq_true rfl, Nat.le_of_ble_eq_true rfl⟩) kl_20_50_0 co_o rfl rfl hl.1 rfl (Nat.le_of_ble_eq_true rfl) dX6_greens_135 ⟨Nat.zero_le _, Nat.zero_le _⟩ (fun H locs hW => ?_)
        exact tX6_greens_b138 C hW (lv_sub hl [0] rfl) h
      have h := ite_p c_16 h
      refine lv_aload_n hx hb dX6_greens_127 rfl (lv_at hl 0 rfl) ?_
      obtain ⟨r_24, μ_23, hh_22, h⟩ := bd_s h
      refine wo_Vi (rest := []) C hW (kX6_taken l D g ad  hh_22) (cwV 0 hts gX6_greens_X6_taken rfl rfl rfl (by decide +kernel) ⟨Nat.le_of_ble_eq_true rfl, Nat.le_of_ble_eq_true rfl⟩) kl_20_50_0 co_o rfl rfl hl.1 rfl (Nat.le_of_ble_eq_true rfl) dX6_greens_128 ⟨Nat.zero_le _, Nat.zero_le _⟩ (fun H locs hW => ?_)
      refine lv_goto (tgt := 138) hx hb dX6_greens_131 (by decide) ?_
      exact tX6_greens_b138 C hW (lv_sub hl [0] rfl) h
    have h := ite_n c_15 h
    refine lv_ldc2 (v := 7919) hx hb hown (hts _ mX6_greens_l172) dX6_greens_45 ?_
    refine lv_iload_n hx hb dX6_greens_48 rfl (lv_at hl 1 rfl) ?_
    refine lv_i2l hx hb dX6_greens_49 rfl ?_
    refine lv_lmul hx hb dX6_greens_50 ?_
    refine lv_ldc2 (v := 6151) hx hb hown (hts _ mX6_greens_l174) dX6_greens_51 ?_
    refine lv_iload hx hb dX6_greens_54 (lv_at hl 4 rfl) ?_
    refine lv_i2l hx hb dX6_greens_56 rfl ?_
    refine lv_lmul hx hb dX6_greens_57 ?_
    refine lv_ladd hx hb dX6_greens_58 ?_
    refine lv_lconst (v := 1) hx hb dX6_greens_59 rfl ?_
    refine lv_ladd hx hb dX6_greens_60 ?_
    refine lv_lstore (lv' := [(5, .long (((7919 * v1.toInt64) + (6151 * v4.toInt64)) + 1)), (0, .ref (ad (20, 50, 0))), (1, .int v1), (2, .int v2), (3, .int v3), (4, .int v4)]) hx hb dX6_greens_61 hl (by decide) rfl (fun ls hl => ?_)
    refine lv_lload hx hb dX6_greens_63 (lv_at hl 0 rfl) ?_
    refine lv_lload hx hb dX6_greens_65 (lv_at hl 0 rfl) ?_
    refine lv_lmul hx hb dX6_greens_67 ?_
    refine lv_ldc2 (v := 65521) hx hb hown (hts _ mX6_greens_l176) dX6_greens_68 ?_
    refine lv_lrem hx hb dX6_greens_71 (by decide) ?_
    refine lv_l2i hx hb dX6_greens_72 rfl ?_
    refine lv_iconst (v := 4) hx hb dX6_greens_73 (by decide) ?_
    refine lv_idiv hx hb dX6_greens_74 (by decide) ?_
    refine lv_istore (lv' := [(7, .int (((((((7919 * v1.toInt64) + (6151 * v4.toInt64)) + 1) * (((7919 * v1.toInt64) + (6151 * v4.toInt64)) + 1)) - ((((7919 * v1.toInt64) + (6151 * v4.toInt64)) + 1) * (((7919 * v1.toInt64) + (6151 * v4.toInt64)) + 1)) / 65521 * 65521).toInt32) / 4)), (5, .long (((7919 * v1.toInt64) + (6151 * v4.toInt64)) + 1)), (0, .ref (ad (20, 50, 0))), (1, .int v1), (2, .int v2), (3, .int v3), (4, .int v4)]) hx hb dX6_greens_75 hl (by decide) rfl (fun ls hl => ?_)
    refine lv_aload_n hx hb dX6_greens_77 rfl (lv_at hl 2 rfl) ?_
    refine lv_iload hx hb dX6_greens_78 (lv_at hl 0 rfl) ?_
    refine lv_aload_n hx hb dX6_greens_80 rfl (lv_at hl 2 rfl) ?_
    refine wo_get (C := RX6) (T := TX6) (N := 14) hx hb hts iX6_greens_6 hown hW kl_20_50_0 co_o rfl 2 (by decide) (hts _ mX6_greens_l13) (fun _ h9 => h9) rfl dX6_greens_81 ?_
    refine lv_iconst (v := 0) hx hb dX6_greens_84 (by decide) ?_
    obtain ⟨hi_25, h⟩ := gi_s h
    refine xw_ald hx hb hW kl_20_2_0 rfl hi_25 dX6_greens_85 ?_
    obtain ⟨hz_26, h⟩ := gz_s h
    refine lv_irem hx hb dX6_greens_86 hz_26 ?_
    refine lv_iload hx hb dX6_greens_87 (lv_at hl 0 rfl) ?_
    refine lv_bipush (v := 8) hx hb dX6_greens_89 (by decide) ?_
    refine lv_idiv hx hb dX6_greens_91 (by decide) ?_
    refine lv_aload_n hx hb dX6_greens_92 rfl (lv_at hl 2 rfl) ?_
    refine wo_get (C := RX6) (T := TX6) (N := 14) hx hb hts iX6_greens_6 hown hW kl_20_50_0 co_o rfl 2 (by decide) (hts _ mX6_greens_l13) (fun _ h9 => h9) rfl dX6_greens_93 ?_
    refine lv_iconst (v := 1) hx hb dX6_greens_96 (by decide) ?_
    obtain ⟨hi_27, h⟩ := gi_s h
    refine xw_ald hx hb hW kl_20_2_0 rfl hi_27 dX6_greens_97 ?_
    obtain ⟨hz_28, h⟩ := gz_s h
    refine lv_irem hx hb dX6_greens_98 hz_28 ?_
    refine lv_iconst (v := 1) hx hb dX6_greens_99 (by decide) ?_
    refine lv_iload hx hb dX6_greens_100 (lv_at hl 0 rfl) ?_
    refine lv_bipush (v := 64) hx hb dX6_greens_102 (by decide) ?_
    refine lv_idiv hx hb dX6_greens_104 (by decide) ?_
    refine lv_bipush (v := 12) hx hb dX6_greens_105 (by decide) ?_
    refine lv_irem hx hb dX6_greens_107 (by decide) ?_
    refine lv_iadd hx hb dX6_greens_108 ?_
    obtain ⟨μ_30, hh_29, h⟩ := bdv_s h
    refine wo_Vv (rest := []) C hW (kX6_pauses l D g ad  hh_29) (cwV 3 hts gX6_greens_X6_pauses rfl rfl rfl (by decide +kernel) ⟨Nat.le_of_ble_eq_true rfl, Nat.le_of_ble_eq_true rfl⟩) kl_20_50_0 co_o rfl rfl hl.1 rfl (Nat.le_of_ble_eq_true rfl) dX6_greens_109 ⟨Nat.zero_le _, Nat.zero_le _⟩ (fun H locs hW => ?_)
    refine lv_aload_n hx hb dX6_greens_112 rfl (lv_at hl 2 rfl) ?_
    obtain ⟨r_33, μ_32, hh_31, h⟩ := bd_s h
    refine wo_Vi (rest := []) C hW (kX6_holds l D g ad  hh_31) (cwV 0 hts gX6_greens_X6_holds rfl rfl rfl (by decide +kernel) ⟨Nat.le_of_ble_eq_true rfl, Nat.le_of_ble_eq_true rfl⟩) kl_20_50_0 co_o rfl rfl hl.1 rfl (Nat.le_of_ble_eq_true rfl) dX6_greens_113 ⟨Nat.zero_le _, Nat.zero_le _⟩ (fun H locs hW => ?_)
    refine lv_pop hx hb dX6_greens_116 rfl ?_
    refine lv_iinc (v := v4 + 1) (lv' := [(4, .int (v4 + 1)), (7, .int (((((((7919 * v1.toInt64) + (6151 * v4.toInt64)) + 1) * (((7919 * v1.toInt64) + (6151 * v4.toInt64)) + 1)) - ((((7919 * v1.toInt64) + (6151 * v4.toInt64)) + 1) * (((7919 * v1.toInt64) + (6151 * v4.toInt64)) + 1)) / 65521 * 65521).toInt32) / 4)), (5, .long (((7919 * v1.toInt64) + (6151 * v4.toInt64)) + 1)), (0, .ref (ad (20, 50, 0))), (1, .int v1), (2, .int v2), (3, .int v3)]) hx hb dX6_greens_117 hl (k := 6) rfl rfl (by decide) rfl (fun ls hl => ?_)
    refine lv_goto (tgt := 39) hx hb dX6_greens_120 (by decide) ?_
    exact h39 _ _ _ _ _ hW (lv_sub hl [3, 4, 5, 6, 0] rfl) h
set_option maxHeartbeats 4000000 in
set_option maxRecDepth 100000 in
theorem kX6_greens (l : Launch) (D : va_G) (g : G3) (ad : Ky → Nat) {v1 v2 v3 : Int32} {μ μ' : Mem} {r : Int32} (h : X6_greens v1 v2 v3 μ = some (r, μ')) : CtI l yX6_greens wsX6_greens rX6_greens D (tysX g) keysM ad (cX g ad) [.ref (ad (20, 50, 0)), .int v1, .int v2, .int v3] μ r μ' := by
  refine ctI_of (cc := cX6_greens) (maxL := 8) (ret := (some .int)) keysM_nd (by decide) rfl (Nat.le_of_ble_eq_true rfl) (fun p e s m below meth c A ls C hW hl => ?_)
  have hl : lv_has ls 8 [(0, .ref (ad (20, 50, 0))), (1, .int v1), (2, .int v2), (3, .int v3)] := hl
  obtain ⟨hx, hb, hr, hts, hown, hlocks, hml, hA⟩ := id C
  refine lv_iload_n hx hb dX6_greens_0 rfl (lv_at hl 1 rfl) ?_
  refine lv_iconst (v := 0) hx hb dX6_greens_1 (by decide) ?_
  refine lv_sipush (v := 9999) hx hb dX6_greens_2 (by decide) ?_
  obtain ⟨r_3, μ_2, hh_1, h⟩ := bd_s h
  refine wo_Si (rest := []) C hW (kX6_in l D g ad  hh_1) (cwS 3 hts gX6_greens_X6_in rfl rfl rfl (by decide +kernel) ⟨Nat.le_of_ble_eq_true rfl, Nat.le_of_ble_eq_true rfl⟩) rfl hl.1 rfl (Nat.le_of_ble_eq_true rfl) dX6_greens_5 ⟨Nat.zero_le _, Nat.zero_le _⟩ (fun H locs hW => ?_)
  refine lv_if_eq (tgt := 30) hx hb dX6_greens_8 (by decide) (fun c_4 => ?_) (fun c_4 => ?_)
  · have h := ite_p c_4 h
    refine lv_iconst (v := (-1)) hx hb dX6_greens_30 (by decide) ?_
    exact xw_iret C rfl hW dX6_greens_31 h
  have h := ite_n c_4 h
  refine lv_iload_n hx hb dX6_greens_11 rfl (lv_at hl 2 rfl) ?_
  refine lv_iconst (v := 1) hx hb dX6_greens_12 (by decide) ?_
  refine lv_bipush (v := 9) hx hb dX6_greens_13 (by decide) ?_
  obtain ⟨r_7, μ_6, hh_5, h⟩ := bd_s h
  refine wo_Si (rest := []) C hW (kX6_in l D g ad  hh_5) (cwS 3 hts gX6_greens_X6_in rfl rfl rfl (by decide +kernel) ⟨Nat.le_of_ble_eq_true rfl, Nat.le_of_ble_eq_true rfl⟩) rfl hl.1 rfl (Nat.le_of_ble_eq_true rfl) dX6_greens_15 ⟨Nat.zero_le _, Nat.zero_le _⟩ (fun H locs hW => ?_)
  refine lv_if_eq (tgt := 30) hx hb dX6_greens_18 (by decide) (fun c_8 => ?_) (fun c_8 => ?_)
  · have h := ite_p c_8 h
    refine lv_iconst (v := (-1)) hx hb dX6_greens_30 (by decide) ?_
    exact xw_iret C rfl hW dX6_greens_31 h
  have h := ite_n c_8 h
  refine lv_iload_n hx hb dX6_greens_21 rfl (lv_at hl 3 rfl) ?_
  refine lv_iconst (v := 0) hx hb dX6_greens_22 (by decide) ?_
  refine lv_iconst (v := 1) hx hb dX6_greens_23 (by decide) ?_
  obtain ⟨r_11, μ_10, hh_9, h⟩ := bd_s h
  refine wo_Si (rest := []) C hW (kX6_in l D g ad  hh_9) (cwS 3 hts gX6_greens_X6_in rfl rfl rfl (by decide +kernel) ⟨Nat.le_of_ble_eq_true rfl, Nat.le_of_ble_eq_true rfl⟩) rfl hl.1 rfl (Nat.le_of_ble_eq_true rfl) dX6_greens_24 ⟨Nat.zero_le _, Nat.zero_le _⟩ (fun H locs hW => ?_)
  refine lv_if_ne (tgt := 32) hx hb dX6_greens_27 (by decide) (fun c_12 => ?_) (fun c_12 => ?_)
  · have h := ite_n c_12 h
    refine lv_aload_n hx hb dX6_greens_32 rfl (lv_at hl 0 rfl) ?_
    obtain ⟨μ_14, hh_13, h⟩ := bdv_s h
    refine wo_Vv (rest := []) C hW (kX6_remembers l D g ad  hh_13) (cwV 0 hts gX6_greens_X6_remembers rfl rfl rfl (by decide +kernel) ⟨Nat.le_of_ble_eq_true rfl, Nat.le_of_ble_eq_true rfl⟩) kl_20_50_0 co_o rfl rfl hl.1 rfl (Nat.le_of_ble_eq_true rfl) dX6_greens_33 ⟨Nat.zero_le _, Nat.zero_le _⟩ (fun H locs hW => ?_)
    refine lv_iconst (v := 0) hx hb dX6_greens_36 (by decide) ?_
    refine lv_istore (lv' := [(4, .int 0), (0, .ref (ad (20, 50, 0))), (1, .int v1), (2, .int v2), (3, .int v3)]) hx hb dX6_greens_37 hl (by decide) rfl (fun ls hl => ?_)
    exact tX6_greens_b39 C 1000 _ _ _ _ _ hW (lv_sub hl [1, 2, 3, 4, 0] rfl) h
  have h := ite_p c_12 h
  refine lv_iconst (v := (-1)) hx hb dX6_greens_30 (by decide) ?_
  exact xw_iret C rfl hW dX6_greens_31 h
abbrev rX6_keep : Room := { frames := 0, cells := 0, slots := 0, locals := 0 }
theorem mX6_keep_l91 : Cond.fieldLink RX6 91 "NearlyBoughtModel" "kept" "I" ∈ wsX6_keep := by decide +kernel
theorem mX6_keep_l25 : Cond.fieldLink RX6 25 "NearlyBoughtModel" "images" "[I" ∈ wsX6_keep := by decide +kernel
theorem mX6_keep_l19 : Cond.fieldLink RX6 19 "NearlyBoughtModel" "s" "[I" ∈ wsX6_keep := by decide +kernel
theorem iX6_keep_6 : ∀ w ∈ wsX60, w ∈ wsX6_keep := fun _ h => List.mem_cons_of_mem _ (List.mem_append_right _ h)
set_option maxHeartbeats 4000000 in
set_option maxRecDepth 100000 in
theorem tX6_keep_b13 {p : Program} {l : Launch} {e : Env} {s : State} {m : MethodId} {args : Array Value} {below : List Frame} {meth : Method} {c : Code} {A : Nat → Prop} {D : va_G} {g : G3} {ad : Ky → Nat} (C : Cx p s m args meth c cX6_keep (some .int) 2 RX6 wsX6_keep A) {r0 : Int32} {μ0 : Mem} (n : Nat) : ∀ (v1 : Int32) (μ : Mem) (H : Heap) (locs : List Loc) (ls : Array Slot), WX D g keysM ad A s s.heap μ H locs → lv_has ls 2 [(0, .ref (ad (20, 50, 0))), (1, .int v1)] → lo1 (X6_keep_b13) n v1 μ = some (r0, μ0) → TgI r0 p l e rX6_keep s m args below meth c D g keysM ad A μ0 H locs (F0 m 13 ls []) := by
  obtain ⟨hx, hb, hr, hts, hown, hlocks, hml, hA⟩ := id C
  induction n with
  | zero =>
    intro v1 μ H locs ls hW hl h
    cases h
  | succ n h13 =>
    intro v1 μ H locs ls hW hl h
    have h : X6_keep_b13 (lo1 (X6_keep_b13) n) v1 μ = some (r0, μ0) := h
    refine lv_iload_n hx hb dX6_keep_13 rfl (lv_at hl 1 rfl) ?_
    refine lv_bipush (v := 55) hx hb dX6_keep_14 (by decide) ?_
    refine lv_icmp_ge (tgt := 45) hx hb dX6_keep_16 (by decide) (fun c_2 => ?_) (fun c_2 => ?_)
    · have h := ite_p c_2 h
      refine lv_aload_n hx hb dX6_keep_45 rfl (lv_at hl 0 rfl) ?_
      refine lv_dup hx hb dX6_keep_46 rfl ?_
      refine wo_get (C := RX6) (T := TX6) (N := 14) hx hb hts iX6_keep_6 hown hW kl_20_50_0 co_o rfl 8 (by decide) (hts _ mX6_keep_l91) (fun _ h9 => h9) rfl dX6_keep_47 ?_
      refine lv_iconst (v := 1) hx hb dX6_keep_50 (by decide) ?_
      refine lv_iadd hx hb dX6_keep_51 ?_
      refine xw_put (C := RX6) (T := TX6) (N := 14) hx hb hts iX6_keep_6 tyX6 tyX6_ok nmX6 hown hW kl_20_50_0 co_o rfl 8 (by decide) (hts _ mX6_keep_l91) (fun _ h9 => h9) rfl (by decide +kernel) (Nat.le_of_ble_eq_true rfl) keysM_ok rfl (po_8 _) dX6_keep_52 (fun H locs hW => ?_)
      refine lv_aload_n hx hb dX6_keep_55 rfl (lv_at hl 0 rfl) ?_
      refine wo_get (C := RX6) (T := TX6) (N := 14) hx hb hts iX6_keep_6 hown hW kl_20_50_0 co_o rfl 8 (by decide) (hts _ mX6_keep_l91) (fun _ h9 => h9) rfl dX6_keep_56 ?_
      exact xw_iret C rfl hW dX6_keep_59 h
    have h := ite_n c_2 h
    refine lv_aload_n hx hb dX6_keep_19 rfl (lv_at hl 0 rfl) ?_
    refine wo_get (C := RX6) (T := TX6) (N := 14) hx hb hts iX6_keep_6 hown hW kl_20_50_0 co_o rfl 7 (by decide) (hts _ mX6_keep_l25) (fun _ h9 => h9) rfl dX6_keep_20 ?_
    refine lv_bipush (v := 55) hx hb dX6_keep_23 (by decide) ?_
    refine lv_aload_n hx hb dX6_keep_25 rfl (lv_at hl 0 rfl) ?_
    refine wo_get (C := RX6) (T := TX6) (N := 14) hx hb hts iX6_keep_6 hown hW kl_20_50_0 co_o rfl 8 (by decide) (hts _ mX6_keep_l91) (fun _ h9 => h9) rfl dX6_keep_26 ?_
    refine lv_imul hx hb dX6_keep_29 ?_
    refine lv_iload_n hx hb dX6_keep_30 rfl (lv_at hl 1 rfl) ?_
    refine lv_iadd hx hb dX6_keep_31 ?_
    refine lv_aload_n hx hb dX6_keep_32 rfl (lv_at hl 0 rfl) ?_
    refine wo_get (C := RX6) (T := TX6) (N := 14) hx hb hts iX6_keep_6 hown hW kl_20_50_0 co_o rfl 4 (by decide) (hts _ mX6_keep_l19) (fun _ h9 => h9) rfl dX6_keep_33 ?_
    refine lv_iload_n hx hb dX6_keep_36 rfl (lv_at hl 1 rfl) ?_
    obtain ⟨hi_3, h⟩ := gi_s h
    refine xw_ald hx hb hW kl_20_4_0 rfl hi_3 dX6_keep_37 ?_
    obtain ⟨hi_4, h⟩ := gi_s h
    refine xw_ast hx hb hW kl_20_7_0 (fun _ => rfl) rfl hi_4 dX6_keep_38 (fun H locs hW => ?_)
    refine lv_iinc (v := v1 + 1) (lv' := [(1, .int (v1 + 1)), (0, .ref (ad (20, 50, 0)))]) hx hb dX6_keep_39 hl (k := 1) rfl rfl (by decide) rfl (fun ls hl => ?_)
    refine lv_goto (tgt := 13) hx hb dX6_keep_42 (by decide) ?_
    exact h13 _ _ _ _ _ hW (lv_sub hl [1, 0] rfl) h
set_option maxHeartbeats 4000000 in
set_option maxRecDepth 100000 in
theorem kX6_keep (l : Launch) (D : va_G) (g : G3) (ad : Ky → Nat) {μ μ' : Mem} {r : Int32} (h : X6_keep μ = some (r, μ')) : CtI l yX6_keep wsX6_keep rX6_keep D (tysX g) keysM ad (cX g ad) [.ref (ad (20, 50, 0))] μ r μ' := by
  refine ctI_of (cc := cX6_keep) (maxL := 2) (ret := (some .int)) keysM_nd (by decide) rfl (Nat.le_of_ble_eq_true rfl) (fun p e s m below meth c A ls C hW hl => ?_)
  have hl : lv_has ls 2 [(0, .ref (ad (20, 50, 0)))] := hl
  obtain ⟨hx, hb, hr, hts, hown, hlocks, hml, hA⟩ := id C
  refine lv_aload_n hx hb dX6_keep_0 rfl (lv_at hl 0 rfl) ?_
  refine wo_get (C := RX6) (T := TX6) (N := 14) hx hb hts iX6_keep_6 hown hW kl_20_50_0 co_o rfl 8 (by decide) (hts _ mX6_keep_l91) (fun _ h9 => h9) rfl dX6_keep_1 ?_
  refine lv_iconst (v := 2) hx hb dX6_keep_4 (by decide) ?_
  refine lv_icmp_ne (tgt := 11) hx hb dX6_keep_5 (by decide) (fun c_1 => ?_) (fun c_1 => ?_)
  · have h := ite_n c_1 h
    refine lv_iconst (v := 0) hx hb dX6_keep_11 (by decide) ?_
    refine lv_istore_n (lv' := [(1, .int 0), (0, .ref (ad (20, 50, 0)))]) hx hb dX6_keep_12 rfl hl (by decide) rfl (fun ls hl => ?_)
    exact tX6_keep_b13 C 1000 _ _ _ _ _ hW (lv_sub hl [1, 0] rfl) h
  have h := ite_p c_1 h
  refine lv_bipush (v := (-3)) hx hb dX6_keep_8 (by decide) ?_
  exact xw_iret C rfl hW dX6_keep_10 h
abbrev rX6_lays : Room := { frames := 1, cells := 0, slots := 0, locals := 21 }
theorem mX6_lays_l88 : Cond.fieldLink RX6 88 "NearlyBoughtModel" "known" "I" ∈ wsX6_lays := by decide +kernel
theorem mX6_lays_l91 : Cond.fieldLink RX6 91 "NearlyBoughtModel" "kept" "I" ∈ wsX6_lays := by decide +kernel
theorem mX6_lays_l94 : Cond.fieldLink RX6 94 "NearlyBoughtModel" "noted" "I" ∈ wsX6_lays := by decide +kernel
theorem mX6_lays_l13 : Cond.fieldLink RX6 13 "NearlyBoughtModel" "told" "[I" ∈ wsX6_lays := by decide +kernel
theorem mX6_lays_l16 : Cond.fieldLink RX6 16 "NearlyBoughtModel" "draft" "[I" ∈ wsX6_lays := by decide +kernel
theorem iX6_lays_6 : ∀ w ∈ wsX60, w ∈ wsX6_lays := fun _ h => List.mem_cons_of_mem _ (List.mem_append_right _ h)
set_option maxHeartbeats 4000000 in
set_option maxRecDepth 100000 in
theorem tX6_lays_b2 {p : Program} {l : Launch} {e : Env} {s : State} {m : MethodId} {args : Array Value} {below : List Frame} {meth : Method} {c : Code} {A : Nat → Prop} {D : va_G} {g : G3} {ad : Ky → Nat} (C : Cx p s m args meth c cX6_lays none 2 RX6 wsX6_lays A) {μ0 : Mem} (n : Nat) : ∀ (v1 : Int32) (μ : Mem) (H : Heap) (locs : List Loc) (ls : Array Slot), WX D g keysM ad A s s.heap μ H locs → lv_has ls 2 [(0, .ref (ad (20, 50, 0))), (1, .int v1)] → lo1 (X6_lays_b2) n v1 μ = some μ0 → TgV p l e rX6_lays s m args below meth c D g keysM ad A μ0 H locs (F0 m 2 ls []) := by
  obtain ⟨hx, hb, hr, hts, hown, hlocks, hml, hA⟩ := id C
  induction n with
  | zero =>
    intro v1 μ H locs ls hW hl h
    cases h
  | succ n h2 =>
    intro v1 μ H locs ls hW hl h
    have h : X6_lays_b2 (lo1 (X6_lays_b2) n) v1 μ = some μ0 := h
    refine lv_iload_n hx hb dX6_lays_2 rfl (lv_at hl 1 rfl) ?_
    refine lv_bipush (v := 59) hx hb dX6_lays_3 (by decide) ?_
    refine lv_icmp_ge (tgt := 26) hx hb dX6_lays_5 (by decide) (fun c_1 => ?_) (fun c_1 => ?_)
    · have h := ite_p c_1 h
      refine lv_aload_n hx hb dX6_lays_26 rfl (lv_at hl 0 rfl) ?_
      obtain ⟨μ_3, hh_2, h⟩ := bdv_s h
      refine wo_Vv (rest := []) C hW (kX6_starts l D g ad  hh_2) (cwV 0 hts gX6_lays_X6_starts rfl rfl rfl (by decide +kernel) ⟨Nat.le_of_ble_eq_true rfl, Nat.le_of_ble_eq_true rfl⟩) kl_20_50_0 co_o rfl rfl hl.1 rfl (Nat.le_of_ble_eq_true rfl) dX6_lays_27 ⟨Nat.zero_le _, Nat.zero_le _⟩ (fun H locs hW => ?_)
      refine lv_aload_n hx hb dX6_lays_30 rfl (lv_at hl 0 rfl) ?_
      refine lv_iconst (v := 0) hx hb dX6_lays_31 (by decide) ?_
      refine xw_put (C := RX6) (T := TX6) (N := 14) hx hb hts iX6_lays_6 tyX6 tyX6_ok nmX6 hown hW kl_20_50_0 co_o rfl 6 (by decide) (hts _ mX6_lays_l88) (fun _ h9 => h9) rfl (by decide +kernel) (Nat.le_of_ble_eq_true rfl) keysM_ok rfl (po_6 _) dX6_lays_32 (fun H locs hW => ?_)
      refine lv_aload_n hx hb dX6_lays_35 rfl (lv_at hl 0 rfl) ?_
      refine lv_iconst (v := 0) hx hb dX6_lays_36 (by decide) ?_
      refine xw_put (C := RX6) (T := TX6) (N := 14) hx hb hts iX6_lays_6 tyX6 tyX6_ok nmX6 hown hW kl_20_50_0 co_o rfl 8 (by decide) (hts _ mX6_lays_l91) (fun _ h9 => h9) rfl (by decide +kernel) (Nat.le_of_ble_eq_true rfl) keysM_ok rfl (po_8 _) dX6_lays_37 (fun H locs hW => ?_)
      refine lv_aload_n hx hb dX6_lays_40 rfl (lv_at hl 0 rfl) ?_
      refine lv_iconst (v := 0) hx hb dX6_lays_41 (by decide) ?_
      refine xw_put (C := RX6) (T := TX6) (N := 14) hx hb hts iX6_lays_6 tyX6 tyX6_ok nmX6 hown hW kl_20_50_0 co_o rfl 10 (by decide) (hts _ mX6_lays_l94) (fun _ h9 => h9) rfl (by decide +kernel) (Nat.le_of_ble_eq_true rfl) keysM_ok rfl (po_10 _) dX6_lays_42 (fun H locs hW => ?_)
      exact xw_vret C rfl hW dX6_lays_45 h
    have h := ite_n c_1 h
    refine lv_aload_n hx hb dX6_lays_8 rfl (lv_at hl 0 rfl) ?_
    refine wo_get (C := RX6) (T := TX6) (N := 14) hx hb hts iX6_lays_6 hown hW kl_20_50_0 co_o rfl 2 (by decide) (hts _ mX6_lays_l13) (fun _ h9 => h9) rfl dX6_lays_9 ?_
    refine lv_iload_n hx hb dX6_lays_12 rfl (lv_at hl 1 rfl) ?_
    refine lv_aload_n hx hb dX6_lays_13 rfl (lv_at hl 0 rfl) ?_
    refine wo_get (C := RX6) (T := TX6) (N := 14) hx hb hts iX6_lays_6 hown hW kl_20_50_0 co_o rfl 3 (by decide) (hts _ mX6_lays_l16) (fun _ h9 => h9) rfl dX6_lays_14 ?_
    refine lv_iload_n hx hb dX6_lays_17 rfl (lv_at hl 1 rfl) ?_
    obtain ⟨hi_4, h⟩ := gi_s h
    refine xw_ald hx hb hW kl_20_3_0 rfl hi_4 dX6_lays_18 ?_
    obtain ⟨hi_5, h⟩ := gi_s h
    refine xw_ast hx hb hW kl_20_2_0 (fun _ => rfl) rfl hi_5 dX6_lays_19 (fun H locs hW => ?_)
    refine lv_iinc (v := v1 + 1) (lv' := [(1, .int (v1 + 1)), (0, .ref (ad (20, 50, 0)))]) hx hb dX6_lays_20 hl (k := 1) rfl rfl (by decide) rfl (fun ls hl => ?_)
    refine lv_goto (tgt := 2) hx hb dX6_lays_23 (by decide) ?_
    exact h2 _ _ _ _ _ hW (lv_sub hl [1, 0] rfl) h
set_option maxHeartbeats 4000000 in
set_option maxRecDepth 100000 in
theorem kX6_lays (l : Launch) (D : va_G) (g : G3) (ad : Ky → Nat) {μ μ' : Mem} (h : X6_lays μ = some μ') : CtV l yX6_lays wsX6_lays rX6_lays D (tysX g) keysM ad (cX g ad) [.ref (ad (20, 50, 0))] μ μ' := by
  refine ctV_of (cc := cX6_lays) (maxL := 2) (ret := none) keysM_nd (by decide) rfl (Nat.le_of_ble_eq_true rfl) (fun p e s m below meth c A ls C hW hl => ?_)
  have hl : lv_has ls 2 [(0, .ref (ad (20, 50, 0)))] := hl
  obtain ⟨hx, hb, hr, hts, hown, hlocks, hml, hA⟩ := id C
  refine lv_iconst (v := 0) hx hb dX6_lays_0 (by decide) ?_
  refine lv_istore_n (lv' := [(1, .int 0), (0, .ref (ad (20, 50, 0)))]) hx hb dX6_lays_1 rfl hl (by decide) rfl (fun ls hl => ?_)
  exact tX6_lays_b2 C 1000 _ _ _ _ _ hW (lv_sub hl [1, 0] rfl) h
abbrev rX6_lay : Room := { frames := 5, cells := 0, slots := 0, locals := 113 }
theorem mX6_lay_l16 : Cond.fieldLink RX6 16 "NearlyBoughtModel" "draft" "[I" ∈ wsX6_lay := by decide +kernel
theorem mX6_lay_l13 : Cond.fieldLink RX6 13 "NearlyBoughtModel" "told" "[I" ∈ wsX6_lay := by decide +kernel
theorem iX6_lay_6 : ∀ w ∈ wsX60, w ∈ wsX6_lay := fun _ h => List.mem_cons_of_mem _ (List.mem_append_right _ h)
set_option maxHeartbeats 4000000 in
set_option maxRecDepth 100000 in
theorem kX6_lay (l : Launch) (D : va_G) (g : G3) (ad : Ky → Nat) {μ μ' : Mem} {r : Int32} (h : X6_lay μ = some (r, μ')) : CtI l yX6_lay wsX6_lay rX6_lay D (tysX g) keysM ad (cX g ad) [.ref (ad (20, 50, 0))] μ r μ' := by
  refine ctI_of (cc := cX6_lay) (maxL := 1) (ret := (some .int)) keysM_nd (by decide) rfl (Nat.le_of_ble_eq_true rfl) (fun p e s m below meth c A ls C hW hl => ?_)
  have hl : lv_has ls 1 [(0, .ref (ad (20, 50, 0)))] := hl
  obtain ⟨hx, hb, hr, hts, hown, hlocks, hml, hA⟩ := id C
  refine lv_aload_n hx hb dX6_lay_0 rfl (lv_at hl 0 rfl) ?_
  obtain ⟨r_3, μ_2, hh_1, h⟩ := bd_s h
  refine wo_Vi (rest := []) C hW (kX6_readsAll l D g ad  hh_1) (cwV 0 hts gX6_lay_X6_readsAll rfl rfl rfl (by decide +kernel) ⟨Nat.le_of_ble_eq_true rfl, Nat.le_of_ble_eq_true rfl⟩) kl_20_50_0 co_o rfl rfl hl.1 rfl (Nat.le_of_ble_eq_true rfl) dX6_lay_1 ⟨Nat.zero_le _, Nat.zero_le _⟩ (fun H locs hW => ?_)
  refine lv_bipush (v := (-4)) hx hb dX6_lay_4 (by decide) ?_
  refine lv_icmp_ne (tgt := 27) hx hb dX6_lay_6 (by decide) (fun c_4 => ?_) (fun c_4 => ?_)
  · have h := ite_n c_4 h
    refine lv_bipush (v := (-2)) hx hb dX6_lay_27 (by decide) ?_
    exact xw_iret C rfl hW dX6_lay_29 h
  have h := ite_p c_4 h
  refine lv_aload_n hx hb dX6_lay_9 rfl (lv_at hl 0 rfl) ?_
  refine wo_get (C := RX6) (T := TX6) (N := 14) hx hb hts iX6_lay_6 hown hW kl_20_50_0 co_o rfl 3 (by decide) (hts _ mX6_lay_l16) (fun _ h9 => h9) rfl dX6_lay_10 ?_
  refine lv_iconst (v := 0) hx hb dX6_lay_13 (by decide) ?_
  obtain ⟨hi_5, h⟩ := gi_s h
  refine xw_ald hx hb hW kl_20_3_0 rfl hi_5 dX6_lay_14 ?_
  refine lv_if_eq (tgt := 27) hx hb dX6_lay_15 (by decide) (fun c_6 => ?_) (fun c_6 => ?_)
  · have h := ite_p c_6 h
    refine lv_bipush (v := (-2)) hx hb dX6_lay_27 (by decide) ?_
    exact xw_iret C rfl hW dX6_lay_29 h
  have h := ite_n c_6 h
  refine lv_aload_n hx hb dX6_lay_18 rfl (lv_at hl 0 rfl) ?_
  refine wo_get (C := RX6) (T := TX6) (N := 14) hx hb hts iX6_lay_6 hown hW kl_20_50_0 co_o rfl 3 (by decide) (hts _ mX6_lay_l16) (fun _ h9 => h9) rfl dX6_lay_19 ?_
  refine lv_iconst (v := 1) hx hb dX6_lay_22 (by decide) ?_
  obtain ⟨hi_7, h⟩ := gi_s h
  refine xw_ald hx hb hW kl_20_3_0 rfl hi_7 dX6_lay_23 ?_
  refine lv_if_ne (tgt := 30) hx hb dX6_lay_24 (by decide) (fun c_8 => ?_) (fun c_8 => ?_)
  · have h := ite_n c_8 h
    refine lv_aload_n hx hb dX6_lay_30 rfl (lv_at hl 0 rfl) ?_
    obtain ⟨μ_10, hh_9, h⟩ := bdv_s h
    refine wo_Vv (rest := []) C hW (kX6_lays l D g ad  hh_9) (cwV 0 hts gX6_lay_X6_lays rfl rfl rfl (by decide +kernel) ⟨Nat.le_of_ble_eq_true rfl, Nat.le_of_ble_eq_true rfl⟩) kl_20_50_0 co_o rfl rfl hl.1 rfl (Nat.le_of_ble_eq_true rfl) dX6_lay_31 ⟨Nat.zero_le _, Nat.zero_le _⟩ (fun H locs hW => ?_)
    refine lv_aload_n hx hb dX6_lay_34 rfl (lv_at hl 0 rfl) ?_
    refine wo_get (C := RX6) (T := TX6) (N := 14) hx hb hts iX6_lay_6 hown hW kl_20_50_0 co_o rfl 2 (by decide) (hts _ mX6_lay_l13) (fun _ h9 => h9) rfl dX6_lay_35 ?_
    refine lv_iconst (v := 1) hx hb dX6_lay_38 (by decide) ?_
    obtain ⟨hi_11, h⟩ := gi_s h
    refine xw_ald hx hb hW kl_20_2_0 rfl hi_11 dX6_lay_39 ?_
    exact xw_iret C rfl hW dX6_lay_40 h
  have h := ite_p c_8 h
  refine lv_bipush (v := (-2)) hx hb dX6_lay_27 (by decide) ?_
  exact xw_iret C rfl hW dX6_lay_29 h
abbrev rX6_nearly : Room := { frames := 4, cells := 0, slots := 0, locals := 90 }
set_option maxHeartbeats 4000000 in
set_option maxRecDepth 100000 in
theorem kX6_nearly (l : Launch) (D : va_G) (g : G3) (ad : Ky → Nat) {v1 v2 v3 : Int32} {μ μ' : Mem} {r : Int32} (h : X6_nearly v1 v2 v3 μ = some (r, μ')) : CtI l yX6_nearly wsX6_nearly rX6_nearly D (tysX g) keysM ad (cX g ad) [.ref (ad (20, 50, 0)), .int v1, .int v2, .int v3] μ r μ' := by
  refine ctI_of (cc := cX6_nearly) (maxL := 5) (ret := (some .int)) keysM_nd (by decide) rfl (Nat.le_of_ble_eq_true rfl) (fun p e s m below meth c A ls C hW hl => ?_)
  have hl : lv_has ls 5 [(0, .ref (ad (20, 50, 0))), (1, .int v1), (2, .int v2), (3, .int v3)] := hl
  obtain ⟨hx, hb, hr, hts, hown, hlocks, hml, hA⟩ := id C
  refine lv_aload_n hx hb dX6_nearly_0 rfl (lv_at hl 0 rfl) ?_
  refine lv_iload_n hx hb dX6_nearly_1 rfl (lv_at hl 1 rfl) ?_
  obtain ⟨r_3, μ_2, hh_1, h⟩ := bd_s h
  refine wo_Vi (rest := []) C hW (kX6_isPerson l D g ad  hh_1) (cwV 1 hts gX6_nearly_X6_isPerson rfl rfl rfl (by decide +kernel) ⟨Nat.le_of_ble_eq_true rfl, Nat.le_of_ble_eq_true rfl⟩) kl_20_50_0 co_o rfl rfl hl.1 rfl (Nat.le_of_ble_eq_true rfl) dX6_nearly_2 ⟨Nat.zero_le _, Nat.zero_le _⟩ (fun H locs hW => ?_)
  refine lv_if_eq (tgt := 16) hx hb dX6_nearly_5 (by decide) (fun c_4 => ?_) (fun c_4 => ?_)
  · have h := ite_p c_4 h
    refine lv_iconst (v := (-1)) hx hb dX6_nearly_16 (by decide) ?_
    exact xw_iret C rfl hW dX6_nearly_17 h
  have h := ite_n c_4 h
  refine lv_aload_n hx hb dX6_nearly_8 rfl (lv_at hl 0 rfl) ?_
  refine lv_iload_n hx hb dX6_nearly_9 rfl (lv_at hl 2 rfl) ?_
  obtain ⟨r_7, μ_6, hh_5, h⟩ := bd_s h
  refine wo_Vi (rest := []) C hW (kX6_isThing l D g ad  hh_5) (cwV 1 hts gX6_nearly_X6_isThing rfl rfl rfl (by decide +kernel) ⟨Nat.le_of_ble_eq_true rfl, Nat.le_of_ble_eq_true rfl⟩) kl_20_50_0 co_o rfl rfl hl.1 rfl (Nat.le_of_ble_eq_true rfl) dX6_nearly_10 ⟨Nat.zero_le _, Nat.zero_le _⟩ (fun H locs hW => ?_)
  refine lv_if_ne (tgt := 18) hx hb dX6_nearly_13 (by decide) (fun c_8 => ?_) (fun c_8 => ?_)
  · have h := ite_n c_8 h
    refine lv_aload_n hx hb dX6_nearly_18 rfl (lv_at hl 0 rfl) ?_
    refine lv_iload_n hx hb dX6_nearly_19 rfl (lv_at hl 1 rfl) ?_
    refine lv_iload_n hx hb dX6_nearly_20 rfl (lv_at hl 2 rfl) ?_
    obtain ⟨r_11, μ_10, hh_9, h⟩ := bd_s h
    refine wo_Vi (rest := []) C hW (kX6_pauseNow l D g ad  hh_9) (cwV 2 hts gX6_nearly_X6_pauseNow rfl rfl rfl (by decide +kernel) ⟨Nat.le_of_ble_eq_true rfl, Nat.le_of_ble_eq_true rfl⟩) kl_20_50_0 co_o rfl rfl hl.1 rfl (Nat.le_of_ble_eq_true rfl) dX6_nearly_21 ⟨Nat.zero_le _, Nat.zero_le _⟩ (fun H locs hW => ?_)
    refine lv_istore (lv' := [(4, .int r_11), (0, .ref (ad (20, 50, 0))), (1, .int v1), (2, .int v2), (3, .int v3)]) hx hb dX6_nearly_24 hl (by decide) rfl (fun ls hl => ?_)
    refine lv_iload_n hx hb dX6_nearly_26 rfl (lv_at hl 4 rfl) ?_
    by_cases c_12 : v3 = 0
    · have h := ite_p c_12 h
      refine lv_tableIn (off := 33) (tgt := 60) hx hb dX6_nearly_27 (by rw [c_12]; decide) (by rw [c_12]; decide) (by rw [c_12]; rfl) (by decide) ?_
      refine lv_iload hx hb dX6_nearly_60 (lv_at hl 0 rfl) ?_
      refine lv_sipush (v := 128) hx hb dX6_nearly_62 (by decide) ?_
      refine lv_idiv hx hb dX6_nearly_65 (by decide) ?_
      exact xw_iret C rfl hW dX6_nearly_66 h
    have h := ite_n c_12 h
    by_cases c_13 : v3 = 1
    · have h := ite_p c_13 h
      refine lv_tableIn (off := 40) (tgt := 67) hx hb dX6_nearly_27 (by rw [c_13]; decide) (by rw [c_13]; decide) (by rw [c_13]; rfl) (by decide) ?_
      refine lv_aload_n hx hb dX6_nearly_67 rfl (lv_at hl 1 rfl) ?_
      refine lv_iload_n hx hb dX6_nearly_68 rfl (lv_at hl 2 rfl) ?_
      refine lv_iload_n hx hb dX6_nearly_69 rfl (lv_at hl 3 rfl) ?_
      obtain ⟨r_16, μ_15, hh_14, h⟩ := bd_s h
      refine wo_Vi (rest := []) C hW (kX6_countedNow l D g ad  hh_14) (cwV 2 hts gX6_nearly_X6_countedNow rfl rfl rfl (by decide +kernel) ⟨Nat.le_of_ble_eq_true rfl, Nat.le_of_ble_eq_true rfl⟩) kl_20_50_0 co_o rfl rfl hl.1 rfl (Nat.le_of_ble_eq_true rfl) dX6_nearly_70 ⟨Nat.zero_le _, Nat.zero_le _⟩ (fun H locs hW => ?_)
      exact xw_iret C rfl hW dX6_nearly_73 h
    have h := ite_n c_13 h
    by_cases c_17 : v3 = 2
    · have h := ite_p c_17 h
      refine lv_tableIn (off := 47) (tgt := 74) hx hb dX6_nearly_27 (by rw [c_17]; decide) (by rw [c_17]; decide) (by rw [c_17]; rfl) (by decide) ?_
      refine lv_iload hx hb dX6_nearly_74 (lv_at hl 0 rfl) ?_
      refine lv_if_ne (tgt := 84) hx hb dX6_nearly_76 (by decide) (fun c_18 => ?_) (fun c_18 => ?_)
      · have h := ite_n c_18 h
        refine lv_iload hx hb dX6_nearly_84 (lv_at hl 0 rfl) ?_
        refine lv_sipush (v := 128) hx hb dX6_nearly_86 (by decide) ?_
        refine lv_irem hx hb dX6_nearly_89 (by decide) ?_
        exact xw_iret C rfl hW dX6_nearly_90 h
      have h := ite_p c_18 h
      refine lv_bipush (v := (-4)) hx hb dX6_nearly_79 (by decide) ?_
      refine lv_goto (tgt := 90) hx hb dX6_nearly_81 (by decide) ?_
      exact xw_iret C rfl hW dX6_nearly_90 h
    have h := ite_n c_17 h
    by_cases c_19 : v3 = 3
    · have h := ite_p c_19 h
      refine lv_tableIn (off := 64) (tgt := 91) hx hb dX6_nearly_27 (by rw [c_19]; decide) (by rw [c_19]; decide) (by rw [c_19]; rfl) (by decide) ?_
      refine lv_aload_n hx hb dX6_nearly_91 rfl (lv_at hl 1 rfl) ?_
      refine lv_iload_n hx hb dX6_nearly_92 rfl (lv_at hl 2 rfl) ?_
      refine lv_iload_n hx hb dX6_nearly_93 rfl (lv_at hl 3 rfl) ?_
      obtain ⟨r_22, μ_21, hh_20, h⟩ := bd_s h
      refine wo_Vi (rest := []) C hW (kX6_isNearly l D g ad  hh_20) (cwV 2 hts gX6_nearly_X6_isNearly rfl rfl rfl (by decide +kernel) ⟨Nat.le_of_ble_eq_true rfl, Nat.le_of_ble_eq_true rfl⟩) kl_20_50_0 co_o rfl rfl hl.1 rfl (Nat.le_of_ble_eq_true rfl) dX6_nearly_94 ⟨Nat.zero_le _, Nat.zero_le _⟩ (fun H locs hW => ?_)
      refine lv_if_eq (tgt := 104) hx hb dX6_nearly_97 (by decide) (fun c_23 => ?_) (fun c_23 => ?_)
      · have h := ite_p c_23 h
        refine lv_iconst (v := 0) hx hb dX6_nearly_104 (by decide) ?_
        exact xw_iret C rfl hW dX6_nearly_105 h
      have h := ite_n c_23 h
      refine lv_iconst (v := 1) hx hb dX6_nearly_100 (by decide) ?_
      refine lv_goto (tgt := 105) hx hb dX6_nearly_101 (by decide) ?_
      exact xw_iret C rfl hW dX6_nearly_105 h
    have h := ite_n c_19 h
    by_cases c_24 : v3 = 4
    · have h := ite_p c_24 h
      refine lv_tableIn (off := 79) (tgt := 106) hx hb dX6_nearly_27 (by rw [c_24]; decide) (by rw [c_24]; decide) (by rw [c_24]; rfl) (by decide) ?_
      refine lv_aload_n hx hb dX6_nearly_106 rfl (lv_at hl 1 rfl) ?_
      refine lv_iload_n hx hb dX6_nearly_107 rfl (lv_at hl 2 rfl) ?_
      refine lv_iload_n hx hb dX6_nearly_108 rfl (lv_at hl 3 rfl) ?_
      obtain ⟨r_27, μ_26, hh_25, h⟩ := bd_s h
      refine wo_Vi (rest := []) C hW (kX6_isNearly l D g ad  hh_25) (cwV 2 hts gX6_nearly_X6_isNearly rfl rfl rfl (by decide +kernel) ⟨Nat.le_of_ble_eq_true rfl, Nat.le_of_ble_eq_true rfl⟩) kl_20_50_0 co_o rfl rfl hl.1 rfl (Nat.le_of_ble_eq_true rfl) dX6_nearly_109 ⟨Nat.zero_le _, Nat.zero_le _⟩ (fun H locs hW => ?_)
      refine lv_if_eq (tgt := 124) hx hb dX6_nearly_112 (by decide) (fun c_28 => ?_) (fun c_28 => ?_)
      · have h := ite_p c_28 h
        refine lv_bipush (v := (-4)) hx hb dX6_nearly_124 (by decide) ?_
        exact xw_iret C rfl hW dX6_nearly_126 h
      have h := ite_n c_28 h
      refine lv_aload_n hx hb dX6_nearly_115 rfl (lv_at hl 1 rfl) ?_
      refine lv_iload_n hx hb dX6_nearly_116 rfl (lv_at hl 2 rfl) ?_
      refine lv_iload_n hx hb dX6_nearly_117 rfl (lv_at hl 3 rfl) ?_
      obtain ⟨r_31, μ_30, hh_29, h⟩ := bd_s h
      refine wo_Vi (rest := []) C hW (kX6_priceOf l D g ad  hh_29) (cwV 2 hts gX6_nearly_X6_priceOf rfl rfl rfl (by decide +kernel) ⟨Nat.le_of_ble_eq_true rfl, Nat.le_of_ble_eq_true rfl⟩) kl_20_50_0 co_o rfl rfl hl.1 rfl (Nat.le_of_ble_eq_true rfl) dX6_nearly_118 ⟨Nat.zero_le _, Nat.zero_le _⟩ (fun H locs hW => ?_)
      refine lv_goto (tgt := 126) hx hb dX6_nearly_121 (by decide) ?_
      exact xw_iret C rfl hW dX6_nearly_126 h
    have h := ite_n c_24 h
    have t_32 := ne_ti (k := 0) rfl c_12
    have t_33 := ne_ti (k := 1) rfl c_13
    have t_34 := ne_ti (k := 2) rfl c_17
    have t_35 := ne_ti (k := 3) rfl c_19
    have t_36 := ne_ti (k := 4) rfl c_24
    refine lv_tableOut (tgt := 127) hx hb dX6_nearly_27 (by omega) (by decide) ?_
    refine lv_iconst (v := (-1)) hx hb dX6_nearly_127 (by decide) ?_
    exact xw_iret C rfl hW dX6_nearly_128 h
  have h := ite_p c_8 h
  refine lv_iconst (v := (-1)) hx hb dX6_nearly_16 (by decide) ?_
  exact xw_iret C rfl hW dX6_nearly_17 h
abbrev rX6_never : Room := { frames := 9, cells := 0, slots := 0, locals := 208 }
theorem mX6_never_l13 : Cond.fieldLink RX6 13 "NearlyBoughtModel" "told" "[I" ∈ wsX6_never := by decide +kernel
theorem iX6_never_6 : ∀ w ∈ wsX60, w ∈ wsX6_never := fun _ h => List.mem_cons_of_mem _ (List.mem_append_right _ h)
set_option maxHeartbeats 4000000 in
set_option maxRecDepth 100000 in
theorem tX6_never_b34 {p : Program} {l : Launch} {e : Env} {s : State} {m : MethodId} {args : Array Value} {below : List Frame} {meth : Method} {c : Code} {A : Nat → Prop} {D : va_G} {g : G3} {ad : Ky → Nat} (C : Cx p s m args meth c cX6_never (some .int) 3 RX6 wsX6_never A) {r0 : Int32} {μ0 : Mem} {v2 s0 s1 : Int32} {k4 : Int32 → Int32 → Mem → Option (Int32 × Mem)} (h4 : ∀ (v1 v2 : Int32) (μ : Mem) (H : Heap) (locs : List Loc) (ls : Array Slot), WX D g keysM ad A s s.heap μ H locs → lv_has ls 3 [(0, .ref (ad (20, 50, 0))), (1, .int v1), (2, .int v2)] → k4 v1 v2 μ = some (r0, μ0) → TgI r0 p l e rX6_never s m args below meth c D g keysM ad A μ0 H locs (F0 m 4 ls [])) {μ : Mem} {H : Heap} {locs : List Loc} {ls : Array Slot} (hW : WX D g keysM ad A s s.heap μ H locs) (hl : lv_has ls 3 [(0, .ref (ad (20, 50, 0))), (2, .int v2)]) (h : X6_never_b34 k4 v2 s0 s1 μ = some (r0, μ0)) : TgI r0 p l e rX6_never s m args below meth c D g keysM ad A μ0 H locs (F0 m 34 ls [.int s1, .int s0]) := by
  obtain ⟨hx, hb, hr, hts, hown, hlocks, hml, hA⟩ := id C
  refine lv_ior hx hb dX6_never_34 ?_
  refine lv_istore_n (lv' := [(1, .int (s0 ||| s1)), (0, .ref (ad (20, 50, 0))), (2, .int v2)]) hx hb dX6_never_35 rfl hl (by decide) rfl (fun ls hl => ?_)
  refine lv_iinc (v := v2 + 1) (lv' := [(2, .int (v2 + 1)), (1, .int (s0 ||| s1)), (0, .ref (ad (20, 50, 0)))]) hx hb dX6_never_36 hl (k := 2) rfl rfl (by decide) rfl (fun ls hl => ?_)
  refine lv_goto (tgt := 4) hx hb dX6_never_39 (by decide) ?_
  exact h4 _ _ _ _ _ _ hW (lv_sub hl [2, 1, 0] rfl) h
set_option maxHeartbeats 4000000 in
set_option maxRecDepth 100000 in
theorem tX6_never_b4 {p : Program} {l : Launch} {e : Env} {s : State} {m : MethodId} {args : Array Value} {below : List Frame} {meth : Method} {c : Code} {A : Nat → Prop} {D : va_G} {g : G3} {ad : Ky → Nat} (C : Cx p s m args meth c cX6_never (some .int) 3 RX6 wsX6_never A) {r0 : Int32} {μ0 : Mem} (n : Nat) : ∀ (v1 v2 : Int32) (μ : Mem) (H : Heap) (locs : List Loc) (ls : Array Slot), WX D g keysM ad A s s.heap μ H locs → lv_has ls 3 [(0, .ref (ad (20, 50, 0))), (1, .int v1), (2, .int v2)] → lo2 (X6_never_b4) n v1 v2 μ = some (r0, μ0) → TgI r0 p l e rX6_never s m args below meth c D g keysM ad A μ0 H locs (F0 m 4 ls []) := by
  obtain ⟨hx, hb, hr, hts, hown, hlocks, hml, hA⟩ := id C
  induction n with
  | zero =>
    intro v1 v2 μ H locs ls hW hl h
    cases h
  | succ n h4 =>
    intro v1 v2 μ H locs ls hW hl h
    have h : X6_never_b4 (lo2 (X6_never_b4) n) v1 v2 μ = some (r0, μ0) := h
    refine lv_iload_n hx hb dX6_never_4 rfl (lv_at hl 2 rfl) ?_
    refine lv_aload_n hx hb dX6_never_5 rfl (lv_at hl 0 rfl) ?_
    refine wo_get (C := RX6) (T := TX6) (N := 14) hx hb hts iX6_never_6 hown hW kl_20_50_0 co_o rfl 2 (by decide) (hts _ mX6_never_l13) (fun _ h9 => h9) rfl dX6_never_6 ?_
    refine lv_iconst (v := 1) hx hb dX6_never_9 (by decide) ?_
    obtain ⟨hi_1, h⟩ := gi_s h
    refine xw_ald hx hb hW kl_20_2_0 rfl hi_1 dX6_never_10 ?_
    refine lv_icmp_ge (tgt := 42) hx hb dX6_never_11 (by decide) (fun c_2 => ?_) (fun c_2 => ?_)
    · have h := ite_p c_2 h
      refine lv_iload_n hx hb dX6_never_42 rfl (lv_at hl 1 rfl) ?_
      exact xw_iret C rfl hW dX6_never_43 h
    have h := ite_n c_2 h
    refine lv_iload_n hx hb dX6_never_14 rfl (lv_at hl 1 rfl) ?_
    refine lv_aload_n hx hb dX6_never_15 rfl (lv_at hl 0 rfl) ?_
    refine lv_iload_n hx hb dX6_never_16 rfl (lv_at hl 2 rfl) ?_
    refine lv_bipush (v := 9) hx hb dX6_never_17 (by decide) ?_
    obtain ⟨r_5, μ_4, hh_3, h⟩ := bd_s h
    refine wo_Vi (rest := [.int v1]) C hW (kX6_behind l D g ad  hh_3) (cwV 2 hts gX6_never_X6_behind rfl rfl rfl (by decide +kernel) ⟨Nat.le_of_ble_eq_true rfl, Nat.le_of_ble_eq_true rfl⟩) kl_20_50_0 co_o rfl rfl hl.1 rfl (Nat.le_of_ble_eq_true rfl) dX6_never_19 ⟨Nat.zero_le _, Nat.zero_le _⟩ (fun H locs hW => ?_)
    refine lv_bipush (v := (-4)) hx hb dX6_never_22 (by decide) ?_
    refine lv_icmp_ne (tgt := 33) hx hb dX6_never_24 (by decide) (fun c_6 => ?_) (fun c_6 => ?_)
    · have h := ite_n c_6 h
      refine lv_iconst (v := 0) hx hb dX6_never_33 (by decide) ?_
      exact tX6_never_b34 C h4 hW (lv_sub hl [0, 2] rfl) h
    have h := ite_p c_6 h
    refine lv_iconst (v := 1) hx hb dX6_never_27 (by decide) ?_
    refine lv_iload_n hx hb dX6_never_28 rfl (lv_at hl 2 rfl) ?_
    refine lv_ishl hx hb dX6_never_29 ?_
    refine lv_goto (tgt := 34) hx hb dX6_never_30 (by decide) ?_
    exact tX6_never_b34 C h4 hW (lv_sub hl [0, 2] rfl) h
set_option maxHeartbeats 4000000 in
set_option maxRecDepth 100000 in
theorem kX6_never (l : Launch) (D : va_G) (g : G3) (ad : Ky → Nat) {μ μ' : Mem} {r : Int32} (h : X6_never μ = some (r, μ')) : CtI l yX6_never wsX6_never rX6_never D (tysX g) keysM ad (cX g ad) [.ref (ad (20, 50, 0))] μ r μ' := by
  refine ctI_of (cc := cX6_never) (maxL := 3) (ret := (some .int)) keysM_nd (by decide) rfl (Nat.le_of_ble_eq_true rfl) (fun p e s m below meth c A ls C hW hl => ?_)
  have hl : lv_has ls 3 [(0, .ref (ad (20, 50, 0)))] := hl
  obtain ⟨hx, hb, hr, hts, hown, hlocks, hml, hA⟩ := id C
  refine lv_iconst (v := 0) hx hb dX6_never_0 (by decide) ?_
  refine lv_istore_n (lv' := [(1, .int 0), (0, .ref (ad (20, 50, 0)))]) hx hb dX6_never_1 rfl hl (by decide) rfl (fun ls hl => ?_)
  refine lv_iconst (v := 0) hx hb dX6_never_2 (by decide) ?_
  refine lv_istore_n (lv' := [(2, .int 0), (1, .int 0), (0, .ref (ad (20, 50, 0)))]) hx hb dX6_never_3 rfl hl (by decide) rfl (fun ls hl => ?_)
  exact tX6_never_b4 C 1000 _ _ _ _ _ _ hW (lv_sub hl [2, 1, 0] rfl) h
abbrev rX6_pause : Room := { frames := 3, cells := 0, slots := 0, locals := 68 }
set_option maxHeartbeats 4000000 in
set_option maxRecDepth 100000 in
theorem kX6_pause (l : Launch) (D : va_G) (g : G3) (ad : Ky → Nat) {v1 v2 v3 : Int32} {μ μ' : Mem} {r : Int32} (h : X6_pause v1 v2 v3 μ = some (r, μ')) : CtI l yX6_pause wsX6_pause rX6_pause D (tysX g) keysM ad (cX g ad) [.ref (ad (20, 50, 0)), .int v1, .int v2, .int v3] μ r μ' := by
  refine ctI_of (cc := cX6_pause) (maxL := 4) (ret := (some .int)) keysM_nd (by decide) rfl (Nat.le_of_ble_eq_true rfl) (fun p e s m below meth c A ls C hW hl => ?_)
  have hl : lv_has ls 4 [(0, .ref (ad (20, 50, 0))), (1, .int v1), (2, .int v2), (3, .int v3)] := hl
  obtain ⟨hx, hb, hr, hts, hown, hlocks, hml, hA⟩ := id C
  refine lv_aload_n hx hb dX6_pause_0 rfl (lv_at hl 0 rfl) ?_
  refine lv_iload_n hx hb dX6_pause_1 rfl (lv_at hl 1 rfl) ?_
  obtain ⟨r_3, μ_2, hh_1, h⟩ := bd_s h
  refine wo_Vi (rest := []) C hW (kX6_isPerson l D g ad  hh_1) (cwV 1 hts gX6_pause_X6_isPerson rfl rfl rfl (by decide +kernel) ⟨Nat.le_of_ble_eq_true rfl, Nat.le_of_ble_eq_true rfl⟩) kl_20_50_0 co_o rfl rfl hl.1 rfl (Nat.le_of_ble_eq_true rfl) dX6_pause_2 ⟨Nat.zero_le _, Nat.zero_le _⟩ (fun H locs hW => ?_)
  refine lv_if_eq (tgt := 26) hx hb dX6_pause_5 (by decide) (fun c_4 => ?_) (fun c_4 => ?_)
  · have h := ite_p c_4 h
    refine lv_iconst (v := (-1)) hx hb dX6_pause_26 (by decide) ?_
    exact xw_iret C rfl hW dX6_pause_27 h
  have h := ite_n c_4 h
  refine lv_aload_n hx hb dX6_pause_8 rfl (lv_at hl 0 rfl) ?_
  refine lv_iload_n hx hb dX6_pause_9 rfl (lv_at hl 2 rfl) ?_
  obtain ⟨r_7, μ_6, hh_5, h⟩ := bd_s h
  refine wo_Vi (rest := []) C hW (kX6_isThing l D g ad  hh_5) (cwV 1 hts gX6_pause_X6_isThing rfl rfl rfl (by decide +kernel) ⟨Nat.le_of_ble_eq_true rfl, Nat.le_of_ble_eq_true rfl⟩) kl_20_50_0 co_o rfl rfl hl.1 rfl (Nat.le_of_ble_eq_true rfl) dX6_pause_10 ⟨Nat.zero_le _, Nat.zero_le _⟩ (fun H locs hW => ?_)
  refine lv_if_eq (tgt := 26) hx hb dX6_pause_13 (by decide) (fun c_8 => ?_) (fun c_8 => ?_)
  · have h := ite_p c_8 h
    refine lv_iconst (v := (-1)) hx hb dX6_pause_26 (by decide) ?_
    exact xw_iret C rfl hW dX6_pause_27 h
  have h := ite_n c_8 h
  refine lv_iload_n hx hb dX6_pause_16 rfl (lv_at hl 3 rfl) ?_
  refine lv_iconst (v := 1) hx hb dX6_pause_17 (by decide) ?_
  refine lv_bipush (v := 30) hx hb dX6_pause_18 (by decide) ?_
  obtain ⟨r_11, μ_10, hh_9, h⟩ := bd_s h
  refine wo_Si (rest := []) C hW (kX6_in l D g ad  hh_9) (cwS 3 hts gX6_pause_X6_in rfl rfl rfl (by decide +kernel) ⟨Nat.le_of_ble_eq_true rfl, Nat.le_of_ble_eq_true rfl⟩) rfl hl.1 rfl (Nat.le_of_ble_eq_true rfl) dX6_pause_20 ⟨Nat.zero_le _, Nat.zero_le _⟩ (fun H locs hW => ?_)
  refine lv_if_ne (tgt := 28) hx hb dX6_pause_23 (by decide) (fun c_12 => ?_) (fun c_12 => ?_)
  · have h := ite_n c_12 h
    refine lv_aload_n hx hb dX6_pause_28 rfl (lv_at hl 0 rfl) ?_
    obtain ⟨μ_14, hh_13, h⟩ := bdv_s h
    refine wo_Vv (rest := []) C hW (kX6_keeps l D g ad  hh_13) (cwV 0 hts gX6_pause_X6_keeps rfl rfl rfl (by decide +kernel) ⟨Nat.le_of_ble_eq_true rfl, Nat.le_of_ble_eq_true rfl⟩) kl_20_50_0 co_o rfl rfl hl.1 rfl (Nat.le_of_ble_eq_true rfl) dX6_pause_29 ⟨Nat.zero_le _, Nat.zero_le _⟩ (fun H locs hW => ?_)
    refine lv_aload_n hx hb dX6_pause_32 rfl (lv_at hl 0 rfl) ?_
    refine lv_iload_n hx hb dX6_pause_33 rfl (lv_at hl 1 rfl) ?_
    refine lv_iload_n hx hb dX6_pause_34 rfl (lv_at hl 2 rfl) ?_
    refine lv_iload_n hx hb dX6_pause_35 rfl (lv_at hl 3 rfl) ?_
    obtain ⟨μ_16, hh_15, h⟩ := bdv_s h
    refine wo_Vv (rest := []) C hW (kX6_pauses l D g ad  hh_15) (cwV 3 hts gX6_pause_X6_pauses rfl rfl rfl (by decide +kernel) ⟨Nat.le_of_ble_eq_true rfl, Nat.le_of_ble_eq_true rfl⟩) kl_20_50_0 co_o rfl rfl hl.1 rfl (Nat.le_of_ble_eq_true rfl) dX6_pause_36 ⟨Nat.zero_le _, Nat.zero_le _⟩ (fun H locs hW => ?_)
    refine lv_aload_n hx hb dX6_pause_39 rfl (lv_at hl 0 rfl) ?_
    refine lv_iload_n hx hb dX6_pause_40 rfl (lv_at hl 1 rfl) ?_
    refine lv_iload_n hx hb dX6_pause_41 rfl (lv_at hl 2 rfl) ?_
    obtain ⟨r_19, μ_18, hh_17, h⟩ := bd_s h
    refine wo_Vi (rest := []) C hW (kX6_countedNow l D g ad  hh_17) (cwV 2 hts gX6_pause_X6_countedNow rfl rfl rfl (by decide +kernel) ⟨Nat.le_of_ble_eq_true rfl, Nat.le_of_ble_eq_true rfl⟩) kl_20_50_0 co_o rfl rfl hl.1 rfl (Nat.le_of_ble_eq_true rfl) dX6_pause_42 ⟨Nat.zero_le _, Nat.zero_le _⟩ (fun H locs hW => ?_)
    exact xw_iret C rfl hW dX6_pause_45 h
  have h := ite_p c_12 h
  refine lv_iconst (v := (-1)) hx hb dX6_pause_26 (by decide) ?_
  exact xw_iret C rfl hW dX6_pause_27 h
abbrev rX6_thingsOf : Room := { frames := 0, cells := 0, slots := 0, locals := 0 }
theorem mX6_thingsOf_l13 : Cond.fieldLink RX6 13 "NearlyBoughtModel" "told" "[I" ∈ wsX6_thingsOf := by decide +kernel
theorem mX6_thingsOf_l19 : Cond.fieldLink RX6 19 "NearlyBoughtModel" "s" "[I" ∈ wsX6_thingsOf := by decide +kernel
theorem iX6_thingsOf_6 : ∀ w ∈ wsX60, w ∈ wsX6_thingsOf := fun _ h => List.mem_cons_of_mem _ (List.mem_append_right _ h)
set_option maxHeartbeats 4000000 in
set_option maxRecDepth 100000 in
theorem tX6_thingsOf_b33 {p : Program} {l : Launch} {e : Env} {s : State} {m : MethodId} {args : Array Value} {below : List Frame} {meth : Method} {c : Code} {A : Nat → Prop} {D : va_G} {g : G3} {ad : Ky → Nat} (C : Cx p s m args meth c cX6_thingsOf (some .int) 4 RX6 wsX6_thingsOf A) {r0 : Int32} {μ0 : Mem} {v1 v3 s0 s1 : Int32} {k4 : Int32 → Int32 → Mem → Option (Int32 × Mem)} (h4 : ∀ (v2 v3 : Int32) (μ : Mem) (H : Heap) (locs : List Loc) (ls : Array Slot), WX D g keysM ad A s s.heap μ H locs → lv_has ls 4 [(0, .ref (ad (20, 50, 0))), (1, .int v1), (2, .int v2), (3, .int v3)] → k4 v2 v3 μ = some (r0, μ0) → TgI r0 p l e rX6_thingsOf s m args below meth c D g keysM ad A μ0 H locs (F0 m 4 ls [])) {μ : Mem} {H : Heap} {locs : List Loc} {ls : Array Slot} (hW : WX D g keysM ad A s s.heap μ H locs) (hl : lv_has ls 4 [(0, .ref (ad (20, 50, 0))), (1, .int v1), (3, .int v3)]) (h : X6_thingsOf_b33 k4 v1 v3 s0 s1 μ = some (r0, μ0)) : TgI r0 p l e rX6_thingsOf s m args below meth c D g keysM ad A μ0 H locs (F0 m 33 ls [.int s1, .int s0]) := by
  obtain ⟨hx, hb, hr, hts, hown, hlocks, hml, hA⟩ := id C
  refine lv_iadd hx hb dX6_thingsOf_33 ?_
  refine lv_istore_n (lv' := [(2, .int (s0 + s1)), (0, .ref (ad (20, 50, 0))), (1, .int v1), (3, .int v3)]) hx hb dX6_thingsOf_34 rfl hl (by decide) rfl (fun ls hl => ?_)
  refine lv_iinc (v := v3 + 1) (lv' := [(3, .int (v3 + 1)), (2, .int (s0 + s1)), (0, .ref (ad (20, 50, 0))), (1, .int v1)]) hx hb dX6_thingsOf_35 hl (k := 3) rfl rfl (by decide) rfl (fun ls hl => ?_)
  refine lv_goto (tgt := 4) hx hb dX6_thingsOf_38 (by decide) ?_
  exact h4 _ _ _ _ _ _ hW (lv_sub hl [2, 3, 1, 0] rfl) h
set_option maxHeartbeats 4000000 in
set_option maxRecDepth 100000 in
theorem tX6_thingsOf_b4 {p : Program} {l : Launch} {e : Env} {s : State} {m : MethodId} {args : Array Value} {below : List Frame} {meth : Method} {c : Code} {A : Nat → Prop} {D : va_G} {g : G3} {ad : Ky → Nat} (C : Cx p s m args meth c cX6_thingsOf (some .int) 4 RX6 wsX6_thingsOf A) {r0 : Int32} {μ0 : Mem} {v1 : Int32} (n : Nat) : ∀ (v2 v3 : Int32) (μ : Mem) (H : Heap) (locs : List Loc) (ls : Array Slot), WX D g keysM ad A s s.heap μ H locs → lv_has ls 4 [(0, .ref (ad (20, 50, 0))), (1, .int v1), (2, .int v2), (3, .int v3)] → lo2 (X6_thingsOf_b4 v1) n v2 v3 μ = some (r0, μ0) → TgI r0 p l e rX6_thingsOf s m args below meth c D g keysM ad A μ0 H locs (F0 m 4 ls []) := by
  obtain ⟨hx, hb, hr, hts, hown, hlocks, hml, hA⟩ := id C
  induction n with
  | zero =>
    intro v2 v3 μ H locs ls hW hl h
    cases h
  | succ n h4 =>
    intro v2 v3 μ H locs ls hW hl h
    have h : X6_thingsOf_b4 v1 (lo2 (X6_thingsOf_b4 v1) n) v2 v3 μ = some (r0, μ0) := h
    refine lv_iload_n hx hb dX6_thingsOf_4 rfl (lv_at hl 3 rfl) ?_
    refine lv_aload_n hx hb dX6_thingsOf_5 rfl (lv_at hl 0 rfl) ?_
    refine wo_get (C := RX6) (T := TX6) (N := 14) hx hb hts iX6_thingsOf_6 hown hW kl_20_50_0 co_o rfl 2 (by decide) (hts _ mX6_thingsOf_l13) (fun _ h9 => h9) rfl dX6_thingsOf_6 ?_
    refine lv_iconst (v := 1) hx hb dX6_thingsOf_9 (by decide) ?_
    obtain ⟨hi_1, h⟩ := gi_s h
    refine xw_ald hx hb hW kl_20_2_0 rfl hi_1 dX6_thingsOf_10 ?_
    refine lv_icmp_ge (tgt := 41) hx hb dX6_thingsOf_11 (by decide) (fun c_2 => ?_) (fun c_2 => ?_)
    · have h := ite_p c_2 h
      refine lv_iload_n hx hb dX6_thingsOf_41 rfl (lv_at hl 2 rfl) ?_
      exact xw_iret C rfl hW dX6_thingsOf_42 h
    have h := ite_n c_2 h
    refine lv_iload_n hx hb dX6_thingsOf_14 rfl (lv_at hl 2 rfl) ?_
    refine lv_aload_n hx hb dX6_thingsOf_15 rfl (lv_at hl 0 rfl) ?_
    refine wo_get (C := RX6) (T := TX6) (N := 14) hx hb hts iX6_thingsOf_6 hown hW kl_20_50_0 co_o rfl 4 (by decide) (hts _ mX6_thingsOf_l19) (fun _ h9 => h9) rfl dX6_thingsOf_16 ?_
    refine lv_bipush (v := 6) hx hb dX6_thingsOf_19 (by decide) ?_
    refine lv_iload_n hx hb dX6_thingsOf_21 rfl (lv_at hl 3 rfl) ?_
    refine lv_iadd hx hb dX6_thingsOf_22 ?_
    obtain ⟨hi_3, h⟩ := gi_s h
    refine xw_ald hx hb hW kl_20_4_0 rfl hi_3 dX6_thingsOf_23 ?_
    refine lv_iload_n hx hb dX6_thingsOf_24 rfl (lv_at hl 1 rfl) ?_
    refine lv_icmp_ne (tgt := 32) hx hb dX6_thingsOf_25 (by decide) (fun c_4 => ?_) (fun c_4 => ?_)
    · have h := ite_n c_4 h
      refine lv_iconst (v := 0) hx hb dX6_thingsOf_32 (by decide) ?_
      exact tX6_thingsOf_b33 C h4 hW (lv_sub hl [0, 1, 3] rfl) h
    have h := ite_p c_4 h
    refine lv_iconst (v := 1) hx hb dX6_thingsOf_28 (by decide) ?_
    refine lv_goto (tgt := 33) hx hb dX6_thingsOf_29 (by decide) ?_
    exact tX6_thingsOf_b33 C h4 hW (lv_sub hl [0, 1, 3] rfl) h
set_option maxHeartbeats 4000000 in
set_option maxRecDepth 100000 in
theorem kX6_thingsOf (l : Launch) (D : va_G) (g : G3) (ad : Ky → Nat) {v1 : Int32} {μ μ' : Mem} {r : Int32} (h : X6_thingsOf v1 μ = some (r, μ')) : CtI l yX6_thingsOf wsX6_thingsOf rX6_thingsOf D (tysX g) keysM ad (cX g ad) [.ref (ad (20, 50, 0)), .int v1] μ r μ' := by
  refine ctI_of (cc := cX6_thingsOf) (maxL := 4) (ret := (some .int)) keysM_nd (by decide) rfl (Nat.le_of_ble_eq_true rfl) (fun p e s m below meth c A ls C hW hl => ?_)
  have hl : lv_has ls 4 [(0, .ref (ad (20, 50, 0))), (1, .int v1)] := hl
  obtain ⟨hx, hb, hr, hts, hown, hlocks, hml, hA⟩ := id C
  refine lv_iconst (v := 0) hx hb dX6_thingsOf_0 (by decide) ?_
  refine lv_istore_n (lv' := [(2, .int 0), (0, .ref (ad (20, 50, 0))), (1, .int v1)]) hx hb dX6_thingsOf_1 rfl hl (by decide) rfl (fun ls hl => ?_)
  refine lv_iconst (v := 0) hx hb dX6_thingsOf_2 (by decide) ?_
  refine lv_istore_n (lv' := [(3, .int 0), (2, .int 0), (0, .ref (ad (20, 50, 0))), (1, .int v1)]) hx hb dX6_thingsOf_3 rfl hl (by decide) rfl (fun ls hl => ?_)
  exact tX6_thingsOf_b4 C 1000 _ _ _ _ _ _ hW (lv_sub hl [2, 3, 1, 0] rfl) h
abbrev rX6_person : Room := { frames := 2, cells := 0, slots := 0, locals := 43 }
theorem mX6_person_l19 : Cond.fieldLink RX6 19 "NearlyBoughtModel" "s" "[I" ∈ wsX6_person := by decide +kernel
theorem mX6_person_l13 : Cond.fieldLink RX6 13 "NearlyBoughtModel" "told" "[I" ∈ wsX6_person := by decide +kernel
theorem iX6_person_6 : ∀ w ∈ wsX60, w ∈ wsX6_person := fun _ h => List.mem_cons_of_mem _ (List.mem_append_right _ h)
set_option maxHeartbeats 4000000 in
set_option maxRecDepth 100000 in
theorem tX6_person_b63 {p : Program} {l : Launch} {e : Env} {s : State} {m : MethodId} {args : Array Value} {below : List Frame} {meth : Method} {c : Code} {A : Nat → Prop} {D : va_G} {g : G3} {ad : Ky → Nat} (C : Cx p s m args meth c cX6_person (some .int) 5 RX6 wsX6_person A) {r0 : Int32} {μ0 : Mem} {v1 v2 v4 s0 s1 : Int32} {k20 : Int32 → Int32 → Mem → Option (Int32 × Mem)} (h20 : ∀ (v3 v4 : Int32) (μ : Mem) (H : Heap) (locs : List Loc) (ls : Array Slot), WX D g keysM ad A s s.heap μ H locs → lv_has ls 5 [(0, .ref (ad (20, 50, 0))), (1, .int v1), (2, .int v2), (3, .int v3), (4, .int v4)] → k20 v3 v4 μ = some (r0, μ0) → TgI r0 p l e rX6_person s m args below meth c D g keysM ad A μ0 H locs (F0 m 20 ls [])) {μ : Mem} {H : Heap} {locs : List Loc} {ls : Array Slot} (hW : WX D g keysM ad A s s.heap μ H locs) (hl : lv_has ls 5 [(0, .ref (ad (20, 50, 0))), (1, .int v1), (2, .int v2), (4, .int v4)]) (h : X6_person_b63 k20 v1 v2 v4 s0 s1 μ = some (r0, μ0)) : TgI r0 p l e rX6_person s m args below meth c D g keysM ad A μ0 H locs (F0 m 63 ls [.int s1, .int s0]) := by
  obtain ⟨hx, hb, hr, hts, hown, hlocks, hml, hA⟩ := id C
  refine lv_iadd hx hb dX6_person_63 ?_
  refine lv_istore_n (lv' := [(3, .int (s0 + s1)), (0, .ref (ad (20, 50, 0))), (1, .int v1), (2, .int v2), (4, .int v4)]) hx hb dX6_person_64 rfl hl (by decide) rfl (fun ls hl => ?_)
  refine lv_iinc (v := v4 + 1) (lv' := [(4, .int (v4 + 1)), (3, .int (s0 + s1)), (0, .ref (ad (20, 50, 0))), (1, .int v1), (2, .int v2)]) hx hb dX6_person_65 hl (k := 4) rfl rfl (by decide) rfl (fun ls hl => ?_)
  refine lv_goto (tgt := 20) hx hb dX6_person_68 (by decide) ?_
  exact h20 _ _ _ _ _ _ hW (lv_sub hl [2, 3, 4, 1, 0] rfl) h
set_option maxHeartbeats 4000000 in
set_option maxRecDepth 100000 in
theorem tX6_person_b20 {p : Program} {l : Launch} {e : Env} {s : State} {m : MethodId} {args : Array Value} {below : List Frame} {meth : Method} {c : Code} {A : Nat → Prop} {D : va_G} {g : G3} {ad : Ky → Nat} (C : Cx p s m args meth c cX6_person (some .int) 5 RX6 wsX6_person A) {r0 : Int32} {μ0 : Mem} {v1 v2 : Int32} (n : Nat) : ∀ (v3 v4 : Int32) (μ : Mem) (H : Heap) (locs : List Loc) (ls : Array Slot), WX D g keysM ad A s s.heap μ H locs → lv_has ls 5 [(0, .ref (ad (20, 50, 0))), (1, .int v1), (2, .int v2), (3, .int v3), (4, .int v4)] → lo2 (X6_person_b20 v1 v2) n v3 v4 μ = some (r0, μ0) → TgI r0 p l e rX6_person s m args below meth c D g keysM ad A μ0 H locs (F0 m 20 ls []) := by
  obtain ⟨hx, hb, hr, hts, hown, hlocks, hml, hA⟩ := id C
  induction n with
  | zero =>
    intro v3 v4 μ H locs ls hW hl h
    cases h
  | succ n h20 =>
    intro v3 v4 μ H locs ls hW hl h
    have h : X6_person_b20 v1 v2 (lo2 (X6_person_b20 v1 v2) n) v3 v4 μ = some (r0, μ0) := h
    refine lv_iload hx hb dX6_person_20 (lv_at hl 4 rfl) ?_
    refine lv_aload_n hx hb dX6_person_22 rfl (lv_at hl 0 rfl) ?_
    refine wo_get (C := RX6) (T := TX6) (N := 14) hx hb hts iX6_person_6 hown hW kl_20_50_0 co_o rfl 2 (by decide) (hts _ mX6_person_l13) (fun _ h9 => h9) rfl dX6_person_23 ?_
    refine lv_iconst (v := 1) hx hb dX6_person_26 (by decide) ?_
    obtain ⟨hi_6, h⟩ := gi_s h
    refine xw_ald hx hb hW kl_20_2_0 rfl hi_6 dX6_person_27 ?_
    refine lv_icmp_ge (tgt := 71) hx hb dX6_person_28 (by decide) (fun c_7 => ?_) (fun c_7 => ?_)
    · have h := ite_p c_7 h
      refine lv_iload_n hx hb dX6_person_71 rfl (lv_at hl 2 rfl) ?_
      by_cases c_8 : v2 = 0
      · have h := ite_p c_8 h
        refine lv_tableIn (off := 32) (tgt := 104) hx hb dX6_person_72 (by rw [c_8]; decide) (by rw [c_8]; decide) (by rw [c_8]; rfl) (by decide) ?_
        refine lv_aload_n hx hb dX6_person_104 rfl (lv_at hl 0 rfl) ?_
        refine wo_get (C := RX6) (T := TX6) (N := 14) hx hb hts iX6_person_6 hown hW kl_20_50_0 co_o rfl 2 (by decide) (hts _ mX6_person_l13) (fun _ h9 => h9) rfl dX6_person_105 ?_
        refine lv_iconst (v := 5) hx hb dX6_person_108 (by decide) ?_
        refine lv_iload_n hx hb dX6_person_109 rfl (lv_at hl 1 rfl) ?_
        refine lv_iadd hx hb dX6_person_110 ?_
        obtain ⟨hi_9, h⟩ := gi_s h
        refine xw_ald hx hb hW kl_20_2_0 rfl hi_9 dX6_person_111 ?_
        exact xw_iret C rfl hW dX6_person_112 h
      have h := ite_n c_8 h
      by_cases c_10 : v2 = 1
      · have h := ite_p c_10 h
        refine lv_tableIn (off := 41) (tgt := 113) hx hb dX6_person_72 (by rw [c_10]; decide) (by rw [c_10]; decide) (by rw [c_10]; rfl) (by decide) ?_
        refine lv_aload_n hx hb dX6_person_113 rfl (lv_at hl 0 rfl) ?_
        refine wo_get (C := RX6) (T := TX6) (N := 14) hx hb hts iX6_person_6 hown hW kl_20_50_0 co_o rfl 4 (by decide) (hts _ mX6_person_l19) (fun _ h9 => h9) rfl dX6_person_114 ?_
        refine lv_iload_n hx hb dX6_person_117 rfl (lv_at hl 1 rfl) ?_
        obtain ⟨hi_11, h⟩ := gi_s h
        refine xw_ald hx hb hW kl_20_4_0 rfl hi_11 dX6_person_118 ?_
        exact xw_iret C rfl hW dX6_person_119 h
      have h := ite_n c_10 h
      by_cases c_12 : v2 = 2
      · have h := ite_p c_12 h
        refine lv_tableIn (off := 48) (tgt := 120) hx hb dX6_person_72 (by rw [c_12]; decide) (by rw [c_12]; decide) (by rw [c_12]; rfl) (by decide) ?_
        refine lv_aload_n hx hb dX6_person_120 rfl (lv_at hl 0 rfl) ?_
        refine lv_iload_n hx hb dX6_person_121 rfl (lv_at hl 1 rfl) ?_
        obtain ⟨r_15, μ_14, hh_13, h⟩ := bd_s h
        refine wo_Vi (rest := []) C hW (kX6_thingsOf l D g ad  hh_13) (cwV 1 hts gX6_person_X6_thingsOf rfl rfl rfl (by decide +kernel) ⟨Nat.le_of_ble_eq_true rfl, Nat.le_of_ble_eq_true rfl⟩) kl_20_50_0 co_o rfl rfl hl.1 rfl (Nat.le_of_ble_eq_true rfl) dX6_person_122 ⟨Nat.zero_le _, Nat.zero_le _⟩ (fun H locs hW => ?_)
        exact xw_iret C rfl hW dX6_person_125 h
      have h := ite_n c_12 h
      by_cases c_16 : v2 = 3
      · have h := ite_p c_16 h
        refine lv_tableIn (off := 54) (tgt := 126) hx hb dX6_person_72 (by rw [c_16]; decide) (by rw [c_16]; decide) (by rw [c_16]; rfl) (by decide) ?_
        refine lv_iload_n hx hb dX6_person_126 rfl (lv_at hl 3 rfl) ?_
        exact xw_iret C rfl hW dX6_person_127 h
      have h := ite_n c_16 h
      have t_17 := ne_ti (k := 0) rfl c_8
      have t_18 := ne_ti (k := 1) rfl c_10
      have t_19 := ne_ti (k := 2) rfl c_12
      have t_20 := ne_ti (k := 3) rfl c_16
      refine lv_tableOut (tgt := 128) hx hb dX6_person_72 (by omega) (by decide) ?_
      refine lv_iconst (v := (-1)) hx hb dX6_person_128 (by decide) ?_
      exact xw_iret C rfl hW dX6_person_129 h
    have h := ite_n c_7 h
    refine lv_iload_n hx hb dX6_person_31 rfl (lv_at hl 3 rfl) ?_
    refine lv_aload_n hx hb dX6_person_32 rfl (lv_at hl 0 rfl) ?_
    refine wo_get (C := RX6) (T := TX6) (N := 14) hx hb hts iX6_person_6 hown hW kl_20_50_0 co_o rfl 4 (by decide) (hts _ mX6_person_l19) (fun _ h9 => h9) rfl dX6_person_33 ?_
    refine lv_bipush (v := 6) hx hb dX6_person_36 (by decide) ?_
    refine lv_iload hx hb dX6_person_38 (lv_at hl 4 rfl) ?_
    refine lv_iadd hx hb dX6_person_40 ?_
    obtain ⟨hi_21, h⟩ := gi_s h
    refine xw_ald hx hb hW kl_20_4_0 rfl hi_21 dX6_person_41 ?_
    refine lv_iload_n hx hb dX6_person_42 rfl (lv_at hl 1 rfl) ?_
    refine lv_icmp_ne (tgt := 62) hx hb dX6_person_43 (by decide) (fun c_22 => ?_) (fun c_22 => ?_)
    · have h := ite_n c_22 h
      refine lv_iconst (v := 0) hx hb dX6_person_62 (by decide) ?_
      exact tX6_person_b63 C h20 hW (lv_sub hl [0, 1, 2, 4] rfl) h
    have h := ite_p c_22 h
    refine lv_aload_n hx hb dX6_person_46 rfl (lv_at hl 0 rfl) ?_
    refine lv_iload hx hb dX6_person_47 (lv_at hl 4 rfl) ?_
    refine lv_aload_n hx hb dX6_person_49 rfl (lv_at hl 0 rfl) ?_
    refine wo_get (C := RX6) (T := TX6) (N := 14) hx hb hts iX6_person_6 hown hW kl_20_50_0 co_o rfl 4 (by decide) (hts _ mX6_person_l19) (fun _ h9 => h9) rfl dX6_person_50 ?_
    refine lv_bipush (v := 54) hx hb dX6_person_53 (by decide) ?_
    obtain ⟨hi_23, h⟩ := gi_s h
    refine xw_ald hx hb hW kl_20_4_0 rfl hi_23 dX6_person_55 ?_
    obtain ⟨r_26, μ_25, hh_24, h⟩ := bd_s h
    refine wo_Vi (rest := [.int v3]) C hW (kX6_costs l D g ad  hh_24) (cwV 2 hts gX6_person_X6_costs rfl rfl rfl (by decide +kernel) ⟨Nat.le_of_ble_eq_true rfl, Nat.le_of_ble_eq_true rfl⟩) kl_20_50_0 co_o rfl rfl hl.1 rfl (Nat.le_of_ble_eq_true rfl) dX6_person_56 ⟨Nat.zero_le _, Nat.zero_le _⟩ (fun H locs hW => ?_)
    refine lv_goto (tgt := 63) hx hb dX6_person_59 (by decide) ?_
    exact tX6_person_b63 C h20 hW (lv_sub hl [0, 1, 2, 4] rfl) h
set_option maxHeartbeats 4000000 in
set_option maxRecDepth 100000 in
theorem kX6_person (l : Launch) (D : va_G) (g : G3) (ad : Ky → Nat) {v1 v2 : Int32} {μ μ' : Mem} {r : Int32} (h : X6_person v1 v2 μ = some (r, μ')) : CtI l yX6_person wsX6_person rX6_person D (tysX g) keysM ad (cX g ad) [.ref (ad (20, 50, 0)), .int v1, .int v2] μ r μ' := by
  refine ctI_of (cc := cX6_person) (maxL := 5) (ret := (some .int)) keysM_nd (by decide) rfl (Nat.le_of_ble_eq_true rfl) (fun p e s m below meth c A ls C hW hl => ?_)
  have hl : lv_has ls 5 [(0, .ref (ad (20, 50, 0))), (1, .int v1), (2, .int v2)] := hl
  obtain ⟨hx, hb, hr, hts, hown, hlocks, hml, hA⟩ := id C
  refine lv_aload_n hx hb dX6_person_0 rfl (lv_at hl 0 rfl) ?_
  refine lv_iload_n hx hb dX6_person_1 rfl (lv_at hl 1 rfl) ?_
  obtain ⟨r_3, μ_2, hh_1, h⟩ := bd_s h
  refine wo_Vi (rest := []) C hW (kX6_isPerson l D g ad  hh_1) (cwV 1 hts gX6_person_X6_isPerson rfl rfl rfl (by decide +kernel) ⟨Nat.le_of_ble_eq_true rfl, Nat.le_of_ble_eq_true rfl⟩) kl_20_50_0 co_o rfl rfl hl.1 rfl (Nat.le_of_ble_eq_true rfl) dX6_person_2 ⟨Nat.zero_le _, Nat.zero_le _⟩ (fun H locs hW => ?_)
  refine lv_if_ne (tgt := 10) hx hb dX6_person_5 (by decide) (fun c_4 => ?_) (fun c_4 => ?_)
  · have h := ite_n c_4 h
    refine lv_aload_n hx hb dX6_person_10 rfl (lv_at hl 0 rfl) ?_
    refine wo_get (C := RX6) (T := TX6) (N := 14) hx hb hts iX6_person_6 hown hW kl_20_50_0 co_o rfl 4 (by decide) (hts _ mX6_person_l19) (fun _ h9 => h9) rfl dX6_person_11 ?_
    refine lv_iload_n hx hb dX6_person_14 rfl (lv_at hl 1 rfl) ?_
    obtain ⟨hi_5, h⟩ := gi_s h
    refine xw_ald hx hb hW kl_20_4_0 rfl hi_5 dX6_person_15 ?_
    refine lv_istore_n (lv' := [(3, .int (μ_2 20 4 0 v1.toNatClampNeg)), (0, .ref (ad (20, 50, 0))), (1, .int v1), (2, .int v2)]) hx hb dX6_person_16 rfl hl (by decide) rfl (fun ls hl => ?_)
    refine lv_iconst (v := 0) hx hb dX6_person_17 (by decide) ?_
    refine lv_istore (lv' := [(4, .int 0), (3, .int (μ_2 20 4 0 v1.toNatClampNeg)), (0, .ref (ad (20, 50, 0))), (1, .int v1), (2, .int v2)]) hx hb dX6_person_18 hl (by decide) rfl (fun ls hl => ?_)
    exact tX6_person_b20 C 1000 _ _ _ _ _ _ hW (lv_sub hl [2, 3, 4, 1, 0] rfl) h
  have h := ite_p c_4 h
  refine lv_iconst (v := (-1)) hx hb dX6_person_8 (by decide) ?_
  exact xw_iret C rfl hW dX6_person_9 h
abbrev rX6_rank : Room := { frames := 4, cells := 0, slots := 0, locals := 90 }
theorem mX6_rank_l13 : Cond.fieldLink RX6 13 "NearlyBoughtModel" "told" "[I" ∈ wsX6_rank := by decide +kernel
theorem iX6_rank_6 : ∀ w ∈ wsX60, w ∈ wsX6_rank := fun _ h => List.mem_cons_of_mem _ (List.mem_append_right _ h)
set_option maxHeartbeats 4000000 in
set_option maxRecDepth 100000 in
theorem tX6_rank_b149 {p : Program} {l : Launch} {e : Env} {s : State} {m : MethodId} {args : Array Value} {below : List Frame} {meth : Method} {c : Code} {A : Nat → Prop} {D : va_G} {g : G3} {ad : Ky → Nat} (C : Cx p s m args meth c cX6_rank (some .int) 8 RX6 wsX6_rank A) {r0 : Int32} {μ0 : Mem} {v1 v2 v4 s0 : Int32} {k20 : Int32 → Int32 → Mem → Option (Int32 × Mem)} (h20 : ∀ (v3 v4 : Int32) (μ : Mem) (H : Heap) (locs : List Loc) (ls : Array Slot), WX D g keysM ad A s s.heap μ H locs → lv_has ls 8 [(0, .ref (ad (20, 50, 0))), (1, .int v1), (2, .int v2), (3, .int v3), (4, .int v4)] → k20 v3 v4 μ = some (r0, μ0) → TgI r0 p l e rX6_rank s m args below meth c D g keysM ad A μ0 H locs (F0 m 20 ls [])) {μ : Mem} {H : Heap} {locs : List Loc} {ls : Array Slot} (hW : WX D g keysM ad A s s.heap μ H locs) (hl : lv_has ls 8 [(0, .ref (ad (20, 50, 0))), (1, .int v1), (2, .int v2), (4, .int v4)]) (h : X6_rank_b149 k20 v1 v2 v4 s0 μ = some (r0, μ0)) : TgI r0 p l e rX6_rank s m args below meth c D g keysM ad A μ0 H locs (F0 m 149 ls [.int s0]) := by
  obtain ⟨hx, hb, hr, hts, hown, hlocks, hml, hA⟩ := id C
  refine lv_istore_n (lv' := [(3, .int s0), (0, .ref (ad (20, 50, 0))), (1, .int v1), (2, .int v2), (4, .int v4)]) hx hb dX6_rank_149 rfl hl (by decide) rfl (fun ls hl => ?_)
  refine lv_iinc (v := v4 + 1) (lv' := [(4, .int (v4 + 1)), (3, .int s0), (0, .ref (ad (20, 50, 0))), (1, .int v1), (2, .int v2)]) hx hb dX6_rank_150 hl (k := 4) rfl rfl (by decide) rfl (fun ls hl => ?_)
  refine lv_goto (tgt := 20) hx hb dX6_rank_153 (by decide) ?_
  exact h20 _ _ _ _ _ _ hW (lv_sub hl [2, 3, 4, 1, 0] rfl) h
set_option maxHeartbeats 4000000 in
set_option maxRecDepth 100000 in
theorem tX6_rank_b148 {p : Program} {l : Launch} {e : Env} {s : State} {m : MethodId} {args : Array Value} {below : List Frame} {meth : Method} {c : Code} {A : Nat → Prop} {D : va_G} {g : G3} {ad : Ky → Nat} (C : Cx p s m args meth c cX6_rank (some .int) 8 RX6 wsX6_rank A) {r0 : Int32} {μ0 : Mem} {v1 v2 v3 v4 : Int32} {k20 : Int32 → Int32 → Mem → Option (Int32 × Mem)} (h20 : ∀ (v3 v4 : Int32) (μ : Mem) (H : Heap) (locs : List Loc) (ls : Array Slot), WX D g keysM ad A s s.heap μ H locs → lv_has ls 8 [(0, .ref (ad (20, 50, 0))), (1, .int v1), (2, .int v2), (3, .int v3), (4, .int v4)] → k20 v3 v4 μ = some (r0, μ0) → TgI r0 p l e rX6_rank s m args below meth c D g keysM ad A μ0 H locs (F0 m 20 ls [])) {μ : Mem} {H : Heap} {locs : List Loc} {ls : Array Slot} (hW : WX D g keysM ad A s s.heap μ H locs) (hl : lv_has ls 8 [(0, .ref (ad (20, 50, 0))), (1, .int v1), (2, .int v2), (3, .int v3), (4, .int v4)]) (h : X6_rank_b148 k20 v1 v2 v3 v4 μ = some (r0, μ0)) : TgI r0 p l e rX6_rank s m args below meth c D g keysM ad A μ0 H locs (F0 m 148 ls []) := by
  obtain ⟨hx, hb, hr, hts, hown, hlocks, hml, hA⟩ := id C
  refine lv_iload_n hx hb dX6_rank_148 rfl (lv_at hl 3 rfl) ?_
  exact tX6_rank_b149 C h20 hW (lv_sub hl [0, 1, 2, 4] rfl) h
set_option maxHeartbeats 4000000 in
set_option maxRecDepth 100000 in
theorem tX6_rank_b118 {p : Program} {l : Launch} {e : Env} {s : State} {m : MethodId} {args : Array Value} {below : List Frame} {meth : Method} {c : Code} {A : Nat → Prop} {D : va_G} {g : G3} {ad : Ky → Nat} (C : Cx p s m args meth c cX6_rank (some .int) 8 RX6 wsX6_rank A) {r0 : Int32} {μ0 : Mem} {v1 v2 v3 v4 v6 s0 s1 : Int32} {k20 : Int32 → Int32 → Mem → Option (Int32 × Mem)} (h20 : ∀ (v3 v4 : Int32) (μ : Mem) (H : Heap) (locs : List Loc) (ls : Array Slot), WX D g keysM ad A s s.heap μ H locs → lv_has ls 8 [(0, .ref (ad (20, 50, 0))), (1, .int v1), (2, .int v2), (3, .int v3), (4, .int v4)] → k20 v3 v4 μ = some (r0, μ0) → TgI r0 p l e rX6_rank s m args below meth c D g keysM ad A μ0 H locs (F0 m 20 ls [])) {k37 : Int32 → Int32 → Mem → Option (Int32 × Mem)} (h37 : ∀ (v5 v6 : Int32) (μ : Mem) (H : Heap) (locs : List Loc) (ls : Array Slot), WX D g keysM ad A s s.heap μ H locs → lv_has ls 8 [(0, .ref (ad (20, 50, 0))), (1, .int v1), (2, .int v2), (3, .int v3), (4, .int v4), (5, .int v5), (6, .int v6)] → k37 v5 v6 μ = some (r0, μ0) → TgI r0 p l e rX6_rank s m args below meth c D g keysM ad A μ0 H locs (F0 m 37 ls [])) {μ : Mem} {H : Heap} {locs : List Loc} {ls : Array Slot} (hW : WX D g keysM ad A s s.heap μ H locs) (hl : lv_has ls 8 [(0, .ref (ad (20, 50, 0))), (1, .int v1), (2, .int v2), (3, .int v3), (4, .int v4), (6, .int v6)]) (h : X6_rank_b118 k20 k37 v1 v2 v3 v4 v6 s0 s1 μ = some (r0, μ0)) : TgI r0 p l e rX6_rank s m args below meth c D g keysM ad A μ0 H locs (F0 m 118 ls [.int s1, .int s0]) := by
  obtain ⟨hx, hb, hr, hts, hown, hlocks, hml, hA⟩ := id C
  refine lv_iadd hx hb dX6_rank_118 ?_
  refine lv_istore (lv' := [(5, .int (s0 + s1)), (0, .ref (ad (20, 50, 0))), (1, .int v1), (2, .int v2), (3, .int v3), (4, .int v4), (6, .int v6)]) hx hb dX6_rank_119 hl (by decide) rfl (fun ls hl => ?_)
  refine lv_iinc (v := v6 + 1) (lv' := [(6, .int (v6 + 1)), (5, .int (s0 + s1)), (0, .ref (ad (20, 50, 0))), (1, .int v1), (2, .int v2), (3, .int v3), (4, .int v4)]) hx hb dX6_rank_121 hl (k := 6) rfl rfl (by decide) rfl (fun ls hl => ?_)
  refine lv_goto (tgt := 37) hx hb dX6_rank_124 (by decide) ?_
  exact h37 _ _ _ _ _ _ hW (lv_sub hl [2, 3, 4, 5, 6, 1, 0] rfl) h
set_option maxHeartbeats 4000000 in
set_option maxRecDepth 100000 in
theorem tX6_rank_b104 {p : Program} {l : Launch} {e : Env} {s : State} {m : MethodId} {args : Array Value} {below : List Frame} {meth : Method} {c : Code} {A : Nat → Prop} {D : va_G} {g : G3} {ad : Ky → Nat} (C : Cx p s m args meth c cX6_rank (some .int) 8 RX6 wsX6_rank A) {r0 : Int32} {μ0 : Mem} {v1 v2 v3 v4 v5 v6 s0 : Int32} {k20 : Int32 → Int32 → Mem → Option (Int32 × Mem)} (h20 : ∀ (v3 v4 : Int32) (μ : Mem) (H : Heap) (locs : List Loc) (ls : Array Slot), WX D g keysM ad A s s.heap μ H locs → lv_has ls 8 [(0, .ref (ad (20, 50, 0))), (1, .int v1), (2, .int v2), (3, .int v3), (4, .int v4)] → k20 v3 v4 μ = some (r0, μ0) → TgI r0 p l e rX6_rank s m args below meth c D g keysM ad A μ0 H locs (F0 m 20 ls [])) {k37 : Int32 → Int32 → Mem → Option (Int32 × Mem)} (h37 : ∀ (v5 v6 : Int32) (μ : Mem) (H : Heap) (locs : List Loc) (ls : Array Slot), WX D g keysM ad A s s.heap μ H locs → lv_has ls 8 [(0, .ref (ad (20, 50, 0))), (1, .int v1), (2, .int v2), (3, .int v3), (4, .int v4), (5, .int v5), (6, .int v6)] → k37 v5 v6 μ = some (r0, μ0) → TgI r0 p l e rX6_rank s m args below meth c D g keysM ad A μ0 H locs (F0 m 37 ls [])) {μ : Mem} {H : Heap} {locs : List Loc} {ls : Array Slot} (hW : WX D g keysM ad A s s.heap μ H locs) (hl : lv_has ls 8 [(0, .ref (ad (20, 50, 0))), (1, .int v1), (2, .int v2), (3, .int v3), (4, .int v4), (5, .int v5), (6, .int v6)]) (h : X6_rank_b104 k20 k37 v1 v2 v3 v4 v5 v6 s0 μ = some (r0, μ0)) : TgI r0 p l e rX6_rank s m args below meth c D g keysM ad A μ0 H locs (F0 m 104 ls [.int s0]) := by
  obtain ⟨hx, hb, hr, hts, hown, hlocks, hml, hA⟩ := id C
  refine lv_istore (lv' := [(7, .int s0), (0, .ref (ad (20, 50, 0))), (1, .int v1), (2, .int v2), (3, .int v3), (4, .int v4), (5, .int v5), (6, .int v6)]) hx hb dX6_rank_104 hl (by decide) rfl (fun ls hl => ?_)
  refine lv_iload hx hb dX6_rank_106 (lv_at hl 6 rfl) ?_
  refine lv_iload hx hb dX6_rank_108 (lv_at hl 0 rfl) ?_
  refine lv_if_eq (tgt := 117) hx hb dX6_rank_110 (by decide) (fun c_19 => ?_) (fun c_19 => ?_)
  · have h := ite_p c_19 h
    refine lv_iconst (v := 0) hx hb dX6_rank_117 (by decide) ?_
    exact tX6_rank_b118 C h20 h37 hW (lv_sub hl [1, 2, 3, 4, 5, 7] rfl) h
  have h := ite_n c_19 h
  refine lv_iconst (v := 1) hx hb dX6_rank_113 (by decide) ?_
  refine lv_goto (tgt := 118) hx hb dX6_rank_114 (by decide) ?_
  exact tX6_rank_b118 C h20 h37 hW (lv_sub hl [1, 2, 3, 4, 5, 7] rfl) h
set_option maxHeartbeats 4000000 in
set_option maxRecDepth 100000 in
theorem tX6_rank_b103 {p : Program} {l : Launch} {e : Env} {s : State} {m : MethodId} {args : Array Value} {below : List Frame} {meth : Method} {c : Code} {A : Nat → Prop} {D : va_G} {g : G3} {ad : Ky → Nat} (C : Cx p s m args meth c cX6_rank (some .int) 8 RX6 wsX6_rank A) {r0 : Int32} {μ0 : Mem} {v1 v2 v3 v4 v5 v6 : Int32} {k20 : Int32 → Int32 → Mem → Option (Int32 × Mem)} (h20 : ∀ (v3 v4 : Int32) (μ : Mem) (H : Heap) (locs : List Loc) (ls : Array Slot), WX D g keysM ad A s s.heap μ H locs → lv_has ls 8 [(0, .ref (ad (20, 50, 0))), (1, .int v1), (2, .int v2), (3, .int v3), (4, .int v4)] → k20 v3 v4 μ = some (r0, μ0) → TgI r0 p l e rX6_rank s m args below meth c D g keysM ad A μ0 H locs (F0 m 20 ls [])) {k37 : Int32 → Int32 → Mem → Option (Int32 × Mem)} (h37 : ∀ (v5 v6 : Int32) (μ : Mem) (H : Heap) (locs : List Loc) (ls : Array Slot), WX D g keysM ad A s s.heap μ H locs → lv_has ls 8 [(0, .ref (ad (20, 50, 0))), (1, .int v1), (2, .int v2), (3, .int v3), (4, .int v4), (5, .int v5), (6, .int v6)] → k37 v5 v6 μ = some (r0, μ0) → TgI r0 p l e rX6_rank s m args below meth c D g keysM ad A μ0 H locs (F0 m 37 ls [])) {μ : Mem} {H : Heap} {locs : List Loc} {ls : Array Slot} (hW : WX D g keysM ad A s s.heap μ H locs) (hl : lv_has ls 8 [(0, .ref (ad (20, 50, 0))), (1, .int v1), (2, .int v2), (3, .int v3), (4, .int v4), (5, .int v5), (6, .int v6)]) (h : X6_rank_b103 k20 k37 v1 v2 v3 v4 v5 v6 μ = some (r0, μ0)) : TgI r0 p l e rX6_rank s m args below meth c D g keysM ad A μ0 H locs (F0 m 103 ls []) := by
  obtain ⟨hx, hb, hr, hts, hown, hlocks, hml, hA⟩ := id C
  refine lv_iconst (v := 0) hx hb dX6_rank_103 (by decide) ?_
  exact tX6_rank_b104 C h20 h37 hW (lv_sub hl [0, 1, 2, 3, 4, 5, 6] rfl) h
set_option maxHeartbeats 4000000 in
set_option maxRecDepth 100000 in
theorem tX6_rank_b99 {p : Program} {l : Launch} {e : Env} {s : State} {m : MethodId} {args : Array Value} {below : List Frame} {meth : Method} {c : Code} {A : Nat → Prop} {D : va_G} {g : G3} {ad : Ky → Nat} (C : Cx p s m args meth c cX6_rank (some .int) 8 RX6 wsX6_rank A) {r0 : Int32} {μ0 : Mem} {v1 v2 v3 v4 v5 v6 : Int32} {k20 : Int32 → Int32 → Mem → Option (Int32 × Mem)} (h20 : ∀ (v3 v4 : Int32) (μ : Mem) (H : Heap) (locs : List Loc) (ls : Array Slot), WX D g keysM ad A s s.heap μ H locs → lv_has ls 8 [(0, .ref (ad (20, 50, 0))), (1, .int v1), (2, .int v2), (3, .int v3), (4, .int v4)] → k20 v3 v4 μ = some (r0, μ0) → TgI r0 p l e rX6_rank s m args below meth c D g keysM ad A μ0 H locs (F0 m 20 ls [])) {k37 : Int32 → Int32 → Mem → Option (Int32 × Mem)} (h37 : ∀ (v5 v6 : Int32) (μ : Mem) (H : Heap) (locs : List Loc) (ls : Array Slot), WX D g keysM ad A s s.heap μ H locs → lv_has ls 8 [(0, .ref (ad (20, 50, 0))), (1, .int v1), (2, .int v2), (3, .int v3), (4, .int v4), (5, .int v5), (6, .int v6)] → k37 v5 v6 μ = some (r0, μ0) → TgI r0 p l e rX6_rank s m args below meth c D g keysM ad A μ0 H locs (F0 m 37 ls [])) {μ : Mem} {H : Heap} {locs : List Loc} {ls : Array Slot} (hW : WX D g keysM ad A s s.heap μ H locs) (hl : lv_has ls 8 [(0, .ref (ad (20, 50, 0))), (1, .int v1), (2, .int v2), (3, .int v3), (4, .int v4), (5, .int v5), (6, .int v6)]) (h : X6_rank_b99 k20 k37 v1 v2 v3 v4 v5 v6 μ = some (r0, μ0)) : TgI r0 p l e rX6_rank s m args below meth c D g keysM ad A μ0 H locs (F0 m 99 ls []) := by
  obtain ⟨hx, hb, hr, hts, hown, hlocks, hml, hA⟩ := id C
  refine lv_iconst (v := 1) hx hb dX6_rank_99 (by decide) ?_
  refine lv_goto (tgt := 104) hx hb dX6_rank_100 (by decide) ?_
  exact tX6_rank_b104 C h20 h37 hW (lv_sub hl [0, 1, 2, 3, 4, 5, 6] rfl) h
set_option maxHeartbeats 4000000 in
set_option maxRecDepth 100000 in
theorem tX6_rank_b37 {p : Program} {l : Launch} {e : Env} {s : State} {m : MethodId} {args : Array Value} {below : List Frame} {meth : Method} {c : Code} {A : Nat → Prop} {D : va_G} {g : G3} {ad : Ky → Nat} (C : Cx p s m args meth c cX6_rank (some .int) 8 RX6 wsX6_rank A) {r0 : Int32} {μ0 : Mem} {v1 v2 v3 v4 : Int32} {k20 : Int32 → Int32 → Mem → Option (Int32 × Mem)} (h20 : ∀ (v3 v4 : Int32) (μ : Mem) (H : Heap) (locs : List Loc) (ls : Array Slot), WX D g keysM ad A s s.heap μ H locs → lv_has ls 8 [(0, .ref (ad (20, 50, 0))), (1, .int v1), (2, .int v2), (3, .int v3), (4, .int v4)] → k20 v3 v4 μ = some (r0, μ0) → TgI r0 p l e rX6_rank s m args below meth c D g keysM ad A μ0 H locs (F0 m 20 ls [])) (n : Nat) : ∀ (v5 v6 : Int32) (μ : Mem) (H : Heap) (locs : List Loc) (ls : Array Slot), WX D g keysM ad A s s.heap μ H locs → lv_has ls 8 [(0, .ref (ad (20, 50, 0))), (1, .int v1), (2, .int v2), (3, .int v3), (4, .int v4), (5, .int v5), (6, .int v6)] → lo2 (X6_rank_b37 k20 v1 v2 v3 v4) n v5 v6 μ = some (r0, μ0) → TgI r0 p l e rX6_rank s m args below meth c D g keysM ad A μ0 H locs (F0 m 37 ls []) := by
  obtain ⟨hx, hb, hr, hts, hown, hlocks, hml, hA⟩ := id C
  induction n with
  | zero =>
    intro v5 v6 μ H locs ls hW hl h
    cases h
  | succ n h37 =>
    intro v5 v6 μ H locs ls hW hl h
    have h : X6_rank_b37 k20 v1 v2 v3 v4 (lo2 (X6_rank_b37 k20 v1 v2 v3 v4) n) v5 v6 μ = some (r0, μ0) := h
    refine lv_iload hx hb dX6_rank_37 (lv_at hl 6 rfl) ?_
    refine lv_aload_n hx hb dX6_rank_39 rfl (lv_at hl 0 rfl) ?_
    refine wo_get (C := RX6) (T := TX6) (N := 14) hx hb hts iX6_rank_6 hown hW kl_20_50_0 co_o rfl 2 (by decide) (hts _ mX6_rank_l13) (fun _ h9 => h9) rfl dX6_rank_40 ?_
    refine lv_iconst (v := 1) hx hb dX6_rank_43 (by decide) ?_
    obtain ⟨hi_8, h⟩ := gi_s h
    refine xw_ald hx hb hW kl_20_2_0 rfl hi_8 dX6_rank_44 ?_
    refine lv_icmp_ge (tgt := 127) hx hb dX6_rank_45 (by decide) (fun c_9 => ?_) (fun c_9 => ?_)
    · have h := ite_p c_9 h
      refine lv_aload_n hx hb dX6_rank_127 rfl (lv_at hl 0 rfl) ?_
      refine lv_iload_n hx hb dX6_rank_128 rfl (lv_at hl 1 rfl) ?_
      refine lv_iload hx hb dX6_rank_129 (lv_at hl 4 rfl) ?_
      obtain ⟨r_12, μ_11, hh_10, h⟩ := bd_s h
      refine wo_Vi (rest := []) C hW (kX6_isNearly l D g ad  hh_10) (cwV 2 hts gX6_rank_X6_isNearly rfl rfl rfl (by decide +kernel) ⟨Nat.le_of_ble_eq_true rfl, Nat.le_of_ble_eq_true rfl⟩) kl_20_50_0 co_o rfl rfl hl.1 rfl (Nat.le_of_ble_eq_true rfl) dX6_rank_131 ⟨Nat.zero_le _, Nat.zero_le _⟩ (fun H locs hW => ?_)
      refine lv_if_eq (tgt := 148) hx hb dX6_rank_134 (by decide) (fun c_13 => ?_) (fun c_13 => ?_)
      · have h := ite_p c_13 h
        exact tX6_rank_b148 C h20 hW (lv_sub hl [0, 1, 2, 3, 4] rfl) h
      have h := ite_n c_13 h
      refine lv_iload hx hb dX6_rank_137 (lv_at hl 5 rfl) ?_
      refine lv_iload_n hx hb dX6_rank_139 rfl (lv_at hl 2 rfl) ?_
      refine lv_icmp_ne (tgt := 148) hx hb dX6_rank_140 (by decide) (fun c_14 => ?_) (fun c_14 => ?_)
      · have h := ite_n c_14 h
        exact tX6_rank_b148 C h20 hW (lv_sub hl [0, 1, 2, 3, 4] rfl) h
      have h := ite_p c_14 h
      refine lv_iload hx hb dX6_rank_143 (lv_at hl 4 rfl) ?_
      refine lv_goto (tgt := 149) hx hb dX6_rank_145 (by decide) ?_
      exact tX6_rank_b149 C h20 hW (lv_sub hl [0, 1, 2, 4] rfl) h
    have h := ite_n c_9 h
    refine lv_aload_n hx hb dX6_rank_48 rfl (lv_at hl 0 rfl) ?_
    refine lv_iload_n hx hb dX6_rank_49 rfl (lv_at hl 1 rfl) ?_
    refine lv_iload hx hb dX6_rank_50 (lv_at hl 6 rfl) ?_
    obtain ⟨r_17, μ_16, hh_15, h⟩ := bd_s h
    refine wo_Vi (rest := []) C hW (kX6_isNearly l D g ad  hh_15) (cwV 2 hts gX6_rank_X6_isNearly rfl rfl rfl (by decide +kernel) ⟨Nat.le_of_ble_eq_true rfl, Nat.le_of_ble_eq_true rfl⟩) kl_20_50_0 co_o rfl rfl hl.1 rfl (Nat.le_of_ble_eq_true rfl) dX6_rank_52 ⟨Nat.zero_le _, Nat.zero_le _⟩ (fun H locs hW => ?_)
    refine lv_if_eq (tgt := 103) hx hb dX6_rank_55 (by decide) (fun c_18 => ?_) (fun c_18 => ?_)
    · have h := ite_p c_18 h
      exact tX6_rank_b103 C h20 h37 hW (lv_sub hl [0, 1, 2, 3, 4, 5, 6] rfl) h
    have h := ite_n c_18 h
    refine lv_aload_n hx hb dX6_rank_58 rfl (lv_at hl 0 rfl) ?_
    refine lv_iload_n hx hb dX6_rank_59 rfl (lv_at hl 1 rfl) ?_
    refine lv_iload hx hb dX6_rank_60 (lv_at hl 6 rfl) ?_
    obtain ⟨r_22, μ_21, hh_20, h⟩ := bd_s h
    refine wo_Vi (rest := []) C hW (kX6_priceOf l D g ad  hh_20) (cwV 2 hts gX6_rank_X6_priceOf rfl rfl rfl (by decide +kernel) ⟨Nat.le_of_ble_eq_true rfl, Nat.le_of_ble_eq_true rfl⟩) kl_20_50_0 co_o rfl rfl hl.1 rfl (Nat.le_of_ble_eq_true rfl) dX6_rank_62 ⟨Nat.zero_le _, Nat.zero_le _⟩ (fun H locs hW => ?_)
    refine lv_aload_n hx hb dX6_rank_65 rfl (lv_at hl 0 rfl) ?_
    refine lv_iload_n hx hb dX6_rank_66 rfl (lv_at hl 1 rfl) ?_
    refine lv_iload hx hb dX6_rank_67 (lv_at hl 4 rfl) ?_
    obtain ⟨r_25, μ_24, hh_23, h⟩ := bd_s h
    refine wo_Vi (rest := [.int r_22]) C hW (kX6_priceOf l D g ad  hh_23) (cwV 2 hts gX6_rank_X6_priceOf rfl rfl rfl (by decide +kernel) ⟨Nat.le_of_ble_eq_true rfl, Nat.le_of_ble_eq_true rfl⟩) kl_20_50_0 co_o rfl rfl hl.1 rfl (Nat.le_of_ble_eq_true rfl) dX6_rank_69 ⟨Nat.zero_le _, Nat.zero_le _⟩ (fun H locs hW => ?_)
    refine lv_icmp_gt (tgt := 99) hx hb dX6_rank_72 (by decide) (fun c_26 => ?_) (fun c_26 => ?_)
    · have h := ite_p c_26 h
      exact tX6_rank_b99 C h20 h37 hW (lv_sub hl [0, 1, 2, 3, 4, 5, 6] rfl) h
    have h := ite_n c_26 h
    refine lv_aload_n hx hb dX6_rank_75 rfl (lv_at hl 0 rfl) ?_
    refine lv_iload_n hx hb dX6_rank_76 rfl (lv_at hl 1 rfl) ?_
    refine lv_iload hx hb dX6_rank_77 (lv_at hl 6 rfl) ?_
    obtain ⟨r_29, μ_28, hh_27, h⟩ := bd_s h
    refine wo_Vi (rest := []) C hW (kX6_priceOf l D g ad  hh_27) (cwV 2 hts gX6_rank_X6_priceOf rfl rfl rfl (by decide +kernel) ⟨Nat.le_of_ble_eq_true rfl, Nat.le_of_ble_eq_true rfl⟩) kl_20_50_0 co_o rfl rfl hl.1 rfl (Nat.le_of_ble_eq_true rfl) dX6_rank_79 ⟨Nat.zero_le _, Nat.zero_le _⟩ (fun H locs hW => ?_)
    refine lv_aload_n hx hb dX6_rank_82 rfl (lv_at hl 0 rfl) ?_
    refine lv_iload_n hx hb dX6_rank_83 rfl (lv_at hl 1 rfl) ?_
    refine lv_iload hx hb dX6_rank_84 (lv_at hl 4 rfl) ?_
    obtain ⟨r_32, μ_31, hh_30, h⟩ := bd_s h
    refine wo_Vi (rest := [.int r_29]) C hW (kX6_priceOf l D g ad  hh_30) (cwV 2 hts gX6_rank_X6_priceOf rfl rfl rfl (by decide +kernel) ⟨Nat.le_of_ble_eq_true rfl, Nat.le_of_ble_eq_true rfl⟩) kl_20_50_0 co_o rfl rfl hl.1 rfl (Nat.le_of_ble_eq_true rfl) dX6_rank_86 ⟨Nat.zero_le _, Nat.zero_le _⟩ (fun H locs hW => ?_)
    refine lv_icmp_ne (tgt := 103) hx hb dX6_rank_89 (by decide) (fun c_33 => ?_) (fun c_33 => ?_)
    · have h := ite_n c_33 h
      exact tX6_rank_b103 C h20 h37 hW (lv_sub hl [0, 1, 2, 3, 4, 5, 6] rfl) h
    have h := ite_p c_33 h
    refine lv_iload hx hb dX6_rank_92 (lv_at hl 6 rfl) ?_
    refine lv_iload hx hb dX6_rank_94 (lv_at hl 4 rfl) ?_
    refine lv_icmp_ge (tgt := 103) hx hb dX6_rank_96 (by decide) (fun c_34 => ?_) (fun c_34 => ?_)
    · have h := ite_p c_34 h
      exact tX6_rank_b103 C h20 h37 hW (lv_sub hl [0, 1, 2, 3, 4, 5, 6] rfl) h
    have h := ite_n c_34 h
    exact tX6_rank_b99 C h20 h37 hW (lv_sub hl [0, 1, 2, 3, 4, 5, 6] rfl) h
set_option maxHeartbeats 4000000 in
set_option maxRecDepth 100000 in
theorem tX6_rank_b20 {p : Program} {l : Launch} {e : Env} {s : State} {m : MethodId} {args : Array Value} {below : List Frame} {meth : Method} {c : Code} {A : Nat → Prop} {D : va_G} {g : G3} {ad : Ky → Nat} (C : Cx p s m args meth c cX6_rank (some .int) 8 RX6 wsX6_rank A) {r0 : Int32} {μ0 : Mem} {v1 v2 : Int32} (n : Nat) : ∀ (v3 v4 : Int32) (μ : Mem) (H : Heap) (locs : List Loc) (ls : Array Slot), WX D g keysM ad A s s.heap μ H locs → lv_has ls 8 [(0, .ref (ad (20, 50, 0))), (1, .int v1), (2, .int v2), (3, .int v3), (4, .int v4)] → lo2 (X6_rank_b20 v1 v2) n v3 v4 μ = some (r0, μ0) → TgI r0 p l e rX6_rank s m args below meth c D g keysM ad A μ0 H locs (F0 m 20 ls []) := by
  obtain ⟨hx, hb, hr, hts, hown, hlocks, hml, hA⟩ := id C
  induction n with
  | zero =>
    intro v3 v4 μ H locs ls hW hl h
    cases h
  | succ n h20 =>
    intro v3 v4 μ H locs ls hW hl h
    have h : X6_rank_b20 v1 v2 (lo2 (X6_rank_b20 v1 v2) n) v3 v4 μ = some (r0, μ0) := h
    refine lv_iload hx hb dX6_rank_20 (lv_at hl 4 rfl) ?_
    refine lv_aload_n hx hb dX6_rank_22 rfl (lv_at hl 0 rfl) ?_
    refine wo_get (C := RX6) (T := TX6) (N := 14) hx hb hts iX6_rank_6 hown hW kl_20_50_0 co_o rfl 2 (by decide) (hts _ mX6_rank_l13) (fun _ h9 => h9) rfl dX6_rank_23 ?_
    refine lv_iconst (v := 1) hx hb dX6_rank_26 (by decide) ?_
    obtain ⟨hi_6, h⟩ := gi_s h
    refine xw_ald hx hb hW kl_20_2_0 rfl hi_6 dX6_rank_27 ?_
    refine lv_icmp_ge (tgt := 156) hx hb dX6_rank_28 (by decide) (fun c_7 => ?_) (fun c_7 => ?_)
    · have h := ite_p c_7 h
      refine lv_iload_n hx hb dX6_rank_156 rfl (lv_at hl 3 rfl) ?_
      exact xw_iret C rfl hW dX6_rank_157 h
    have h := ite_n c_7 h
    refine lv_iconst (v := 0) hx hb dX6_rank_31 (by decide) ?_
    refine lv_istore (lv' := [(5, .int 0), (0, .ref (ad (20, 50, 0))), (1, .int v1), (2, .int v2), (3, .int v3), (4, .int v4)]) hx hb dX6_rank_32 hl (by decide) rfl (fun ls hl => ?_)
    refine lv_iconst (v := 0) hx hb dX6_rank_34 (by decide) ?_
    refine lv_istore (lv' := [(6, .int 0), (5, .int 0), (0, .ref (ad (20, 50, 0))), (1, .int v1), (2, .int v2), (3, .int v3), (4, .int v4)]) hx hb dX6_rank_35 hl (by decide) rfl (fun ls hl => ?_)
    exact tX6_rank_b37 C h20 1000 _ _ _ _ _ _ hW (lv_sub hl [2, 3, 4, 5, 6, 1, 0] rfl) h
set_option maxHeartbeats 4000000 in
set_option maxRecDepth 100000 in
theorem kX6_rank (l : Launch) (D : va_G) (g : G3) (ad : Ky → Nat) {v1 v2 : Int32} {μ μ' : Mem} {r : Int32} (h : X6_rank v1 v2 μ = some (r, μ')) : CtI l yX6_rank wsX6_rank rX6_rank D (tysX g) keysM ad (cX g ad) [.ref (ad (20, 50, 0)), .int v1, .int v2] μ r μ' := by
  refine ctI_of (cc := cX6_rank) (maxL := 8) (ret := (some .int)) keysM_nd (by decide) rfl (Nat.le_of_ble_eq_true rfl) (fun p e s m below meth c A ls C hW hl => ?_)
  have hl : lv_has ls 8 [(0, .ref (ad (20, 50, 0))), (1, .int v1), (2, .int v2)] := hl
  obtain ⟨hx, hb, hr, hts, hown, hlocks, hml, hA⟩ := id C
  refine lv_aload_n hx hb dX6_rank_0 rfl (lv_at hl 0 rfl) ?_
  refine lv_iload_n hx hb dX6_rank_1 rfl (lv_at hl 1 rfl) ?_
  obtain ⟨r_3, μ_2, hh_1, h⟩ := bd_s h
  refine wo_Vi (rest := []) C hW (kX6_isPerson l D g ad  hh_1) (cwV 1 hts gX6_rank_X6_isPerson rfl rfl rfl (by decide +kernel) ⟨Nat.le_of_ble_eq_true rfl, Nat.le_of_ble_eq_true rfl⟩) kl_20_50_0 co_o rfl rfl hl.1 rfl (Nat.le_of_ble_eq_true rfl) dX6_rank_2 ⟨Nat.zero_le _, Nat.zero_le _⟩ (fun H locs hW => ?_)
  refine lv_if_eq (tgt := 12) hx hb dX6_rank_5 (by decide) (fun c_4 => ?_) (fun c_4 => ?_)
  · have h := ite_p c_4 h
    refine lv_iconst (v := (-1)) hx hb dX6_rank_12 (by decide) ?_
    exact xw_iret C rfl hW dX6_rank_13 h
  have h := ite_n c_4 h
  refine lv_iload_n hx hb dX6_rank_8 rfl (lv_at hl 2 rfl) ?_
  refine lv_if_ge (tgt := 14) hx hb dX6_rank_9 (by decide) (fun c_5 => ?_) (fun c_5 => ?_)
  · have h := ite_p c_5 h
    refine lv_bipush (v := (-4)) hx hb dX6_rank_14 (by decide) ?_
    refine lv_istore_n (lv' := [(3, .int (-4)), (0, .ref (ad (20, 50, 0))), (1, .int v1), (2, .int v2)]) hx hb dX6_rank_16 rfl hl (by decide) rfl (fun ls hl => ?_)
    refine lv_iconst (v := 0) hx hb dX6_rank_17 (by decide) ?_
    refine lv_istore (lv' := [(4, .int 0), (3, .int (-4)), (0, .ref (ad (20, 50, 0))), (1, .int v1), (2, .int v2)]) hx hb dX6_rank_18 hl (by decide) rfl (fun ls hl => ?_)
    exact tX6_rank_b20 C 1000 _ _ _ _ _ _ hW (lv_sub hl [2, 3, 4, 1, 0] rfl) h
  have h := ite_n c_5 h
  refine lv_iconst (v := (-1)) hx hb dX6_rank_12 (by decide) ?_
  exact xw_iret C rfl hW dX6_rank_13 h
abbrev rX6_seen : Room := { frames := 2, cells := 0, slots := 0, locals := 43 }
theorem mX6_seen_l94 : Cond.fieldLink RX6 94 "NearlyBoughtModel" "noted" "I" ∈ wsX6_seen := by decide +kernel
theorem mX6_seen_l28 : Cond.fieldLink RX6 28 "NearlyBoughtModel" "notes" "[I" ∈ wsX6_seen := by decide +kernel
theorem iX6_seen_6 : ∀ w ∈ wsX60, w ∈ wsX6_seen := fun _ h => List.mem_cons_of_mem _ (List.mem_append_right _ h)
set_option maxHeartbeats 4000000 in
set_option maxRecDepth 100000 in
theorem kX6_seen (l : Launch) (D : va_G) (g : G3) (ad : Ky → Nat) {v1 v2 v3 : Int32} {μ μ' : Mem} {r : Int32} (h : X6_seen v1 v2 v3 μ = some (r, μ')) : CtI l yX6_seen wsX6_seen rX6_seen D (tysX g) keysM ad (cX g ad) [.ref (ad (20, 50, 0)), .int v1, .int v2, .int v3] μ r μ' := by
  refine ctI_of (cc := cX6_seen) (maxL := 4) (ret := (some .int)) keysM_nd (by decide) rfl (Nat.le_of_ble_eq_true rfl) (fun p e s m below meth c A ls C hW hl => ?_)
  have hl : lv_has ls 4 [(0, .ref (ad (20, 50, 0))), (1, .int v1), (2, .int v2), (3, .int v3)] := hl
  obtain ⟨hx, hb, hr, hts, hown, hlocks, hml, hA⟩ := id C
  refine lv_aload_n hx hb dX6_seen_0 rfl (lv_at hl 0 rfl) ?_
  refine lv_iload_n hx hb dX6_seen_1 rfl (lv_at hl 1 rfl) ?_
  obtain ⟨r_3, μ_2, hh_1, h⟩ := bd_s h
  refine wo_Vi (rest := []) C hW (kX6_isThing l D g ad  hh_1) (cwV 1 hts gX6_seen_X6_isThing rfl rfl rfl (by decide +kernel) ⟨Nat.le_of_ble_eq_true rfl, Nat.le_of_ble_eq_true rfl⟩) kl_20_50_0 co_o rfl rfl hl.1 rfl (Nat.le_of_ble_eq_true rfl) dX6_seen_2 ⟨Nat.zero_le _, Nat.zero_le _⟩ (fun H locs hW => ?_)
  refine lv_if_eq (tgt := 26) hx hb dX6_seen_5 (by decide) (fun c_4 => ?_) (fun c_4 => ?_)
  · have h := ite_p c_4 h
    refine lv_iconst (v := (-1)) hx hb dX6_seen_26 (by decide) ?_
    exact xw_iret C rfl hW dX6_seen_27 h
  have h := ite_n c_4 h
  refine lv_aload_n hx hb dX6_seen_8 rfl (lv_at hl 0 rfl) ?_
  refine lv_iload_n hx hb dX6_seen_9 rfl (lv_at hl 2 rfl) ?_
  obtain ⟨r_7, μ_6, hh_5, h⟩ := bd_s h
  refine wo_Vi (rest := []) C hW (kX6_isPerson l D g ad  hh_5) (cwV 1 hts gX6_seen_X6_isPerson rfl rfl rfl (by decide +kernel) ⟨Nat.le_of_ble_eq_true rfl, Nat.le_of_ble_eq_true rfl⟩) kl_20_50_0 co_o rfl rfl hl.1 rfl (Nat.le_of_ble_eq_true rfl) dX6_seen_10 ⟨Nat.zero_le _, Nat.zero_le _⟩ (fun H locs hW => ?_)
  refine lv_if_eq (tgt := 26) hx hb dX6_seen_13 (by decide) (fun c_8 => ?_) (fun c_8 => ?_)
  · have h := ite_p c_8 h
    refine lv_iconst (v := (-1)) hx hb dX6_seen_26 (by decide) ?_
    exact xw_iret C rfl hW dX6_seen_27 h
  have h := ite_n c_8 h
  refine lv_iload_n hx hb dX6_seen_16 rfl (lv_at hl 3 rfl) ?_
  refine lv_iconst (v := 1) hx hb dX6_seen_17 (by decide) ?_
  refine lv_bipush (v := 9) hx hb dX6_seen_18 (by decide) ?_
  obtain ⟨r_11, μ_10, hh_9, h⟩ := bd_s h
  refine wo_Si (rest := []) C hW (kX6_in l D g ad  hh_9) (cwS 3 hts gX6_seen_X6_in rfl rfl rfl (by decide +kernel) ⟨Nat.le_of_ble_eq_true rfl, Nat.le_of_ble_eq_true rfl⟩) rfl hl.1 rfl (Nat.le_of_ble_eq_true rfl) dX6_seen_20 ⟨Nat.zero_le _, Nat.zero_le _⟩ (fun H locs hW => ?_)
  refine lv_if_ne (tgt := 28) hx hb dX6_seen_23 (by decide) (fun c_12 => ?_) (fun c_12 => ?_)
  · have h := ite_n c_12 h
    refine lv_aload_n hx hb dX6_seen_28 rfl (lv_at hl 0 rfl) ?_
    refine wo_get (C := RX6) (T := TX6) (N := 14) hx hb hts iX6_seen_6 hown hW kl_20_50_0 co_o rfl 10 (by decide) (hts _ mX6_seen_l94) (fun _ h9 => h9) rfl dX6_seen_29 ?_
    refine lv_bipush (v := 6) hx hb dX6_seen_32 (by decide) ?_
    refine lv_icmp_ne (tgt := 40) hx hb dX6_seen_34 (by decide) (fun c_13 => ?_) (fun c_13 => ?_)
    · have h := ite_n c_13 h
      refine lv_aload_n hx hb dX6_seen_40 rfl (lv_at hl 0 rfl) ?_
      refine wo_get (C := RX6) (T := TX6) (N := 14) hx hb hts iX6_seen_6 hown hW kl_20_50_0 co_o rfl 9 (by decide) (hts _ mX6_seen_l28) (fun _ h9 => h9) rfl dX6_seen_41 ?_
      refine lv_aload_n hx hb dX6_seen_44 rfl (lv_at hl 0 rfl) ?_
      refine wo_get (C := RX6) (T := TX6) (N := 14) hx hb hts iX6_seen_6 hown hW kl_20_50_0 co_o rfl 10 (by decide) (hts _ mX6_seen_l94) (fun _ h9 => h9) rfl dX6_seen_45 ?_
      refine lv_bipush (v := 100) hx hb dX6_seen_48 (by decide) ?_
      refine lv_iload_n hx hb dX6_seen_50 rfl (lv_at hl 3 rfl) ?_
      refine lv_imul hx hb dX6_seen_51 ?_
      refine lv_bipush (v := 10) hx hb dX6_seen_52 (by decide) ?_
      refine lv_iload_n hx hb dX6_seen_54 rfl (lv_at hl 1 rfl) ?_
      refine lv_imul hx hb dX6_seen_55 ?_
      refine lv_iadd hx hb dX6_seen_56 ?_
      refine lv_iload_n hx hb dX6_seen_57 rfl (lv_at hl 2 rfl) ?_
      refine lv_iadd hx hb dX6_seen_58 ?_
      obtain ⟨hi_14, h⟩ := gi_s h
      refine xw_ast hx hb hW kl_20_9_0 (fun _ => rfl) rfl hi_14 dX6_seen_59 (fun H locs hW => ?_)
      refine lv_aload_n hx hb dX6_seen_60 rfl (lv_at hl 0 rfl) ?_
      refine lv_dup hx hb dX6_seen_61 rfl ?_
      refine wo_get (C := RX6) (T := TX6) (N := 14) hx hb hts iX6_seen_6 hown hW kl_20_50_0 co_o rfl 10 (by decide) (hts _ mX6_seen_l94) (fun _ h9 => h9) rfl dX6_seen_62 ?_
      refine lv_iconst (v := 1) hx hb dX6_seen_65 (by decide) ?_
      refine lv_iadd hx hb dX6_seen_66 ?_
      refine xw_put (C := RX6) (T := TX6) (N := 14) hx hb hts iX6_seen_6 tyX6 tyX6_ok nmX6 hown hW kl_20_50_0 co_o rfl 10 (by decide) (hts _ mX6_seen_l94) (fun _ h9 => h9) rfl (by decide +kernel) (Nat.le_of_ble_eq_true rfl) keysM_ok rfl (po_10 _) dX6_seen_67 (fun H locs hW => ?_)
      refine lv_aload_n hx hb dX6_seen_70 rfl (lv_at hl 0 rfl) ?_
      refine wo_get (C := RX6) (T := TX6) (N := 14) hx hb hts iX6_seen_6 hown hW kl_20_50_0 co_o rfl 10 (by decide) (hts _ mX6_seen_l94) (fun _ h9 => h9) rfl dX6_seen_71 ?_
      exact xw_iret C rfl hW dX6_seen_74 h
    have h := ite_p c_13 h
    refine lv_bipush (v := (-3)) hx hb dX6_seen_37 (by decide) ?_
    exact xw_iret C rfl hW dX6_seen_39 h
  have h := ite_p c_12 h
  refine lv_iconst (v := (-1)) hx hb dX6_seen_26 (by decide) ?_
  exact xw_iret C rfl hW dX6_seen_27 h
abbrev rX6_stop : Room := { frames := 8, cells := 0, slots := 0, locals := 186 }
set_option maxHeartbeats 4000000 in
set_option maxRecDepth 100000 in
theorem tX6_stop_b90 {p : Program} {l : Launch} {e : Env} {s : State} {m : MethodId} {args : Array Value} {below : List Frame} {meth : Method} {c : Code} {A : Nat → Prop} {D : va_G} {g : G3} {ad : Ky → Nat} (C : Cx p s m args meth c cX6_stop (some .int) 7 RX6 wsX6_stop A) {r0 : Int32} {μ0 : Mem} {v1 v2 v3 v4 s0 : Int32} {k59 : Int32 → Mem → Option (Int32 × Mem)} (h59 : ∀ (v4 : Int32) (μ : Mem) (H : Heap) (locs : List Loc) (ls : Array Slot), WX D g keysM ad A s s.heap μ H locs → lv_has ls 7 [(0, .ref (ad (20, 50, 0))), (1, .int v1), (2, .int v2), (3, .int v3), (4, .int v4)] → k59 v4 μ = some (r0, μ0) → TgI r0 p l e rX6_stop s m args below meth c D g keysM ad A μ0 H locs (F0 m 59 ls [])) {μ : Mem} {H : Heap} {locs : List Loc} {ls : Array Slot} (hW : WX D g keysM ad A s s.heap μ H locs) (hl : lv_has ls 7 [(0, .ref (ad (20, 50, 0))), (1, .int v1), (2, .int v2), (3, .int v3), (4, .int v4)]) (h : X6_stop_b90 k59 v1 v2 v3 v4 s0 μ = some (r0, μ0)) : TgI r0 p l e rX6_stop s m args below meth c D g keysM ad A μ0 H locs (F0 m 90 ls [.int s0]) := by
  obtain ⟨hx, hb, hr, hts, hown, hlocks, hml, hA⟩ := id C
  refine lv_istore (lv' := [(5, .int s0), (0, .ref (ad (20, 50, 0))), (1, .int v1), (2, .int v2), (3, .int v3), (4, .int v4)]) hx hb dX6_stop_90 hl (by decide) rfl (fun ls hl => ?_)
  refine lv_aload_n hx hb dX6_stop_92 rfl (lv_at hl 1 rfl) ?_
  refine lv_iload_n hx hb dX6_stop_93 rfl (lv_at hl 2 rfl) ?_
  refine lv_iload_n hx hb dX6_stop_94 rfl (lv_at hl 3 rfl) ?_
  refine lv_iload hx hb dX6_stop_95 (lv_at hl 5 rfl) ?_
  obtain ⟨μ_27, hh_26, h⟩ := bdv_s h
  refine wo_Vv (rest := []) C hW (kX6_pauses l D g ad  hh_26) (cwV 3 hts gX6_stop_X6_pauses rfl rfl rfl (by decide +kernel) ⟨Nat.le_of_ble_eq_true rfl, Nat.le_of_ble_eq_true rfl⟩) kl_20_50_0 co_o rfl rfl hl.1 rfl (Nat.le_of_ble_eq_true rfl) dX6_stop_97 ⟨Nat.zero_le _, Nat.zero_le _⟩ (fun H locs hW => ?_)
  refine lv_aload_n hx hb dX6_stop_100 rfl (lv_at hl 1 rfl) ?_
  refine lv_iload_n hx hb dX6_stop_101 rfl (lv_at hl 3 rfl) ?_
  obtain ⟨r_30, μ_29, hh_28, h⟩ := bd_s h
  refine wo_Vi (rest := []) C hW (kX6_goesBehind l D g ad  hh_28) (cwV 1 hts gX6_stop_X6_goesBehind rfl rfl rfl (by decide +kernel) ⟨Nat.le_of_ble_eq_true rfl, Nat.le_of_ble_eq_true rfl⟩) kl_20_50_0 co_o rfl rfl hl.1 rfl (Nat.le_of_ble_eq_true rfl) dX6_stop_102 ⟨Nat.zero_le _, Nat.zero_le _⟩ (fun H locs hW => ?_)
  refine lv_istore (lv' := [(6, .int r_30), (5, .int s0), (0, .ref (ad (20, 50, 0))), (1, .int v1), (2, .int v2), (3, .int v3), (4, .int v4)]) hx hb dX6_stop_105 hl (by decide) rfl (fun ls hl => ?_)
  refine lv_iload hx hb dX6_stop_107 (lv_at hl 1 rfl) ?_
  refine lv_if_eq (tgt := 124) hx hb dX6_stop_109 (by decide) (fun c_31 => ?_) (fun c_31 => ?_)
  · have h := ite_p c_31 h
    refine lv_iinc (v := v4 + 1) (lv' := [(4, .int (v4 + 1)), (6, .int r_30), (5, .int s0), (0, .ref (ad (20, 50, 0))), (1, .int v1), (2, .int v2), (3, .int v3)]) hx hb dX6_stop_124 hl (k := 6) rfl rfl (by decide) rfl (fun ls hl => ?_)
    refine lv_goto (tgt := 59) hx hb dX6_stop_127 (by decide) ?_
    exact h59 _ _ _ _ _ hW (lv_sub hl [3, 4, 5, 6, 0] rfl) h
  have h := ite_n c_31 h
  refine lv_iload_n hx hb dX6_stop_112 rfl (lv_at hl 5 rfl) ?_
  refine lv_if_ne (tgt := 121) hx hb dX6_stop_113 (by decide) (fun c_32 => ?_) (fun c_32 => ?_)
  · have h := ite_n c_32 h
    refine lv_iload hx hb dX6_stop_121 (lv_at hl 0 rfl) ?_
    exact xw_iret C rfl hW dX6_stop_123 h
  have h := ite_p c_32 h
  refine lv_iload hx hb dX6_stop_116 (lv_at hl 6 rfl) ?_
  refine lv_goto (tgt := 123) hx hb dX6_stop_118 (by decide) ?_
  exact xw_iret C rfl hW dX6_stop_123 h
set_option maxHeartbeats 4000000 in
set_option maxRecDepth 100000 in
theorem tX6_stop_b59 {p : Program} {l : Launch} {e : Env} {s : State} {m : MethodId} {args : Array Value} {below : List Frame} {meth : Method} {c : Code} {A : Nat → Prop} {D : va_G} {g : G3} {ad : Ky → Nat} (C : Cx p s m args meth c cX6_stop (some .int) 7 RX6 wsX6_stop A) {r0 : Int32} {μ0 : Mem} {v1 v2 v3 : Int32} (n : Nat) : ∀ (v4 : Int32) (μ : Mem) (H : Heap) (locs : List Loc) (ls : Array Slot), WX D g keysM ad A s s.heap μ H locs → lv_has ls 7 [(0, .ref (ad (20, 50, 0))), (1, .int v1), (2, .int v2), (3, .int v3), (4, .int v4)] → lo1 (X6_stop_b59 v1 v2 v3) n v4 μ = some (r0, μ0) → TgI r0 p l e rX6_stop s m args below meth c D g keysM ad A μ0 H locs (F0 m 59 ls []) := by
  obtain ⟨hx, hb, hr, hts, hown, hlocks, hml, hA⟩ := id C
  induction n with
  | zero =>
    intro v4 μ H locs ls hW hl h
    cases h
  | succ n h59 =>
    intro v4 μ H locs ls hW hl h
    have h : X6_stop_b59 v1 v2 v3 (lo1 (X6_stop_b59 v1 v2 v3) n) v4 μ = some (r0, μ0) := h
    refine lv_iload hx hb dX6_stop_59 (lv_at hl 4 rfl) ?_
    refine lv_bipush (v := 31) hx hb dX6_stop_61 (by decide) ?_
    refine lv_icmp_ge (tgt := 130) hx hb dX6_stop_63 (by decide) (fun c_19 => ?_) (fun c_19 => ?_)
    · have h := ite_p c_19 h
      refine lv_bipush (v := (-4)) hx hb dX6_stop_130 (by decide) ?_
      exact xw_iret C rfl hW dX6_stop_132 h
    have h := ite_n c_19 h
    refine lv_aload_n hx hb dX6_stop_66 rfl (lv_at hl 0 rfl) ?_
    refine lv_iload_n hx hb dX6_stop_67 rfl (lv_at hl 1 rfl) ?_
    refine lv_iload_n hx hb dX6_stop_68 rfl (lv_at hl 2 rfl) ?_
    refine lv_iload hx hb dX6_stop_69 (lv_at hl 4 rfl) ?_
    obtain ⟨μ_21, hh_20, h⟩ := bdv_s h
    refine wo_Vv (rest := []) C hW (kX6_pauses l D g ad  hh_20) (cwV 3 hts gX6_stop_X6_pauses rfl rfl rfl (by decide +kernel) ⟨Nat.le_of_ble_eq_true rfl, Nat.le_of_ble_eq_true rfl⟩) kl_20_50_0 co_o rfl rfl hl.1 rfl (Nat.le_of_ble_eq_true rfl) dX6_stop_71 ⟨Nat.zero_le _, Nat.zero_le _⟩ (fun H locs hW => ?_)
    refine lv_aload_n hx hb dX6_stop_74 rfl (lv_at hl 0 rfl) ?_
    refine lv_iload_n hx hb dX6_stop_75 rfl (lv_at hl 2 rfl) ?_
    refine lv_bipush (v := 9) hx hb dX6_stop_76 (by decide) ?_
    obtain ⟨r_24, μ_23, hh_22, h⟩ := bd_s h
    refine wo_Vi (rest := []) C hW (kX6_whoseBehind l D g ad  hh_22) (cwV 2 hts gX6_stop_X6_whoseBehind rfl rfl rfl (by decide +kernel) ⟨Nat.le_of_ble_eq_true rfl, Nat.le_of_ble_eq_true rfl⟩) kl_20_50_0 co_o rfl rfl hl.1 rfl (Nat.le_of_ble_eq_true rfl) dX6_stop_78 ⟨Nat.zero_le _, Nat.zero_le _⟩ (fun H locs hW => ?_)
    refine lv_iload_n hx hb dX6_stop_81 rfl (lv_at hl 1 rfl) ?_
    refine lv_icmp_ne (tgt := 89) hx hb dX6_stop_82 (by decide) (fun c_25 => ?_) (fun c_25 => ?_)
    · have h := ite_n c_25 h
      refine lv_iconst (v := 0) hx hb dX6_stop_89 (by decide) ?_
      exact tX6_stop_b90 C h59 hW (lv_sub hl [0, 1, 2, 3, 4] rfl) h
    have h := ite_p c_25 h
    refine lv_iconst (v := 1) hx hb dX6_stop_85 (by decide) ?_
    refine lv_goto (tgt := 90) hx hb dX6_stop_86 (by decide) ?_
    exact tX6_stop_b90 C h59 hW (lv_sub hl [0, 1, 2, 3, 4] rfl) h
set_option maxHeartbeats 4000000 in
set_option maxRecDepth 100000 in
theorem kX6_stop (l : Launch) (D : va_G) (g : G3) (ad : Ky → Nat) {v1 v2 v3 : Int32} {μ μ' : Mem} {r : Int32} (h : X6_stop v1 v2 v3 μ = some (r, μ')) : CtI l yX6_stop wsX6_stop rX6_stop D (tysX g) keysM ad (cX g ad) [.ref (ad (20, 50, 0)), .int v1, .int v2, .int v3] μ r μ' := by
  refine ctI_of (cc := cX6_stop) (maxL := 7) (ret := (some .int)) keysM_nd (by decide) rfl (Nat.le_of_ble_eq_true rfl) (fun p e s m below meth c A ls C hW hl => ?_)
  have hl : lv_has ls 7 [(0, .ref (ad (20, 50, 0))), (1, .int v1), (2, .int v2), (3, .int v3)] := hl
  obtain ⟨hx, hb, hr, hts, hown, hlocks, hml, hA⟩ := id C
  refine lv_aload_n hx hb dX6_stop_0 rfl (lv_at hl 0 rfl) ?_
  refine lv_iload_n hx hb dX6_stop_1 rfl (lv_at hl 1 rfl) ?_
  obtain ⟨r_3, μ_2, hh_1, h⟩ := bd_s h
  refine wo_Vi (rest := []) C hW (kX6_isPerson l D g ad  hh_1) (cwV 1 hts gX6_stop_X6_isPerson rfl rfl rfl (by decide +kernel) ⟨Nat.le_of_ble_eq_true rfl, Nat.le_of_ble_eq_true rfl⟩) kl_20_50_0 co_o rfl rfl hl.1 rfl (Nat.le_of_ble_eq_true rfl) dX6_stop_2 ⟨Nat.zero_le _, Nat.zero_le _⟩ (fun H locs hW => ?_)
  refine lv_if_eq (tgt := 25) hx hb dX6_stop_5 (by decide) (fun c_4 => ?_) (fun c_4 => ?_)
  · have h := ite_p c_4 h
    refine lv_iconst (v := (-1)) hx hb dX6_stop_25 (by decide) ?_
    exact xw_iret C rfl hW dX6_stop_26 h
  have h := ite_n c_4 h
  refine lv_aload_n hx hb dX6_stop_8 rfl (lv_at hl 0 rfl) ?_
  refine lv_iload_n hx hb dX6_stop_9 rfl (lv_at hl 2 rfl) ?_
  obtain ⟨r_7, μ_6, hh_5, h⟩ := bd_s h
  refine wo_Vi (rest := []) C hW (kX6_isThing l D g ad  hh_5) (cwV 1 hts gX6_stop_X6_isThing rfl rfl rfl (by decide +kernel) ⟨Nat.le_of_ble_eq_true rfl, Nat.le_of_ble_eq_true rfl⟩) kl_20_50_0 co_o rfl rfl hl.1 rfl (Nat.le_of_ble_eq_true rfl) dX6_stop_10 ⟨Nat.zero_le _, Nat.zero_le _⟩ (fun H locs hW => ?_)
  refine lv_if_eq (tgt := 25) hx hb dX6_stop_13 (by decide) (fun c_8 => ?_) (fun c_8 => ?_)
  · have h := ite_p c_8 h
    refine lv_iconst (v := (-1)) hx hb dX6_stop_25 (by decide) ?_
    exact xw_iret C rfl hW dX6_stop_26 h
  have h := ite_n c_8 h
  refine lv_iload_n hx hb dX6_stop_16 rfl (lv_at hl 3 rfl) ?_
  refine lv_iconst (v := 0) hx hb dX6_stop_17 (by decide) ?_
  refine lv_iconst (v := 1) hx hb dX6_stop_18 (by decide) ?_
  obtain ⟨r_11, μ_10, hh_9, h⟩ := bd_s h
  refine wo_Si (rest := []) C hW (kX6_in l D g ad  hh_9) (cwS 3 hts gX6_stop_X6_in rfl rfl rfl (by decide +kernel) ⟨Nat.le_of_ble_eq_true rfl, Nat.le_of_ble_eq_true rfl⟩) rfl hl.1 rfl (Nat.le_of_ble_eq_true rfl) dX6_stop_19 ⟨Nat.zero_le _, Nat.zero_le _⟩ (fun H locs hW => ?_)
  refine lv_if_ne (tgt := 27) hx hb dX6_stop_22 (by decide) (fun c_12 => ?_) (fun c_12 => ?_)
  · have h := ite_n c_12 h
    refine lv_aload_n hx hb dX6_stop_27 rfl (lv_at hl 0 rfl) ?_
    obtain ⟨μ_14, hh_13, h⟩ := bdv_s h
    refine wo_Vv (rest := []) C hW (kX6_remembers l D g ad  hh_13) (cwV 0 hts gX6_stop_X6_remembers rfl rfl rfl (by decide +kernel) ⟨Nat.le_of_ble_eq_true rfl, Nat.le_of_ble_eq_true rfl⟩) kl_20_50_0 co_o rfl rfl hl.1 rfl (Nat.le_of_ble_eq_true rfl) dX6_stop_28 ⟨Nat.zero_le _, Nat.zero_le _⟩ (fun H locs hW => ?_)
    refine lv_aload_n hx hb dX6_stop_31 rfl (lv_at hl 0 rfl) ?_
    refine lv_iload_n hx hb dX6_stop_32 rfl (lv_at hl 2 rfl) ?_
    refine lv_bipush (v := 9) hx hb dX6_stop_33 (by decide) ?_
    obtain ⟨r_17, μ_16, hh_15, h⟩ := bd_s h
    refine wo_Vi (rest := []) C hW (kX6_whoseBehind l D g ad  hh_15) (cwV 2 hts gX6_stop_X6_whoseBehind rfl rfl rfl (by decide +kernel) ⟨Nat.le_of_ble_eq_true rfl, Nat.le_of_ble_eq_true rfl⟩) kl_20_50_0 co_o rfl rfl hl.1 rfl (Nat.le_of_ble_eq_true rfl) dX6_stop_35 ⟨Nat.zero_le _, Nat.zero_le _⟩ (fun H locs hW => ?_)
    refine lv_iload_n hx hb dX6_stop_38 rfl (lv_at hl 1 rfl) ?_
    refine lv_icmp_ne (tgt := 56) hx hb dX6_stop_39 (by decide) (fun c_18 => ?_) (fun c_18 => ?_)
    · have h := ite_n c_18 h
      refine lv_iconst (v := 1) hx hb dX6_stop_56 (by decide) ?_
      refine lv_istore (lv' := [(4, .int 1), (0, .ref (ad (20, 50, 0))), (1, .int v1), (2, .int v2), (3, .int v3)]) hx hb dX6_stop_57 hl (by decide) rfl (fun ls hl => ?_)
      exact tX6_stop_b59 C 1000 _ _ _ _ _ hW (lv_sub hl [1, 2, 3, 4, 0] rfl) h
    have h := ite_p c_18 h
    refine lv_iload_n hx hb dX6_stop_42 rfl (lv_at hl 3 rfl) ?_
    refine lv_if_ne (tgt := 50) hx hb dX6_stop_43 (by decide) (fun c_33 => ?_) (fun c_33 => ?_)
    · have h := ite_n c_33 h
      refine lv_aload_n hx hb dX6_stop_50 rfl (lv_at hl 0 rfl) ?_
      refine lv_iload_n hx hb dX6_stop_51 rfl (lv_at hl 2 rfl) ?_
      obtain ⟨r_36, μ_35, hh_34, h⟩ := bd_s h
      refine wo_Vi (rest := []) C hW (kX6_goesBehind l D g ad  hh_34) (cwV 1 hts gX6_stop_X6_goesBehind rfl rfl rfl (by decide +kernel) ⟨Nat.le_of_ble_eq_true rfl, Nat.le_of_ble_eq_true rfl⟩) kl_20_50_0 co_o rfl rfl hl.1 rfl (Nat.le_of_ble_eq_true rfl) dX6_stop_52 ⟨Nat.zero_le _, Nat.zero_le _⟩ (fun H locs hW => ?_)
      exact xw_iret C rfl hW dX6_stop_55 h
    have h := ite_p c_33 h
    refine lv_iconst (v := 0) hx hb dX6_stop_46 (by decide) ?_
    refine lv_goto (tgt := 55) hx hb dX6_stop_47 (by decide) ?_
    exact xw_iret C rfl hW dX6_stop_55 h
  have h := ite_p c_12 h
  refine lv_iconst (v := (-1)) hx hb dX6_stop_25 (by decide) ?_
  exact xw_iret C rfl hW dX6_stop_26 h
abbrev rX6_thing : Room := { frames := 4, cells := 0, slots := 0, locals := 93 }
theorem mX6_thing_l19 : Cond.fieldLink RX6 19 "NearlyBoughtModel" "s" "[I" ∈ wsX6_thing := by decide +kernel
theorem iX6_thing_6 : ∀ w ∈ wsX60, w ∈ wsX6_thing := fun _ h => List.mem_cons_of_mem _ (List.mem_append_right _ h)
set_option maxHeartbeats 4000000 in
set_option maxRecDepth 100000 in
theorem kX6_thing (l : Launch) (D : va_G) (g : G3) (ad : Ky → Nat) {v1 v2 : Int32} {μ μ' : Mem} {r : Int32} (h : X6_thing v1 v2 μ = some (r, μ')) : CtI l yX6_thing wsX6_thing rX6_thing D (tysX g) keysM ad (cX g ad) [.ref (ad (20, 50, 0)), .int v1, .int v2] μ r μ' := by
  refine ctI_of (cc := cX6_thing) (maxL := 3) (ret := (some .int)) keysM_nd (by decide) rfl (Nat.le_of_ble_eq_true rfl) (fun p e s m below meth c A ls C hW hl => ?_)
  have hl : lv_has ls 3 [(0, .ref (ad (20, 50, 0))), (1, .int v1), (2, .int v2)] := hl
  obtain ⟨hx, hb, hr, hts, hown, hlocks, hml, hA⟩ := id C
  refine lv_aload_n hx hb dX6_thing_0 rfl (lv_at hl 0 rfl) ?_
  refine lv_iload_n hx hb dX6_thing_1 rfl (lv_at hl 1 rfl) ?_
  obtain ⟨r_3, μ_2, hh_1, h⟩ := bd_s h
  refine wo_Vi (rest := []) C hW (kX6_isThing l D g ad  hh_1) (cwV 1 hts gX6_thing_X6_isThing rfl rfl rfl (by decide +kernel) ⟨Nat.le_of_ble_eq_true rfl, Nat.le_of_ble_eq_true rfl⟩) kl_20_50_0 co_o rfl rfl hl.1 rfl (Nat.le_of_ble_eq_true rfl) dX6_thing_2 ⟨Nat.zero_le _, Nat.zero_le _⟩ (fun H locs hW => ?_)
  refine lv_if_ne (tgt := 10) hx hb dX6_thing_5 (by decide) (fun c_4 => ?_) (fun c_4 => ?_)
  · have h := ite_n c_4 h
    refine lv_iload_n hx hb dX6_thing_10 rfl (lv_at hl 2 rfl) ?_
    by_cases c_5 : v2 = 0
    · have h := ite_p c_5 h
      refine lv_tableIn (off := 29) (tgt := 40) hx hb dX6_thing_11 (by rw [c_5]; decide) (by rw [c_5]; decide) (by rw [c_5]; rfl) (by decide) ?_
      refine lv_aload_n hx hb dX6_thing_40 rfl (lv_at hl 0 rfl) ?_
      refine lv_iload_n hx hb dX6_thing_41 rfl (lv_at hl 1 rfl) ?_
      refine lv_aload_n hx hb dX6_thing_42 rfl (lv_at hl 0 rfl) ?_
      refine wo_get (C := RX6) (T := TX6) (N := 14) hx hb hts iX6_thing_6 hown hW kl_20_50_0 co_o rfl 4 (by decide) (hts _ mX6_thing_l19) (fun _ h9 => h9) rfl dX6_thing_43 ?_
      refine lv_bipush (v := 54) hx hb dX6_thing_46 (by decide) ?_
      obtain ⟨hi_6, h⟩ := gi_s h
      refine xw_ald hx hb hW kl_20_4_0 rfl hi_6 dX6_thing_48 ?_
      obtain ⟨r_9, μ_8, hh_7, h⟩ := bd_s h
      refine wo_Vi (rest := []) C hW (kX6_costs l D g ad  hh_7) (cwV 2 hts gX6_thing_X6_costs rfl rfl rfl (by decide +kernel) ⟨Nat.le_of_ble_eq_true rfl, Nat.le_of_ble_eq_true rfl⟩) kl_20_50_0 co_o rfl rfl hl.1 rfl (Nat.le_of_ble_eq_true rfl) dX6_thing_49 ⟨Nat.zero_le _, Nat.zero_le _⟩ (fun H locs hW => ?_)
      exact xw_iret C rfl hW dX6_thing_52 h
    have h := ite_n c_5 h
    by_cases c_10 : v2 = 1
    · have h := ite_p c_10 h
      refine lv_tableIn (off := 42) (tgt := 53) hx hb dX6_thing_11 (by rw [c_10]; decide) (by rw [c_10]; decide) (by rw [c_10]; rfl) (by decide) ?_
      refine lv_aload_n hx hb dX6_thing_53 rfl (lv_at hl 0 rfl) ?_
      refine wo_get (C := RX6) (T := TX6) (N := 14) hx hb hts iX6_thing_6 hown hW kl_20_50_0 co_o rfl 4 (by decide) (hts _ mX6_thing_l19) (fun _ h9 => h9) rfl dX6_thing_54 ?_
      refine lv_bipush (v := 6) hx hb dX6_thing_57 (by decide) ?_
      refine lv_iload_n hx hb dX6_thing_59 rfl (lv_at hl 1 rfl) ?_
      refine lv_iadd hx hb dX6_thing_60 ?_
      obtain ⟨hi_11, h⟩ := gi_s h
      refine xw_ald hx hb hW kl_20_4_0 rfl hi_11 dX6_thing_61 ?_
      exact xw_iret C rfl hW dX6_thing_62 h
    have h := ite_n c_10 h
    by_cases c_12 : v2 = 2
    · have h := ite_p c_12 h
      refine lv_tableIn (off := 52) (tgt := 63) hx hb dX6_thing_11 (by rw [c_12]; decide) (by rw [c_12]; decide) (by rw [c_12]; rfl) (by decide) ?_
      refine lv_aload_n hx hb dX6_thing_63 rfl (lv_at hl 0 rfl) ?_
      refine wo_get (C := RX6) (T := TX6) (N := 14) hx hb hts iX6_thing_6 hown hW kl_20_50_0 co_o rfl 4 (by decide) (hts _ mX6_thing_l19) (fun _ h9 => h9) rfl dX6_thing_64 ?_
      refine lv_bipush (v := 12) hx hb dX6_thing_67 (by decide) ?_
      refine lv_iload_n hx hb dX6_thing_69 rfl (lv_at hl 1 rfl) ?_
      refine lv_iadd hx hb dX6_thing_70 ?_
      obtain ⟨hi_13, h⟩ := gi_s h
      refine xw_ald hx hb hW kl_20_4_0 rfl hi_13 dX6_thing_71 ?_
      exact xw_iret C rfl hW dX6_thing_72 h
    have h := ite_n c_12 h
    by_cases c_14 : v2 = 3
    · have h := ite_p c_14 h
      refine lv_tableIn (off := 62) (tgt := 73) hx hb dX6_thing_11 (by rw [c_14]; decide) (by rw [c_14]; decide) (by rw [c_14]; rfl) (by decide) ?_
      refine lv_aload_n hx hb dX6_thing_73 rfl (lv_at hl 0 rfl) ?_
      refine wo_get (C := RX6) (T := TX6) (N := 14) hx hb hts iX6_thing_6 hown hW kl_20_50_0 co_o rfl 4 (by decide) (hts _ mX6_thing_l19) (fun _ h9 => h9) rfl dX6_thing_74 ?_
      refine lv_bipush (v := 6) hx hb dX6_thing_77 (by decide) ?_
      refine lv_iload_n hx hb dX6_thing_79 rfl (lv_at hl 1 rfl) ?_
      refine lv_iadd hx hb dX6_thing_80 ?_
      obtain ⟨hi_15, h⟩ := gi_s h
      refine xw_ald hx hb hW kl_20_4_0 rfl hi_15 dX6_thing_81 ?_
      refine lv_bipush (v := (-4)) hx hb dX6_thing_82 (by decide) ?_
      refine lv_icmp_ne (tgt := 95) hx hb dX6_thing_84 (by decide) (fun c_16 => ?_) (fun c_16 => ?_)
      · have h := ite_n c_16 h
        refine lv_bipush (v := (-4)) hx hb dX6_thing_95 (by decide) ?_
        exact xw_iret C rfl hW dX6_thing_97 h
      have h := ite_p c_16 h
      refine lv_aload_n hx hb dX6_thing_87 rfl (lv_at hl 0 rfl) ?_
      refine lv_iload_n hx hb dX6_thing_88 rfl (lv_at hl 1 rfl) ?_
      obtain ⟨r_19, μ_18, hh_17, h⟩ := bd_s h
      refine wo_Vi (rest := []) C hW (kX6_claim l D g ad  hh_17) (cwV 1 hts gX6_thing_X6_claim rfl rfl rfl (by decide +kernel) ⟨Nat.le_of_ble_eq_true rfl, Nat.le_of_ble_eq_true rfl⟩) kl_20_50_0 co_o rfl rfl hl.1 rfl (Nat.le_of_ble_eq_true rfl) dX6_thing_89 ⟨Nat.zero_le _, Nat.zero_le _⟩ (fun H locs hW => ?_)
      refine lv_goto (tgt := 97) hx hb dX6_thing_92 (by decide) ?_
      exact xw_iret C rfl hW dX6_thing_97 h
    have h := ite_n c_14 h
    have t_20 := ne_ti (k := 0) rfl c_5
    have t_21 := ne_ti (k := 1) rfl c_10
    have t_22 := ne_ti (k := 2) rfl c_12
    have t_23 := ne_ti (k := 3) rfl c_14
    refine lv_tableOut (tgt := 98) hx hb dX6_thing_11 (by omega) (by decide) ?_
    refine lv_iconst (v := (-1)) hx hb dX6_thing_98 (by decide) ?_
    exact xw_iret C rfl hW dX6_thing_99 h
  have h := ite_p c_4 h
  refine lv_iconst (v := (-1)) hx hb dX6_thing_8 (by decide) ?_
  exact xw_iret C rfl hW dX6_thing_9 h
abbrev rX6_undo : Room := { frames := 0, cells := 0, slots := 0, locals := 0 }
theorem mX6_undo_l88 : Cond.fieldLink RX6 88 "NearlyBoughtModel" "known" "I" ∈ wsX6_undo := by decide +kernel
theorem mX6_undo_l19 : Cond.fieldLink RX6 19 "NearlyBoughtModel" "s" "[I" ∈ wsX6_undo := by decide +kernel
theorem mX6_undo_l22 : Cond.fieldLink RX6 22 "NearlyBoughtModel" "past" "[I" ∈ wsX6_undo := by decide +kernel
theorem iX6_undo_6 : ∀ w ∈ wsX60, w ∈ wsX6_undo := fun _ h => List.mem_cons_of_mem _ (List.mem_append_right _ h)
set_option maxHeartbeats 4000000 in
set_option maxRecDepth 100000 in
theorem tX6_undo_b22 {p : Program} {l : Launch} {e : Env} {s : State} {m : MethodId} {args : Array Value} {below : List Frame} {meth : Method} {c : Code} {A : Nat → Prop} {D : va_G} {g : G3} {ad : Ky → Nat} (C : Cx p s m args meth c cX6_undo (some .int) 2 RX6 wsX6_undo A) {r0 : Int32} {μ0 : Mem} (n : Nat) : ∀ (v1 : Int32) (μ : Mem) (H : Heap) (locs : List Loc) (ls : Array Slot), WX D g keysM ad A s s.heap μ H locs → lv_has ls 2 [(0, .ref (ad (20, 50, 0))), (1, .int v1)] → lo1 (X6_undo_b22) n v1 μ = some (r0, μ0) → TgI r0 p l e rX6_undo s m args below meth c D g keysM ad A μ0 H locs (F0 m 22 ls []) := by
  obtain ⟨hx, hb, hr, hts, hown, hlocks, hml, hA⟩ := id C
  induction n with
  | zero =>
    intro v1 μ H locs ls hW hl h
    cases h
  | succ n h22 =>
    intro v1 μ H locs ls hW hl h
    have h : X6_undo_b22 (lo1 (X6_undo_b22) n) v1 μ = some (r0, μ0) := h
    refine lv_iload_n hx hb dX6_undo_22 rfl (lv_at hl 1 rfl) ?_
    refine lv_bipush (v := 55) hx hb dX6_undo_23 (by decide) ?_
    refine lv_icmp_ge (tgt := 54) hx hb dX6_undo_25 (by decide) (fun c_2 => ?_) (fun c_2 => ?_)
    · have h := ite_p c_2 h
      refine lv_aload_n hx hb dX6_undo_54 rfl (lv_at hl 0 rfl) ?_
      refine wo_get (C := RX6) (T := TX6) (N := 14) hx hb hts iX6_undo_6 hown hW kl_20_50_0 co_o rfl 6 (by decide) (hts _ mX6_undo_l88) (fun _ h9 => h9) rfl dX6_undo_55 ?_
      exact xw_iret C rfl hW dX6_undo_58 h
    have h := ite_n c_2 h
    refine lv_aload_n hx hb dX6_undo_28 rfl (lv_at hl 0 rfl) ?_
    refine wo_get (C := RX6) (T := TX6) (N := 14) hx hb hts iX6_undo_6 hown hW kl_20_50_0 co_o rfl 4 (by decide) (hts _ mX6_undo_l19) (fun _ h9 => h9) rfl dX6_undo_29 ?_
    refine lv_iload_n hx hb dX6_undo_32 rfl (lv_at hl 1 rfl) ?_
    refine lv_aload_n hx hb dX6_undo_33 rfl (lv_at hl 0 rfl) ?_
    refine wo_get (C := RX6) (T := TX6) (N := 14) hx hb hts iX6_undo_6 hown hW kl_20_50_0 co_o rfl 5 (by decide) (hts _ mX6_undo_l22) (fun _ h9 => h9) rfl dX6_undo_34 ?_
    refine lv_bipush (v := 55) hx hb dX6_undo_37 (by decide) ?_
    refine lv_aload_n hx hb dX6_undo_39 rfl (lv_at hl 0 rfl) ?_
    refine wo_get (C := RX6) (T := TX6) (N := 14) hx hb hts iX6_undo_6 hown hW kl_20_50_0 co_o rfl 6 (by decide) (hts _ mX6_undo_l88) (fun _ h9 => h9) rfl dX6_undo_40 ?_
    refine lv_imul hx hb dX6_undo_43 ?_
    refine lv_iload_n hx hb dX6_undo_44 rfl (lv_at hl 1 rfl) ?_
    refine lv_iadd hx hb dX6_undo_45 ?_
    obtain ⟨hi_3, h⟩ := gi_s h
    refine xw_ald hx hb hW kl_20_5_0 rfl hi_3 dX6_undo_46 ?_
    obtain ⟨hi_4, h⟩ := gi_s h
    refine xw_ast hx hb hW kl_20_4_0 (fun _ => rfl) rfl hi_4 dX6_undo_47 (fun H locs hW => ?_)
    refine lv_iinc (v := v1 + 1) (lv' := [(1, .int (v1 + 1)), (0, .ref (ad (20, 50, 0)))]) hx hb dX6_undo_48 hl (k := 1) rfl rfl (by decide) rfl (fun ls hl => ?_)
    refine lv_goto (tgt := 22) hx hb dX6_undo_51 (by decide) ?_
    exact h22 _ _ _ _ _ hW (lv_sub hl [1, 0] rfl) h
set_option maxHeartbeats 4000000 in
set_option maxRecDepth 100000 in
theorem kX6_undo (l : Launch) (D : va_G) (g : G3) (ad : Ky → Nat) {μ μ' : Mem} {r : Int32} (h : X6_undo μ = some (r, μ')) : CtI l yX6_undo wsX6_undo rX6_undo D (tysX g) keysM ad (cX g ad) [.ref (ad (20, 50, 0))] μ r μ' := by
  refine ctI_of (cc := cX6_undo) (maxL := 2) (ret := (some .int)) keysM_nd (by decide) rfl (Nat.le_of_ble_eq_true rfl) (fun p e s m below meth c A ls C hW hl => ?_)
  have hl : lv_has ls 2 [(0, .ref (ad (20, 50, 0)))] := hl
  obtain ⟨hx, hb, hr, hts, hown, hlocks, hml, hA⟩ := id C
  refine lv_aload_n hx hb dX6_undo_0 rfl (lv_at hl 0 rfl) ?_
  refine wo_get (C := RX6) (T := TX6) (N := 14) hx hb hts iX6_undo_6 hown hW kl_20_50_0 co_o rfl 6 (by decide) (hts _ mX6_undo_l88) (fun _ h9 => h9) rfl dX6_undo_1 ?_
  refine lv_if_ne (tgt := 10) hx hb dX6_undo_4 (by decide) (fun c_1 => ?_) (fun c_1 => ?_)
  · have h := ite_n c_1 h
    refine lv_aload_n hx hb dX6_undo_10 rfl (lv_at hl 0 rfl) ?_
    refine lv_dup hx hb dX6_undo_11 rfl ?_
    refine wo_get (C := RX6) (T := TX6) (N := 14) hx hb hts iX6_undo_6 hown hW kl_20_50_0 co_o rfl 6 (by decide) (hts _ mX6_undo_l88) (fun _ h9 => h9) rfl dX6_undo_12 ?_
    refine lv_iconst (v := 1) hx hb dX6_undo_15 (by decide) ?_
    refine lv_isub hx hb dX6_undo_16 ?_
    refine xw_put (C := RX6) (T := TX6) (N := 14) hx hb hts iX6_undo_6 tyX6 tyX6_ok nmX6 hown hW kl_20_50_0 co_o rfl 6 (by decide) (hts _ mX6_undo_l88) (fun _ h9 => h9) rfl (by decide +kernel) (Nat.le_of_ble_eq_true rfl) keysM_ok rfl (po_6 _) dX6_undo_17 (fun H locs hW => ?_)
    refine lv_iconst (v := 0) hx hb dX6_undo_20 (by decide) ?_
    refine lv_istore_n (lv' := [(1, .int 0), (0, .ref (ad (20, 50, 0)))]) hx hb dX6_undo_21 rfl hl (by decide) rfl (fun ls hl => ?_)
    exact tX6_undo_b22 C 1000 _ _ _ _ _ hW (lv_sub hl [1, 0] rfl) h
  have h := ite_p c_1 h
  refine lv_bipush (v := (-2)) hx hb dX6_undo_7 (by decide) ?_
  exact xw_iret C rfl hW dX6_undo_9 h
abbrev rX6_wants : Room := { frames := 4, cells := 0, slots := 0, locals := 90 }
theorem mX6_wants_l13 : Cond.fieldLink RX6 13 "NearlyBoughtModel" "told" "[I" ∈ wsX6_wants := by decide +kernel
theorem iX6_wants_6 : ∀ w ∈ wsX60, w ∈ wsX6_wants := fun _ h => List.mem_cons_of_mem _ (List.mem_append_right _ h)
set_option maxHeartbeats 4000000 in
set_option maxRecDepth 100000 in
theorem tX6_wants_b29 {p : Program} {l : Launch} {e : Env} {s : State} {m : MethodId} {args : Array Value} {below : List Frame} {meth : Method} {c : Code} {A : Nat → Prop} {D : va_G} {g : G3} {ad : Ky → Nat} (C : Cx p s m args meth c cX6_wants (some .int) 4 RX6 wsX6_wants A) {r0 : Int32} {μ0 : Mem} {v1 v3 s0 s1 : Int32} {k4 : Int32 → Int32 → Mem → Option (Int32 × Mem)} (h4 : ∀ (v2 v3 : Int32) (μ : Mem) (H : Heap) (locs : List Loc) (ls : Array Slot), WX D g keysM ad A s s.heap μ H locs → lv_has ls 4 [(0, .ref (ad (20, 50, 0))), (1, .int v1), (2, .int v2), (3, .int v3)] → k4 v2 v3 μ = some (r0, μ0) → TgI r0 p l e rX6_wants s m args below meth c D g keysM ad A μ0 H locs (F0 m 4 ls [])) {μ : Mem} {H : Heap} {locs : List Loc} {ls : Array Slot} (hW : WX D g keysM ad A s s.heap μ H locs) (hl : lv_has ls 4 [(0, .ref (ad (20, 50, 0))), (1, .int v1), (3, .int v3)]) (h : X6_wants_b29 k4 v1 v3 s0 s1 μ = some (r0, μ0)) : TgI r0 p l e rX6_wants s m args below meth c D g keysM ad A μ0 H locs (F0 m 29 ls [.int s1, .int s0]) := by
  obtain ⟨hx, hb, hr, hts, hown, hlocks, hml, hA⟩ := id C
  refine lv_iadd hx hb dX6_wants_29 ?_
  refine lv_istore_n (lv' := [(2, .int (s0 + s1)), (0, .ref (ad (20, 50, 0))), (1, .int v1), (3, .int v3)]) hx hb dX6_wants_30 rfl hl (by decide) rfl (fun ls hl => ?_)
  refine lv_iinc (v := v3 + 1) (lv' := [(3, .int (v3 + 1)), (2, .int (s0 + s1)), (0, .ref (ad (20, 50, 0))), (1, .int v1)]) hx hb dX6_wants_31 hl (k := 3) rfl rfl (by decide) rfl (fun ls hl => ?_)
  refine lv_goto (tgt := 4) hx hb dX6_wants_34 (by decide) ?_
  exact h4 _ _ _ _ _ _ hW (lv_sub hl [2, 3, 1, 0] rfl) h
set_option maxHeartbeats 4000000 in
set_option maxRecDepth 100000 in
theorem tX6_wants_b4 {p : Program} {l : Launch} {e : Env} {s : State} {m : MethodId} {args : Array Value} {below : List Frame} {meth : Method} {c : Code} {A : Nat → Prop} {D : va_G} {g : G3} {ad : Ky → Nat} (C : Cx p s m args meth c cX6_wants (some .int) 4 RX6 wsX6_wants A) {r0 : Int32} {μ0 : Mem} {v1 : Int32} (n : Nat) : ∀ (v2 v3 : Int32) (μ : Mem) (H : Heap) (locs : List Loc) (ls : Array Slot), WX D g keysM ad A s s.heap μ H locs → lv_has ls 4 [(0, .ref (ad (20, 50, 0))), (1, .int v1), (2, .int v2), (3, .int v3)] → lo2 (X6_wants_b4 v1) n v2 v3 μ = some (r0, μ0) → TgI r0 p l e rX6_wants s m args below meth c D g keysM ad A μ0 H locs (F0 m 4 ls []) := by
  obtain ⟨hx, hb, hr, hts, hown, hlocks, hml, hA⟩ := id C
  induction n with
  | zero =>
    intro v2 v3 μ H locs ls hW hl h
    cases h
  | succ n h4 =>
    intro v2 v3 μ H locs ls hW hl h
    have h : X6_wants_b4 v1 (lo2 (X6_wants_b4 v1) n) v2 v3 μ = some (r0, μ0) := h
    refine lv_iload_n hx hb dX6_wants_4 rfl (lv_at hl 3 rfl) ?_
    refine lv_aload_n hx hb dX6_wants_5 rfl (lv_at hl 0 rfl) ?_
    refine wo_get (C := RX6) (T := TX6) (N := 14) hx hb hts iX6_wants_6 hown hW kl_20_50_0 co_o rfl 2 (by decide) (hts _ mX6_wants_l13) (fun _ h9 => h9) rfl dX6_wants_6 ?_
    refine lv_iconst (v := 0) hx hb dX6_wants_9 (by decide) ?_
    obtain ⟨hi_1, h⟩ := gi_s h
    refine xw_ald hx hb hW kl_20_2_0 rfl hi_1 dX6_wants_10 ?_
    refine lv_icmp_ge (tgt := 37) hx hb dX6_wants_11 (by decide) (fun c_2 => ?_) (fun c_2 => ?_)
    · have h := ite_p c_2 h
      refine lv_iload_n hx hb dX6_wants_37 rfl (lv_at hl 2 rfl) ?_
      exact xw_iret C rfl hW dX6_wants_38 h
    have h := ite_n c_2 h
    refine lv_iload_n hx hb dX6_wants_14 rfl (lv_at hl 2 rfl) ?_
    refine lv_aload_n hx hb dX6_wants_15 rfl (lv_at hl 0 rfl) ?_
    refine lv_iload_n hx hb dX6_wants_16 rfl (lv_at hl 3 rfl) ?_
    refine lv_iload_n hx hb dX6_wants_17 rfl (lv_at hl 1 rfl) ?_
    obtain ⟨r_5, μ_4, hh_3, h⟩ := bd_s h
    refine wo_Vi (rest := [.int v2]) C hW (kX6_isNearly l D g ad  hh_3) (cwV 2 hts gX6_wants_X6_isNearly rfl rfl rfl (by decide +kernel) ⟨Nat.le_of_ble_eq_true rfl, Nat.le_of_ble_eq_true rfl⟩) kl_20_50_0 co_o rfl rfl hl.1 rfl (Nat.le_of_ble_eq_true rfl) dX6_wants_18 ⟨Nat.zero_le _, Nat.zero_le _⟩ (fun H locs hW => ?_)
    refine lv_if_eq (tgt := 28) hx hb dX6_wants_21 (by decide) (fun c_6 => ?_) (fun c_6 => ?_)
    · have h := ite_p c_6 h
      refine lv_iconst (v := 0) hx hb dX6_wants_28 (by decide) ?_
      exact tX6_wants_b29 C h4 hW (lv_sub hl [0, 1, 3] rfl) h
    have h := ite_n c_6 h
    refine lv_iconst (v := 1) hx hb dX6_wants_24 (by decide) ?_
    refine lv_goto (tgt := 29) hx hb dX6_wants_25 (by decide) ?_
    exact tX6_wants_b29 C h4 hW (lv_sub hl [0, 1, 3] rfl) h
set_option maxHeartbeats 4000000 in
set_option maxRecDepth 100000 in
theorem kX6_wants (l : Launch) (D : va_G) (g : G3) (ad : Ky → Nat) {v1 : Int32} {μ μ' : Mem} {r : Int32} (h : X6_wants v1 μ = some (r, μ')) : CtI l yX6_wants wsX6_wants rX6_wants D (tysX g) keysM ad (cX g ad) [.ref (ad (20, 50, 0)), .int v1] μ r μ' := by
  refine ctI_of (cc := cX6_wants) (maxL := 4) (ret := (some .int)) keysM_nd (by decide) rfl (Nat.le_of_ble_eq_true rfl) (fun p e s m below meth c A ls C hW hl => ?_)
  have hl : lv_has ls 4 [(0, .ref (ad (20, 50, 0))), (1, .int v1)] := hl
  obtain ⟨hx, hb, hr, hts, hown, hlocks, hml, hA⟩ := id C
  refine lv_iconst (v := 0) hx hb dX6_wants_0 (by decide) ?_
  refine lv_istore_n (lv' := [(2, .int 0), (0, .ref (ad (20, 50, 0))), (1, .int v1)]) hx hb dX6_wants_1 rfl hl (by decide) rfl (fun ls hl => ?_)
  refine lv_iconst (v := 0) hx hb dX6_wants_2 (by decide) ?_
  refine lv_istore_n (lv' := [(3, .int 0), (2, .int 0), (0, .ref (ad (20, 50, 0))), (1, .int v1)]) hx hb dX6_wants_3 rfl hl (by decide) rfl (fun ls hl => ?_)
  exact tX6_wants_b4 C 1000 _ _ _ _ _ _ hW (lv_sub hl [2, 3, 1, 0] rfl) h
abbrev rX6_wanted : Room := { frames := 5, cells := 0, slots := 0, locals := 113 }
theorem mX6_wanted_l13 : Cond.fieldLink RX6 13 "NearlyBoughtModel" "told" "[I" ∈ wsX6_wanted := by decide +kernel
theorem iX6_wanted_6 : ∀ w ∈ wsX60, w ∈ wsX6_wanted := fun _ h => List.mem_cons_of_mem _ (List.mem_append_right _ h)
set_option maxHeartbeats 4000000 in
set_option maxRecDepth 100000 in
theorem tX6_wanted_b43 {p : Program} {l : Launch} {e : Env} {s : State} {m : MethodId} {args : Array Value} {below : List Frame} {meth : Method} {c : Code} {A : Nat → Prop} {D : va_G} {g : G3} {ad : Ky → Nat} (C : Cx p s m args meth c cX6_wanted (some .int) 4 RX6 wsX6_wanted A) {r0 : Int32} {μ0 : Mem} {v1 v3 s0 : Int32} {k15 : Int32 → Int32 → Mem → Option (Int32 × Mem)} (h15 : ∀ (v2 v3 : Int32) (μ : Mem) (H : Heap) (locs : List Loc) (ls : Array Slot), WX D g keysM ad A s s.heap μ H locs → lv_has ls 4 [(0, .ref (ad (20, 50, 0))), (1, .int v1), (2, .int v2), (3, .int v3)] → k15 v2 v3 μ = some (r0, μ0) → TgI r0 p l e rX6_wanted s m args below meth c D g keysM ad A μ0 H locs (F0 m 15 ls [])) {μ : Mem} {H : Heap} {locs : List Loc} {ls : Array Slot} (hW : WX D g keysM ad A s s.heap μ H locs) (hl : lv_has ls 4 [(0, .ref (ad (20, 50, 0))), (1, .int v1), (3, .int v3)]) (h : X6_wanted_b43 k15 v1 v3 s0 μ = some (r0, μ0)) : TgI r0 p l e rX6_wanted s m args below meth c D g keysM ad A μ0 H locs (F0 m 43 ls [.int s0]) := by
  obtain ⟨hx, hb, hr, hts, hown, hlocks, hml, hA⟩ := id C
  refine lv_istore_n (lv' := [(2, .int s0), (0, .ref (ad (20, 50, 0))), (1, .int v1), (3, .int v3)]) hx hb dX6_wanted_43 rfl hl (by decide) rfl (fun ls hl => ?_)
  refine lv_iinc (v := v3 + 1) (lv' := [(3, .int (v3 + 1)), (2, .int s0), (0, .ref (ad (20, 50, 0))), (1, .int v1)]) hx hb dX6_wanted_44 hl (k := 3) rfl rfl (by decide) rfl (fun ls hl => ?_)
  refine lv_goto (tgt := 15) hx hb dX6_wanted_47 (by decide) ?_
  exact h15 _ _ _ _ _ _ hW (lv_sub hl [2, 3, 1, 0] rfl) h
set_option maxHeartbeats 4000000 in
set_option maxRecDepth 100000 in
theorem tX6_wanted_b15 {p : Program} {l : Launch} {e : Env} {s : State} {m : MethodId} {args : Array Value} {below : List Frame} {meth : Method} {c : Code} {A : Nat → Prop} {D : va_G} {g : G3} {ad : Ky → Nat} (C : Cx p s m args meth c cX6_wanted (some .int) 4 RX6 wsX6_wanted A) {r0 : Int32} {μ0 : Mem} {v1 : Int32} (n : Nat) : ∀ (v2 v3 : Int32) (μ : Mem) (H : Heap) (locs : List Loc) (ls : Array Slot), WX D g keysM ad A s s.heap μ H locs → lv_has ls 4 [(0, .ref (ad (20, 50, 0))), (1, .int v1), (2, .int v2), (3, .int v3)] → lo2 (X6_wanted_b15 v1) n v2 v3 μ = some (r0, μ0) → TgI r0 p l e rX6_wanted s m args below meth c D g keysM ad A μ0 H locs (F0 m 15 ls []) := by
  obtain ⟨hx, hb, hr, hts, hown, hlocks, hml, hA⟩ := id C
  induction n with
  | zero =>
    intro v2 v3 μ H locs ls hW hl h
    cases h
  | succ n h15 =>
    intro v2 v3 μ H locs ls hW hl h
    have h : X6_wanted_b15 v1 (lo2 (X6_wanted_b15 v1) n) v2 v3 μ = some (r0, μ0) := h
    refine lv_iload_n hx hb dX6_wanted_15 rfl (lv_at hl 3 rfl) ?_
    refine lv_aload_n hx hb dX6_wanted_16 rfl (lv_at hl 0 rfl) ?_
    refine wo_get (C := RX6) (T := TX6) (N := 14) hx hb hts iX6_wanted_6 hown hW kl_20_50_0 co_o rfl 2 (by decide) (hts _ mX6_wanted_l13) (fun _ h9 => h9) rfl dX6_wanted_17 ?_
    refine lv_iconst (v := 1) hx hb dX6_wanted_20 (by decide) ?_
    obtain ⟨hi_5, h⟩ := gi_s h
    refine xw_ald hx hb hW kl_20_2_0 rfl hi_5 dX6_wanted_21 ?_
    refine lv_icmp_ge (tgt := 50) hx hb dX6_wanted_22 (by decide) (fun c_6 => ?_) (fun c_6 => ?_)
    · have h := ite_p c_6 h
      refine lv_iload_n hx hb dX6_wanted_50 rfl (lv_at hl 1 rfl) ?_
      refine lv_if_ne (tgt := 58) hx hb dX6_wanted_51 (by decide) (fun c_7 => ?_) (fun c_7 => ?_)
      · have h := ite_n c_7 h
        refine lv_aload_n hx hb dX6_wanted_58 rfl (lv_at hl 0 rfl) ?_
        refine lv_iload_n hx hb dX6_wanted_59 rfl (lv_at hl 2 rfl) ?_
        obtain ⟨r_10, μ_9, hh_8, h⟩ := bd_s h
        refine wo_Vi (rest := []) C hW (kX6_wants l D g ad  hh_8) (cwV 1 hts gX6_wanted_X6_wants rfl rfl rfl (by decide +kernel) ⟨Nat.le_of_ble_eq_true rfl, Nat.le_of_ble_eq_true rfl⟩) kl_20_50_0 co_o rfl rfl hl.1 rfl (Nat.le_of_ble_eq_true rfl) dX6_wanted_60 ⟨Nat.zero_le _, Nat.zero_le _⟩ (fun H locs hW => ?_)
        exact xw_iret C rfl hW dX6_wanted_63 h
      have h := ite_p c_7 h
      refine lv_iload_n hx hb dX6_wanted_54 rfl (lv_at hl 2 rfl) ?_
      refine lv_goto (tgt := 63) hx hb dX6_wanted_55 (by decide) ?_
      exact xw_iret C rfl hW dX6_wanted_63 h
    have h := ite_n c_6 h
    refine lv_aload_n hx hb dX6_wanted_25 rfl (lv_at hl 0 rfl) ?_
    refine lv_iload_n hx hb dX6_wanted_26 rfl (lv_at hl 3 rfl) ?_
    obtain ⟨r_13, μ_12, hh_11, h⟩ := bd_s h
    refine wo_Vi (rest := []) C hW (kX6_wants l D g ad  hh_11) (cwV 1 hts gX6_wanted_X6_wants rfl rfl rfl (by decide +kernel) ⟨Nat.le_of_ble_eq_true rfl, Nat.le_of_ble_eq_true rfl⟩) kl_20_50_0 co_o rfl rfl hl.1 rfl (Nat.le_of_ble_eq_true rfl) dX6_wanted_27 ⟨Nat.zero_le _, Nat.zero_le _⟩ (fun H locs hW => ?_)
    refine lv_aload_n hx hb dX6_wanted_30 rfl (lv_at hl 0 rfl) ?_
    refine lv_iload_n hx hb dX6_wanted_31 rfl (lv_at hl 2 rfl) ?_
    obtain ⟨r_16, μ_15, hh_14, h⟩ := bd_s h
    refine wo_Vi (rest := [.int r_13]) C hW (kX6_wants l D g ad  hh_14) (cwV 1 hts gX6_wanted_X6_wants rfl rfl rfl (by decide +kernel) ⟨Nat.le_of_ble_eq_true rfl, Nat.le_of_ble_eq_true rfl⟩) kl_20_50_0 co_o rfl rfl hl.1 rfl (Nat.le_of_ble_eq_true rfl) dX6_wanted_32 ⟨Nat.zero_le _, Nat.zero_le _⟩ (fun H locs hW => ?_)
    refine lv_icmp_le (tgt := 42) hx hb dX6_wanted_35 (by decide) (fun c_17 => ?_) (fun c_17 => ?_)
    · have h := ite_p c_17 h
      refine lv_iload_n hx hb dX6_wanted_42 rfl (lv_at hl 2 rfl) ?_
      exact tX6_wanted_b43 C h15 hW (lv_sub hl [0, 1, 3] rfl) h
    have h := ite_n c_17 h
    refine lv_iload_n hx hb dX6_wanted_38 rfl (lv_at hl 3 rfl) ?_
    refine lv_goto (tgt := 43) hx hb dX6_wanted_39 (by decide) ?_
    exact tX6_wanted_b43 C h15 hW (lv_sub hl [0, 1, 3] rfl) h
set_option maxHeartbeats 4000000 in
set_option maxRecDepth 100000 in
theorem kX6_wanted (l : Launch) (D : va_G) (g : G3) (ad : Ky → Nat) {v1 : Int32} {μ μ' : Mem} {r : Int32} (h : X6_wanted v1 μ = some (r, μ')) : CtI l yX6_wanted wsX6_wanted rX6_wanted D (tysX g) keysM ad (cX g ad) [.ref (ad (20, 50, 0)), .int v1] μ r μ' := by
  refine ctI_of (cc := cX6_wanted) (maxL := 4) (ret := (some .int)) keysM_nd (by decide) rfl (Nat.le_of_ble_eq_true rfl) (fun p e s m below meth c A ls C hW hl => ?_)
  have hl : lv_has ls 4 [(0, .ref (ad (20, 50, 0))), (1, .int v1)] := hl
  obtain ⟨hx, hb, hr, hts, hown, hlocks, hml, hA⟩ := id C
  refine lv_iload_n hx hb dX6_wanted_0 rfl (lv_at hl 1 rfl) ?_
  refine lv_iconst (v := 0) hx hb dX6_wanted_1 (by decide) ?_
  refine lv_iconst (v := 1) hx hb dX6_wanted_2 (by decide) ?_
  obtain ⟨r_3, μ_2, hh_1, h⟩ := bd_s h
  refine wo_Si (rest := []) C hW (kX6_in l D g ad  hh_1) (cwS 3 hts gX6_wanted_X6_in rfl rfl rfl (by decide +kernel) ⟨Nat.le_of_ble_eq_true rfl, Nat.le_of_ble_eq_true rfl⟩) rfl hl.1 rfl (Nat.le_of_ble_eq_true rfl) dX6_wanted_3 ⟨Nat.zero_le _, Nat.zero_le _⟩ (fun H locs hW => ?_)
  refine lv_if_ne (tgt := 11) hx hb dX6_wanted_6 (by decide) (fun c_4 => ?_) (fun c_4 => ?_)
  · have h := ite_n c_4 h
    refine lv_iconst (v := 0) hx hb dX6_wanted_11 (by decide) ?_
    refine lv_istore_n (lv' := [(2, .int 0), (0, .ref (ad (20, 50, 0))), (1, .int v1)]) hx hb dX6_wanted_12 rfl hl (by decide) rfl (fun ls hl => ?_)
    refine lv_iconst (v := 1) hx hb dX6_wanted_13 (by decide) ?_
    refine lv_istore_n (lv' := [(3, .int 1), (2, .int 0), (0, .ref (ad (20, 50, 0))), (1, .int v1)]) hx hb dX6_wanted_14 rfl hl (by decide) rfl (fun ls hl => ?_)
    exact tX6_wanted_b15 C 1000 _ _ _ _ _ _ hW (lv_sub hl [2, 3, 1, 0] rfl) h
  have h := ite_p c_4 h
  refine lv_iconst (v := (-1)) hx hb dX6_wanted_9 (by decide) ?_
  exact xw_iret C rfl hW dX6_wanted_10 h
abbrev rX6_wipe : Room := { frames := 0, cells := 0, slots := 0, locals := 0 }
theorem mX6_wipe_l60 : Cond.fieldLink RX6 60 "NearlyBoughtModel" "typed" "I" ∈ wsX6_wipe := by decide +kernel
theorem iX6_wipe_6 : ∀ w ∈ wsX60, w ∈ wsX6_wipe := fun _ h => List.mem_cons_of_mem _ (List.mem_append_right _ h)
set_option maxHeartbeats 4000000 in
set_option maxRecDepth 100000 in
theorem kX6_wipe (l : Launch) (D : va_G) (g : G3) (ad : Ky → Nat) {μ μ' : Mem} {r : Int32} (h : X6_wipe μ = some (r, μ')) : CtI l yX6_wipe wsX6_wipe rX6_wipe D (tysX g) keysM ad (cX g ad) [.ref (ad (20, 50, 0))] μ r μ' := by
  refine ctI_of (cc := cX6_wipe) (maxL := 2) (ret := (some .int)) keysM_nd (by decide) rfl (Nat.le_of_ble_eq_true rfl) (fun p e s m below meth c A ls C hW hl => ?_)
  have hl : lv_has ls 2 [(0, .ref (ad (20, 50, 0)))] := hl
  obtain ⟨hx, hb, hr, hts, hown, hlocks, hml, hA⟩ := id C
  refine lv_aload_n hx hb dX6_wipe_0 rfl (lv_at hl 0 rfl) ?_
  refine wo_get (C := RX6) (T := TX6) (N := 14) hx hb hts iX6_wipe_6 hown hW kl_20_50_0 co_o rfl 1 (by decide) (hts _ mX6_wipe_l60) (fun _ h9 => h9) rfl dX6_wipe_1 ?_
  refine lv_istore_n (lv' := [(1, .int (μ 20 1 0 0)), (0, .ref (ad (20, 50, 0)))]) hx hb dX6_wipe_4 rfl hl (by decide) rfl (fun ls hl => ?_)
  refine lv_aload_n hx hb dX6_wipe_5 rfl (lv_at hl 1 rfl) ?_
  refine lv_iconst (v := 0) hx hb dX6_wipe_6 (by decide) ?_
  refine xw_put (C := RX6) (T := TX6) (N := 14) hx hb hts iX6_wipe_6 tyX6 tyX6_ok nmX6 hown hW kl_20_50_0 co_o rfl 1 (by decide) (hts _ mX6_wipe_l60) (fun _ h9 => h9) rfl (by decide +kernel) (Nat.le_of_ble_eq_true rfl) keysM_ok rfl (po_1 _) dX6_wipe_7 (fun H locs hW => ?_)
  refine lv_iload_n hx hb dX6_wipe_10 rfl (lv_at hl 0 rfl) ?_
  exact xw_iret C rfl hW dX6_wipe_11 h
abbrev rX6_write : Room := { frames := 1, cells := 0, slots := 0, locals := 22 }
theorem mX6_write_l60 : Cond.fieldLink RX6 60 "NearlyBoughtModel" "typed" "I" ∈ wsX6_write := by decide +kernel
theorem mX6_write_l7 : Cond.fieldLink RX6 7 "NearlyBoughtModel" "text" "[I" ∈ wsX6_write := by decide +kernel
theorem iX6_write_6 : ∀ w ∈ wsX60, w ∈ wsX6_write := fun _ h => List.mem_cons_of_mem _ (List.mem_append_right _ h)
set_option maxHeartbeats 4000000 in
set_option maxRecDepth 100000 in
theorem kX6_write (l : Launch) (D : va_G) (g : G3) (ad : Ky → Nat) {v1 : Int32} {μ μ' : Mem} {r : Int32} (h : X6_write v1 μ = some (r, μ')) : CtI l yX6_write wsX6_write rX6_write D (tysX g) keysM ad (cX g ad) [.ref (ad (20, 50, 0)), .int v1] μ r μ' := by
  refine ctI_of (cc := cX6_write) (maxL := 2) (ret := (some .int)) keysM_nd (by decide) rfl (Nat.le_of_ble_eq_true rfl) (fun p e s m below meth c A ls C hW hl => ?_)
  have hl : lv_has ls 2 [(0, .ref (ad (20, 50, 0))), (1, .int v1)] := hl
  obtain ⟨hx, hb, hr, hts, hown, hlocks, hml, hA⟩ := id C
  refine lv_iload_n hx hb dX6_write_0 rfl (lv_at hl 1 rfl) ?_
  refine lv_bipush (v := 32) hx hb dX6_write_1 (by decide) ?_
  refine lv_bipush (v := 126) hx hb dX6_write_3 (by decide) ?_
  obtain ⟨r_3, μ_2, hh_1, h⟩ := bd_s h
  refine wo_Si (rest := []) C hW (kX6_in l D g ad  hh_1) (cwS 3 hts gX6_write_X6_in rfl rfl rfl (by decide +kernel) ⟨Nat.le_of_ble_eq_true rfl, Nat.le_of_ble_eq_true rfl⟩) rfl hl.1 rfl (Nat.le_of_ble_eq_true rfl) dX6_write_5 ⟨Nat.zero_le _, Nat.zero_le _⟩ (fun H locs hW => ?_)
  refine lv_if_ne (tgt := 13) hx hb dX6_write_8 (by decide) (fun c_4 => ?_) (fun c_4 => ?_)
  · have h := ite_n c_4 h
    refine lv_aload_n hx hb dX6_write_13 rfl (lv_at hl 0 rfl) ?_
    refine wo_get (C := RX6) (T := TX6) (N := 14) hx hb hts iX6_write_6 hown hW kl_20_50_0 co_o rfl 1 (by decide) (hts _ mX6_write_l60) (fun _ h9 => h9) rfl dX6_write_14 ?_
    refine lv_sipush (v := 200) hx hb dX6_write_17 (by decide) ?_
    refine lv_icmp_ne (tgt := 26) hx hb dX6_write_20 (by decide) (fun c_5 => ?_) (fun c_5 => ?_)
    · have h := ite_n c_5 h
      refine lv_aload_n hx hb dX6_write_26 rfl (lv_at hl 0 rfl) ?_
      refine wo_get (C := RX6) (T := TX6) (N := 14) hx hb hts iX6_write_6 hown hW kl_20_50_0 co_o rfl 0 (by decide) (hts _ mX6_write_l7) (fun _ h9 => h9) rfl dX6_write_27 ?_
      refine lv_aload_n hx hb dX6_write_30 rfl (lv_at hl 0 rfl) ?_
      refine wo_get (C := RX6) (T := TX6) (N := 14) hx hb hts iX6_write_6 hown hW kl_20_50_0 co_o rfl 1 (by decide) (hts _ mX6_write_l60) (fun _ h9 => h9) rfl dX6_write_31 ?_
      refine lv_iload_n hx hb dX6_write_34 rfl (lv_at hl 1 rfl) ?_
      obtain ⟨hi_6, h⟩ := gi_s h
      refine xw_ast hx hb hW kl_20_0_0 (fun _ => rfl) rfl hi_6 dX6_write_35 (fun H locs hW => ?_)
      refine lv_aload_n hx hb dX6_write_36 rfl (lv_at hl 0 rfl) ?_
      refine lv_dup hx hb dX6_write_37 rfl ?_
      refine wo_get (C := RX6) (T := TX6) (N := 14) hx hb hts iX6_write_6 hown hW kl_20_50_0 co_o rfl 1 (by decide) (hts _ mX6_write_l60) (fun _ h9 => h9) rfl dX6_write_38 ?_
      refine lv_iconst (v := 1) hx hb dX6_write_41 (by decide) ?_
      refine lv_iadd hx hb dX6_write_42 ?_
      refine xw_put (C := RX6) (T := TX6) (N := 14) hx hb hts iX6_write_6 tyX6 tyX6_ok nmX6 hown hW kl_20_50_0 co_o rfl 1 (by decide) (hts _ mX6_write_l60) (fun _ h9 => h9) rfl (by decide +kernel) (Nat.le_of_ble_eq_true rfl) keysM_ok rfl (po_1 _) dX6_write_43 (fun H locs hW => ?_)
      refine lv_aload_n hx hb dX6_write_46 rfl (lv_at hl 0 rfl) ?_
      refine wo_get (C := RX6) (T := TX6) (N := 14) hx hb hts iX6_write_6 hown hW kl_20_50_0 co_o rfl 1 (by decide) (hts _ mX6_write_l60) (fun _ h9 => h9) rfl dX6_write_47 ?_
      exact xw_iret C rfl hW dX6_write_50 h
    have h := ite_p c_5 h
    refine lv_bipush (v := (-3)) hx hb dX6_write_23 (by decide) ?_
    exact xw_iret C rfl hW dX6_write_25 h
  have h := ite_p c_4 h
  refine lv_iconst (v := (-1)) hx hb dX6_write_11 (by decide) ?_
  exact xw_iret C rfl hW dX6_write_12 h
