/-! WALKS, laid by program out of the bytecode -/
abbrev rX6_allCoins : Room := { frames := 0, cells := 0, slots := 0, locals := 0 }
theorem mX6_allCoins_l13 : Cond.fieldLink RX6 13 "NearlyBoughtModel" "told" "[I" ∈ wsX6_allCoins := by decide +kernel
theorem mX6_allCoins_l19 : Cond.fieldLink RX6 19 "NearlyBoughtModel" "s" "[I" ∈ wsX6_allCoins := by decide +kernel
theorem iX6_allCoins_6 : ∀ w ∈ wsX60, w ∈ wsX6_allCoins := fun _ h => List.mem_cons_of_mem _ (List.mem_append_right _ h)
set_option maxHeartbeats 4000000 in
set_option maxRecDepth 100000 in
theorem tX6_allCoins_b4 {p : Program} {l : Launch} {e : Env} {s : State} {m : MethodId} {args : Array Value} {below : List Frame} {meth : Method} {c : Code} {A : Nat → Prop} {D : va_G} {g : G3} {ad : Ky → Nat} (C : Cx p s m args meth c cX6_allCoins (some .int) 3 RX6 wsX6_allCoins A) {r0 : Int32} {μ0 : Mem} (n : Nat) : ∀ (v1 v2 : Int32) (μ : Mem) (H : Heap) (locs : List Loc) (ls : Array Slot), WX D g keysM ad A s s.heap μ H locs → lv_has ls 3 [(0, .ref (ad (20, 50, 0))), (1, .int v1), (2, .int v2)] → lo2 (X6_allCoins_b4) n v1 v2 μ = some (r0, μ0) → TgI r0 p l e rX6_allCoins s m args below meth c D g keysM ad A μ0 H locs (F0 m 4 ls []) := by
  obtain ⟨hx, hb, hr, hts, hown, hlocks, hml, hA⟩ := id C
  induction n with
  | zero =>
    intro v1 v2 μ H locs ls hW hl h
    cases h
  | succ n h4 =>
    intro v1 v2 μ H locs ls hW hl h
    have h : X6_allCoins_b4 (lo2 (X6_allCoins_b4) n) v1 v2 μ = some (r0, μ0) := h
    refine lv_iload_n hx hb dX6_allCoins_4 rfl (lv_at hl 2 rfl) ?_
    refine lv_aload_n hx hb dX6_allCoins_5 rfl (lv_at hl 0 rfl) ?_
    refine wo_get (C := RX6) (T := TX6) (N := 14) hx hb hts iX6_allCoins_6 hown hW kl_20_50_0 co_o rfl 2 (by decide) (hts _ mX6_allCoins_l13) (fun _ h9 => h9) rfl dX6_allCoins_6 ?_
    refine lv_iconst (v := 0) hx hb dX6_allCoins_9 (by decide) ?_
    obtain ⟨hi_1, h⟩ := gi_s h
    refine xw_ald hx hb hW kl_20_2_0 rfl hi_1 dX6_allCoins_10 ?_
    refine lv_icmp_ge (tgt := 29) hx hb dX6_allCoins_11 (by decide) (fun c_2 => ?_) (fun c_2 => ?_)
    · have h := ite_p c_2 h
      refine lv_iload_n hx hb dX6_allCoins_29 rfl (lv_at hl 1 rfl) ?_
      exact xw_iret C rfl hW dX6_allCoins_30 h
    have h := ite_n c_2 h
    refine lv_iload_n hx hb dX6_allCoins_14 rfl (lv_at hl 1 rfl) ?_
    refine lv_aload_n hx hb dX6_allCoins_15 rfl (lv_at hl 0 rfl) ?_
    refine wo_get (C := RX6) (T := TX6) (N := 14) hx hb hts iX6_allCoins_6 hown hW kl_20_50_0 co_o rfl 4 (by decide) (hts _ mX6_allCoins_l19) (fun _ h9 => h9) rfl dX6_allCoins_16 ?_
    refine lv_iload_n hx hb dX6_allCoins_19 rfl (lv_at hl 2 rfl) ?_
    obtain ⟨hi_3, h⟩ := gi_s h
    refine xw_ald hx hb hW kl_20_4_0 rfl hi_3 dX6_allCoins_20 ?_
    refine lv_iadd hx hb dX6_allCoins_21 ?_
    refine lv_istore_n (lv' := [(1, .int (v1 + (μ 20 4 0 v2.toNatClampNeg))), (0, .ref (ad (20, 50, 0))), (2, .int v2)]) hx hb dX6_allCoins_22 rfl hl (by decide) rfl (fun ls hl => ?_)
    refine lv_iinc (v := v2 + 1) (lv' := [(2, .int (v2 + 1)), (1, .int (v1 + (μ 20 4 0 v2.toNatClampNeg))), (0, .ref (ad (20, 50, 0)))]) hx hb dX6_allCoins_23 hl (k := 2) rfl rfl (by decide) rfl (fun ls hl => ?_)
    refine lv_goto (tgt := 4) hx hb dX6_allCoins_26 (by decide) ?_
    exact h4 _ _ _ _ _ _ hW (lv_sub hl [2, 1, 0] rfl) h
set_option maxHeartbeats 4000000 in
set_option maxRecDepth 100000 in
theorem kX6_allCoins (l : Launch) (D : va_G) (g : G3) (ad : Ky → Nat) {μ μ' : Mem} {r : Int32} (h : X6_allCoins μ = some (r, μ')) : CtI l yX6_allCoins wsX6_allCoins rX6_allCoins D (tysX g) keysM ad (cX g ad) [.ref (ad (20, 50, 0))] μ r μ' := by
  refine ctI_of (cc := cX6_allCoins) (maxL := 3) (ret := (some .int)) keysM_nd (by decide) rfl (Nat.le_of_ble_eq_true rfl) (fun p e s m below meth c A ls C hW hl => ?_)
  have hl : lv_has ls 3 [(0, .ref (ad (20, 50, 0)))] := hl
  obtain ⟨hx, hb, hr, hts, hown, hlocks, hml, hA⟩ := id C
  refine lv_iconst (v := 0) hx hb dX6_allCoins_0 (by decide) ?_
  refine lv_istore_n (lv' := [(1, .int 0), (0, .ref (ad (20, 50, 0)))]) hx hb dX6_allCoins_1 rfl hl (by decide) rfl (fun ls hl => ?_)
  refine lv_iconst (v := 0) hx hb dX6_allCoins_2 (by decide) ?_
  refine lv_istore_n (lv' := [(2, .int 0), (1, .int 0), (0, .ref (ad (20, 50, 0)))]) hx hb dX6_allCoins_3 rfl hl (by decide) rfl (fun ls hl => ?_)
  exact tX6_allCoins_b4 C 1000 _ _ _ _ _ _ hW (lv_sub hl [2, 1, 0] rfl) h
abbrev rX6_back : Room := { frames := 0, cells := 0, slots := 0, locals := 0 }
theorem mX6_back_l91 : Cond.fieldLink RX6 91 "NearlyBoughtModel" "kept" "I" ∈ wsX6_back := by decide +kernel
theorem mX6_back_l88 : Cond.fieldLink RX6 88 "NearlyBoughtModel" "known" "I" ∈ wsX6_back := by decide +kernel
theorem mX6_back_l19 : Cond.fieldLink RX6 19 "NearlyBoughtModel" "s" "[I" ∈ wsX6_back := by decide +kernel
theorem mX6_back_l25 : Cond.fieldLink RX6 25 "NearlyBoughtModel" "images" "[I" ∈ wsX6_back := by decide +kernel
theorem iX6_back_6 : ∀ w ∈ wsX60, w ∈ wsX6_back := fun _ h => List.mem_cons_of_mem _ (List.mem_append_right _ h)
set_option maxHeartbeats 4000000 in
set_option maxRecDepth 100000 in
theorem tX6_back_b22 {p : Program} {l : Launch} {e : Env} {s : State} {m : MethodId} {args : Array Value} {below : List Frame} {meth : Method} {c : Code} {A : Nat → Prop} {D : va_G} {g : G3} {ad : Ky → Nat} (C : Cx p s m args meth c cX6_back (some .int) 2 RX6 wsX6_back A) {r0 : Int32} {μ0 : Mem} (n : Nat) : ∀ (v1 : Int32) (μ : Mem) (H : Heap) (locs : List Loc) (ls : Array Slot), WX D g keysM ad A s s.heap μ H locs → lv_has ls 2 [(0, .ref (ad (20, 50, 0))), (1, .int v1)] → lo1 (X6_back_b22) n v1 μ = some (r0, μ0) → TgI r0 p l e rX6_back s m args below meth c D g keysM ad A μ0 H locs (F0 m 22 ls []) := by
  obtain ⟨hx, hb, hr, hts, hown, hlocks, hml, hA⟩ := id C
  induction n with
  | zero =>
    intro v1 μ H locs ls hW hl h
    cases h
  | succ n h22 =>
    intro v1 μ H locs ls hW hl h
    have h : X6_back_b22 (lo1 (X6_back_b22) n) v1 μ = some (r0, μ0) := h
    refine lv_iload_n hx hb dX6_back_22 rfl (lv_at hl 1 rfl) ?_
    refine lv_bipush (v := 55) hx hb dX6_back_23 (by decide) ?_
    refine lv_icmp_ge (tgt := 54) hx hb dX6_back_25 (by decide) (fun c_2 => ?_) (fun c_2 => ?_)
    · have h := ite_p c_2 h
      refine lv_aload_n hx hb dX6_back_54 rfl (lv_at hl 0 rfl) ?_
      refine lv_iconst (v := 0) hx hb dX6_back_55 (by decide) ?_
      refine xw_put (C := RX6) (T := TX6) (N := 14) hx hb hts iX6_back_6 tyX6 tyX6_ok nmX6 hown hW kl_20_50_0 co_o rfl 6 (by decide) (hts _ mX6_back_l88) (fun _ h9 => h9) rfl (by decide +kernel) (Nat.le_of_ble_eq_true rfl) keysM_ok rfl (po_6 _) dX6_back_56 (fun H locs hW => ?_)
      refine lv_aload_n hx hb dX6_back_59 rfl (lv_at hl 0 rfl) ?_
      refine wo_get (C := RX6) (T := TX6) (N := 14) hx hb hts iX6_back_6 hown hW kl_20_50_0 co_o rfl 8 (by decide) (hts _ mX6_back_l91) (fun _ h9 => h9) rfl dX6_back_60 ?_
      exact xw_iret C rfl hW dX6_back_63 h
    have h := ite_n c_2 h
    refine lv_aload_n hx hb dX6_back_28 rfl (lv_at hl 0 rfl) ?_
    refine wo_get (C := RX6) (T := TX6) (N := 14) hx hb hts iX6_back_6 hown hW kl_20_50_0 co_o rfl 4 (by decide) (hts _ mX6_back_l19) (fun _ h9 => h9) rfl dX6_back_29 ?_
    refine lv_iload_n hx hb dX6_back_32 rfl (lv_at hl 1 rfl) ?_
    refine lv_aload_n hx hb dX6_back_33 rfl (lv_at hl 0 rfl) ?_
    refine wo_get (C := RX6) (T := TX6) (N := 14) hx hb hts iX6_back_6 hown hW kl_20_50_0 co_o rfl 7 (by decide) (hts _ mX6_back_l25) (fun _ h9 => h9) rfl dX6_back_34 ?_
    refine lv_bipush (v := 55) hx hb dX6_back_37 (by decide) ?_
    refine lv_aload_n hx hb dX6_back_39 rfl (lv_at hl 0 rfl) ?_
    refine wo_get (C := RX6) (T := TX6) (N := 14) hx hb hts iX6_back_6 hown hW kl_20_50_0 co_o rfl 8 (by decide) (hts _ mX6_back_l91) (fun _ h9 => h9) rfl dX6_back_40 ?_
    refine lv_imul hx hb dX6_back_43 ?_
    refine lv_iload_n hx hb dX6_back_44 rfl (lv_at hl 1 rfl) ?_
    refine lv_iadd hx hb dX6_back_45 ?_
    obtain ⟨hi_3, h⟩ := gi_s h
    refine xw_ald hx hb hW kl_20_7_0 rfl hi_3 dX6_back_46 ?_
    obtain ⟨hi_4, h⟩ := gi_s h
    refine xw_ast hx hb hW kl_20_4_0 (fun _ => rfl) rfl hi_4 dX6_back_47 (fun H locs hW => ?_)
    refine lv_iinc (v := v1 + 1) (lv' := [(1, .int (v1 + 1)), (0, .ref (ad (20, 50, 0)))]) hx hb dX6_back_48 hl (k := 1) rfl rfl (by decide) rfl (fun ls hl => ?_)
    refine lv_goto (tgt := 22) hx hb dX6_back_51 (by decide) ?_
    exact h22 _ _ _ _ _ hW (lv_sub hl [1, 0] rfl) h
set_option maxHeartbeats 4000000 in
set_option maxRecDepth 100000 in
theorem kX6_back (l : Launch) (D : va_G) (g : G3) (ad : Ky → Nat) {μ μ' : Mem} {r : Int32} (h : X6_back μ = some (r, μ')) : CtI l yX6_back wsX6_back rX6_back D (tysX g) keysM ad (cX g ad) [.ref (ad (20, 50, 0))] μ r μ' := by
  refine ctI_of (cc := cX6_back) (maxL := 2) (ret := (some .int)) keysM_nd (by decide) rfl (Nat.le_of_ble_eq_true rfl) (fun p e s m below meth c A ls C hW hl => ?_)
  have hl : lv_has ls 2 [(0, .ref (ad (20, 50, 0)))] := hl
  obtain ⟨hx, hb, hr, hts, hown, hlocks, hml, hA⟩ := id C
  refine lv_aload_n hx hb dX6_back_0 rfl (lv_at hl 0 rfl) ?_
  refine wo_get (C := RX6) (T := TX6) (N := 14) hx hb hts iX6_back_6 hown hW kl_20_50_0 co_o rfl 8 (by decide) (hts _ mX6_back_l91) (fun _ h9 => h9) rfl dX6_back_1 ?_
  refine lv_if_ne (tgt := 10) hx hb dX6_back_4 (by decide) (fun c_1 => ?_) (fun c_1 => ?_)
  · have h := ite_n c_1 h
    refine lv_aload_n hx hb dX6_back_10 rfl (lv_at hl 0 rfl) ?_
    refine lv_dup hx hb dX6_back_11 rfl ?_
    refine wo_get (C := RX6) (T := TX6) (N := 14) hx hb hts iX6_back_6 hown hW kl_20_50_0 co_o rfl 8 (by decide) (hts _ mX6_back_l91) (fun _ h9 => h9) rfl dX6_back_12 ?_
    refine lv_iconst (v := 1) hx hb dX6_back_15 (by decide) ?_
    refine lv_isub hx hb dX6_back_16 ?_
    refine xw_put (C := RX6) (T := TX6) (N := 14) hx hb hts iX6_back_6 tyX6 tyX6_ok nmX6 hown hW kl_20_50_0 co_o rfl 8 (by decide) (hts _ mX6_back_l91) (fun _ h9 => h9) rfl (by decide +kernel) (Nat.le_of_ble_eq_true rfl) keysM_ok rfl (po_8 _) dX6_back_17 (fun H locs hW => ?_)
    refine lv_iconst (v := 0) hx hb dX6_back_20 (by decide) ?_
    refine lv_istore_n (lv' := [(1, .int 0), (0, .ref (ad (20, 50, 0)))]) hx hb dX6_back_21 rfl hl (by decide) rfl (fun ls hl => ?_)
    exact tX6_back_b22 C 1000 _ _ _ _ _ hW (lv_sub hl [1, 0] rfl) h
  have h := ite_p c_1 h
  refine lv_bipush (v := (-2)) hx hb dX6_back_7 (by decide) ?_
  exact xw_iret C rfl hW dX6_back_9 h
abbrev rX6_begins : Room := { frames := 0, cells := 0, slots := 0, locals := 0 }
theorem mX6_begins_l16 : Cond.fieldLink RX6 16 "NearlyBoughtModel" "draft" "[I" ∈ wsX6_begins := by decide +kernel
theorem iX6_begins_6 : ∀ w ∈ wsX60, w ∈ wsX6_begins := fun _ h => List.mem_cons_of_mem _ (List.mem_append_right _ h)
set_option maxHeartbeats 4000000 in
set_option maxRecDepth 100000 in
theorem tX6_begins_b2 {p : Program} {l : Launch} {e : Env} {s : State} {m : MethodId} {args : Array Value} {below : List Frame} {meth : Method} {c : Code} {A : Nat → Prop} {D : va_G} {g : G3} {ad : Ky → Nat} (C : Cx p s m args meth c cX6_begins none 2 RX6 wsX6_begins A) {μ0 : Mem} (n : Nat) : ∀ (v1 : Int32) (μ : Mem) (H : Heap) (locs : List Loc) (ls : Array Slot), WX D g keysM ad A s s.heap μ H locs → lv_has ls 2 [(0, .ref (ad (20, 50, 0))), (1, .int v1)] → lo1 (X6_begins_b2) n v1 μ = some μ0 → TgV p l e rX6_begins s m args below meth c D g keysM ad A μ0 H locs (F0 m 2 ls []) := by
  obtain ⟨hx, hb, hr, hts, hown, hlocks, hml, hA⟩ := id C
  induction n with
  | zero =>
    intro v1 μ H locs ls hW hl h
    cases h
  | succ n h2 =>
    intro v1 μ H locs ls hW hl h
    have h : X6_begins_b2 (lo1 (X6_begins_b2) n) v1 μ = some μ0 := h
    refine lv_iload_n hx hb dX6_begins_2 rfl (lv_at hl 1 rfl) ?_
    refine lv_bipush (v := 59) hx hb dX6_begins_3 (by decide) ?_
    refine lv_icmp_ge (tgt := 21) hx hb dX6_begins_5 (by decide) (fun c_1 => ?_) (fun c_1 => ?_)
    · have h := ite_p c_1 h
      refine lv_aload_n hx hb dX6_begins_21 rfl (lv_at hl 0 rfl) ?_
      refine wo_get (C := RX6) (T := TX6) (N := 14) hx hb hts iX6_begins_6 hown hW kl_20_50_0 co_o rfl 3 (by decide) (hts _ mX6_begins_l16) (fun _ h9 => h9) rfl dX6_begins_22 ?_
      refine lv_iconst (v := 3) hx hb dX6_begins_25 (by decide) ?_
      refine lv_iconst (v := 5) hx hb dX6_begins_26 (by decide) ?_
      obtain ⟨hi_2, h⟩ := gi_s h
      refine xw_ast hx hb hW kl_20_3_0 (fun _ => rfl) rfl hi_2 dX6_begins_27 (fun H locs hW => ?_)
      refine lv_aload_n hx hb dX6_begins_28 rfl (lv_at hl 0 rfl) ?_
      refine wo_get (C := RX6) (T := TX6) (N := 14) hx hb hts iX6_begins_6 hown hW kl_20_50_0 co_o rfl 3 (by decide) (hts _ mX6_begins_l16) (fun _ h9 => h9) rfl dX6_begins_29 ?_
      refine lv_iconst (v := 4) hx hb dX6_begins_32 (by decide) ?_
      refine lv_iconst (v := 2) hx hb dX6_begins_33 (by decide) ?_
      obtain ⟨hi_3, h⟩ := gi_s h
      refine xw_ast hx hb hW kl_20_3_0 (fun _ => rfl) rfl hi_3 dX6_begins_34 (fun H locs hW => ?_)
      exact xw_vret C rfl hW dX6_begins_35 h
    have h := ite_n c_1 h
    refine lv_aload_n hx hb dX6_begins_8 rfl (lv_at hl 0 rfl) ?_
    refine wo_get (C := RX6) (T := TX6) (N := 14) hx hb hts iX6_begins_6 hown hW kl_20_50_0 co_o rfl 3 (by decide) (hts _ mX6_begins_l16) (fun _ h9 => h9) rfl dX6_begins_9 ?_
    refine lv_iload_n hx hb dX6_begins_12 rfl (lv_at hl 1 rfl) ?_
    refine lv_iconst (v := 0) hx hb dX6_begins_13 (by decide) ?_
    obtain ⟨hi_4, h⟩ := gi_s h
    refine xw_ast hx hb hW kl_20_3_0 (fun _ => rfl) rfl hi_4 dX6_begins_14 (fun H locs hW => ?_)
    refine lv_iinc (v := v1 + 1) (lv' := [(1, .int (v1 + 1)), (0, .ref (ad (20, 50, 0)))]) hx hb dX6_begins_15 hl (k := 1) rfl rfl (by decide) rfl (fun ls hl => ?_)
    refine lv_goto (tgt := 2) hx hb dX6_begins_18 (by decide) ?_
    exact h2 _ _ _ _ _ hW (lv_sub hl [1, 0] rfl) h
set_option maxHeartbeats 4000000 in
set_option maxRecDepth 100000 in
theorem kX6_begins (l : Launch) (D : va_G) (g : G3) (ad : Ky → Nat) {μ μ' : Mem} (h : X6_begins μ = some μ') : CtV l yX6_begins wsX6_begins rX6_begins D (tysX g) keysM ad (cX g ad) [.ref (ad (20, 50, 0))] μ μ' := by
  refine ctV_of (cc := cX6_begins) (maxL := 2) (ret := none) keysM_nd (by decide) rfl (Nat.le_of_ble_eq_true rfl) (fun p e s m below meth c A ls C hW hl => ?_)
  have hl : lv_has ls 2 [(0, .ref (ad (20, 50, 0)))] := hl
  obtain ⟨hx, hb, hr, hts, hown, hlocks, hml, hA⟩ := id C
  refine lv_iconst (v := 0) hx hb dX6_begins_0 (by decide) ?_
  refine lv_istore_n (lv' := [(1, .int 0), (0, .ref (ad (20, 50, 0)))]) hx hb dX6_begins_1 rfl hl (by decide) rfl (fun ls hl => ?_)
  exact tX6_begins_b2 C 1000 _ _ _ _ _ hW (lv_sub hl [1, 0] rfl) h
abbrev rX6_in : Room := { frames := 0, cells := 0, slots := 0, locals := 0 }
set_option maxHeartbeats 4000000 in
set_option maxRecDepth 100000 in
theorem kX6_in (l : Launch) (D : va_G) (g : G3) (ad : Ky → Nat) {v0 v1 v2 : Int32} {μ μ' : Mem} {r : Int32} (h : X6_in v0 v1 v2 μ = some (r, μ')) : CtI l yX6_in wsX6_in rX6_in D (tysX g) keysM ad (cX g ad) [.int v0, .int v1, .int v2] μ r μ' := by
  refine ctI_of (cc := cX6_in) (maxL := 3) (ret := (some .boolean)) keysM_nd (by decide) rfl (Nat.le_of_ble_eq_true rfl) (fun p e s m below meth c A ls C hW hl => ?_)
  have hl : lv_has ls 3 [(0, .int v0), (1, .int v1), (2, .int v2)] := hl
  obtain ⟨hx, hb, hr, hts, hown, hlocks, hml, hA⟩ := id C
  refine lv_iload_n hx hb dX6_in_0 rfl (lv_at hl 0 rfl) ?_
  refine lv_iload_n hx hb dX6_in_1 rfl (lv_at hl 1 rfl) ?_
  refine lv_icmp_lt (tgt := 14) hx hb dX6_in_2 (by decide) (fun c_1 => ?_) (fun c_1 => ?_)
  · have h := ite_p c_1 h
    refine lv_iconst (v := 0) hx hb dX6_in_14 (by decide) ?_
    exact xw_zret C rfl (by decide) hW dX6_in_15 h
  have h := ite_n c_1 h
  refine lv_iload_n hx hb dX6_in_5 rfl (lv_at hl 0 rfl) ?_
  refine lv_iload_n hx hb dX6_in_6 rfl (lv_at hl 2 rfl) ?_
  refine lv_icmp_gt (tgt := 14) hx hb dX6_in_7 (by decide) (fun c_2 => ?_) (fun c_2 => ?_)
  · have h := ite_p c_2 h
    refine lv_iconst (v := 0) hx hb dX6_in_14 (by decide) ?_
    exact xw_zret C rfl (by decide) hW dX6_in_15 h
  have h := ite_n c_2 h
  refine lv_iconst (v := 1) hx hb dX6_in_10 (by decide) ?_
  refine lv_goto (tgt := 15) hx hb dX6_in_11 (by decide) ?_
  exact xw_zret C rfl (by decide) hW dX6_in_15 h
abbrev rX6_isThing : Room := { frames := 1, cells := 0, slots := 0, locals := 22 }
theorem mX6_isThing_l13 : Cond.fieldLink RX6 13 "NearlyBoughtModel" "told" "[I" ∈ wsX6_isThing := by decide +kernel
theorem iX6_isThing_6 : ∀ w ∈ wsX60, w ∈ wsX6_isThing := fun _ h => List.mem_cons_of_mem _ (List.mem_append_right _ h)
set_option maxHeartbeats 4000000 in
set_option maxRecDepth 100000 in
theorem kX6_isThing (l : Launch) (D : va_G) (g : G3) (ad : Ky → Nat) {v1 : Int32} {μ μ' : Mem} {r : Int32} (h : X6_isThing v1 μ = some (r, μ')) : CtI l yX6_isThing wsX6_isThing rX6_isThing D (tysX g) keysM ad (cX g ad) [.ref (ad (20, 50, 0)), .int v1] μ r μ' := by
  refine ctI_of (cc := cX6_isThing) (maxL := 2) (ret := (some .boolean)) keysM_nd (by decide) rfl (Nat.le_of_ble_eq_true rfl) (fun p e s m below meth c A ls C hW hl => ?_)
  have hl : lv_has ls 2 [(0, .ref (ad (20, 50, 0))), (1, .int v1)] := hl
  obtain ⟨hx, hb, hr, hts, hown, hlocks, hml, hA⟩ := id C
  refine lv_iload_n hx hb dX6_isThing_0 rfl (lv_at hl 1 rfl) ?_
  refine lv_iconst (v := 0) hx hb dX6_isThing_1 (by decide) ?_
  refine lv_aload_n hx hb dX6_isThing_2 rfl (lv_at hl 0 rfl) ?_
  refine wo_get (C := RX6) (T := TX6) (N := 14) hx hb hts iX6_isThing_6 hown hW kl_20_50_0 co_o rfl 2 (by decide) (hts _ mX6_isThing_l13) (fun _ h9 => h9) rfl dX6_isThing_3 ?_
  refine lv_iconst (v := 1) hx hb dX6_isThing_6 (by decide) ?_
  obtain ⟨hi_1, h⟩ := gi_s h
  refine xw_ald hx hb hW kl_20_2_0 rfl hi_1 dX6_isThing_7 ?_
  refine lv_iconst (v := 1) hx hb dX6_isThing_8 (by decide) ?_
  refine lv_isub hx hb dX6_isThing_9 ?_
  obtain ⟨r_4, μ_3, hh_2, h⟩ := bd_s h
  refine wo_Si (rest := []) C hW (kX6_in l D g ad  hh_2) (cwS 3 hts gX6_isThing_X6_in rfl rfl rfl (by decide +kernel) ⟨Nat.le_of_ble_eq_true rfl, Nat.le_of_ble_eq_true rfl⟩) rfl hl.1 rfl (Nat.le_of_ble_eq_true rfl) dX6_isThing_10 ⟨Nat.zero_le _, Nat.zero_le _⟩ (fun H locs hW => ?_)
  obtain ⟨hb_5, h⟩ := gb_s h
  exact xw_zret C rfl hb_5 hW dX6_isThing_13 h
abbrev rX6_remembers : Room := { frames := 0, cells := 0, slots := 0, locals := 0 }
theorem mX6_remembers_l35 : Cond.fieldLink RX6 35 "NearlyBoughtModel" "held" "[I" ∈ wsX6_remembers := by decide +kernel
theorem mX6_remembers_l19 : Cond.fieldLink RX6 19 "NearlyBoughtModel" "s" "[I" ∈ wsX6_remembers := by decide +kernel
theorem iX6_remembers_6 : ∀ w ∈ wsX60, w ∈ wsX6_remembers := fun _ h => List.mem_cons_of_mem _ (List.mem_append_right _ h)
set_option maxHeartbeats 4000000 in
set_option maxRecDepth 100000 in
theorem tX6_remembers_b2 {p : Program} {l : Launch} {e : Env} {s : State} {m : MethodId} {args : Array Value} {below : List Frame} {meth : Method} {c : Code} {A : Nat → Prop} {D : va_G} {g : G3} {ad : Ky → Nat} (C : Cx p s m args meth c cX6_remembers none 2 RX6 wsX6_remembers A) {μ0 : Mem} (n : Nat) : ∀ (v1 : Int32) (μ : Mem) (H : Heap) (locs : List Loc) (ls : Array Slot), WX D g keysM ad A s s.heap μ H locs → lv_has ls 2 [(0, .ref (ad (20, 50, 0))), (1, .int v1)] → lo1 (X6_remembers_b2) n v1 μ = some μ0 → TgV p l e rX6_remembers s m args below meth c D g keysM ad A μ0 H locs (F0 m 2 ls []) := by
  obtain ⟨hx, hb, hr, hts, hown, hlocks, hml, hA⟩ := id C
  induction n with
  | zero =>
    intro v1 μ H locs ls hW hl h
    cases h
  | succ n h2 =>
    intro v1 μ H locs ls hW hl h
    have h : X6_remembers_b2 (lo1 (X6_remembers_b2) n) v1 μ = some μ0 := h
    refine lv_iload_n hx hb dX6_remembers_2 rfl (lv_at hl 1 rfl) ?_
    refine lv_bipush (v := 55) hx hb dX6_remembers_3 (by decide) ?_
    refine lv_icmp_ge (tgt := 26) hx hb dX6_remembers_5 (by decide) (fun c_1 => ?_) (fun c_1 => ?_)
    · have h := ite_p c_1 h
      exact xw_vret C rfl hW dX6_remembers_26 h
    have h := ite_n c_1 h
    refine lv_aload_n hx hb dX6_remembers_8 rfl (lv_at hl 0 rfl) ?_
    refine wo_get (C := RX6) (T := TX6) (N := 14) hx hb hts iX6_remembers_6 hown hW kl_20_50_0 co_o rfl 13 (by decide) (hts _ mX6_remembers_l35) (fun _ h9 => h9) rfl dX6_remembers_9 ?_
    refine lv_iload_n hx hb dX6_remembers_12 rfl (lv_at hl 1 rfl) ?_
    refine lv_aload_n hx hb dX6_remembers_13 rfl (lv_at hl 0 rfl) ?_
    refine wo_get (C := RX6) (T := TX6) (N := 14) hx hb hts iX6_remembers_6 hown hW kl_20_50_0 co_o rfl 4 (by decide) (hts _ mX6_remembers_l19) (fun _ h9 => h9) rfl dX6_remembers_14 ?_
    refine lv_iload_n hx hb dX6_remembers_17 rfl (lv_at hl 1 rfl) ?_
    obtain ⟨hi_2, h⟩ := gi_s h
    refine xw_ald hx hb hW kl_20_4_0 rfl hi_2 dX6_remembers_18 ?_
    obtain ⟨hi_3, h⟩ := gi_s h
    refine xw_ast hx hb hW kl_20_13_0 (fun _ => rfl) rfl hi_3 dX6_remembers_19 (fun H locs hW => ?_)
    refine lv_iinc (v := v1 + 1) (lv' := [(1, .int (v1 + 1)), (0, .ref (ad (20, 50, 0)))]) hx hb dX6_remembers_20 hl (k := 1) rfl rfl (by decide) rfl (fun ls hl => ?_)
    refine lv_goto (tgt := 2) hx hb dX6_remembers_23 (by decide) ?_
    exact h2 _ _ _ _ _ hW (lv_sub hl [1, 0] rfl) h
set_option maxHeartbeats 4000000 in
set_option maxRecDepth 100000 in
theorem kX6_remembers (l : Launch) (D : va_G) (g : G3) (ad : Ky → Nat) {μ μ' : Mem} (h : X6_remembers μ = some μ') : CtV l yX6_remembers wsX6_remembers rX6_remembers D (tysX g) keysM ad (cX g ad) [.ref (ad (20, 50, 0))] μ μ' := by
  refine ctV_of (cc := cX6_remembers) (maxL := 2) (ret := none) keysM_nd (by decide) rfl (Nat.le_of_ble_eq_true rfl) (fun p e s m below meth c A ls C hW hl => ?_)
  have hl : lv_has ls 2 [(0, .ref (ad (20, 50, 0)))] := hl
  obtain ⟨hx, hb, hr, hts, hown, hlocks, hml, hA⟩ := id C
  refine lv_iconst (v := 0) hx hb dX6_remembers_0 (by decide) ?_
  refine lv_istore_n (lv' := [(1, .int 0), (0, .ref (ad (20, 50, 0)))]) hx hb dX6_remembers_1 rfl hl (by decide) rfl (fun ls hl => ?_)
  exact tX6_remembers_b2 C 1000 _ _ _ _ _ hW (lv_sub hl [1, 0] rfl) h
abbrev rX6_lets : Room := { frames := 0, cells := 0, slots := 0, locals := 0 }
theorem mX6_lets_l19 : Cond.fieldLink RX6 19 "NearlyBoughtModel" "s" "[I" ∈ wsX6_lets := by decide +kernel
theorem mX6_lets_l35 : Cond.fieldLink RX6 35 "NearlyBoughtModel" "held" "[I" ∈ wsX6_lets := by decide +kernel
theorem iX6_lets_6 : ∀ w ∈ wsX60, w ∈ wsX6_lets := fun _ h => List.mem_cons_of_mem _ (List.mem_append_right _ h)
set_option maxHeartbeats 4000000 in
set_option maxRecDepth 100000 in
theorem tX6_lets_b2 {p : Program} {l : Launch} {e : Env} {s : State} {m : MethodId} {args : Array Value} {below : List Frame} {meth : Method} {c : Code} {A : Nat → Prop} {D : va_G} {g : G3} {ad : Ky → Nat} (C : Cx p s m args meth c cX6_lets none 2 RX6 wsX6_lets A) {μ0 : Mem} (n : Nat) : ∀ (v1 : Int32) (μ : Mem) (H : Heap) (locs : List Loc) (ls : Array Slot), WX D g keysM ad A s s.heap μ H locs → lv_has ls 2 [(0, .ref (ad (20, 50, 0))), (1, .int v1)] → lo1 (X6_lets_b2) n v1 μ = some μ0 → TgV p l e rX6_lets s m args below meth c D g keysM ad A μ0 H locs (F0 m 2 ls []) := by
  obtain ⟨hx, hb, hr, hts, hown, hlocks, hml, hA⟩ := id C
  induction n with
  | zero =>
    intro v1 μ H locs ls hW hl h
    cases h
  | succ n h2 =>
    intro v1 μ H locs ls hW hl h
    have h : X6_lets_b2 (lo1 (X6_lets_b2) n) v1 μ = some μ0 := h
    refine lv_iload_n hx hb dX6_lets_2 rfl (lv_at hl 1 rfl) ?_
    refine lv_bipush (v := 55) hx hb dX6_lets_3 (by decide) ?_
    refine lv_icmp_ge (tgt := 26) hx hb dX6_lets_5 (by decide) (fun c_1 => ?_) (fun c_1 => ?_)
    · have h := ite_p c_1 h
      exact xw_vret C rfl hW dX6_lets_26 h
    have h := ite_n c_1 h
    refine lv_aload_n hx hb dX6_lets_8 rfl (lv_at hl 0 rfl) ?_
    refine wo_get (C := RX6) (T := TX6) (N := 14) hx hb hts iX6_lets_6 hown hW kl_20_50_0 co_o rfl 4 (by decide) (hts _ mX6_lets_l19) (fun _ h9 => h9) rfl dX6_lets_9 ?_
    refine lv_iload_n hx hb dX6_lets_12 rfl (lv_at hl 1 rfl) ?_
    refine lv_aload_n hx hb dX6_lets_13 rfl (lv_at hl 0 rfl) ?_
    refine wo_get (C := RX6) (T := TX6) (N := 14) hx hb hts iX6_lets_6 hown hW kl_20_50_0 co_o rfl 13 (by decide) (hts _ mX6_lets_l35) (fun _ h9 => h9) rfl dX6_lets_14 ?_
    refine lv_iload_n hx hb dX6_lets_17 rfl (lv_at hl 1 rfl) ?_
    obtain ⟨hi_2, h⟩ := gi_s h
    refine xw_ald hx hb hW kl_20_13_0 rfl hi_2 dX6_lets_18 ?_
    obtain ⟨hi_3, h⟩ := gi_s h
    refine xw_ast hx hb hW kl_20_4_0 (fun _ => rfl) rfl hi_3 dX6_lets_19 (fun H locs hW => ?_)
    refine lv_iinc (v := v1 + 1) (lv' := [(1, .int (v1 + 1)), (0, .ref (ad (20, 50, 0)))]) hx hb dX6_lets_20 hl (k := 1) rfl rfl (by decide) rfl (fun ls hl => ?_)
    refine lv_goto (tgt := 2) hx hb dX6_lets_23 (by decide) ?_
    exact h2 _ _ _ _ _ hW (lv_sub hl [1, 0] rfl) h
set_option maxHeartbeats 4000000 in
set_option maxRecDepth 100000 in
theorem kX6_lets (l : Launch) (D : va_G) (g : G3) (ad : Ky → Nat) {μ μ' : Mem} (h : X6_lets μ = some μ') : CtV l yX6_lets wsX6_lets rX6_lets D (tysX g) keysM ad (cX g ad) [.ref (ad (20, 50, 0))] μ μ' := by
  refine ctV_of (cc := cX6_lets) (maxL := 2) (ret := none) keysM_nd (by decide) rfl (Nat.le_of_ble_eq_true rfl) (fun p e s m below meth c A ls C hW hl => ?_)
  have hl : lv_has ls 2 [(0, .ref (ad (20, 50, 0)))] := hl
  obtain ⟨hx, hb, hr, hts, hown, hlocks, hml, hA⟩ := id C
  refine lv_iconst (v := 0) hx hb dX6_lets_0 (by decide) ?_
  refine lv_istore_n (lv' := [(1, .int 0), (0, .ref (ad (20, 50, 0)))]) hx hb dX6_lets_1 rfl hl (by decide) rfl (fun ls hl => ?_)
  exact tX6_lets_b2 C 1000 _ _ _ _ _ hW (lv_sub hl [1, 0] rfl) h
abbrev rX6_better : Room := { frames := 0, cells := 0, slots := 0, locals := 0 }
set_option maxHeartbeats 4000000 in
set_option maxRecDepth 100000 in
theorem tX6_better_b44 {p : Program} {l : Launch} {e : Env} {s : State} {m : MethodId} {args : Array Value} {below : List Frame} {meth : Method} {c : Code} {A : Nat → Prop} {D : va_G} {g : G3} {ad : Ky → Nat} (C : Cx p s m args meth c cX6_better (some .int) 3 RX6 wsX6_better A) {r0 : Int32} {μ0 : Mem} {v0 v1 s0 : Int32} {μ : Mem} {H : Heap} {locs : List Loc} {ls : Array Slot} (hW : WX D g keysM ad A s s.heap μ H locs) (hl : lv_has ls 3 [(0, .int v0), (1, .int v1)]) (h : X6_better_b44 v0 v1 s0 μ = some (r0, μ0)) : TgI r0 p l e rX6_better s m args below meth c D g keysM ad A μ0 H locs (F0 m 44 ls [.int s0]) := by
  obtain ⟨hx, hb, hr, hts, hown, hlocks, hml, hA⟩ := id C
  refine lv_istore_n (lv' := [(2, .int s0), (0, .int v0), (1, .int v1)]) hx hb dX6_better_44 rfl hl (by decide) rfl (fun ls hl => ?_)
  refine lv_iload_n hx hb dX6_better_45 rfl (lv_at hl 0 rfl) ?_
  refine lv_if_eq (tgt := 53) hx hb dX6_better_46 (by decide) (fun c_2 => ?_) (fun c_2 => ?_)
  · have h := ite_p c_2 h
    refine lv_iload_n hx hb dX6_better_53 rfl (lv_at hl 2 rfl) ?_
    exact xw_iret C rfl hW dX6_better_54 h
  have h := ite_n c_2 h
  refine lv_iload_n hx hb dX6_better_49 rfl (lv_at hl 1 rfl) ?_
  refine lv_goto (tgt := 54) hx hb dX6_better_50 (by decide) ?_
  exact xw_iret C rfl hW dX6_better_54 h
set_option maxHeartbeats 4000000 in
set_option maxRecDepth 100000 in
theorem tX6_better_b39 {p : Program} {l : Launch} {e : Env} {s : State} {m : MethodId} {args : Array Value} {below : List Frame} {meth : Method} {c : Code} {A : Nat → Prop} {D : va_G} {g : G3} {ad : Ky → Nat} (C : Cx p s m args meth c cX6_better (some .int) 3 RX6 wsX6_better A) {r0 : Int32} {μ0 : Mem} {v0 v1 : Int32} {μ : Mem} {H : Heap} {locs : List Loc} {ls : Array Slot} (hW : WX D g keysM ad A s s.heap μ H locs) (hl : lv_has ls 3 [(0, .int v0), (1, .int v1)]) (h : X6_better_b39 v0 v1 μ = some (r0, μ0)) : TgI r0 p l e rX6_better s m args below meth c D g keysM ad A μ0 H locs (F0 m 39 ls []) := by
  obtain ⟨hx, hb, hr, hts, hown, hlocks, hml, hA⟩ := id C
  refine lv_iconst (v := 1) hx hb dX6_better_39 (by decide) ?_
  refine lv_goto (tgt := 44) hx hb dX6_better_40 (by decide) ?_
  exact tX6_better_b44 C hW (lv_sub hl [0, 1] rfl) h
set_option maxHeartbeats 4000000 in
set_option maxRecDepth 100000 in
theorem tX6_better_b43 {p : Program} {l : Launch} {e : Env} {s : State} {m : MethodId} {args : Array Value} {below : List Frame} {meth : Method} {c : Code} {A : Nat → Prop} {D : va_G} {g : G3} {ad : Ky → Nat} (C : Cx p s m args meth c cX6_better (some .int) 3 RX6 wsX6_better A) {r0 : Int32} {μ0 : Mem} {v0 v1 : Int32} {μ : Mem} {H : Heap} {locs : List Loc} {ls : Array Slot} (hW : WX D g keysM ad A s s.heap μ H locs) (hl : lv_has ls 3 [(0, .int v0), (1, .int v1)]) (h : X6_better_b43 v0 v1 μ = some (r0, μ0)) : TgI r0 p l e rX6_better s m args below meth c D g keysM ad A μ0 H locs (F0 m 43 ls []) := by
  obtain ⟨hx, hb, hr, hts, hown, hlocks, hml, hA⟩ := id C
  refine lv_iconst (v := 0) hx hb dX6_better_43 (by decide) ?_
  exact tX6_better_b44 C hW (lv_sub hl [0, 1] rfl) h
set_option maxHeartbeats 4000000 in
set_option maxRecDepth 100000 in
theorem kX6_better (l : Launch) (D : va_G) (g : G3) (ad : Ky → Nat) {v0 v1 : Int32} {μ μ' : Mem} {r : Int32} (h : X6_better v0 v1 μ = some (r, μ')) : CtI l yX6_better wsX6_better rX6_better D (tysX g) keysM ad (cX g ad) [.int v0, .int v1] μ r μ' := by
  refine ctI_of (cc := cX6_better) (maxL := 3) (ret := (some .int)) keysM_nd (by decide) rfl (Nat.le_of_ble_eq_true rfl) (fun p e s m below meth c A ls C hW hl => ?_)
  have hl : lv_has ls 3 [(0, .int v0), (1, .int v1)] := hl
  obtain ⟨hx, hb, hr, hts, hown, hlocks, hml, hA⟩ := id C
  refine lv_iload_n hx hb dX6_better_0 rfl (lv_at hl 0 rfl) ?_
  refine lv_sipush (v := 128) hx hb dX6_better_1 (by decide) ?_
  refine lv_idiv hx hb dX6_better_4 (by decide) ?_
  refine lv_iload_n hx hb dX6_better_5 rfl (lv_at hl 1 rfl) ?_
  refine lv_sipush (v := 128) hx hb dX6_better_6 (by decide) ?_
  refine lv_idiv hx hb dX6_better_9 (by decide) ?_
  refine lv_icmp_gt (tgt := 39) hx hb dX6_better_10 (by decide) (fun c_1 => ?_) (fun c_1 => ?_)
  · have h := ite_p c_1 h
    exact tX6_better_b39 C hW (lv_sub hl [0, 1] rfl) h
  have h := ite_n c_1 h
  refine lv_iload_n hx hb dX6_better_13 rfl (lv_at hl 0 rfl) ?_
  refine lv_sipush (v := 128) hx hb dX6_better_14 (by decide) ?_
  refine lv_idiv hx hb dX6_better_17 (by decide) ?_
  refine lv_iload_n hx hb dX6_better_18 rfl (lv_at hl 1 rfl) ?_
  refine lv_sipush (v := 128) hx hb dX6_better_19 (by decide) ?_
  refine lv_idiv hx hb dX6_better_22 (by decide) ?_
  refine lv_icmp_ne (tgt := 43) hx hb dX6_better_23 (by decide) (fun c_3 => ?_) (fun c_3 => ?_)
  · have h := ite_n c_3 h
    exact tX6_better_b43 C hW (lv_sub hl [0, 1] rfl) h
  have h := ite_p c_3 h
  refine lv_iload_n hx hb dX6_better_26 rfl (lv_at hl 0 rfl) ?_
  refine lv_sipush (v := 128) hx hb dX6_better_27 (by decide) ?_
  refine lv_irem hx hb dX6_better_30 (by decide) ?_
  refine lv_iload_n hx hb dX6_better_31 rfl (lv_at hl 1 rfl) ?_
  refine lv_sipush (v := 128) hx hb dX6_better_32 (by decide) ?_
  refine lv_irem hx hb dX6_better_35 (by decide) ?_
  refine lv_icmp_gt (tgt := 43) hx hb dX6_better_36 (by decide) (fun c_4 => ?_) (fun c_4 => ?_)
  · have h := ite_p c_4 h
    exact tX6_better_b43 C hW (lv_sub hl [0, 1] rfl) h
  have h := ite_n c_4 h
  exact tX6_better_b39 C hW (lv_sub hl [0, 1] rfl) h
abbrev rX6_pauseNow : Room := { frames := 1, cells := 0, slots := 0, locals := 22 }
theorem mX6_pauseNow_l19 : Cond.fieldLink RX6 19 "NearlyBoughtModel" "s" "[I" ∈ wsX6_pauseNow := by decide +kernel
theorem mX6_pauseNow_l13 : Cond.fieldLink RX6 13 "NearlyBoughtModel" "told" "[I" ∈ wsX6_pauseNow := by decide +kernel
theorem mX6_pauseNow_l31 : Cond.fieldLink RX6 31 "NearlyBoughtModel" "feign" "I" ∈ wsX6_pauseNow := by decide +kernel
theorem iX6_pauseNow_6 : ∀ w ∈ wsX60, w ∈ wsX6_pauseNow := fun _ h => List.mem_cons_of_mem _ (List.mem_append_right _ h)
set_option maxHeartbeats 4000000 in
set_option maxRecDepth 100000 in
theorem tX6_pauseNow_b107 {p : Program} {l : Launch} {e : Env} {s : State} {m : MethodId} {args : Array Value} {below : List Frame} {meth : Method} {c : Code} {A : Nat → Prop} {D : va_G} {g : G3} {ad : Ky → Nat} (C : Cx p s m args meth c cX6_pauseNow (some .int) 5 RX6 wsX6_pauseNow A) {r0 : Int32} {μ0 : Mem} {v1 v2 v3 v4 : Int32} {k18 : Int32 → Int32 → Mem → Option (Int32 × Mem)} (h18 : ∀ (v3 v4 : Int32) (μ : Mem) (H : Heap) (locs : List Loc) (ls : Array Slot), WX D g keysM ad A s s.heap μ H locs → lv_has ls 5 [(0, .ref (ad (20, 50, 0))), (1, .int v1), (2, .int v2), (3, .int v3), (4, .int v4)] → k18 v3 v4 μ = some (r0, μ0) → TgI r0 p l e rX6_pauseNow s m args below meth c D g keysM ad A μ0 H locs (F0 m 18 ls [])) {μ : Mem} {H : Heap} {locs : List Loc} {ls : Array Slot} (hW : WX D g keysM ad A s s.heap μ H locs) (hl : lv_has ls 5 [(0, .ref (ad (20, 50, 0))), (1, .int v1), (2, .int v2), (3, .int v3), (4, .int v4)]) (h : X6_pauseNow_b107 k18 v1 v2 v3 v4 μ = some (r0, μ0)) : TgI r0 p l e rX6_pauseNow s m args below meth c D g keysM ad A μ0 H locs (F0 m 107 ls []) := by
  obtain ⟨hx, hb, hr, hts, hown, hlocks, hml, hA⟩ := id C
  refine lv_iinc (v := v4 + 1) (lv' := [(4, .int (v4 + 1)), (0, .ref (ad (20, 50, 0))), (1, .int v1), (2, .int v2), (3, .int v3)]) hx hb dX6_pauseNow_107 hl (k := 4) rfl rfl (by decide) rfl (fun ls hl => ?_)
  refine lv_goto (tgt := 18) hx hb dX6_pauseNow_110 (by decide) ?_
  exact h18 _ _ _ _ _ _ hW (lv_sub hl [1, 2, 3, 4, 0] rfl) h
set_option maxHeartbeats 4000000 in
set_option maxRecDepth 100000 in
theorem tX6_pauseNow_b18 {p : Program} {l : Launch} {e : Env} {s : State} {m : MethodId} {args : Array Value} {below : List Frame} {meth : Method} {c : Code} {A : Nat → Prop} {D : va_G} {g : G3} {ad : Ky → Nat} (C : Cx p s m args meth c cX6_pauseNow (some .int) 5 RX6 wsX6_pauseNow A) {r0 : Int32} {μ0 : Mem} {v1 v2 : Int32} (n : Nat) : ∀ (v3 v4 : Int32) (μ : Mem) (H : Heap) (locs : List Loc) (ls : Array Slot), WX D g keysM ad A s s.heap μ H locs → lv_has ls 5 [(0, .ref (ad (20, 50, 0))), (1, .int v1), (2, .int v2), (3, .int v3), (4, .int v4)] → lo2 (X6_pauseNow_b18 v1 v2) n v3 v4 μ = some (r0, μ0) → TgI r0 p l e rX6_pauseNow s m args below meth c D g keysM ad A μ0 H locs (F0 m 18 ls []) := by
  obtain ⟨hx, hb, hr, hts, hown, hlocks, hml, hA⟩ := id C
  induction n with
  | zero =>
    intro v3 v4 μ H locs ls hW hl h
    cases h
  | succ n h18 =>
    intro v3 v4 μ H locs ls hW hl h
    have h : X6_pauseNow_b18 v1 v2 (lo2 (X6_pauseNow_b18 v1 v2) n) v3 v4 μ = some (r0, μ0) := h
    refine lv_iload hx hb dX6_pauseNow_18 (lv_at hl 4 rfl) ?_
    refine lv_aload_n hx hb dX6_pauseNow_20 rfl (lv_at hl 0 rfl) ?_
    refine wo_get (C := RX6) (T := TX6) (N := 14) hx hb hts iX6_pauseNow_6 hown hW kl_20_50_0 co_o rfl 2 (by decide) (hts _ mX6_pauseNow_l13) (fun _ h9 => h9) rfl dX6_pauseNow_21 ?_
    refine lv_iconst (v := 2) hx hb dX6_pauseNow_24 (by decide) ?_
    obtain ⟨hi_2, h⟩ := gi_s h
    refine xw_ald hx hb hW kl_20_2_0 rfl hi_2 dX6_pauseNow_25 ?_
    refine lv_icmp_ge (tgt := 113) hx hb dX6_pauseNow_26 (by decide) (fun c_3 => ?_) (fun c_3 => ?_)
    · have h := ite_p c_3 h
      refine lv_iload_n hx hb dX6_pauseNow_113 rfl (lv_at hl 1 rfl) ?_
      refine lv_aload_n hx hb dX6_pauseNow_114 rfl (lv_at hl 0 rfl) ?_
      refine wo_get (C := RX6) (T := TX6) (N := 14) hx hb hts iX6_pauseNow_6 hown hW kl_20_50_0 co_o rfl 12 (by decide) (hts _ mX6_pauseNow_l31) (fun _ h9 => h9) rfl dX6_pauseNow_115 ?_
      refine lv_icmp_ne (tgt := 125) hx hb dX6_pauseNow_118 (by decide) (fun c_4 => ?_) (fun c_4 => ?_)
      · have h := ite_n c_4 h
        refine lv_iload_n hx hb dX6_pauseNow_125 rfl (lv_at hl 3 rfl) ?_
        exact xw_iret C rfl hW dX6_pauseNow_126 h
      have h := ite_p c_4 h
      refine lv_iconst (v := 0) hx hb dX6_pauseNow_121 (by decide) ?_
      refine lv_goto (tgt := 126) hx hb dX6_pauseNow_122 (by decide) ?_
      exact xw_iret C rfl hW dX6_pauseNow_126 h
    have h := ite_n c_3 h
    refine lv_aload_n hx hb dX6_pauseNow_29 rfl (lv_at hl 0 rfl) ?_
    refine wo_get (C := RX6) (T := TX6) (N := 14) hx hb hts iX6_pauseNow_6 hown hW kl_20_50_0 co_o rfl 2 (by decide) (hts _ mX6_pauseNow_l13) (fun _ h9 => h9) rfl dX6_pauseNow_30 ?_
    refine lv_bipush (v := 23) hx hb dX6_pauseNow_33 (by decide) ?_
    refine lv_iload hx hb dX6_pauseNow_35 (lv_at hl 4 rfl) ?_
    refine lv_iadd hx hb dX6_pauseNow_37 ?_
    obtain ⟨hi_5, h⟩ := gi_s h
    refine xw_ald hx hb hW kl_20_2_0 rfl hi_5 dX6_pauseNow_38 ?_
    refine lv_iload_n hx hb dX6_pauseNow_39 rfl (lv_at hl 1 rfl) ?_
    refine lv_icmp_ne (tgt := 107) hx hb dX6_pauseNow_40 (by decide) (fun c_6 => ?_) (fun c_6 => ?_)
    · have h := ite_n c_6 h
      exact tX6_pauseNow_b107 C h18 hW (lv_sub hl [0, 1, 2, 3, 4] rfl) h
    have h := ite_p c_6 h
    refine lv_aload_n hx hb dX6_pauseNow_43 rfl (lv_at hl 0 rfl) ?_
    refine wo_get (C := RX6) (T := TX6) (N := 14) hx hb hts iX6_pauseNow_6 hown hW kl_20_50_0 co_o rfl 2 (by decide) (hts _ mX6_pauseNow_l13) (fun _ h9 => h9) rfl dX6_pauseNow_44 ?_
    refine lv_bipush (v := 32) hx hb dX6_pauseNow_47 (by decide) ?_
    refine lv_iload hx hb dX6_pauseNow_49 (lv_at hl 4 rfl) ?_
    refine lv_iadd hx hb dX6_pauseNow_51 ?_
    obtain ⟨hi_7, h⟩ := gi_s h
    refine xw_ald hx hb hW kl_20_2_0 rfl hi_7 dX6_pauseNow_52 ?_
    refine lv_iload_n hx hb dX6_pauseNow_53 rfl (lv_at hl 2 rfl) ?_
    refine lv_icmp_ne (tgt := 107) hx hb dX6_pauseNow_54 (by decide) (fun c_8 => ?_) (fun c_8 => ?_)
    · have h := ite_n c_8 h
      exact tX6_pauseNow_b107 C h18 hW (lv_sub hl [0, 1, 2, 3, 4] rfl) h
    have h := ite_p c_8 h
    refine lv_aload_n hx hb dX6_pauseNow_57 rfl (lv_at hl 0 rfl) ?_
    refine wo_get (C := RX6) (T := TX6) (N := 14) hx hb hts iX6_pauseNow_6 hown hW kl_20_50_0 co_o rfl 2 (by decide) (hts _ mX6_pauseNow_l13) (fun _ h9 => h9) rfl dX6_pauseNow_58 ?_
    refine lv_bipush (v := 50) hx hb dX6_pauseNow_61 (by decide) ?_
    refine lv_iload hx hb dX6_pauseNow_63 (lv_at hl 4 rfl) ?_
    refine lv_iadd hx hb dX6_pauseNow_65 ?_
    obtain ⟨hi_9, h⟩ := gi_s h
    refine xw_ald hx hb hW kl_20_2_0 rfl hi_9 dX6_pauseNow_66 ?_
    refine lv_aload_n hx hb dX6_pauseNow_67 rfl (lv_at hl 0 rfl) ?_
    refine wo_get (C := RX6) (T := TX6) (N := 14) hx hb hts iX6_pauseNow_6 hown hW kl_20_50_0 co_o rfl 4 (by decide) (hts _ mX6_pauseNow_l19) (fun _ h9 => h9) rfl dX6_pauseNow_68 ?_
    refine lv_bipush (v := 54) hx hb dX6_pauseNow_71 (by decide) ?_
    obtain ⟨hi_10, h⟩ := gi_s h
    refine xw_ald hx hb hW kl_20_4_0 rfl hi_10 dX6_pauseNow_73 ?_
    refine lv_icmp_gt (tgt := 107) hx hb dX6_pauseNow_74 (by decide) (fun c_11 => ?_) (fun c_11 => ?_)
    · have h := ite_p c_11 h
      exact tX6_pauseNow_b107 C h18 hW (lv_sub hl [0, 1, 2, 3, 4] rfl) h
    have h := ite_n c_11 h
    refine lv_sipush (v := 128) hx hb dX6_pauseNow_77 (by decide) ?_
    refine lv_aload_n hx hb dX6_pauseNow_80 rfl (lv_at hl 0 rfl) ?_
    refine wo_get (C := RX6) (T := TX6) (N := 14) hx hb hts iX6_pauseNow_6 hown hW kl_20_50_0 co_o rfl 2 (by decide) (hts _ mX6_pauseNow_l13) (fun _ h9 => h9) rfl dX6_pauseNow_81 ?_
    refine lv_bipush (v := 41) hx hb dX6_pauseNow_84 (by decide) ?_
    refine lv_iload hx hb dX6_pauseNow_86 (lv_at hl 4 rfl) ?_
    refine lv_iadd hx hb dX6_pauseNow_88 ?_
    obtain ⟨hi_12, h⟩ := gi_s h
    refine xw_ald hx hb hW kl_20_2_0 rfl hi_12 dX6_pauseNow_89 ?_
    refine lv_imul hx hb dX6_pauseNow_90 ?_
    refine lv_aload_n hx hb dX6_pauseNow_91 rfl (lv_at hl 0 rfl) ?_
    refine wo_get (C := RX6) (T := TX6) (N := 14) hx hb hts iX6_pauseNow_6 hown hW kl_20_50_0 co_o rfl 2 (by decide) (hts _ mX6_pauseNow_l13) (fun _ h9 => h9) rfl dX6_pauseNow_92 ?_
    refine lv_bipush (v := 50) hx hb dX6_pauseNow_95 (by decide) ?_
    refine lv_iload hx hb dX6_pauseNow_97 (lv_at hl 4 rfl) ?_
    refine lv_iadd hx hb dX6_pauseNow_99 ?_
    obtain ⟨hi_13, h⟩ := gi_s h
    refine xw_ald hx hb hW kl_20_2_0 rfl hi_13 dX6_pauseNow_100 ?_
    refine lv_iadd hx hb dX6_pauseNow_101 ?_
    refine lv_iload_n hx hb dX6_pauseNow_102 rfl (lv_at hl 3 rfl) ?_
    obtain ⟨r_16, μ_15, hh_14, h⟩ := bd_s h
    refine wo_Si (rest := []) C hW (kX6_better l D g ad  hh_14) (cwS 2 hts gX6_pauseNow_X6_better rfl rfl rfl (by decide +kernel) ⟨Nat.le_of_ble_eq_true rfl, Nat.le_of_ble_eq_true rfl⟩) rfl hl.1 rfl (Nat.le_of_ble_eq_true rfl) dX6_pauseNow_103 ⟨Nat.zero_le _, Nat.zero_le _⟩ (fun H locs hW => ?_)
    refine lv_istore_n (lv' := [(3, .int r_16), (0, .ref (ad (20, 50, 0))), (1, .int v1), (2, .int v2), (4, .int v4)]) hx hb dX6_pauseNow_106 rfl hl (by decide) rfl (fun ls hl => ?_)
    exact tX6_pauseNow_b107 C h18 hW (lv_sub hl [1, 2, 3, 0, 4] rfl) h
set_option maxHeartbeats 4000000 in
set_option maxRecDepth 100000 in
theorem kX6_pauseNow (l : Launch) (D : va_G) (g : G3) (ad : Ky → Nat) {v1 v2 : Int32} {μ μ' : Mem} {r : Int32} (h : X6_pauseNow v1 v2 μ = some (r, μ')) : CtI l yX6_pauseNow wsX6_pauseNow rX6_pauseNow D (tysX g) keysM ad (cX g ad) [.ref (ad (20, 50, 0)), .int v1, .int v2] μ r μ' := by
  refine ctI_of (cc := cX6_pauseNow) (maxL := 5) (ret := (some .int)) keysM_nd (by decide) rfl (Nat.le_of_ble_eq_true rfl) (fun p e s m below meth c A ls C hW hl => ?_)
  have hl : lv_has ls 5 [(0, .ref (ad (20, 50, 0))), (1, .int v1), (2, .int v2)] := hl
  obtain ⟨hx, hb, hr, hts, hown, hlocks, hml, hA⟩ := id C
  refine lv_aload_n hx hb dX6_pauseNow_0 rfl (lv_at hl 0 rfl) ?_
  refine wo_get (C := RX6) (T := TX6) (N := 14) hx hb hts iX6_pauseNow_6 hown hW kl_20_50_0 co_o rfl 4 (by decide) (hts _ mX6_pauseNow_l19) (fun _ h9 => h9) rfl dX6_pauseNow_1 ?_
  refine lv_bipush (v := 18) hx hb dX6_pauseNow_4 (by decide) ?_
  refine lv_bipush (v := 6) hx hb dX6_pauseNow_6 (by decide) ?_
  refine lv_iload_n hx hb dX6_pauseNow_8 rfl (lv_at hl 1 rfl) ?_
  refine lv_imul hx hb dX6_pauseNow_9 ?_
  refine lv_iadd hx hb dX6_pauseNow_10 ?_
  refine lv_iload_n hx hb dX6_pauseNow_11 rfl (lv_at hl 2 rfl) ?_
  refine lv_iadd hx hb dX6_pauseNow_12 ?_
  obtain ⟨hi_1, h⟩ := gi_s h
  refine xw_ald hx hb hW kl_20_4_0 rfl hi_1 dX6_pauseNow_13 ?_
  refine lv_istore_n (lv' := [(3, .int (μ 20 4 0 ((18 + (6 * v1)) + v2).toNatClampNeg)), (0, .ref (ad (20, 50, 0))), (1, .int v1), (2, .int v2)]) hx hb dX6_pauseNow_14 rfl hl (by decide) rfl (fun ls hl => ?_)
  refine lv_iconst (v := 0) hx hb dX6_pauseNow_15 (by decide) ?_
  refine lv_istore (lv' := [(4, .int 0), (3, .int (μ 20 4 0 ((18 + (6 * v1)) + v2).toNatClampNeg)), (0, .ref (ad (20, 50, 0))), (1, .int v1), (2, .int v2)]) hx hb dX6_pauseNow_16 hl (by decide) rfl (fun ls hl => ?_)
  exact tX6_pauseNow_b18 C 1000 _ _ _ _ _ _ hW (lv_sub hl [2, 3, 4, 1, 0] rfl) h
abbrev rX6_countedOf : Room := { frames := 0, cells := 0, slots := 0, locals := 0 }
set_option maxHeartbeats 4000000 in
set_option maxRecDepth 100000 in
theorem kX6_countedOf (l : Launch) (D : va_G) (g : G3) (ad : Ky → Nat) {v1 v2 : Int32} {μ μ' : Mem} {r : Int32} (h : X6_countedOf v1 v2 μ = some (r, μ')) : CtI l yX6_countedOf wsX6_countedOf rX6_countedOf D (tysX g) keysM ad (cX g ad) [.ref (ad (20, 50, 0)), .int v1, .int v2] μ r μ' := by
  refine ctI_of (cc := cX6_countedOf) (maxL := 3) (ret := (some .int)) keysM_nd (by decide) rfl (Nat.le_of_ble_eq_true rfl) (fun p e s m below meth c A ls C hW hl => ?_)
  have hl : lv_has ls 3 [(0, .ref (ad (20, 50, 0))), (1, .int v1), (2, .int v2)] := hl
  obtain ⟨hx, hb, hr, hts, hown, hlocks, hml, hA⟩ := id C
  refine lv_iload_n hx hb dX6_countedOf_0 rfl (lv_at hl 1 rfl) ?_
  refine lv_iconst (v := 1) hx hb dX6_countedOf_1 (by decide) ?_
  refine lv_icmp_ne (tgt := 20) hx hb dX6_countedOf_2 (by decide) (fun c_1 => ?_) (fun c_1 => ?_)
  · have h := ite_n c_1 h
    refine lv_iload_n hx hb dX6_countedOf_20 rfl (lv_at hl 1 rfl) ?_
    refine lv_iconst (v := 2) hx hb dX6_countedOf_21 (by decide) ?_
    refine lv_icmp_ne (tgt := 31) hx hb dX6_countedOf_22 (by decide) (fun c_2 => ?_) (fun c_2 => ?_)
    · have h := ite_n c_2 h
      refine lv_iload_n hx hb dX6_countedOf_31 rfl (lv_at hl 1 rfl) ?_
      refine lv_iconst (v := 3) hx hb dX6_countedOf_32 (by decide) ?_
      refine lv_icmp_ne (tgt := 42) hx hb dX6_countedOf_33 (by decide) (fun c_3 => ?_) (fun c_3 => ?_)
      · have h := ite_n c_3 h
        refine lv_iload_n hx hb dX6_countedOf_42 rfl (lv_at hl 2 rfl) ?_
        exact xw_iret C rfl hW dX6_countedOf_43 h
      have h := ite_p c_3 h
      refine lv_iconst (v := 2) hx hb dX6_countedOf_36 (by decide) ?_
      refine lv_iload_n hx hb dX6_countedOf_37 rfl (lv_at hl 2 rfl) ?_
      refine lv_imul hx hb dX6_countedOf_38 ?_
      refine lv_goto (tgt := 43) hx hb dX6_countedOf_39 (by decide) ?_
      exact xw_iret C rfl hW dX6_countedOf_43 h
    have h := ite_p c_2 h
    refine lv_iconst (v := 3) hx hb dX6_countedOf_25 (by decide) ?_
    refine lv_iload_n hx hb dX6_countedOf_26 rfl (lv_at hl 2 rfl) ?_
    refine lv_imul hx hb dX6_countedOf_27 ?_
    refine lv_goto (tgt := 43) hx hb dX6_countedOf_28 (by decide) ?_
    exact xw_iret C rfl hW dX6_countedOf_43 h
  have h := ite_p c_1 h
  refine lv_iload_n hx hb dX6_countedOf_5 rfl (lv_at hl 2 rfl) ?_
  refine lv_iconst (v := 2) hx hb dX6_countedOf_6 (by decide) ?_
  refine lv_icmp_ge (tgt := 14) hx hb dX6_countedOf_7 (by decide) (fun c_4 => ?_) (fun c_4 => ?_)
  · have h := ite_p c_4 h
    refine lv_iload_n hx hb dX6_countedOf_14 rfl (lv_at hl 2 rfl) ?_
    refine lv_iconst (v := 2) hx hb dX6_countedOf_15 (by decide) ?_
    refine lv_isub hx hb dX6_countedOf_16 ?_
    refine lv_goto (tgt := 43) hx hb dX6_countedOf_17 (by decide) ?_
    exact xw_iret C rfl hW dX6_countedOf_43 h
  have h := ite_n c_4 h
  refine lv_iconst (v := 0) hx hb dX6_countedOf_10 (by decide) ?_
  refine lv_goto (tgt := 43) hx hb dX6_countedOf_11 (by decide) ?_
  exact xw_iret C rfl hW dX6_countedOf_43 h
abbrev rX6_countedNow : Room := { frames := 2, cells := 0, slots := 0, locals := 46 }
theorem mX6_countedNow_l13 : Cond.fieldLink RX6 13 "NearlyBoughtModel" "told" "[I" ∈ wsX6_countedNow := by decide +kernel
theorem iX6_countedNow_6 : ∀ w ∈ wsX60, w ∈ wsX6_countedNow := fun _ h => List.mem_cons_of_mem _ (List.mem_append_right _ h)
set_option maxHeartbeats 4000000 in
set_option maxRecDepth 100000 in
theorem kX6_countedNow (l : Launch) (D : va_G) (g : G3) (ad : Ky → Nat) {v1 v2 : Int32} {μ μ' : Mem} {r : Int32} (h : X6_countedNow v1 v2 μ = some (r, μ')) : CtI l yX6_countedNow wsX6_countedNow rX6_countedNow D (tysX g) keysM ad (cX g ad) [.ref (ad (20, 50, 0)), .int v1, .int v2] μ r μ' := by
  refine ctI_of (cc := cX6_countedNow) (maxL := 3) (ret := (some .int)) keysM_nd (by decide) rfl (Nat.le_of_ble_eq_true rfl) (fun p e s m below meth c A ls C hW hl => ?_)
  have hl : lv_has ls 3 [(0, .ref (ad (20, 50, 0))), (1, .int v1), (2, .int v2)] := hl
  obtain ⟨hx, hb, hr, hts, hown, hlocks, hml, hA⟩ := id C
  refine lv_aload_n hx hb dX6_countedNow_0 rfl (lv_at hl 0 rfl) ?_
  refine lv_aload_n hx hb dX6_countedNow_1 rfl (lv_at hl 0 rfl) ?_
  refine wo_get (C := RX6) (T := TX6) (N := 14) hx hb hts iX6_countedNow_6 hown hW kl_20_50_0 co_o rfl 2 (by decide) (hts _ mX6_countedNow_l13) (fun _ h9 => h9) rfl dX6_countedNow_2 ?_
  refine lv_iconst (v := 5) hx hb dX6_countedNow_5 (by decide) ?_
  refine lv_iload_n hx hb dX6_countedNow_6 rfl (lv_at hl 1 rfl) ?_
  refine lv_iadd hx hb dX6_countedNow_7 ?_
  obtain ⟨hi_1, h⟩ := gi_s h
  refine xw_ald hx hb hW kl_20_2_0 rfl hi_1 dX6_countedNow_8 ?_
  refine lv_aload_n hx hb dX6_countedNow_9 rfl (lv_at hl 0 rfl) ?_
  refine lv_iload_n hx hb dX6_countedNow_10 rfl (lv_at hl 1 rfl) ?_
  refine lv_iload_n hx hb dX6_countedNow_11 rfl (lv_at hl 2 rfl) ?_
  obtain ⟨r_4, μ_3, hh_2, h⟩ := bd_s h
  refine wo_Vi (rest := [.int (μ 20 2 0 (5 + v1).toNatClampNeg), .ref (ad (20, 50, 0))]) C hW (kX6_pauseNow l D g ad  hh_2) (cwV 2 hts gX6_countedNow_X6_pauseNow rfl rfl rfl (by decide +kernel) ⟨Nat.le_of_ble_eq_true rfl, Nat.le_of_ble_eq_true rfl⟩) kl_20_50_0 co_o rfl rfl hl.1 rfl (Nat.le_of_ble_eq_true rfl) dX6_countedNow_12 ⟨Nat.zero_le _, Nat.zero_le _⟩ (fun H locs hW => ?_)
  refine lv_sipush (v := 128) hx hb dX6_countedNow_15 (by decide) ?_
  refine lv_idiv hx hb dX6_countedNow_18 (by decide) ?_
  obtain ⟨r_7, μ_6, hh_5, h⟩ := bd_s h
  refine wo_Vi (rest := []) C hW (kX6_countedOf l D g ad  hh_5) (cwV 2 hts gX6_countedNow_X6_countedOf rfl rfl rfl (by decide +kernel) ⟨Nat.le_of_ble_eq_true rfl, Nat.le_of_ble_eq_true rfl⟩) kl_20_50_0 co_o rfl rfl hl.1 rfl (Nat.le_of_ble_eq_true rfl) dX6_countedNow_19 ⟨Nat.zero_le _, Nat.zero_le _⟩ (fun H locs hW => ?_)
  exact xw_iret C rfl hW dX6_countedNow_22 h
abbrev rX6_claim : Room := { frames := 3, cells := 0, slots := 0, locals := 68 }
theorem mX6_claim_l13 : Cond.fieldLink RX6 13 "NearlyBoughtModel" "told" "[I" ∈ wsX6_claim := by decide +kernel
theorem iX6_claim_6 : ∀ w ∈ wsX60, w ∈ wsX6_claim := fun _ h => List.mem_cons_of_mem _ (List.mem_append_right _ h)
set_option maxHeartbeats 4000000 in
set_option maxRecDepth 100000 in
theorem tX6_claim_b54 {p : Program} {l : Launch} {e : Env} {s : State} {m : MethodId} {args : Array Value} {below : List Frame} {meth : Method} {c : Code} {A : Nat → Prop} {D : va_G} {g : G3} {ad : Ky → Nat} (C : Cx p s m args meth c cX6_claim (some .int) 6 RX6 wsX6_claim A) {r0 : Int32} {μ0 : Mem} {v1 v2 v4 s0 : Int32} {k9 : Int32 → Int32 → Int32 → Mem → Option (Int32 × Mem)} (h9 : ∀ (v2 v3 v4 : Int32) (μ : Mem) (H : Heap) (locs : List Loc) (ls : Array Slot), WX D g keysM ad A s s.heap μ H locs → lv_has ls 6 [(0, .ref (ad (20, 50, 0))), (1, .int v1), (2, .int v2), (3, .int v3), (4, .int v4)] → k9 v2 v3 v4 μ = some (r0, μ0) → TgI r0 p l e rX6_claim s m args below meth c D g keysM ad A μ0 H locs (F0 m 9 ls [])) {μ : Mem} {H : Heap} {locs : List Loc} {ls : Array Slot} (hW : WX D g keysM ad A s s.heap μ H locs) (hl : lv_has ls 6 [(0, .ref (ad (20, 50, 0))), (1, .int v1), (2, .int v2), (4, .int v4)]) (h : X6_claim_b54 k9 v1 v2 v4 s0 μ = some (r0, μ0)) : TgI r0 p l e rX6_claim s m args below meth c D g keysM ad A μ0 H locs (F0 m 54 ls [.int s0]) := by
  obtain ⟨hx, hb, hr, hts, hown, hlocks, hml, hA⟩ := id C
  refine lv_istore_n (lv' := [(3, .int s0), (0, .ref (ad (20, 50, 0))), (1, .int v1), (2, .int v2), (4, .int v4)]) hx hb dX6_claim_54 rfl hl (by decide) rfl (fun ls hl => ?_)
  refine lv_iinc (v := v4 + 1) (lv' := [(4, .int (v4 + 1)), (3, .int s0), (0, .ref (ad (20, 50, 0))), (1, .int v1), (2, .int v2)]) hx hb dX6_claim_55 hl (k := 4) rfl rfl (by decide) rfl (fun ls hl => ?_)
  refine lv_goto (tgt := 9) hx hb dX6_claim_58 (by decide) ?_
  exact h9 _ _ _ _ _ _ _ hW (lv_sub hl [2, 3, 4, 1, 0] rfl) h
set_option maxHeartbeats 4000000 in
set_option maxRecDepth 100000 in
theorem tX6_claim_b41 {p : Program} {l : Launch} {e : Env} {s : State} {m : MethodId} {args : Array Value} {below : List Frame} {meth : Method} {c : Code} {A : Nat → Prop} {D : va_G} {g : G3} {ad : Ky → Nat} (C : Cx p s m args meth c cX6_claim (some .int) 6 RX6 wsX6_claim A) {r0 : Int32} {μ0 : Mem} {v1 v3 v4 v5 s0 : Int32} {k9 : Int32 → Int32 → Int32 → Mem → Option (Int32 × Mem)} (h9 : ∀ (v2 v3 v4 : Int32) (μ : Mem) (H : Heap) (locs : List Loc) (ls : Array Slot), WX D g keysM ad A s s.heap μ H locs → lv_has ls 6 [(0, .ref (ad (20, 50, 0))), (1, .int v1), (2, .int v2), (3, .int v3), (4, .int v4)] → k9 v2 v3 v4 μ = some (r0, μ0) → TgI r0 p l e rX6_claim s m args below meth c D g keysM ad A μ0 H locs (F0 m 9 ls [])) {μ : Mem} {H : Heap} {locs : List Loc} {ls : Array Slot} (hW : WX D g keysM ad A s s.heap μ H locs) (hl : lv_has ls 6 [(0, .ref (ad (20, 50, 0))), (1, .int v1), (3, .int v3), (4, .int v4), (5, .int v5)]) (h : X6_claim_b41 k9 v1 v3 v4 v5 s0 μ = some (r0, μ0)) : TgI r0 p l e rX6_claim s m args below meth c D g keysM ad A μ0 H locs (F0 m 41 ls [.int s0]) := by
  obtain ⟨hx, hb, hr, hts, hown, hlocks, hml, hA⟩ := id C
  refine lv_istore_n (lv' := [(2, .int s0), (0, .ref (ad (20, 50, 0))), (1, .int v1), (3, .int v3), (4, .int v4), (5, .int v5)]) hx hb dX6_claim_41 rfl hl (by decide) rfl (fun ls hl => ?_)
  refine lv_iload hx hb dX6_claim_42 (lv_at hl 5 rfl) ?_
  refine lv_iload_n hx hb dX6_claim_44 rfl (lv_at hl 3 rfl) ?_
  refine lv_icmp_le (tgt := 53) hx hb dX6_claim_45 (by decide) (fun c_7 => ?_) (fun c_7 => ?_)
  · have h := ite_p c_7 h
    refine lv_iload_n hx hb dX6_claim_53 rfl (lv_at hl 3 rfl) ?_
    exact tX6_claim_b54 C h9 hW (lv_sub hl [1, 2, 0, 4] rfl) h
  have h := ite_n c_7 h
  refine lv_iload hx hb dX6_claim_48 (lv_at hl 5 rfl) ?_
  refine lv_goto (tgt := 54) hx hb dX6_claim_50 (by decide) ?_
  exact tX6_claim_b54 C h9 hW (lv_sub hl [1, 2, 0, 4] rfl) h
set_option maxHeartbeats 4000000 in
set_option maxRecDepth 100000 in
theorem tX6_claim_b9 {p : Program} {l : Launch} {e : Env} {s : State} {m : MethodId} {args : Array Value} {below : List Frame} {meth : Method} {c : Code} {A : Nat → Prop} {D : va_G} {g : G3} {ad : Ky → Nat} (C : Cx p s m args meth c cX6_claim (some .int) 6 RX6 wsX6_claim A) {r0 : Int32} {μ0 : Mem} {v1 : Int32} (n : Nat) : ∀ (v2 v3 v4 : Int32) (μ : Mem) (H : Heap) (locs : List Loc) (ls : Array Slot), WX D g keysM ad A s s.heap μ H locs → lv_has ls 6 [(0, .ref (ad (20, 50, 0))), (1, .int v1), (2, .int v2), (3, .int v3), (4, .int v4)] → lo3 (X6_claim_b9 v1) n v2 v3 v4 μ = some (r0, μ0) → TgI r0 p l e rX6_claim s m args below meth c D g keysM ad A μ0 H locs (F0 m 9 ls []) := by
  obtain ⟨hx, hb, hr, hts, hown, hlocks, hml, hA⟩ := id C
  induction n with
  | zero =>
    intro v2 v3 v4 μ H locs ls hW hl h
    cases h
  | succ n h9 =>
    intro v2 v3 v4 μ H locs ls hW hl h
    have h : X6_claim_b9 v1 (lo3 (X6_claim_b9 v1) n) v2 v3 v4 μ = some (r0, μ0) := h
    refine lv_iload hx hb dX6_claim_9 (lv_at hl 4 rfl) ?_
    refine lv_aload_n hx hb dX6_claim_11 rfl (lv_at hl 0 rfl) ?_
    refine wo_get (C := RX6) (T := TX6) (N := 14) hx hb hts iX6_claim_6 hown hW kl_20_50_0 co_o rfl 2 (by decide) (hts _ mX6_claim_l13) (fun _ h9 => h9) rfl dX6_claim_12 ?_
    refine lv_iconst (v := 0) hx hb dX6_claim_15 (by decide) ?_
    obtain ⟨hi_1, h⟩ := gi_s h
    refine xw_ald hx hb hW kl_20_2_0 rfl hi_1 dX6_claim_16 ?_
    refine lv_icmp_ge (tgt := 61) hx hb dX6_claim_17 (by decide) (fun c_2 => ?_) (fun c_2 => ?_)
    · have h := ite_p c_2 h
      refine lv_iload_n hx hb dX6_claim_61 rfl (lv_at hl 2 rfl) ?_
      exact xw_iret C rfl hW dX6_claim_62 h
    have h := ite_n c_2 h
    refine lv_aload_n hx hb dX6_claim_20 rfl (lv_at hl 0 rfl) ?_
    refine lv_iload hx hb dX6_claim_21 (lv_at hl 4 rfl) ?_
    refine lv_iload_n hx hb dX6_claim_23 rfl (lv_at hl 1 rfl) ?_
    obtain ⟨r_5, μ_4, hh_3, h⟩ := bd_s h
    refine wo_Vi (rest := []) C hW (kX6_countedNow l D g ad  hh_3) (cwV 2 hts gX6_claim_X6_countedNow rfl rfl rfl (by decide +kernel) ⟨Nat.le_of_ble_eq_true rfl, Nat.le_of_ble_eq_true rfl⟩) kl_20_50_0 co_o rfl rfl hl.1 rfl (Nat.le_of_ble_eq_true rfl) dX6_claim_24 ⟨Nat.zero_le _, Nat.zero_le _⟩ (fun H locs hW => ?_)
    refine lv_istore (lv' := [(5, .int r_5), (0, .ref (ad (20, 50, 0))), (1, .int v1), (2, .int v2), (3, .int v3), (4, .int v4)]) hx hb dX6_claim_27 hl (by decide) rfl (fun ls hl => ?_)
    refine lv_iload hx hb dX6_claim_29 (lv_at hl 0 rfl) ?_
    refine lv_iload_n hx hb dX6_claim_31 rfl (lv_at hl 4 rfl) ?_
    refine lv_icmp_le (tgt := 40) hx hb dX6_claim_32 (by decide) (fun c_6 => ?_) (fun c_6 => ?_)
    · have h := ite_p c_6 h
      refine lv_iload_n hx hb dX6_claim_40 rfl (lv_at hl 3 rfl) ?_
      exact tX6_claim_b41 C h9 hW (lv_sub hl [1, 2, 4, 5, 0] rfl) h
    have h := ite_n c_6 h
    refine lv_iload hx hb dX6_claim_35 (lv_at hl 5 rfl) ?_
    refine lv_goto (tgt := 41) hx hb dX6_claim_37 (by decide) ?_
    exact tX6_claim_b41 C h9 hW (lv_sub hl [1, 2, 4, 5, 0] rfl) h
set_option maxHeartbeats 4000000 in
set_option maxRecDepth 100000 in
theorem kX6_claim (l : Launch) (D : va_G) (g : G3) (ad : Ky → Nat) {v1 : Int32} {μ μ' : Mem} {r : Int32} (h : X6_claim v1 μ = some (r, μ')) : CtI l yX6_claim wsX6_claim rX6_claim D (tysX g) keysM ad (cX g ad) [.ref (ad (20, 50, 0)), .int v1] μ r μ' := by
  refine ctI_of (cc := cX6_claim) (maxL := 6) (ret := (some .int)) keysM_nd (by decide) rfl (Nat.le_of_ble_eq_true rfl) (fun p e s m below meth c A ls C hW hl => ?_)
  have hl : lv_has ls 6 [(0, .ref (ad (20, 50, 0))), (1, .int v1)] := hl
  obtain ⟨hx, hb, hr, hts, hown, hlocks, hml, hA⟩ := id C
  refine lv_bipush (v := (-4)) hx hb dX6_claim_0 (by decide) ?_
  refine lv_istore_n (lv' := [(2, .int (-4)), (0, .ref (ad (20, 50, 0))), (1, .int v1)]) hx hb dX6_claim_2 rfl hl (by decide) rfl (fun ls hl => ?_)
  refine lv_bipush (v := 8) hx hb dX6_claim_3 (by decide) ?_
  refine lv_istore_n (lv' := [(3, .int 8), (2, .int (-4)), (0, .ref (ad (20, 50, 0))), (1, .int v1)]) hx hb dX6_claim_5 rfl hl (by decide) rfl (fun ls hl => ?_)
  refine lv_iconst (v := 0) hx hb dX6_claim_6 (by decide) ?_
  refine lv_istore (lv' := [(4, .int 0), (3, .int 8), (2, .int (-4)), (0, .ref (ad (20, 50, 0))), (1, .int v1)]) hx hb dX6_claim_7 hl (by decide) rfl (fun ls hl => ?_)
  exact tX6_claim_b9 C 1000 _ _ _ _ _ _ _ hW (lv_sub hl [3, 4, 2, 1, 0] rfl) h
abbrev rX6_costs : Room := { frames := 0, cells := 0, slots := 0, locals := 0 }
theorem mX6_costs_l13 : Cond.fieldLink RX6 13 "NearlyBoughtModel" "told" "[I" ∈ wsX6_costs := by decide +kernel
theorem iX6_costs_6 : ∀ w ∈ wsX60, w ∈ wsX6_costs := fun _ h => List.mem_cons_of_mem _ (List.mem_append_right _ h)
set_option maxHeartbeats 4000000 in
set_option maxRecDepth 100000 in
theorem kX6_costs (l : Launch) (D : va_G) (g : G3) (ad : Ky → Nat) {v1 v2 : Int32} {μ μ' : Mem} {r : Int32} (h : X6_costs v1 v2 μ = some (r, μ')) : CtI l yX6_costs wsX6_costs rX6_costs D (tysX g) keysM ad (cX g ad) [.ref (ad (20, 50, 0)), .int v1, .int v2] μ r μ' := by
  refine ctI_of (cc := cX6_costs) (maxL := 3) (ret := (some .int)) keysM_nd (by decide) rfl (Nat.le_of_ble_eq_true rfl) (fun p e s m below meth c A ls C hW hl => ?_)
  have hl : lv_has ls 3 [(0, .ref (ad (20, 50, 0))), (1, .int v1), (2, .int v2)] := hl
  obtain ⟨hx, hb, hr, hts, hown, hlocks, hml, hA⟩ := id C
  refine lv_aload_n hx hb dX6_costs_0 rfl (lv_at hl 0 rfl) ?_
  refine wo_get (C := RX6) (T := TX6) (N := 14) hx hb hts iX6_costs_6 hown hW kl_20_50_0 co_o rfl 2 (by decide) (hts _ mX6_costs_l13) (fun _ h9 => h9) rfl dX6_costs_1 ?_
  refine lv_bipush (v := 17) hx hb dX6_costs_4 (by decide) ?_
  refine lv_iload_n hx hb dX6_costs_6 rfl (lv_at hl 1 rfl) ?_
  refine lv_iadd hx hb dX6_costs_7 ?_
  obtain ⟨hi_1, h⟩ := gi_s h
  refine xw_ald hx hb hW kl_20_2_0 rfl hi_1 dX6_costs_8 ?_
  refine lv_aload_n hx hb dX6_costs_9 rfl (lv_at hl 0 rfl) ?_
  refine wo_get (C := RX6) (T := TX6) (N := 14) hx hb hts iX6_costs_6 hown hW kl_20_50_0 co_o rfl 2 (by decide) (hts _ mX6_costs_l13) (fun _ h9 => h9) rfl dX6_costs_10 ?_
  refine lv_iconst (v := 4) hx hb dX6_costs_13 (by decide) ?_
  obtain ⟨hi_2, h⟩ := gi_s h
  refine xw_ald hx hb hW kl_20_2_0 rfl hi_2 dX6_costs_14 ?_
  refine lv_iload_n hx hb dX6_costs_15 rfl (lv_at hl 2 rfl) ?_
  refine lv_imul hx hb dX6_costs_16 ?_
  refine lv_iadd hx hb dX6_costs_17 ?_
  exact xw_iret C rfl hW dX6_costs_18 h
abbrev rX6_priceOf : Room := { frames := 2, cells := 0, slots := 0, locals := 46 }
theorem mX6_priceOf_l13 : Cond.fieldLink RX6 13 "NearlyBoughtModel" "told" "[I" ∈ wsX6_priceOf := by decide +kernel
theorem iX6_priceOf_6 : ∀ w ∈ wsX60, w ∈ wsX6_priceOf := fun _ h => List.mem_cons_of_mem _ (List.mem_append_right _ h)
set_option maxHeartbeats 4000000 in
set_option maxRecDepth 100000 in
theorem kX6_priceOf (l : Launch) (D : va_G) (g : G3) (ad : Ky → Nat) {v1 v2 : Int32} {μ μ' : Mem} {r : Int32} (h : X6_priceOf v1 v2 μ = some (r, μ')) : CtI l yX6_priceOf wsX6_priceOf rX6_priceOf D (tysX g) keysM ad (cX g ad) [.ref (ad (20, 50, 0)), .int v1, .int v2] μ r μ' := by
  refine ctI_of (cc := cX6_priceOf) (maxL := 4) (ret := (some .int)) keysM_nd (by decide) rfl (Nat.le_of_ble_eq_true rfl) (fun p e s m below meth c A ls C hW hl => ?_)
  have hl : lv_has ls 4 [(0, .ref (ad (20, 50, 0))), (1, .int v1), (2, .int v2)] := hl
  obtain ⟨hx, hb, hr, hts, hown, hlocks, hml, hA⟩ := id C
  refine lv_aload_n hx hb dX6_priceOf_0 rfl (lv_at hl 0 rfl) ?_
  refine lv_iload_n hx hb dX6_priceOf_1 rfl (lv_at hl 2 rfl) ?_
  refine lv_aload_n hx hb dX6_priceOf_2 rfl (lv_at hl 0 rfl) ?_
  refine lv_iload_n hx hb dX6_priceOf_3 rfl (lv_at hl 1 rfl) ?_
  refine lv_iload_n hx hb dX6_priceOf_4 rfl (lv_at hl 2 rfl) ?_
  obtain ⟨r_3, μ_2, hh_1, h⟩ := bd_s h
  refine wo_Vi (rest := [.int v2, .ref (ad (20, 50, 0))]) C hW (kX6_pauseNow l D g ad  hh_1) (cwV 2 hts gX6_priceOf_X6_pauseNow rfl rfl rfl (by decide +kernel) ⟨Nat.le_of_ble_eq_true rfl, Nat.le_of_ble_eq_true rfl⟩) kl_20_50_0 co_o rfl rfl hl.1 rfl (Nat.le_of_ble_eq_true rfl) dX6_priceOf_5 ⟨Nat.zero_le _, Nat.zero_le _⟩ (fun H locs hW => ?_)
  refine lv_sipush (v := 128) hx hb dX6_priceOf_8 (by decide) ?_
  refine lv_irem hx hb dX6_priceOf_11 (by decide) ?_
  obtain ⟨r_6, μ_5, hh_4, h⟩ := bd_s h
  refine wo_Vi (rest := []) C hW (kX6_costs l D g ad  hh_4) (cwV 2 hts gX6_priceOf_X6_costs rfl rfl rfl (by decide +kernel) ⟨Nat.le_of_ble_eq_true rfl, Nat.le_of_ble_eq_true rfl⟩) kl_20_50_0 co_o rfl rfl hl.1 rfl (Nat.le_of_ble_eq_true rfl) dX6_priceOf_12 ⟨Nat.zero_le _, Nat.zero_le _⟩ (fun H locs hW => ?_)
  refine lv_istore_n (lv' := [(3, .int r_6), (0, .ref (ad (20, 50, 0))), (1, .int v1), (2, .int v2)]) hx hb dX6_priceOf_15 rfl hl (by decide) rfl (fun ls hl => ?_)
  refine lv_aload_n hx hb dX6_priceOf_16 rfl (lv_at hl 1 rfl) ?_
  refine wo_get (C := RX6) (T := TX6) (N := 14) hx hb hts iX6_priceOf_6 hown hW kl_20_50_0 co_o rfl 2 (by decide) (hts _ mX6_priceOf_l13) (fun _ h9 => h9) rfl dX6_priceOf_17 ?_
  refine lv_iconst (v := 5) hx hb dX6_priceOf_20 (by decide) ?_
  refine lv_iload_n hx hb dX6_priceOf_21 rfl (lv_at hl 2 rfl) ?_
  refine lv_iadd hx hb dX6_priceOf_22 ?_
  obtain ⟨hi_7, h⟩ := gi_s h
  refine xw_ald hx hb hW kl_20_2_0 rfl hi_7 dX6_priceOf_23 ?_
  refine lv_iconst (v := 3) hx hb dX6_priceOf_24 (by decide) ?_
  refine lv_icmp_ne (tgt := 34) hx hb dX6_priceOf_25 (by decide) (fun c_8 => ?_) (fun c_8 => ?_)
  · have h := ite_n c_8 h
    refine lv_iload_n hx hb dX6_priceOf_34 rfl (lv_at hl 0 rfl) ?_
    exact xw_iret C rfl hW dX6_priceOf_35 h
  have h := ite_p c_8 h
  refine lv_iload_n hx hb dX6_priceOf_28 rfl (lv_at hl 0 rfl) ?_
  refine lv_iconst (v := 2) hx hb dX6_priceOf_29 (by decide) ?_
  refine lv_idiv hx hb dX6_priceOf_30 (by decide) ?_
  refine lv_goto (tgt := 35) hx hb dX6_priceOf_31 (by decide) ?_
  exact xw_iret C rfl hW dX6_priceOf_35 h
abbrev rX6_sells : Room := { frames := 0, cells := 0, slots := 0, locals := 0 }
theorem mX6_sells_l19 : Cond.fieldLink RX6 19 "NearlyBoughtModel" "s" "[I" ∈ wsX6_sells := by decide +kernel
theorem iX6_sells_6 : ∀ w ∈ wsX60, w ∈ wsX6_sells := fun _ h => List.mem_cons_of_mem _ (List.mem_append_right _ h)
set_option maxHeartbeats 4000000 in
set_option maxRecDepth 100000 in
theorem kX6_sells (l : Launch) (D : va_G) (g : G3) (ad : Ky → Nat) {v1 v2 v3 : Int32} {μ μ' : Mem} (h : X6_sells v1 v2 v3 μ = some μ') : CtV l yX6_sells wsX6_sells rX6_sells D (tysX g) keysM ad (cX g ad) [.ref (ad (20, 50, 0)), .int v1, .int v2, .int v3] μ μ' := by
  refine ctV_of (cc := cX6_sells) (maxL := 4) (ret := none) keysM_nd (by decide) rfl (Nat.le_of_ble_eq_true rfl) (fun p e s m below meth c A ls C hW hl => ?_)
  have hl : lv_has ls 4 [(0, .ref (ad (20, 50, 0))), (1, .int v1), (2, .int v2), (3, .int v3)] := hl
  obtain ⟨hx, hb, hr, hts, hown, hlocks, hml, hA⟩ := id C
  refine lv_aload_n hx hb dX6_sells_0 rfl (lv_at hl 0 rfl) ?_
  refine wo_get (C := RX6) (T := TX6) (N := 14) hx hb hts iX6_sells_6 hown hW kl_20_50_0 co_o rfl 4 (by decide) (hts _ mX6_sells_l19) (fun _ h9 => h9) rfl dX6_sells_1 ?_
  refine lv_bipush (v := 6) hx hb dX6_sells_4 (by decide) ?_
  refine lv_iload_n hx hb dX6_sells_6 rfl (lv_at hl 1 rfl) ?_
  refine lv_iadd hx hb dX6_sells_7 ?_
  refine lv_iload_n hx hb dX6_sells_8 rfl (lv_at hl 2 rfl) ?_
  obtain ⟨hi_1, h⟩ := gi_s h
  refine xw_ast hx hb hW kl_20_4_0 (fun _ => rfl) rfl hi_1 dX6_sells_9 (fun H locs hW => ?_)
  refine lv_aload_n hx hb dX6_sells_10 rfl (lv_at hl 0 rfl) ?_
  refine wo_get (C := RX6) (T := TX6) (N := 14) hx hb hts iX6_sells_6 hown hW kl_20_50_0 co_o rfl 4 (by decide) (hts _ mX6_sells_l19) (fun _ h9 => h9) rfl dX6_sells_11 ?_
  refine lv_iload_n hx hb dX6_sells_14 rfl (lv_at hl 2 rfl) ?_
  refine lv_dup2_11 hx hb dX6_sells_15 rfl rfl ?_
  obtain ⟨hi_2, h⟩ := gi_s h
  refine xw_ald hx hb hW kl_20_4_0 rfl hi_2 dX6_sells_16 ?_
  refine lv_iload_n hx hb dX6_sells_17 rfl (lv_at hl 3 rfl) ?_
  refine lv_isub hx hb dX6_sells_18 ?_
  obtain ⟨hi_3, h⟩ := gi_s h
  refine xw_ast hx hb hW kl_20_4_0 (fun _ => rfl) rfl hi_3 dX6_sells_19 (fun H locs hW => ?_)
  exact xw_vret C rfl hW dX6_sells_20 h
abbrev rX6_isNearly : Room := { frames := 3, cells := 0, slots := 0, locals := 68 }
set_option maxHeartbeats 4000000 in
set_option maxRecDepth 100000 in
theorem kX6_isNearly (l : Launch) (D : va_G) (g : G3) (ad : Ky → Nat) {v1 v2 : Int32} {μ μ' : Mem} {r : Int32} (h : X6_isNearly v1 v2 μ = some (r, μ')) : CtI l yX6_isNearly wsX6_isNearly rX6_isNearly D (tysX g) keysM ad (cX g ad) [.ref (ad (20, 50, 0)), .int v1, .int v2] μ r μ' := by
  refine ctI_of (cc := cX6_isNearly) (maxL := 3) (ret := (some .boolean)) keysM_nd (by decide) rfl (Nat.le_of_ble_eq_true rfl) (fun p e s m below meth c A ls C hW hl => ?_)
  have hl : lv_has ls 3 [(0, .ref (ad (20, 50, 0))), (1, .int v1), (2, .int v2)] := hl
  obtain ⟨hx, hb, hr, hts, hown, hlocks, hml, hA⟩ := id C
  refine lv_aload_n hx hb dX6_isNearly_0 rfl (lv_at hl 0 rfl) ?_
  refine lv_iload_n hx hb dX6_isNearly_1 rfl (lv_at hl 1 rfl) ?_
  refine lv_iload_n hx hb dX6_isNearly_2 rfl (lv_at hl 2 rfl) ?_
  obtain ⟨r_3, μ_2, hh_1, h⟩ := bd_s h
  refine wo_Vi (rest := []) C hW (kX6_countedNow l D g ad  hh_1) (cwV 2 hts gX6_isNearly_X6_countedNow rfl rfl rfl (by decide +kernel) ⟨Nat.le_of_ble_eq_true rfl, Nat.le_of_ble_eq_true rfl⟩) kl_20_50_0 co_o rfl rfl hl.1 rfl (Nat.le_of_ble_eq_true rfl) dX6_isNearly_3 ⟨Nat.zero_le _, Nat.zero_le _⟩ (fun H locs hW => ?_)
  refine lv_bipush (v := 8) hx hb dX6_isNearly_6 (by decide) ?_
  refine lv_icmp_le (tgt := 15) hx hb dX6_isNearly_8 (by decide) (fun c_4 => ?_) (fun c_4 => ?_)
  · have h := ite_p c_4 h
    refine lv_iconst (v := 0) hx hb dX6_isNearly_15 (by decide) ?_
    exact xw_zret C rfl (by decide) hW dX6_isNearly_16 h
  have h := ite_n c_4 h
  refine lv_iconst (v := 1) hx hb dX6_isNearly_11 (by decide) ?_
  refine lv_goto (tgt := 16) hx hb dX6_isNearly_12 (by decide) ?_
  exact xw_zret C rfl (by decide) hW dX6_isNearly_16 h
abbrev rX6_dearest : Room := { frames := 4, cells := 0, slots := 0, locals := 90 }
theorem mX6_dearest_l13 : Cond.fieldLink RX6 13 "NearlyBoughtModel" "told" "[I" ∈ wsX6_dearest := by decide +kernel
theorem iX6_dearest_6 : ∀ w ∈ wsX60, w ∈ wsX6_dearest := fun _ h => List.mem_cons_of_mem _ (List.mem_append_right _ h)
set_option maxHeartbeats 4000000 in
set_option maxRecDepth 100000 in
theorem tX6_dearest_b49 {p : Program} {l : Launch} {e : Env} {s : State} {m : MethodId} {args : Array Value} {below : List Frame} {meth : Method} {c : Code} {A : Nat → Prop} {D : va_G} {g : G3} {ad : Ky → Nat} (C : Cx p s m args meth c cX6_dearest (some .int) 5 RX6 wsX6_dearest A) {r0 : Int32} {μ0 : Mem} {v1 v3 s0 : Int32} {k5 : Int32 → Int32 → Mem → Option (Int32 × Mem)} (h5 : ∀ (v2 v3 : Int32) (μ : Mem) (H : Heap) (locs : List Loc) (ls : Array Slot), WX D g keysM ad A s s.heap μ H locs → lv_has ls 5 [(0, .ref (ad (20, 50, 0))), (1, .int v1), (2, .int v2), (3, .int v3)] → k5 v2 v3 μ = some (r0, μ0) → TgI r0 p l e rX6_dearest s m args below meth c D g keysM ad A μ0 H locs (F0 m 5 ls [])) {μ : Mem} {H : Heap} {locs : List Loc} {ls : Array Slot} (hW : WX D g keysM ad A s s.heap μ H locs) (hl : lv_has ls 5 [(0, .ref (ad (20, 50, 0))), (1, .int v1), (3, .int v3)]) (h : X6_dearest_b49 k5 v1 v3 s0 μ = some (r0, μ0)) : TgI r0 p l e rX6_dearest s m args below meth c D g keysM ad A μ0 H locs (F0 m 49 ls [.int s0]) := by
  obtain ⟨hx, hb, hr, hts, hown, hlocks, hml, hA⟩ := id C
  refine lv_istore_n (lv' := [(2, .int s0), (0, .ref (ad (20, 50, 0))), (1, .int v1), (3, .int v3)]) hx hb dX6_dearest_49 rfl hl (by decide) rfl (fun ls hl => ?_)
  refine lv_iinc (v := v3 + 1) (lv' := [(3, .int (v3 + 1)), (2, .int s0), (0, .ref (ad (20, 50, 0))), (1, .int v1)]) hx hb dX6_dearest_50 hl (k := 3) rfl rfl (by decide) rfl (fun ls hl => ?_)
  refine lv_goto (tgt := 5) hx hb dX6_dearest_53 (by decide) ?_
  exact h5 _ _ _ _ _ _ hW (lv_sub hl [2, 3, 1, 0] rfl) h
set_option maxHeartbeats 4000000 in
set_option maxRecDepth 100000 in
theorem tX6_dearest_b35 {p : Program} {l : Launch} {e : Env} {s : State} {m : MethodId} {args : Array Value} {below : List Frame} {meth : Method} {c : Code} {A : Nat → Prop} {D : va_G} {g : G3} {ad : Ky → Nat} (C : Cx p s m args meth c cX6_dearest (some .int) 5 RX6 wsX6_dearest A) {r0 : Int32} {μ0 : Mem} {v1 v2 v3 s0 : Int32} {k5 : Int32 → Int32 → Mem → Option (Int32 × Mem)} (h5 : ∀ (v2 v3 : Int32) (μ : Mem) (H : Heap) (locs : List Loc) (ls : Array Slot), WX D g keysM ad A s s.heap μ H locs → lv_has ls 5 [(0, .ref (ad (20, 50, 0))), (1, .int v1), (2, .int v2), (3, .int v3)] → k5 v2 v3 μ = some (r0, μ0) → TgI r0 p l e rX6_dearest s m args below meth c D g keysM ad A μ0 H locs (F0 m 5 ls [])) {μ : Mem} {H : Heap} {locs : List Loc} {ls : Array Slot} (hW : WX D g keysM ad A s s.heap μ H locs) (hl : lv_has ls 5 [(0, .ref (ad (20, 50, 0))), (1, .int v1), (2, .int v2), (3, .int v3)]) (h : X6_dearest_b35 k5 v1 v2 v3 s0 μ = some (r0, μ0)) : TgI r0 p l e rX6_dearest s m args below meth c D g keysM ad A μ0 H locs (F0 m 35 ls [.int s0]) := by
  obtain ⟨hx, hb, hr, hts, hown, hlocks, hml, hA⟩ := id C
  refine lv_istore (lv' := [(4, .int s0), (0, .ref (ad (20, 50, 0))), (1, .int v1), (2, .int v2), (3, .int v3)]) hx hb dX6_dearest_35 hl (by decide) rfl (fun ls hl => ?_)
  refine lv_iload hx hb dX6_dearest_37 (lv_at hl 0 rfl) ?_
  refine lv_iload_n hx hb dX6_dearest_39 rfl (lv_at hl 3 rfl) ?_
  refine lv_icmp_le (tgt := 48) hx hb dX6_dearest_40 (by decide) (fun c_7 => ?_) (fun c_7 => ?_)
  · have h := ite_p c_7 h
    refine lv_iload_n hx hb dX6_dearest_48 rfl (lv_at hl 3 rfl) ?_
    exact tX6_dearest_b49 C h5 hW (lv_sub hl [1, 2, 4] rfl) h
  have h := ite_n c_7 h
  refine lv_iload hx hb dX6_dearest_43 (lv_at hl 0 rfl) ?_
  refine lv_goto (tgt := 49) hx hb dX6_dearest_45 (by decide) ?_
  exact tX6_dearest_b49 C h5 hW (lv_sub hl [1, 2, 4] rfl) h
set_option maxHeartbeats 4000000 in
set_option maxRecDepth 100000 in
theorem tX6_dearest_b5 {p : Program} {l : Launch} {e : Env} {s : State} {m : MethodId} {args : Array Value} {below : List Frame} {meth : Method} {c : Code} {A : Nat → Prop} {D : va_G} {g : G3} {ad : Ky → Nat} (C : Cx p s m args meth c cX6_dearest (some .int) 5 RX6 wsX6_dearest A) {r0 : Int32} {μ0 : Mem} {v1 : Int32} (n : Nat) : ∀ (v2 v3 : Int32) (μ : Mem) (H : Heap) (locs : List Loc) (ls : Array Slot), WX D g keysM ad A s s.heap μ H locs → lv_has ls 5 [(0, .ref (ad (20, 50, 0))), (1, .int v1), (2, .int v2), (3, .int v3)] → lo2 (X6_dearest_b5 v1) n v2 v3 μ = some (r0, μ0) → TgI r0 p l e rX6_dearest s m args below meth c D g keysM ad A μ0 H locs (F0 m 5 ls []) := by
  obtain ⟨hx, hb, hr, hts, hown, hlocks, hml, hA⟩ := id C
  induction n with
  | zero =>
    intro v2 v3 μ H locs ls hW hl h
    cases h
  | succ n h5 =>
    intro v2 v3 μ H locs ls hW hl h
    have h : X6_dearest_b5 v1 (lo2 (X6_dearest_b5 v1) n) v2 v3 μ = some (r0, μ0) := h
    refine lv_iload_n hx hb dX6_dearest_5 rfl (lv_at hl 3 rfl) ?_
    refine lv_aload_n hx hb dX6_dearest_6 rfl (lv_at hl 0 rfl) ?_
    refine wo_get (C := RX6) (T := TX6) (N := 14) hx hb hts iX6_dearest_6 hown hW kl_20_50_0 co_o rfl 2 (by decide) (hts _ mX6_dearest_l13) (fun _ h9 => h9) rfl dX6_dearest_7 ?_
    refine lv_iconst (v := 1) hx hb dX6_dearest_10 (by decide) ?_
    obtain ⟨hi_1, h⟩ := gi_s h
    refine xw_ald hx hb hW kl_20_2_0 rfl hi_1 dX6_dearest_11 ?_
    refine lv_icmp_ge (tgt := 56) hx hb dX6_dearest_12 (by decide) (fun c_2 => ?_) (fun c_2 => ?_)
    · have h := ite_p c_2 h
      refine lv_iload_n hx hb dX6_dearest_56 rfl (lv_at hl 2 rfl) ?_
      exact xw_iret C rfl hW dX6_dearest_57 h
    have h := ite_n c_2 h
    refine lv_aload_n hx hb dX6_dearest_15 rfl (lv_at hl 0 rfl) ?_
    refine lv_iload_n hx hb dX6_dearest_16 rfl (lv_at hl 1 rfl) ?_
    refine lv_iload_n hx hb dX6_dearest_17 rfl (lv_at hl 3 rfl) ?_
    obtain ⟨r_5, μ_4, hh_3, h⟩ := bd_s h
    refine wo_Vi (rest := []) C hW (kX6_isNearly l D g ad  hh_3) (cwV 2 hts gX6_dearest_X6_isNearly rfl rfl rfl (by decide +kernel) ⟨Nat.le_of_ble_eq_true rfl, Nat.le_of_ble_eq_true rfl⟩) kl_20_50_0 co_o rfl rfl hl.1 rfl (Nat.le_of_ble_eq_true rfl) dX6_dearest_18 ⟨Nat.zero_le _, Nat.zero_le _⟩ (fun H locs hW => ?_)
    refine lv_if_eq (tgt := 33) hx hb dX6_dearest_21 (by decide) (fun c_6 => ?_) (fun c_6 => ?_)
    · have h := ite_p c_6 h
      refine lv_bipush (v := (-4)) hx hb dX6_dearest_33 (by decide) ?_
      exact tX6_dearest_b35 C h5 hW (lv_sub hl [0, 1, 2, 3] rfl) h
    have h := ite_n c_6 h
    refine lv_aload_n hx hb dX6_dearest_24 rfl (lv_at hl 0 rfl) ?_
    refine lv_iload_n hx hb dX6_dearest_25 rfl (lv_at hl 1 rfl) ?_
    refine lv_iload_n hx hb dX6_dearest_26 rfl (lv_at hl 3 rfl) ?_
    obtain ⟨r_10, μ_9, hh_8, h⟩ := bd_s h
    refine wo_Vi (rest := []) C hW (kX6_priceOf l D g ad  hh_8) (cwV 2 hts gX6_dearest_X6_priceOf rfl rfl rfl (by decide +kernel) ⟨Nat.le_of_ble_eq_true rfl, Nat.le_of_ble_eq_true rfl⟩) kl_20_50_0 co_o rfl rfl hl.1 rfl (Nat.le_of_ble_eq_true rfl) dX6_dearest_27 ⟨Nat.zero_le _, Nat.zero_le _⟩ (fun H locs hW => ?_)
    refine lv_goto (tgt := 35) hx hb dX6_dearest_30 (by decide) ?_
    exact tX6_dearest_b35 C h5 hW (lv_sub hl [0, 1, 2, 3] rfl) h
set_option maxHeartbeats 4000000 in
set_option maxRecDepth 100000 in
theorem kX6_dearest (l : Launch) (D : va_G) (g : G3) (ad : Ky → Nat) {v1 : Int32} {μ μ' : Mem} {r : Int32} (h : X6_dearest v1 μ = some (r, μ')) : CtI l yX6_dearest wsX6_dearest rX6_dearest D (tysX g) keysM ad (cX g ad) [.ref (ad (20, 50, 0)), .int v1] μ r μ' := by
  refine ctI_of (cc := cX6_dearest) (maxL := 5) (ret := (some .int)) keysM_nd (by decide) rfl (Nat.le_of_ble_eq_true rfl) (fun p e s m below meth c A ls C hW hl => ?_)
  have hl : lv_has ls 5 [(0, .ref (ad (20, 50, 0))), (1, .int v1)] := hl
  obtain ⟨hx, hb, hr, hts, hown, hlocks, hml, hA⟩ := id C
  refine lv_bipush (v := (-4)) hx hb dX6_dearest_0 (by decide) ?_
  refine lv_istore_n (lv' := [(2, .int (-4)), (0, .ref (ad (20, 50, 0))), (1, .int v1)]) hx hb dX6_dearest_2 rfl hl (by decide) rfl (fun ls hl => ?_)
  refine lv_iconst (v := 0) hx hb dX6_dearest_3 (by decide) ?_
  refine lv_istore_n (lv' := [(3, .int 0), (2, .int (-4)), (0, .ref (ad (20, 50, 0))), (1, .int v1)]) hx hb dX6_dearest_4 rfl hl (by decide) rfl (fun ls hl => ?_)
  exact tX6_dearest_b5 C 1000 _ _ _ _ _ _ hW (lv_sub hl [2, 3, 1, 0] rfl) h
abbrev rX6_offers : Room := { frames := 5, cells := 0, slots := 0, locals := 114 }
theorem mX6_offers_l19 : Cond.fieldLink RX6 19 "NearlyBoughtModel" "s" "[I" ∈ wsX6_offers := by decide +kernel
theorem mX6_offers_l13 : Cond.fieldLink RX6 13 "NearlyBoughtModel" "told" "[I" ∈ wsX6_offers := by decide +kernel
theorem iX6_offers_6 : ∀ w ∈ wsX60, w ∈ wsX6_offers := fun _ h => List.mem_cons_of_mem _ (List.mem_append_right _ h)
set_option maxHeartbeats 4000000 in
set_option maxRecDepth 100000 in
theorem tX6_offers_b164 {p : Program} {l : Launch} {e : Env} {s : State} {m : MethodId} {args : Array Value} {below : List Frame} {meth : Method} {c : Code} {A : Nat → Prop} {D : va_G} {g : G3} {ad : Ky → Nat} (C : Cx p s m args meth c cX6_offers none 8 RX6 wsX6_offers A) {μ0 : Mem} {v1 v3 v4 : Int32} {μ : Mem} {H : Heap} {locs : List Loc} {ls : Array Slot} (hW : WX D g keysM ad A s s.heap μ H locs) (hl : lv_has ls 8 [(0, .ref (ad (20, 50, 0))), (1, .int v1), (3, .int v3), (4, .int v4)]) (h : X6_offers_b164 v1 v3 v4 μ = some μ0) : TgV p l e rX6_offers s m args below meth c D g keysM ad A μ0 H locs (F0 m 164 ls []) := by
  obtain ⟨hx, hb, hr, hts, hown, hlocks, hml, hA⟩ := id C
  refine lv_iload hx hb dX6_offers_164 (lv_at hl 3 rfl) ?_
  refine lv_bipush (v := (-4)) hx hb dX6_offers_166 (by decide) ?_
  refine lv_icmp_eq (tgt := 179) hx hb dX6_offers_168 (by decide) (fun c_11 => ?_) (fun c_11 => ?_)
  · have h := ite_p c_11 h
    exact xw_vret C rfl hW dX6_offers_179 h
  have h := ite_n c_11 h
  refine lv_aload_n hx hb dX6_offers_171 rfl (lv_at hl 0 rfl) ?_
  refine lv_iload_n hx hb dX6_offers_172 rfl (lv_at hl 1 rfl) ?_
  refine lv_iload hx hb dX6_offers_173 (lv_at hl 3 rfl) ?_
  refine lv_iload_n hx hb dX6_offers_175 rfl (lv_at hl 2 rfl) ?_
  obtain ⟨μ_13, hh_12, h⟩ := bdv_s h
  refine wo_Vv (rest := []) C hW (kX6_sells l D g ad  hh_12) (cwV 3 hts gX6_offers_X6_sells rfl rfl rfl (by decide +kernel) ⟨Nat.le_of_ble_eq_true rfl, Nat.le_of_ble_eq_true rfl⟩) kl_20_50_0 co_o rfl rfl hl.1 rfl (Nat.le_of_ble_eq_true rfl) dX6_offers_176 ⟨Nat.zero_le _, Nat.zero_le _⟩ (fun H locs hW => ?_)
  exact xw_vret C rfl hW dX6_offers_179 h
set_option maxHeartbeats 4000000 in
set_option maxRecDepth 100000 in
theorem tX6_offers_b156 {p : Program} {l : Launch} {e : Env} {s : State} {m : MethodId} {args : Array Value} {below : List Frame} {meth : Method} {c : Code} {A : Nat → Prop} {D : va_G} {g : G3} {ad : Ky → Nat} (C : Cx p s m args meth c cX6_offers none 8 RX6 wsX6_offers A) {μ0 : Mem} {v1 v2 v3 v4 v6 s0 : Int32} {k72 : Int32 → Int32 → Int32 → Mem → Option (Mem)} (h72 : ∀ (v4 v5 v6 : Int32) (μ : Mem) (H : Heap) (locs : List Loc) (ls : Array Slot), WX D g keysM ad A s s.heap μ H locs → lv_has ls 8 [(0, .ref (ad (20, 50, 0))), (1, .int v1), (2, .int v2), (3, .int v3), (4, .int v4), (5, .int v5), (6, .int v6)] → k72 v4 v5 v6 μ = some μ0 → TgV p l e rX6_offers s m args below meth c D g keysM ad A μ0 H locs (F0 m 72 ls [])) {μ : Mem} {H : Heap} {locs : List Loc} {ls : Array Slot} (hW : WX D g keysM ad A s s.heap μ H locs) (hl : lv_has ls 8 [(0, .ref (ad (20, 50, 0))), (1, .int v1), (2, .int v2), (3, .int v3), (4, .int v4), (6, .int v6)]) (h : X6_offers_b156 k72 v1 v2 v3 v4 v6 s0 μ = some μ0) : TgV p l e rX6_offers s m args below meth c D g keysM ad A μ0 H locs (F0 m 156 ls [.int s0]) := by
  obtain ⟨hx, hb, hr, hts, hown, hlocks, hml, hA⟩ := id C
  refine lv_istore (lv' := [(5, .int s0), (0, .ref (ad (20, 50, 0))), (1, .int v1), (2, .int v2), (3, .int v3), (4, .int v4), (6, .int v6)]) hx hb dX6_offers_156 hl (by decide) rfl (fun ls hl => ?_)
  refine lv_iinc (v := v6 + 1) (lv' := [(6, .int (v6 + 1)), (5, .int s0), (0, .ref (ad (20, 50, 0))), (1, .int v1), (2, .int v2), (3, .int v3), (4, .int v4)]) hx hb dX6_offers_158 hl (k := 6) rfl rfl (by decide) rfl (fun ls hl => ?_)
  refine lv_goto (tgt := 72) hx hb dX6_offers_161 (by decide) ?_
  exact h72 _ _ _ _ _ _ _ hW (lv_sub hl [2, 3, 4, 5, 6, 1, 0] rfl) h
set_option maxHeartbeats 4000000 in
set_option maxRecDepth 100000 in
theorem tX6_offers_b140 {p : Program} {l : Launch} {e : Env} {s : State} {m : MethodId} {args : Array Value} {below : List Frame} {meth : Method} {c : Code} {A : Nat → Prop} {D : va_G} {g : G3} {ad : Ky → Nat} (C : Cx p s m args meth c cX6_offers none 8 RX6 wsX6_offers A) {μ0 : Mem} {v1 v2 v3 v5 v6 v7 s0 : Int32} {k72 : Int32 → Int32 → Int32 → Mem → Option (Mem)} (h72 : ∀ (v4 v5 v6 : Int32) (μ : Mem) (H : Heap) (locs : List Loc) (ls : Array Slot), WX D g keysM ad A s s.heap μ H locs → lv_has ls 8 [(0, .ref (ad (20, 50, 0))), (1, .int v1), (2, .int v2), (3, .int v3), (4, .int v4), (5, .int v5), (6, .int v6)] → k72 v4 v5 v6 μ = some μ0 → TgV p l e rX6_offers s m args below meth c D g keysM ad A μ0 H locs (F0 m 72 ls [])) {μ : Mem} {H : Heap} {locs : List Loc} {ls : Array Slot} (hW : WX D g keysM ad A s s.heap μ H locs) (hl : lv_has ls 8 [(0, .ref (ad (20, 50, 0))), (1, .int v1), (2, .int v2), (3, .int v3), (5, .int v5), (6, .int v6), (7, .int v7)]) (h : X6_offers_b140 k72 v1 v2 v3 v5 v6 v7 s0 μ = some μ0) : TgV p l e rX6_offers s m args below meth c D g keysM ad A μ0 H locs (F0 m 140 ls [.int s0]) := by
  obtain ⟨hx, hb, hr, hts, hown, hlocks, hml, hA⟩ := id C
  refine lv_istore (lv' := [(4, .int s0), (0, .ref (ad (20, 50, 0))), (1, .int v1), (2, .int v2), (3, .int v3), (5, .int v5), (6, .int v6), (7, .int v7)]) hx hb dX6_offers_140 hl (by decide) rfl (fun ls hl => ?_)
  refine lv_iload hx hb dX6_offers_142 (lv_at hl 7 rfl) ?_
  refine lv_iload hx hb dX6_offers_144 (lv_at hl 5 rfl) ?_
  refine lv_icmp_le (tgt := 154) hx hb dX6_offers_146 (by decide) (fun c_18 => ?_) (fun c_18 => ?_)
  · have h := ite_p c_18 h
    refine lv_iload hx hb dX6_offers_154 (lv_at hl 5 rfl) ?_
    exact tX6_offers_b156 C h72 hW (lv_sub hl [1, 2, 3, 4, 0, 6] rfl) h
  have h := ite_n c_18 h
  refine lv_iload hx hb dX6_offers_149 (lv_at hl 7 rfl) ?_
  refine lv_goto (tgt := 156) hx hb dX6_offers_151 (by decide) ?_
  exact tX6_offers_b156 C h72 hW (lv_sub hl [1, 2, 3, 4, 0, 6] rfl) h
set_option maxHeartbeats 4000000 in
set_option maxRecDepth 100000 in
theorem tX6_offers_b124 {p : Program} {l : Launch} {e : Env} {s : State} {m : MethodId} {args : Array Value} {below : List Frame} {meth : Method} {c : Code} {A : Nat → Prop} {D : va_G} {g : G3} {ad : Ky → Nat} (C : Cx p s m args meth c cX6_offers none 8 RX6 wsX6_offers A) {μ0 : Mem} {v1 v2 v3 v4 v5 v6 s0 : Int32} {k72 : Int32 → Int32 → Int32 → Mem → Option (Mem)} (h72 : ∀ (v4 v5 v6 : Int32) (μ : Mem) (H : Heap) (locs : List Loc) (ls : Array Slot), WX D g keysM ad A s s.heap μ H locs → lv_has ls 8 [(0, .ref (ad (20, 50, 0))), (1, .int v1), (2, .int v2), (3, .int v3), (4, .int v4), (5, .int v5), (6, .int v6)] → k72 v4 v5 v6 μ = some μ0 → TgV p l e rX6_offers s m args below meth c D g keysM ad A μ0 H locs (F0 m 72 ls [])) {μ : Mem} {H : Heap} {locs : List Loc} {ls : Array Slot} (hW : WX D g keysM ad A s s.heap μ H locs) (hl : lv_has ls 8 [(0, .ref (ad (20, 50, 0))), (1, .int v1), (2, .int v2), (3, .int v3), (4, .int v4), (5, .int v5), (6, .int v6)]) (h : X6_offers_b124 k72 v1 v2 v3 v4 v5 v6 s0 μ = some μ0) : TgV p l e rX6_offers s m args below meth c D g keysM ad A μ0 H locs (F0 m 124 ls [.int s0]) := by
  obtain ⟨hx, hb, hr, hts, hown, hlocks, hml, hA⟩ := id C
  refine lv_istore (lv' := [(7, .int s0), (0, .ref (ad (20, 50, 0))), (1, .int v1), (2, .int v2), (3, .int v3), (4, .int v4), (5, .int v5), (6, .int v6)]) hx hb dX6_offers_124 hl (by decide) rfl (fun ls hl => ?_)
  refine lv_iload hx hb dX6_offers_126 (lv_at hl 0 rfl) ?_
  refine lv_iload hx hb dX6_offers_128 (lv_at hl 6 rfl) ?_
  refine lv_icmp_le (tgt := 138) hx hb dX6_offers_130 (by decide) (fun c_17 => ?_) (fun c_17 => ?_)
  · have h := ite_p c_17 h
    refine lv_iload hx hb dX6_offers_138 (lv_at hl 5 rfl) ?_
    exact tX6_offers_b140 C h72 hW (lv_sub hl [1, 2, 3, 4, 6, 7, 0] rfl) h
  have h := ite_n c_17 h
  refine lv_iload hx hb dX6_offers_133 (lv_at hl 7 rfl) ?_
  refine lv_goto (tgt := 140) hx hb dX6_offers_135 (by decide) ?_
  exact tX6_offers_b140 C h72 hW (lv_sub hl [1, 2, 3, 4, 6, 7, 0] rfl) h
set_option maxHeartbeats 4000000 in
set_option maxRecDepth 100000 in
theorem tX6_offers_b122 {p : Program} {l : Launch} {e : Env} {s : State} {m : MethodId} {args : Array Value} {below : List Frame} {meth : Method} {c : Code} {A : Nat → Prop} {D : va_G} {g : G3} {ad : Ky → Nat} (C : Cx p s m args meth c cX6_offers none 8 RX6 wsX6_offers A) {μ0 : Mem} {v1 v2 v3 v4 v5 v6 : Int32} {k72 : Int32 → Int32 → Int32 → Mem → Option (Mem)} (h72 : ∀ (v4 v5 v6 : Int32) (μ : Mem) (H : Heap) (locs : List Loc) (ls : Array Slot), WX D g keysM ad A s s.heap μ H locs → lv_has ls 8 [(0, .ref (ad (20, 50, 0))), (1, .int v1), (2, .int v2), (3, .int v3), (4, .int v4), (5, .int v5), (6, .int v6)] → k72 v4 v5 v6 μ = some μ0 → TgV p l e rX6_offers s m args below meth c D g keysM ad A μ0 H locs (F0 m 72 ls [])) {μ : Mem} {H : Heap} {locs : List Loc} {ls : Array Slot} (hW : WX D g keysM ad A s s.heap μ H locs) (hl : lv_has ls 8 [(0, .ref (ad (20, 50, 0))), (1, .int v1), (2, .int v2), (3, .int v3), (4, .int v4), (5, .int v5), (6, .int v6)]) (h : X6_offers_b122 k72 v1 v2 v3 v4 v5 v6 μ = some μ0) : TgV p l e rX6_offers s m args below meth c D g keysM ad A μ0 H locs (F0 m 122 ls []) := by
  obtain ⟨hx, hb, hr, hts, hown, hlocks, hml, hA⟩ := id C
  refine lv_bipush (v := (-4)) hx hb dX6_offers_122 (by decide) ?_
  exact tX6_offers_b124 C h72 hW (lv_sub hl [0, 1, 2, 3, 4, 5, 6] rfl) h
set_option maxHeartbeats 4000000 in
set_option maxRecDepth 100000 in
theorem tX6_offers_b72 {p : Program} {l : Launch} {e : Env} {s : State} {m : MethodId} {args : Array Value} {below : List Frame} {meth : Method} {c : Code} {A : Nat → Prop} {D : va_G} {g : G3} {ad : Ky → Nat} (C : Cx p s m args meth c cX6_offers none 8 RX6 wsX6_offers A) {μ0 : Mem} {v1 v2 v3 : Int32} (n : Nat) : ∀ (v4 v5 v6 : Int32) (μ : Mem) (H : Heap) (locs : List Loc) (ls : Array Slot), WX D g keysM ad A s s.heap μ H locs → lv_has ls 8 [(0, .ref (ad (20, 50, 0))), (1, .int v1), (2, .int v2), (3, .int v3), (4, .int v4), (5, .int v5), (6, .int v6)] → lo3 (X6_offers_b72 v1 v2 v3) n v4 v5 v6 μ = some μ0 → TgV p l e rX6_offers s m args below meth c D g keysM ad A μ0 H locs (F0 m 72 ls []) := by
  obtain ⟨hx, hb, hr, hts, hown, hlocks, hml, hA⟩ := id C
  induction n with
  | zero =>
    intro v4 v5 v6 μ H locs ls hW hl h
    cases h
  | succ n h72 =>
    intro v4 v5 v6 μ H locs ls hW hl h
    have h : X6_offers_b72 v1 v2 v3 (lo3 (X6_offers_b72 v1 v2 v3) n) v4 v5 v6 μ = some μ0 := h
    refine lv_iload hx hb dX6_offers_72 (lv_at hl 6 rfl) ?_
    refine lv_aload_n hx hb dX6_offers_74 rfl (lv_at hl 0 rfl) ?_
    refine wo_get (C := RX6) (T := TX6) (N := 14) hx hb hts iX6_offers_6 hown hW kl_20_50_0 co_o rfl 2 (by decide) (hts _ mX6_offers_l13) (fun _ h9 => h9) rfl dX6_offers_75 ?_
    refine lv_iconst (v := 0) hx hb dX6_offers_78 (by decide) ?_
    obtain ⟨hi_9, h⟩ := gi_s h
    refine xw_ald hx hb hW kl_20_2_0 rfl hi_9 dX6_offers_79 ?_
    refine lv_icmp_ge (tgt := 164) hx hb dX6_offers_80 (by decide) (fun c_10 => ?_) (fun c_10 => ?_)
    · have h := ite_p c_10 h
      exact tX6_offers_b164 C hW (lv_sub hl [0, 1, 3, 4] rfl) h
    have h := ite_n c_10 h
    refine lv_aload_n hx hb dX6_offers_83 rfl (lv_at hl 0 rfl) ?_
    refine wo_get (C := RX6) (T := TX6) (N := 14) hx hb hts iX6_offers_6 hown hW kl_20_50_0 co_o rfl 4 (by decide) (hts _ mX6_offers_l19) (fun _ h9 => h9) rfl dX6_offers_84 ?_
    refine lv_bipush (v := 12) hx hb dX6_offers_87 (by decide) ?_
    refine lv_iload_n hx hb dX6_offers_89 rfl (lv_at hl 1 rfl) ?_
    refine lv_iadd hx hb dX6_offers_90 ?_
    obtain ⟨hi_14, h⟩ := gi_s h
    refine xw_ald hx hb hW kl_20_4_0 rfl hi_14 dX6_offers_91 ?_
    refine lv_iconst (v := 3) hx hb dX6_offers_92 (by decide) ?_
    refine lv_icmp_ne (tgt := 164) hx hb dX6_offers_93 (by decide) (fun c_15 => ?_) (fun c_15 => ?_)
    · have h := ite_n c_15 h
      exact tX6_offers_b164 C hW (lv_sub hl [0, 1, 3, 4] rfl) h
    have h := ite_p c_15 h
    refine lv_iload hx hb dX6_offers_96 (lv_at hl 6 rfl) ?_
    refine lv_iload_n hx hb dX6_offers_98 rfl (lv_at hl 2 rfl) ?_
    refine lv_icmp_eq (tgt := 122) hx hb dX6_offers_99 (by decide) (fun c_16 => ?_) (fun c_16 => ?_)
    · have h := ite_p c_16 h
      exact tX6_offers_b122 C h72 hW (lv_sub hl [0, 1, 2, 3, 4, 5, 6] rfl) h
    have h := ite_n c_16 h
    refine lv_aload_n hx hb dX6_offers_102 rfl (lv_at hl 0 rfl) ?_
    refine wo_get (C := RX6) (T := TX6) (N := 14) hx hb hts iX6_offers_6 hown hW kl_20_50_0 co_o rfl 4 (by decide) (hts _ mX6_offers_l19) (fun _ h9 => h9) rfl dX6_offers_103 ?_
    refine lv_iload hx hb dX6_offers_106 (lv_at hl 6 rfl) ?_
    obtain ⟨hi_19, h⟩ := gi_s h
    refine xw_ald hx hb hW kl_20_4_0 rfl hi_19 dX6_offers_108 ?_
    refine lv_iload_n hx hb dX6_offers_109 rfl (lv_at hl 3 rfl) ?_
    refine lv_icmp_lt (tgt := 122) hx hb dX6_offers_110 (by decide) (fun c_20 => ?_) (fun c_20 => ?_)
    · have h := ite_p c_20 h
      exact tX6_offers_b122 C h72 hW (lv_sub hl [0, 1, 2, 3, 4, 5, 6] rfl) h
    have h := ite_n c_20 h
    refine lv_aload_n hx hb dX6_offers_113 rfl (lv_at hl 0 rfl) ?_
    refine lv_iload hx hb dX6_offers_114 (lv_at hl 6 rfl) ?_
    obtain ⟨r_23, μ_22, hh_21, h⟩ := bd_s h
    refine wo_Vi (rest := []) C hW (kX6_dearest l D g ad  hh_21) (cwV 1 hts gX6_offers_X6_dearest rfl rfl rfl (by decide +kernel) ⟨Nat.le_of_ble_eq_true rfl, Nat.le_of_ble_eq_true rfl⟩) kl_20_50_0 co_o rfl rfl hl.1 rfl (Nat.le_of_ble_eq_true rfl) dX6_offers_116 ⟨Nat.zero_le _, Nat.zero_le _⟩ (fun H locs hW => ?_)
    refine lv_goto (tgt := 124) hx hb dX6_offers_119 (by decide) ?_
    exact tX6_offers_b124 C h72 hW (lv_sub hl [0, 1, 2, 3, 4, 5, 6] rfl) h
set_option maxHeartbeats 4000000 in
set_option maxRecDepth 100000 in
theorem tX6_offers_b61 {p : Program} {l : Launch} {e : Env} {s : State} {m : MethodId} {args : Array Value} {below : List Frame} {meth : Method} {c : Code} {A : Nat → Prop} {D : va_G} {g : G3} {ad : Ky → Nat} (C : Cx p s m args meth c cX6_offers none 8 RX6 wsX6_offers A) {μ0 : Mem} {v1 v2 v3 s1 s2 : Int32} {μ : Mem} {H : Heap} {locs : List Loc} {ls : Array Slot} (hW : WX D g keysM ad A s s.heap μ H locs) (hl : lv_has ls 8 [(0, .ref (ad (20, 50, 0))), (1, .int v1), (2, .int v2), (3, .int v3)]) (h : X6_offers_b61 v1 v2 v3 s1 s2 μ = some μ0) : TgV p l e rX6_offers s m args below meth c D g keysM ad A μ0 H locs (F0 m 61 ls [.int s2, .int s1, .ref (ad (20, 4, 0))]) := by
  obtain ⟨hx, hb, hr, hts, hown, hlocks, hml, hA⟩ := id C
  obtain ⟨hi_8, h⟩ := gi_s h
  refine xw_ast hx hb hW kl_20_4_0 (fun _ => rfl) rfl hi_8 dX6_offers_61 (fun H locs hW => ?_)
  refine lv_bipush (v := (-4)) hx hb dX6_offers_62 (by decide) ?_
  refine lv_istore (lv' := [(4, .int (-4)), (0, .ref (ad (20, 50, 0))), (1, .int v1), (2, .int v2), (3, .int v3)]) hx hb dX6_offers_64 hl (by decide) rfl (fun ls hl => ?_)
  refine lv_iload_n hx hb dX6_offers_66 rfl (lv_at hl 4 rfl) ?_
  refine lv_istore (lv' := [(5, .int v3), (4, .int (-4)), (0, .ref (ad (20, 50, 0))), (1, .int v1), (2, .int v2), (3, .int v3)]) hx hb dX6_offers_67 hl (by decide) rfl (fun ls hl => ?_)
  refine lv_iconst (v := 0) hx hb dX6_offers_69 (by decide) ?_
  refine lv_istore (lv' := [(6, .int 0), (5, .int v3), (4, .int (-4)), (0, .ref (ad (20, 50, 0))), (1, .int v1), (2, .int v2), (3, .int v3)]) hx hb dX6_offers_70 hl (by decide) rfl (fun ls hl => ?_)
  exact tX6_offers_b72 C 1000 _ _ _ _ _ _ _ hW (lv_sub hl [3, 4, 5, 6, 2, 1, 0] rfl) h
set_option maxHeartbeats 4000000 in
set_option maxRecDepth 100000 in
theorem kX6_offers (l : Launch) (D : va_G) (g : G3) (ad : Ky → Nat) {v1 v2 : Int32} {μ μ' : Mem} (h : X6_offers v1 v2 μ = some μ') : CtV l yX6_offers wsX6_offers rX6_offers D (tysX g) keysM ad (cX g ad) [.ref (ad (20, 50, 0)), .int v1, .int v2] μ μ' := by
  refine ctV_of (cc := cX6_offers) (maxL := 8) (ret := none) keysM_nd (by decide) rfl (Nat.le_of_ble_eq_true rfl) (fun p e s m below meth c A ls C hW hl => ?_)
  have hl : lv_has ls 8 [(0, .ref (ad (20, 50, 0))), (1, .int v1), (2, .int v2)] := hl
  obtain ⟨hx, hb, hr, hts, hown, hlocks, hml, hA⟩ := id C
  refine lv_aload_n hx hb dX6_offers_0 rfl (lv_at hl 0 rfl) ?_
  refine lv_iload_n hx hb dX6_offers_1 rfl (lv_at hl 2 rfl) ?_
  refine lv_iload_n hx hb dX6_offers_2 rfl (lv_at hl 1 rfl) ?_
  obtain ⟨r_3, μ_2, hh_1, h⟩ := bd_s h
  refine wo_Vi (rest := []) C hW (kX6_priceOf l D g ad  hh_1) (cwV 2 hts gX6_offers_X6_priceOf rfl rfl rfl (by decide +kernel) ⟨Nat.le_of_ble_eq_true rfl, Nat.le_of_ble_eq_true rfl⟩) kl_20_50_0 co_o rfl rfl hl.1 rfl (Nat.le_of_ble_eq_true rfl) dX6_offers_3 ⟨Nat.zero_le _, Nat.zero_le _⟩ (fun H locs hW => ?_)
  refine lv_istore_n (lv' := [(3, .int r_3), (0, .ref (ad (20, 50, 0))), (1, .int v1), (2, .int v2)]) hx hb dX6_offers_6 rfl hl (by decide) rfl (fun ls hl => ?_)
  refine lv_aload_n hx hb dX6_offers_7 rfl (lv_at hl 1 rfl) ?_
  refine wo_get (C := RX6) (T := TX6) (N := 14) hx hb hts iX6_offers_6 hown hW kl_20_50_0 co_o rfl 4 (by decide) (hts _ mX6_offers_l19) (fun _ h9 => h9) rfl dX6_offers_8 ?_
  refine lv_iload_n hx hb dX6_offers_11 rfl (lv_at hl 3 rfl) ?_
  obtain ⟨hi_4, h⟩ := gi_s h
  refine xw_ald hx hb hW kl_20_4_0 rfl hi_4 dX6_offers_12 ?_
  refine lv_iload_n hx hb dX6_offers_13 rfl (lv_at hl 0 rfl) ?_
  refine lv_icmp_lt (tgt := 25) hx hb dX6_offers_14 (by decide) (fun c_5 => ?_) (fun c_5 => ?_)
  · have h := ite_p c_5 h
    refine lv_aload_n hx hb dX6_offers_25 rfl (lv_at hl 1 rfl) ?_
    refine wo_get (C := RX6) (T := TX6) (N := 14) hx hb hts iX6_offers_6 hown hW kl_20_50_0 co_o rfl 4 (by decide) (hts _ mX6_offers_l19) (fun _ h9 => h9) rfl dX6_offers_26 ?_
    refine lv_bipush (v := 12) hx hb dX6_offers_29 (by decide) ?_
    refine lv_iload_n hx hb dX6_offers_31 rfl (lv_at hl 2 rfl) ?_
    refine lv_iadd hx hb dX6_offers_32 ?_
    refine lv_aload_n hx hb dX6_offers_33 rfl (lv_at hl 1 rfl) ?_
    refine wo_get (C := RX6) (T := TX6) (N := 14) hx hb hts iX6_offers_6 hown hW kl_20_50_0 co_o rfl 4 (by decide) (hts _ mX6_offers_l19) (fun _ h9 => h9) rfl dX6_offers_34 ?_
    refine lv_bipush (v := 12) hx hb dX6_offers_37 (by decide) ?_
    refine lv_iload_n hx hb dX6_offers_39 rfl (lv_at hl 2 rfl) ?_
    refine lv_iadd hx hb dX6_offers_40 ?_
    obtain ⟨hi_6, h⟩ := gi_s h
    refine xw_ald hx hb hW kl_20_4_0 rfl hi_6 dX6_offers_41 ?_
    refine lv_iconst (v := 3) hx hb dX6_offers_42 (by decide) ?_
    refine lv_icmp_ge (tgt := 60) hx hb dX6_offers_43 (by decide) (fun c_7 => ?_) (fun c_7 => ?_)
    · have h := ite_p c_7 h
      refine lv_iconst (v := 3) hx hb dX6_offers_60 (by decide) ?_
      exact tX6_offers_b61 C hW (lv_sub hl [1, 2, 3, 0] rfl) h
    have h := ite_n c_7 h
    refine lv_aload_n hx hb dX6_offers_46 rfl (lv_at hl 1 rfl) ?_
    refine wo_get (C := RX6) (T := TX6) (N := 14) hx hb hts iX6_offers_6 hown hW kl_20_50_0 co_o rfl 4 (by decide) (hts _ mX6_offers_l19) (fun _ h9 => h9) rfl dX6_offers_47 ?_
    refine lv_bipush (v := 12) hx hb dX6_offers_50 (by decide) ?_
    refine lv_iload_n hx hb dX6_offers_52 rfl (lv_at hl 2 rfl) ?_
    refine lv_iadd hx hb dX6_offers_53 ?_
    obtain ⟨hi_24, h⟩ := gi_s h
    refine xw_ald hx hb hW kl_20_4_0 rfl hi_24 dX6_offers_54 ?_
    refine lv_iconst (v := 1) hx hb dX6_offers_55 (by decide) ?_
    refine lv_iadd hx hb dX6_offers_56 ?_
    refine lv_goto (tgt := 61) hx hb dX6_offers_57 (by decide) ?_
    exact tX6_offers_b61 C hW (lv_sub hl [1, 2, 3, 0] rfl) h
  have h := ite_n c_5 h
  refine lv_aload_n hx hb dX6_offers_17 rfl (lv_at hl 1 rfl) ?_
  refine lv_iload_n hx hb dX6_offers_18 rfl (lv_at hl 2 rfl) ?_
  refine lv_iload_n hx hb dX6_offers_19 rfl (lv_at hl 3 rfl) ?_
  refine lv_iload_n hx hb dX6_offers_20 rfl (lv_at hl 0 rfl) ?_
  obtain ⟨μ_26, hh_25, h⟩ := bdv_s h
  refine wo_Vv (rest := []) C hW (kX6_sells l D g ad  hh_25) (cwV 3 hts gX6_offers_X6_sells rfl rfl rfl (by decide +kernel) ⟨Nat.le_of_ble_eq_true rfl, Nat.le_of_ble_eq_true rfl⟩) kl_20_50_0 co_o rfl rfl hl.1 rfl (Nat.le_of_ble_eq_true rfl) dX6_offers_21 ⟨Nat.zero_le _, Nat.zero_le _⟩ (fun H locs hW => ?_)
  exact xw_vret C rfl hW dX6_offers_24 h
abbrev rX6_holds : Room := { frames := 6, cells := 0, slots := 0, locals := 141 }
theorem mX6_holds_l13 : Cond.fieldLink RX6 13 "NearlyBoughtModel" "told" "[I" ∈ wsX6_holds := by decide +kernel
theorem mX6_holds_l19 : Cond.fieldLink RX6 19 "NearlyBoughtModel" "s" "[I" ∈ wsX6_holds := by decide +kernel
theorem iX6_holds_6 : ∀ w ∈ wsX60, w ∈ wsX6_holds := fun _ h => List.mem_cons_of_mem _ (List.mem_append_right _ h)
set_option maxHeartbeats 4000000 in
set_option maxRecDepth 100000 in
theorem tX6_holds_b131 {p : Program} {l : Launch} {e : Env} {s : State} {m : MethodId} {args : Array Value} {below : List Frame} {meth : Method} {c : Code} {A : Nat → Prop} {D : va_G} {g : G3} {ad : Ky → Nat} (C : Cx p s m args meth c cX6_holds (some .int) 3 RX6 wsX6_holds A) {r0 : Int32} {μ0 : Mem} {v1 v2 s1 s2 : Int32} {k78 : Int32 → Mem → Option (Int32 × Mem)} (h78 : ∀ (v2 : Int32) (μ : Mem) (H : Heap) (locs : List Loc) (ls : Array Slot), WX D g keysM ad A s s.heap μ H locs → lv_has ls 3 [(0, .ref (ad (20, 50, 0))), (1, .int v1), (2, .int v2)] → k78 v2 μ = some (r0, μ0) → TgI r0 p l e rX6_holds s m args below meth c D g keysM ad A μ0 H locs (F0 m 78 ls [])) {μ : Mem} {H : Heap} {locs : List Loc} {ls : Array Slot} (hW : WX D g keysM ad A s s.heap μ H locs) (hl : lv_has ls 3 [(0, .ref (ad (20, 50, 0))), (1, .int v1), (2, .int v2)]) (h : X6_holds_b131 k78 v1 v2 s1 s2 μ = some (r0, μ0)) : TgI r0 p l e rX6_holds s m args below meth c D g keysM ad A μ0 H locs (F0 m 131 ls [.int s2, .int s1, .ref (ad (20, 4, 0))]) := by
  obtain ⟨hx, hb, hr, hts, hown, hlocks, hml, hA⟩ := id C
  obtain ⟨hi_12, h⟩ := gi_s h
  refine xw_ast hx hb hW kl_20_4_0 (fun _ => rfl) rfl hi_12 dX6_holds_131 (fun H locs hW => ?_)
  refine lv_iinc (v := v2 + 1) (lv' := [(2, .int (v2 + 1)), (0, .ref (ad (20, 50, 0))), (1, .int v1)]) hx hb dX6_holds_132 hl (k := 2) rfl rfl (by decide) rfl (fun ls hl => ?_)
  refine lv_goto (tgt := 78) hx hb dX6_holds_135 (by decide) ?_
  exact h78 _ _ _ _ _ hW (lv_sub hl [1, 2, 0] rfl) h
set_option maxHeartbeats 4000000 in
set_option maxRecDepth 100000 in
theorem tX6_holds_b78 {p : Program} {l : Launch} {e : Env} {s : State} {m : MethodId} {args : Array Value} {below : List Frame} {meth : Method} {c : Code} {A : Nat → Prop} {D : va_G} {g : G3} {ad : Ky → Nat} (C : Cx p s m args meth c cX6_holds (some .int) 3 RX6 wsX6_holds A) {r0 : Int32} {μ0 : Mem} {v1 : Int32} (n : Nat) : ∀ (v2 : Int32) (μ : Mem) (H : Heap) (locs : List Loc) (ls : Array Slot), WX D g keysM ad A s s.heap μ H locs → lv_has ls 3 [(0, .ref (ad (20, 50, 0))), (1, .int v1), (2, .int v2)] → lo1 (X6_holds_b78 v1) n v2 μ = some (r0, μ0) → TgI r0 p l e rX6_holds s m args below meth c D g keysM ad A μ0 H locs (F0 m 78 ls []) := by
  obtain ⟨hx, hb, hr, hts, hown, hlocks, hml, hA⟩ := id C
  induction n with
  | zero =>
    intro v2 μ H locs ls hW hl h
    cases h
  | succ n h78 =>
    intro v2 μ H locs ls hW hl h
    have h : X6_holds_b78 v1 (lo1 (X6_holds_b78 v1) n) v2 μ = some (r0, μ0) := h
    refine lv_iload_n hx hb dX6_holds_78 rfl (lv_at hl 2 rfl) ?_
    refine lv_aload_n hx hb dX6_holds_79 rfl (lv_at hl 0 rfl) ?_
    refine wo_get (C := RX6) (T := TX6) (N := 14) hx hb hts iX6_holds_6 hown hW kl_20_50_0 co_o rfl 2 (by decide) (hts _ mX6_holds_l13) (fun _ h9 => h9) rfl dX6_holds_80 ?_
    refine lv_iconst (v := 0) hx hb dX6_holds_83 (by decide) ?_
    obtain ⟨hi_3, h⟩ := gi_s h
    refine xw_ald hx hb hW kl_20_2_0 rfl hi_3 dX6_holds_84 ?_
    refine lv_icmp_ge (tgt := 138) hx hb dX6_holds_85 (by decide) (fun c_4 => ?_) (fun c_4 => ?_)
    · have h := ite_p c_4 h
      refine lv_aload_n hx hb dX6_holds_138 rfl (lv_at hl 0 rfl) ?_
      refine wo_get (C := RX6) (T := TX6) (N := 14) hx hb hts iX6_holds_6 hown hW kl_20_50_0 co_o rfl 4 (by decide) (hts _ mX6_holds_l19) (fun _ h9 => h9) rfl dX6_holds_139 ?_
      refine lv_bipush (v := 54) hx hb dX6_holds_142 (by decide) ?_
      refine lv_dup2_11 hx hb dX6_holds_144 rfl rfl ?_
      obtain ⟨hi_5, h⟩ := gi_s h
      refine xw_ald hx hb hW kl_20_4_0 rfl hi_5 dX6_holds_145 ?_
      refine lv_iconst (v := 1) hx hb dX6_holds_146 (by decide) ?_
      refine lv_iadd hx hb dX6_holds_147 ?_
      obtain ⟨hi_6, h⟩ := gi_s h
      refine xw_ast hx hb hW kl_20_4_0 (fun _ => rfl) rfl hi_6 dX6_holds_148 (fun H locs hW => ?_)
      refine lv_iload_n hx hb dX6_holds_149 rfl (lv_at hl 1 rfl) ?_
      exact xw_iret C rfl hW dX6_holds_150 h
    have h := ite_n c_4 h
    refine lv_aload_n hx hb dX6_holds_88 rfl (lv_at hl 0 rfl) ?_
    refine wo_get (C := RX6) (T := TX6) (N := 14) hx hb hts iX6_holds_6 hown hW kl_20_50_0 co_o rfl 4 (by decide) (hts _ mX6_holds_l19) (fun _ h9 => h9) rfl dX6_holds_89 ?_
    refine lv_iload_n hx hb dX6_holds_92 rfl (lv_at hl 2 rfl) ?_
    refine lv_aload_n hx hb dX6_holds_93 rfl (lv_at hl 0 rfl) ?_
    refine wo_get (C := RX6) (T := TX6) (N := 14) hx hb hts iX6_holds_6 hown hW kl_20_50_0 co_o rfl 4 (by decide) (hts _ mX6_holds_l19) (fun _ h9 => h9) rfl dX6_holds_94 ?_
    refine lv_iload_n hx hb dX6_holds_97 rfl (lv_at hl 2 rfl) ?_
    obtain ⟨hi_7, h⟩ := gi_s h
    refine xw_ald hx hb hW kl_20_4_0 rfl hi_7 dX6_holds_98 ?_
    refine lv_aload_n hx hb dX6_holds_99 rfl (lv_at hl 0 rfl) ?_
    refine wo_get (C := RX6) (T := TX6) (N := 14) hx hb hts iX6_holds_6 hown hW kl_20_50_0 co_o rfl 2 (by decide) (hts _ mX6_holds_l13) (fun _ h9 => h9) rfl dX6_holds_100 ?_
    refine lv_iconst (v := 3) hx hb dX6_holds_103 (by decide) ?_
    obtain ⟨hi_8, h⟩ := gi_s h
    refine xw_ald hx hb hW kl_20_2_0 rfl hi_8 dX6_holds_104 ?_
    refine lv_iadd hx hb dX6_holds_105 ?_
    refine lv_sipush (v := 999) hx hb dX6_holds_106 (by decide) ?_
    refine lv_icmp_le (tgt := 118) hx hb dX6_holds_109 (by decide) (fun c_9 => ?_) (fun c_9 => ?_)
    · have h := ite_p c_9 h
      refine lv_aload_n hx hb dX6_holds_118 rfl (lv_at hl 0 rfl) ?_
      refine wo_get (C := RX6) (T := TX6) (N := 14) hx hb hts iX6_holds_6 hown hW kl_20_50_0 co_o rfl 4 (by decide) (hts _ mX6_holds_l19) (fun _ h9 => h9) rfl dX6_holds_119 ?_
      refine lv_iload_n hx hb dX6_holds_122 rfl (lv_at hl 2 rfl) ?_
      obtain ⟨hi_10, h⟩ := gi_s h
      refine xw_ald hx hb hW kl_20_4_0 rfl hi_10 dX6_holds_123 ?_
      refine lv_aload_n hx hb dX6_holds_124 rfl (lv_at hl 0 rfl) ?_
      refine wo_get (C := RX6) (T := TX6) (N := 14) hx hb hts iX6_holds_6 hown hW kl_20_50_0 co_o rfl 2 (by decide) (hts _ mX6_holds_l13) (fun _ h9 => h9) rfl dX6_holds_125 ?_
      refine lv_iconst (v := 3) hx hb dX6_holds_128 (by decide) ?_
      obtain ⟨hi_11, h⟩ := gi_s h
      refine xw_ald hx hb hW kl_20_2_0 rfl hi_11 dX6_holds_129 ?_
      refine lv_iadd hx hb dX6_holds_130 ?_
      exact tX6_holds_b131 C h78 hW (lv_sub hl [0, 1, 2] rfl) h
    have h := ite_n c_9 h
    refine lv_sipush (v := 999) hx hb dX6_holds_112 (by decide) ?_
    refine lv_goto (tgt := 131) hx hb dX6_holds_115 (by decide) ?_
    exact tX6_holds_b131 C h78 hW (lv_sub hl [0, 1, 2] rfl) h
set_option maxHeartbeats 4000000 in
set_option maxRecDepth 100000 in
theorem tX6_holds_b70 {p : Program} {l : Launch} {e : Env} {s : State} {m : MethodId} {args : Array Value} {below : List Frame} {meth : Method} {c : Code} {A : Nat → Prop} {D : va_G} {g : G3} {ad : Ky → Nat} (C : Cx p s m args meth c cX6_holds (some .int) 3 RX6 wsX6_holds A) {r0 : Int32} {μ0 : Mem} {v1 v2 : Int32} {k4 : Int32 → Int32 → Mem → Option (Int32 × Mem)} (h4 : ∀ (v1 v2 : Int32) (μ : Mem) (H : Heap) (locs : List Loc) (ls : Array Slot), WX D g keysM ad A s s.heap μ H locs → lv_has ls 3 [(0, .ref (ad (20, 50, 0))), (1, .int v1), (2, .int v2)] → k4 v1 v2 μ = some (r0, μ0) → TgI r0 p l e rX6_holds s m args below meth c D g keysM ad A μ0 H locs (F0 m 4 ls [])) {μ : Mem} {H : Heap} {locs : List Loc} {ls : Array Slot} (hW : WX D g keysM ad A s s.heap μ H locs) (hl : lv_has ls 3 [(0, .ref (ad (20, 50, 0))), (1, .int v1), (2, .int v2)]) (h : X6_holds_b70 k4 v1 v2 μ = some (r0, μ0)) : TgI r0 p l e rX6_holds s m args below meth c D g keysM ad A μ0 H locs (F0 m 70 ls []) := by
  obtain ⟨hx, hb, hr, hts, hown, hlocks, hml, hA⟩ := id C
  refine lv_iinc (v := v2 + 1) (lv' := [(2, .int (v2 + 1)), (0, .ref (ad (20, 50, 0))), (1, .int v1)]) hx hb dX6_holds_70 hl (k := 2) rfl rfl (by decide) rfl (fun ls hl => ?_)
  refine lv_goto (tgt := 4) hx hb dX6_holds_73 (by decide) ?_
  exact h4 _ _ _ _ _ _ hW (lv_sub hl [1, 2, 0] rfl) h
set_option maxHeartbeats 4000000 in
set_option maxRecDepth 100000 in
theorem tX6_holds_b68 {p : Program} {l : Launch} {e : Env} {s : State} {m : MethodId} {args : Array Value} {below : List Frame} {meth : Method} {c : Code} {A : Nat → Prop} {D : va_G} {g : G3} {ad : Ky → Nat} (C : Cx p s m args meth c cX6_holds (some .int) 3 RX6 wsX6_holds A) {r0 : Int32} {μ0 : Mem} {v2 s0 s1 : Int32} {k4 : Int32 → Int32 → Mem → Option (Int32 × Mem)} (h4 : ∀ (v1 v2 : Int32) (μ : Mem) (H : Heap) (locs : List Loc) (ls : Array Slot), WX D g keysM ad A s s.heap μ H locs → lv_has ls 3 [(0, .ref (ad (20, 50, 0))), (1, .int v1), (2, .int v2)] → k4 v1 v2 μ = some (r0, μ0) → TgI r0 p l e rX6_holds s m args below meth c D g keysM ad A μ0 H locs (F0 m 4 ls [])) {μ : Mem} {H : Heap} {locs : List Loc} {ls : Array Slot} (hW : WX D g keysM ad A s s.heap μ H locs) (hl : lv_has ls 3 [(0, .ref (ad (20, 50, 0))), (2, .int v2)]) (h : X6_holds_b68 k4 v2 s0 s1 μ = some (r0, μ0)) : TgI r0 p l e rX6_holds s m args below meth c D g keysM ad A μ0 H locs (F0 m 68 ls [.int s1, .int s0]) := by
  obtain ⟨hx, hb, hr, hts, hown, hlocks, hml, hA⟩ := id C
  refine lv_iadd hx hb dX6_holds_68 ?_
  refine lv_istore_n (lv' := [(1, .int (s0 + s1)), (0, .ref (ad (20, 50, 0))), (2, .int v2)]) hx hb dX6_holds_69 rfl hl (by decide) rfl (fun ls hl => ?_)
  exact tX6_holds_b70 C h4 hW (lv_sub hl [1, 0, 2] rfl) h
set_option maxHeartbeats 4000000 in
set_option maxRecDepth 100000 in
theorem tX6_holds_b4 {p : Program} {l : Launch} {e : Env} {s : State} {m : MethodId} {args : Array Value} {below : List Frame} {meth : Method} {c : Code} {A : Nat → Prop} {D : va_G} {g : G3} {ad : Ky → Nat} (C : Cx p s m args meth c cX6_holds (some .int) 3 RX6 wsX6_holds A) {r0 : Int32} {μ0 : Mem} (n : Nat) : ∀ (v1 v2 : Int32) (μ : Mem) (H : Heap) (locs : List Loc) (ls : Array Slot), WX D g keysM ad A s s.heap μ H locs → lv_has ls 3 [(0, .ref (ad (20, 50, 0))), (1, .int v1), (2, .int v2)] → lo2 (X6_holds_b4) n v1 v2 μ = some (r0, μ0) → TgI r0 p l e rX6_holds s m args below meth c D g keysM ad A μ0 H locs (F0 m 4 ls []) := by
  obtain ⟨hx, hb, hr, hts, hown, hlocks, hml, hA⟩ := id C
  induction n with
  | zero =>
    intro v1 v2 μ H locs ls hW hl h
    cases h
  | succ n h4 =>
    intro v1 v2 μ H locs ls hW hl h
    have h : X6_holds_b4 (lo2 (X6_holds_b4) n) v1 v2 μ = some (r0, μ0) := h
    refine lv_iload_n hx hb dX6_holds_4 rfl (lv_at hl 2 rfl) ?_
    refine lv_aload_n hx hb dX6_holds_5 rfl (lv_at hl 0 rfl) ?_
    refine wo_get (C := RX6) (T := TX6) (N := 14) hx hb hts iX6_holds_6 hown hW kl_20_50_0 co_o rfl 2 (by decide) (hts _ mX6_holds_l13) (fun _ h9 => h9) rfl dX6_holds_6 ?_
    refine lv_iconst (v := 1) hx hb dX6_holds_9 (by decide) ?_
    obtain ⟨hi_1, h⟩ := gi_s h
    refine xw_ald hx hb hW kl_20_2_0 rfl hi_1 dX6_holds_10 ?_
    refine lv_icmp_ge (tgt := 76) hx hb dX6_holds_11 (by decide) (fun c_2 => ?_) (fun c_2 => ?_)
    · have h := ite_p c_2 h
      refine lv_iconst (v := 0) hx hb dX6_holds_76 (by decide) ?_
      refine lv_istore_n (lv' := [(2, .int 0), (0, .ref (ad (20, 50, 0))), (1, .int v1)]) hx hb dX6_holds_77 rfl hl (by decide) rfl (fun ls hl => ?_)
      exact tX6_holds_b78 C 1000 _ _ _ _ _ hW (lv_sub hl [1, 2, 0] rfl) h
    have h := ite_n c_2 h
    refine lv_aload_n hx hb dX6_holds_14 rfl (lv_at hl 0 rfl) ?_
    refine wo_get (C := RX6) (T := TX6) (N := 14) hx hb hts iX6_holds_6 hown hW kl_20_50_0 co_o rfl 4 (by decide) (hts _ mX6_holds_l19) (fun _ h9 => h9) rfl dX6_holds_15 ?_
    refine lv_bipush (v := 6) hx hb dX6_holds_18 (by decide) ?_
    refine lv_iload_n hx hb dX6_holds_20 rfl (lv_at hl 2 rfl) ?_
    refine lv_iadd hx hb dX6_holds_21 ?_
    obtain ⟨hi_13, h⟩ := gi_s h
    refine xw_ald hx hb hW kl_20_4_0 rfl hi_13 dX6_holds_22 ?_
    refine lv_bipush (v := (-4)) hx hb dX6_holds_23 (by decide) ?_
    refine lv_icmp_ne (tgt := 70) hx hb dX6_holds_25 (by decide) (fun c_14 => ?_) (fun c_14 => ?_)
    · have h := ite_n c_14 h
      exact tX6_holds_b70 C h4 hW (lv_sub hl [0, 1, 2] rfl) h
    have h := ite_p c_14 h
    refine lv_aload_n hx hb dX6_holds_28 rfl (lv_at hl 0 rfl) ?_
    refine lv_iload_n hx hb dX6_holds_29 rfl (lv_at hl 2 rfl) ?_
    obtain ⟨r_17, μ_16, hh_15, h⟩ := bd_s h
    refine wo_Vi (rest := []) C hW (kX6_claim l D g ad  hh_15) (cwV 1 hts gX6_holds_X6_claim rfl rfl rfl (by decide +kernel) ⟨Nat.le_of_ble_eq_true rfl, Nat.le_of_ble_eq_true rfl⟩) kl_20_50_0 co_o rfl rfl hl.1 rfl (Nat.le_of_ble_eq_true rfl) dX6_holds_30 ⟨Nat.zero_le _, Nat.zero_le _⟩ (fun H locs hW => ?_)
    refine lv_bipush (v := (-4)) hx hb dX6_holds_33 (by decide) ?_
    refine lv_icmp_eq (tgt := 70) hx hb dX6_holds_35 (by decide) (fun c_18 => ?_) (fun c_18 => ?_)
    · have h := ite_p c_18 h
      exact tX6_holds_b70 C h4 hW (lv_sub hl [0, 1, 2] rfl) h
    have h := ite_n c_18 h
    refine lv_aload_n hx hb dX6_holds_38 rfl (lv_at hl 0 rfl) ?_
    refine lv_iload_n hx hb dX6_holds_39 rfl (lv_at hl 2 rfl) ?_
    refine lv_aload_n hx hb dX6_holds_40 rfl (lv_at hl 0 rfl) ?_
    refine lv_iload_n hx hb dX6_holds_41 rfl (lv_at hl 2 rfl) ?_
    obtain ⟨r_21, μ_20, hh_19, h⟩ := bd_s h
    refine wo_Vi (rest := [.int v2, .ref (ad (20, 50, 0))]) C hW (kX6_claim l D g ad  hh_19) (cwV 1 hts gX6_holds_X6_claim rfl rfl rfl (by decide +kernel) ⟨Nat.le_of_ble_eq_true rfl, Nat.le_of_ble_eq_true rfl⟩) kl_20_50_0 co_o rfl rfl hl.1 rfl (Nat.le_of_ble_eq_true rfl) dX6_holds_42 ⟨Nat.zero_le _, Nat.zero_le _⟩ (fun H locs hW => ?_)
    obtain ⟨μ_23, hh_22, h⟩ := bdv_s h
    refine wo_Vv (rest := []) C hW (kX6_offers l D g ad  hh_22) (cwV 2 hts gX6_holds_X6_offers rfl rfl rfl (by decide +kernel) ⟨Nat.le_of_ble_eq_true rfl, Nat.le_of_ble_eq_true rfl⟩) kl_20_50_0 co_o rfl rfl hl.1 rfl (Nat.le_of_ble_eq_true rfl) dX6_holds_45 ⟨Nat.zero_le _, Nat.zero_le _⟩ (fun H locs hW => ?_)
    refine lv_iload_n hx hb dX6_holds_48 rfl (lv_at hl 1 rfl) ?_
    refine lv_aload_n hx hb dX6_holds_49 rfl (lv_at hl 0 rfl) ?_
    refine wo_get (C := RX6) (T := TX6) (N := 14) hx hb hts iX6_holds_6 hown hW kl_20_50_0 co_o rfl 4 (by decide) (hts _ mX6_holds_l19) (fun _ h9 => h9) rfl dX6_holds_50 ?_
    refine lv_bipush (v := 6) hx hb dX6_holds_53 (by decide) ?_
    refine lv_iload_n hx hb dX6_holds_55 rfl (lv_at hl 2 rfl) ?_
    refine lv_iadd hx hb dX6_holds_56 ?_
    obtain ⟨hi_24, h⟩ := gi_s h
    refine xw_ald hx hb hW kl_20_4_0 rfl hi_24 dX6_holds_57 ?_
    refine lv_bipush (v := (-4)) hx hb dX6_holds_58 (by decide) ?_
    refine lv_icmp_ne (tgt := 67) hx hb dX6_holds_60 (by decide) (fun c_25 => ?_) (fun c_25 => ?_)
    · have h := ite_n c_25 h
      refine lv_iconst (v := 1) hx hb dX6_holds_67 (by decide) ?_
      exact tX6_holds_b68 C h4 hW (lv_sub hl [0, 2] rfl) h
    have h := ite_p c_25 h
    refine lv_iconst (v := 0) hx hb dX6_holds_63 (by decide) ?_
    refine lv_goto (tgt := 68) hx hb dX6_holds_64 (by decide) ?_
    exact tX6_holds_b68 C h4 hW (lv_sub hl [0, 2] rfl) h
set_option maxHeartbeats 4000000 in
set_option maxRecDepth 100000 in
theorem kX6_holds (l : Launch) (D : va_G) (g : G3) (ad : Ky → Nat) {μ μ' : Mem} {r : Int32} (h : X6_holds μ = some (r, μ')) : CtI l yX6_holds wsX6_holds rX6_holds D (tysX g) keysM ad (cX g ad) [.ref (ad (20, 50, 0))] μ r μ' := by
  refine ctI_of (cc := cX6_holds) (maxL := 3) (ret := (some .int)) keysM_nd (by decide) rfl (Nat.le_of_ble_eq_true rfl) (fun p e s m below meth c A ls C hW hl => ?_)
  have hl : lv_has ls 3 [(0, .ref (ad (20, 50, 0)))] := hl
  obtain ⟨hx, hb, hr, hts, hown, hlocks, hml, hA⟩ := id C
  refine lv_iconst (v := 0) hx hb dX6_holds_0 (by decide) ?_
  refine lv_istore_n (lv' := [(1, .int 0), (0, .ref (ad (20, 50, 0)))]) hx hb dX6_holds_1 rfl hl (by decide) rfl (fun ls hl => ?_)
  refine lv_iconst (v := 0) hx hb dX6_holds_2 (by decide) ?_
  refine lv_istore_n (lv' := [(2, .int 0), (1, .int 0), (0, .ref (ad (20, 50, 0)))]) hx hb dX6_holds_3 rfl hl (by decide) rfl (fun ls hl => ?_)
  exact tX6_holds_b4 C 1000 _ _ _ _ _ _ hW (lv_sub hl [2, 1, 0] rfl) h
abbrev rX6_whoseBehind : Room := { frames := 7, cells := 0, slots := 0, locals := 163 }
theorem mX6_whoseBehind_l19 : Cond.fieldLink RX6 19 "NearlyBoughtModel" "s" "[I" ∈ wsX6_whoseBehind := by decide +kernel
theorem iX6_whoseBehind_6 : ∀ w ∈ wsX60, w ∈ wsX6_whoseBehind := fun _ h => List.mem_cons_of_mem _ (List.mem_append_right _ h)
set_option maxHeartbeats 4000000 in
set_option maxRecDepth 100000 in
theorem tX6_whoseBehind_b2 {p : Program} {l : Launch} {e : Env} {s : State} {m : MethodId} {args : Array Value} {below : List Frame} {meth : Method} {c : Code} {A : Nat → Prop} {D : va_G} {g : G3} {ad : Ky → Nat} (C : Cx p s m args meth c cX6_whoseBehind (some .int) 4 RX6 wsX6_whoseBehind A) {r0 : Int32} {μ0 : Mem} {v1 v2 : Int32} (n : Nat) : ∀ (v3 : Int32) (μ : Mem) (H : Heap) (locs : List Loc) (ls : Array Slot), WX D g keysM ad A s s.heap μ H locs → lv_has ls 4 [(0, .ref (ad (20, 50, 0))), (1, .int v1), (2, .int v2), (3, .int v3)] → lo1 (X6_whoseBehind_b2 v1 v2) n v3 μ = some (r0, μ0) → TgI r0 p l e rX6_whoseBehind s m args below meth c D g keysM ad A μ0 H locs (F0 m 2 ls []) := by
  obtain ⟨hx, hb, hr, hts, hown, hlocks, hml, hA⟩ := id C
  induction n with
  | zero =>
    intro v3 μ H locs ls hW hl h
    cases h
  | succ n h2 =>
    intro v3 μ H locs ls hW hl h
    have h : X6_whoseBehind_b2 v1 v2 (lo1 (X6_whoseBehind_b2 v1 v2) n) v3 μ = some (r0, μ0) := h
    refine lv_iload_n hx hb dX6_whoseBehind_2 rfl (lv_at hl 3 rfl) ?_
    refine lv_iload_n hx hb dX6_whoseBehind_3 rfl (lv_at hl 2 rfl) ?_
    refine lv_icmp_ge (tgt := 18) hx hb dX6_whoseBehind_4 (by decide) (fun c_1 => ?_) (fun c_1 => ?_)
    · have h := ite_p c_1 h
      refine lv_aload_n hx hb dX6_whoseBehind_18 rfl (lv_at hl 0 rfl) ?_
      refine wo_get (C := RX6) (T := TX6) (N := 14) hx hb hts iX6_whoseBehind_6 hown hW kl_20_50_0 co_o rfl 4 (by decide) (hts _ mX6_whoseBehind_l19) (fun _ h9 => h9) rfl dX6_whoseBehind_19 ?_
      refine lv_bipush (v := 6) hx hb dX6_whoseBehind_22 (by decide) ?_
      refine lv_iload_n hx hb dX6_whoseBehind_24 rfl (lv_at hl 1 rfl) ?_
      refine lv_iadd hx hb dX6_whoseBehind_25 ?_
      obtain ⟨hi_2, h⟩ := gi_s h
      refine xw_ald hx hb hW kl_20_4_0 rfl hi_2 dX6_whoseBehind_26 ?_
      refine lv_istore_n (lv' := [(3, .int (μ 20 4 0 (6 + v1).toNatClampNeg)), (0, .ref (ad (20, 50, 0))), (1, .int v1), (2, .int v2)]) hx hb dX6_whoseBehind_27 rfl hl (by decide) rfl (fun ls hl => ?_)
      refine lv_aload_n hx hb dX6_whoseBehind_28 rfl (lv_at hl 1 rfl) ?_
      obtain ⟨μ_4, hh_3, h⟩ := bdv_s h
      refine wo_Vv (rest := []) C hW (kX6_lets l D g ad  hh_3) (cwV 0 hts gX6_whoseBehind_X6_lets rfl rfl rfl (by decide +kernel) ⟨Nat.le_of_ble_eq_true rfl, Nat.le_of_ble_eq_true rfl⟩) kl_20_50_0 co_o rfl rfl hl.1 rfl (Nat.le_of_ble_eq_true rfl) dX6_whoseBehind_29 ⟨Nat.zero_le _, Nat.zero_le _⟩ (fun H locs hW => ?_)
      refine lv_iload_n hx hb dX6_whoseBehind_32 rfl (lv_at hl 0 rfl) ?_
      exact xw_iret C rfl hW dX6_whoseBehind_33 h
    have h := ite_n c_1 h
    refine lv_aload_n hx hb dX6_whoseBehind_7 rfl (lv_at hl 0 rfl) ?_
    obtain ⟨r_7, μ_6, hh_5, h⟩ := bd_s h
    refine wo_Vi (rest := []) C hW (kX6_holds l D g ad  hh_5) (cwV 0 hts gX6_whoseBehind_X6_holds rfl rfl rfl (by decide +kernel) ⟨Nat.le_of_ble_eq_true rfl, Nat.le_of_ble_eq_true rfl⟩) kl_20_50_0 co_o rfl rfl hl.1 rfl (Nat.le_of_ble_eq_true rfl) dX6_whoseBehind_8 ⟨Nat.zero_le _, Nat.zero_le _⟩ (fun H locs hW => ?_)
    refine lv_pop hx hb dX6_whoseBehind_11 rfl ?_
    refine lv_iinc (v := v3 + 1) (lv' := [(3, .int (v3 + 1)), (0, .ref (ad (20, 50, 0))), (1, .int v1), (2, .int v2)]) hx hb dX6_whoseBehind_12 hl (k := 3) rfl rfl (by decide) rfl (fun ls hl => ?_)
    refine lv_goto (tgt := 2) hx hb dX6_whoseBehind_15 (by decide) ?_
    exact h2 _ _ _ _ _ hW (lv_sub hl [1, 2, 3, 0] rfl) h
set_option maxHeartbeats 4000000 in
set_option maxRecDepth 100000 in
theorem kX6_whoseBehind (l : Launch) (D : va_G) (g : G3) (ad : Ky → Nat) {v1 v2 : Int32} {μ μ' : Mem} {r : Int32} (h : X6_whoseBehind v1 v2 μ = some (r, μ')) : CtI l yX6_whoseBehind wsX6_whoseBehind rX6_whoseBehind D (tysX g) keysM ad (cX g ad) [.ref (ad (20, 50, 0)), .int v1, .int v2] μ r μ' := by
  refine ctI_of (cc := cX6_whoseBehind) (maxL := 4) (ret := (some .int)) keysM_nd (by decide) rfl (Nat.le_of_ble_eq_true rfl) (fun p e s m below meth c A ls C hW hl => ?_)
  have hl : lv_has ls 4 [(0, .ref (ad (20, 50, 0))), (1, .int v1), (2, .int v2)] := hl
  obtain ⟨hx, hb, hr, hts, hown, hlocks, hml, hA⟩ := id C
  refine lv_iconst (v := 0) hx hb dX6_whoseBehind_0 (by decide) ?_
  refine lv_istore_n (lv' := [(3, .int 0), (0, .ref (ad (20, 50, 0))), (1, .int v1), (2, .int v2)]) hx hb dX6_whoseBehind_1 rfl hl (by decide) rfl (fun ls hl => ?_)
  exact tX6_whoseBehind_b2 C 1000 _ _ _ _ _ hW (lv_sub hl [1, 2, 3, 0] rfl) h
abbrev rX6_behind : Room := { frames := 8, cells := 0, slots := 0, locals := 186 }
set_option maxHeartbeats 4000000 in
set_option maxRecDepth 100000 in
theorem kX6_behind (l : Launch) (D : va_G) (g : G3) (ad : Ky → Nat) {v1 v2 : Int32} {μ μ' : Mem} {r : Int32} (h : X6_behind v1 v2 μ = some (r, μ')) : CtI l yX6_behind wsX6_behind rX6_behind D (tysX g) keysM ad (cX g ad) [.ref (ad (20, 50, 0)), .int v1, .int v2] μ r μ' := by
  refine ctI_of (cc := cX6_behind) (maxL := 3) (ret := (some .int)) keysM_nd (by decide) rfl (Nat.le_of_ble_eq_true rfl) (fun p e s m below meth c A ls C hW hl => ?_)
  have hl : lv_has ls 3 [(0, .ref (ad (20, 50, 0))), (1, .int v1), (2, .int v2)] := hl
  obtain ⟨hx, hb, hr, hts, hown, hlocks, hml, hA⟩ := id C
  refine lv_aload_n hx hb dX6_behind_0 rfl (lv_at hl 0 rfl) ?_
  refine lv_iload_n hx hb dX6_behind_1 rfl (lv_at hl 1 rfl) ?_
  obtain ⟨r_3, μ_2, hh_1, h⟩ := bd_s h
  refine wo_Vi (rest := []) C hW (kX6_isThing l D g ad  hh_1) (cwV 1 hts gX6_behind_X6_isThing rfl rfl rfl (by decide +kernel) ⟨Nat.le_of_ble_eq_true rfl, Nat.le_of_ble_eq_true rfl⟩) kl_20_50_0 co_o rfl rfl hl.1 rfl (Nat.le_of_ble_eq_true rfl) dX6_behind_2 ⟨Nat.zero_le _, Nat.zero_le _⟩ (fun H locs hW => ?_)
  refine lv_if_eq (tgt := 18) hx hb dX6_behind_5 (by decide) (fun c_4 => ?_) (fun c_4 => ?_)
  · have h := ite_p c_4 h
    refine lv_iconst (v := (-1)) hx hb dX6_behind_18 (by decide) ?_
    exact xw_iret C rfl hW dX6_behind_19 h
  have h := ite_n c_4 h
  refine lv_iload_n hx hb dX6_behind_8 rfl (lv_at hl 2 rfl) ?_
  refine lv_iconst (v := 0) hx hb dX6_behind_9 (by decide) ?_
  refine lv_bipush (v := 9) hx hb dX6_behind_10 (by decide) ?_
  obtain ⟨r_7, μ_6, hh_5, h⟩ := bd_s h
  refine wo_Si (rest := []) C hW (kX6_in l D g ad  hh_5) (cwS 3 hts gX6_behind_X6_in rfl rfl rfl (by decide +kernel) ⟨Nat.le_of_ble_eq_true rfl, Nat.le_of_ble_eq_true rfl⟩) rfl hl.1 rfl (Nat.le_of_ble_eq_true rfl) dX6_behind_12 ⟨Nat.zero_le _, Nat.zero_le _⟩ (fun H locs hW => ?_)
  refine lv_if_ne (tgt := 20) hx hb dX6_behind_15 (by decide) (fun c_8 => ?_) (fun c_8 => ?_)
  · have h := ite_n c_8 h
    refine lv_aload_n hx hb dX6_behind_20 rfl (lv_at hl 0 rfl) ?_
    obtain ⟨μ_10, hh_9, h⟩ := bdv_s h
    refine wo_Vv (rest := []) C hW (kX6_remembers l D g ad  hh_9) (cwV 0 hts gX6_behind_X6_remembers rfl rfl rfl (by decide +kernel) ⟨Nat.le_of_ble_eq_true rfl, Nat.le_of_ble_eq_true rfl⟩) kl_20_50_0 co_o rfl rfl hl.1 rfl (Nat.le_of_ble_eq_true rfl) dX6_behind_21 ⟨Nat.zero_le _, Nat.zero_le _⟩ (fun H locs hW => ?_)
    refine lv_aload_n hx hb dX6_behind_24 rfl (lv_at hl 0 rfl) ?_
    refine lv_iload_n hx hb dX6_behind_25 rfl (lv_at hl 1 rfl) ?_
    refine lv_iload_n hx hb dX6_behind_26 rfl (lv_at hl 2 rfl) ?_
    obtain ⟨r_13, μ_12, hh_11, h⟩ := bd_s h
    refine wo_Vi (rest := []) C hW (kX6_whoseBehind l D g ad  hh_11) (cwV 2 hts gX6_behind_X6_whoseBehind rfl rfl rfl (by decide +kernel) ⟨Nat.le_of_ble_eq_true rfl, Nat.le_of_ble_eq_true rfl⟩) kl_20_50_0 co_o rfl rfl hl.1 rfl (Nat.le_of_ble_eq_true rfl) dX6_behind_27 ⟨Nat.zero_le _, Nat.zero_le _⟩ (fun H locs hW => ?_)
    exact xw_iret C rfl hW dX6_behind_30 h
  have h := ite_p c_8 h
  refine lv_iconst (v := (-1)) hx hb dX6_behind_18 (by decide) ?_
  exact xw_iret C rfl hW dX6_behind_19 h
abbrev rX6_cheapest : Room := { frames := 4, cells := 0, slots := 0, locals := 90 }
theorem mX6_cheapest_l13 : Cond.fieldLink RX6 13 "NearlyBoughtModel" "told" "[I" ∈ wsX6_cheapest := by decide +kernel
theorem iX6_cheapest_6 : ∀ w ∈ wsX60, w ∈ wsX6_cheapest := fun _ h => List.mem_cons_of_mem _ (List.mem_append_right _ h)
set_option maxHeartbeats 4000000 in
set_option maxRecDepth 100000 in
theorem tX6_cheapest_b92 {p : Program} {l : Launch} {e : Env} {s : State} {m : MethodId} {args : Array Value} {below : List Frame} {meth : Method} {c : Code} {A : Nat → Prop} {D : va_G} {g : G3} {ad : Ky → Nat} (C : Cx p s m args meth c cX6_cheapest (some .int) 5 RX6 wsX6_cheapest A) {r0 : Int32} {μ0 : Mem} {v3 : Int32} {μ : Mem} {H : Heap} {locs : List Loc} {ls : Array Slot} (hW : WX D g keysM ad A s s.heap μ H locs) (hl : lv_has ls 5 [(3, .int v3)]) (h : X6_cheapest_b92 v3 μ = some (r0, μ0)) : TgI r0 p l e rX6_cheapest s m args below meth c D g keysM ad A μ0 H locs (F0 m 92 ls []) := by
  obtain ⟨hx, hb, hr, hts, hown, hlocks, hml, hA⟩ := id C
  refine lv_iload_n hx hb dX6_cheapest_92 rfl (lv_at hl 0 rfl) ?_
  refine lv_goto (tgt := 102) hx hb dX6_cheapest_93 (by decide) ?_
  exact xw_iret C rfl hW dX6_cheapest_102 h
set_option maxHeartbeats 4000000 in
set_option maxRecDepth 100000 in
theorem tX6_cheapest_b75 {p : Program} {l : Launch} {e : Env} {s : State} {m : MethodId} {args : Array Value} {below : List Frame} {meth : Method} {c : Code} {A : Nat → Prop} {D : va_G} {g : G3} {ad : Ky → Nat} (C : Cx p s m args meth c cX6_cheapest (some .int) 5 RX6 wsX6_cheapest A) {r0 : Int32} {μ0 : Mem} {v1 v2 v4 s0 : Int32} {k32 : Int32 → Int32 → Mem → Option (Int32 × Mem)} (h32 : ∀ (v3 v4 : Int32) (μ : Mem) (H : Heap) (locs : List Loc) (ls : Array Slot), WX D g keysM ad A s s.heap μ H locs → lv_has ls 5 [(0, .ref (ad (20, 50, 0))), (1, .int v1), (2, .int v2), (3, .int v3), (4, .int v4)] → k32 v3 v4 μ = some (r0, μ0) → TgI r0 p l e rX6_cheapest s m args below meth c D g keysM ad A μ0 H locs (F0 m 32 ls [])) {μ : Mem} {H : Heap} {locs : List Loc} {ls : Array Slot} (hW : WX D g keysM ad A s s.heap μ H locs) (hl : lv_has ls 5 [(0, .ref (ad (20, 50, 0))), (1, .int v1), (2, .int v2), (4, .int v4)]) (h : X6_cheapest_b75 k32 v1 v2 v4 s0 μ = some (r0, μ0)) : TgI r0 p l e rX6_cheapest s m args below meth c D g keysM ad A μ0 H locs (F0 m 75 ls [.int s0]) := by
  obtain ⟨hx, hb, hr, hts, hown, hlocks, hml, hA⟩ := id C
  refine lv_istore_n (lv' := [(3, .int s0), (0, .ref (ad (20, 50, 0))), (1, .int v1), (2, .int v2), (4, .int v4)]) hx hb dX6_cheapest_75 rfl hl (by decide) rfl (fun ls hl => ?_)
  refine lv_iinc (v := v4 + (-1)) (lv' := [(4, .int (v4 + (-1))), (3, .int s0), (0, .ref (ad (20, 50, 0))), (1, .int v1), (2, .int v2)]) hx hb dX6_cheapest_76 hl (k := 4) rfl rfl (by decide) rfl (fun ls hl => ?_)
  refine lv_goto (tgt := 32) hx hb dX6_cheapest_79 (by decide) ?_
  exact h32 _ _ _ _ _ _ hW (lv_sub hl [2, 3, 4, 1, 0] rfl) h
set_option maxHeartbeats 4000000 in
set_option maxRecDepth 100000 in
theorem tX6_cheapest_b74 {p : Program} {l : Launch} {e : Env} {s : State} {m : MethodId} {args : Array Value} {below : List Frame} {meth : Method} {c : Code} {A : Nat → Prop} {D : va_G} {g : G3} {ad : Ky → Nat} (C : Cx p s m args meth c cX6_cheapest (some .int) 5 RX6 wsX6_cheapest A) {r0 : Int32} {μ0 : Mem} {v1 v2 v3 v4 : Int32} {k32 : Int32 → Int32 → Mem → Option (Int32 × Mem)} (h32 : ∀ (v3 v4 : Int32) (μ : Mem) (H : Heap) (locs : List Loc) (ls : Array Slot), WX D g keysM ad A s s.heap μ H locs → lv_has ls 5 [(0, .ref (ad (20, 50, 0))), (1, .int v1), (2, .int v2), (3, .int v3), (4, .int v4)] → k32 v3 v4 μ = some (r0, μ0) → TgI r0 p l e rX6_cheapest s m args below meth c D g keysM ad A μ0 H locs (F0 m 32 ls [])) {μ : Mem} {H : Heap} {locs : List Loc} {ls : Array Slot} (hW : WX D g keysM ad A s s.heap μ H locs) (hl : lv_has ls 5 [(0, .ref (ad (20, 50, 0))), (1, .int v1), (2, .int v2), (3, .int v3), (4, .int v4)]) (h : X6_cheapest_b74 k32 v1 v2 v3 v4 μ = some (r0, μ0)) : TgI r0 p l e rX6_cheapest s m args below meth c D g keysM ad A μ0 H locs (F0 m 74 ls []) := by
  obtain ⟨hx, hb, hr, hts, hown, hlocks, hml, hA⟩ := id C
  refine lv_iload_n hx hb dX6_cheapest_74 rfl (lv_at hl 3 rfl) ?_
  exact tX6_cheapest_b75 C h32 hW (lv_sub hl [0, 1, 2, 4] rfl) h
set_option maxHeartbeats 4000000 in
set_option maxRecDepth 100000 in
theorem tX6_cheapest_b69 {p : Program} {l : Launch} {e : Env} {s : State} {m : MethodId} {args : Array Value} {below : List Frame} {meth : Method} {c : Code} {A : Nat → Prop} {D : va_G} {g : G3} {ad : Ky → Nat} (C : Cx p s m args meth c cX6_cheapest (some .int) 5 RX6 wsX6_cheapest A) {r0 : Int32} {μ0 : Mem} {v1 v2 v4 : Int32} {k32 : Int32 → Int32 → Mem → Option (Int32 × Mem)} (h32 : ∀ (v3 v4 : Int32) (μ : Mem) (H : Heap) (locs : List Loc) (ls : Array Slot), WX D g keysM ad A s s.heap μ H locs → lv_has ls 5 [(0, .ref (ad (20, 50, 0))), (1, .int v1), (2, .int v2), (3, .int v3), (4, .int v4)] → k32 v3 v4 μ = some (r0, μ0) → TgI r0 p l e rX6_cheapest s m args below meth c D g keysM ad A μ0 H locs (F0 m 32 ls [])) {μ : Mem} {H : Heap} {locs : List Loc} {ls : Array Slot} (hW : WX D g keysM ad A s s.heap μ H locs) (hl : lv_has ls 5 [(0, .ref (ad (20, 50, 0))), (1, .int v1), (2, .int v2), (4, .int v4)]) (h : X6_cheapest_b69 k32 v1 v2 v4 μ = some (r0, μ0)) : TgI r0 p l e rX6_cheapest s m args below meth c D g keysM ad A μ0 H locs (F0 m 69 ls []) := by
  obtain ⟨hx, hb, hr, hts, hown, hlocks, hml, hA⟩ := id C
  refine lv_iload hx hb dX6_cheapest_69 (lv_at hl 3 rfl) ?_
  refine lv_goto (tgt := 75) hx hb dX6_cheapest_71 (by decide) ?_
  exact tX6_cheapest_b75 C h32 hW (lv_sub hl [0, 1, 2, 3] rfl) h
set_option maxHeartbeats 4000000 in
set_option maxRecDepth 100000 in
theorem tX6_cheapest_b32 {p : Program} {l : Launch} {e : Env} {s : State} {m : MethodId} {args : Array Value} {below : List Frame} {meth : Method} {c : Code} {A : Nat → Prop} {D : va_G} {g : G3} {ad : Ky → Nat} (C : Cx p s m args meth c cX6_cheapest (some .int) 5 RX6 wsX6_cheapest A) {r0 : Int32} {μ0 : Mem} {v1 v2 : Int32} (n : Nat) : ∀ (v3 v4 : Int32) (μ : Mem) (H : Heap) (locs : List Loc) (ls : Array Slot), WX D g keysM ad A s s.heap μ H locs → lv_has ls 5 [(0, .ref (ad (20, 50, 0))), (1, .int v1), (2, .int v2), (3, .int v3), (4, .int v4)] → lo2 (X6_cheapest_b32 v1 v2) n v3 v4 μ = some (r0, μ0) → TgI r0 p l e rX6_cheapest s m args below meth c D g keysM ad A μ0 H locs (F0 m 32 ls []) := by
  obtain ⟨hx, hb, hr, hts, hown, hlocks, hml, hA⟩ := id C
  induction n with
  | zero =>
    intro v3 v4 μ H locs ls hW hl h
    cases h
  | succ n h32 =>
    intro v3 v4 μ H locs ls hW hl h
    have h : X6_cheapest_b32 v1 v2 (lo2 (X6_cheapest_b32 v1 v2) n) v3 v4 μ = some (r0, μ0) := h
    refine lv_iload hx hb dX6_cheapest_32 (lv_at hl 4 rfl) ?_
    refine lv_if_lt (tgt := 82) hx hb dX6_cheapest_34 (by decide) (fun c_10 => ?_) (fun c_10 => ?_)
    · have h := ite_p c_10 h
      refine lv_iload_n hx hb dX6_cheapest_82 rfl (lv_at hl 2 rfl) ?_
      refine lv_if_eq (tgt := 92) hx hb dX6_cheapest_83 (by decide) (fun c_11 => ?_) (fun c_11 => ?_)
      · have h := ite_p c_11 h
        exact tX6_cheapest_b92 C hW (lv_sub hl [3] rfl) h
      have h := ite_n c_11 h
      refine lv_iload_n hx hb dX6_cheapest_86 rfl (lv_at hl 3 rfl) ?_
      refine lv_bipush (v := (-4)) hx hb dX6_cheapest_87 (by decide) ?_
      refine lv_icmp_ne (tgt := 96) hx hb dX6_cheapest_89 (by decide) (fun c_12 => ?_) (fun c_12 => ?_)
      · have h := ite_n c_12 h
        refine lv_aload_n hx hb dX6_cheapest_96 rfl (lv_at hl 0 rfl) ?_
        refine lv_iload_n hx hb dX6_cheapest_97 rfl (lv_at hl 3 rfl) ?_
        refine lv_iload_n hx hb dX6_cheapest_98 rfl (lv_at hl 1 rfl) ?_
        obtain ⟨r_15, μ_14, hh_13, h⟩ := bd_s h
        refine wo_Vi (rest := []) C hW (kX6_priceOf l D g ad  hh_13) (cwV 2 hts gX6_cheapest_X6_priceOf rfl rfl rfl (by decide +kernel) ⟨Nat.le_of_ble_eq_true rfl, Nat.le_of_ble_eq_true rfl⟩) kl_20_50_0 co_o rfl rfl hl.1 rfl (Nat.le_of_ble_eq_true rfl) dX6_cheapest_99 ⟨Nat.zero_le _, Nat.zero_le _⟩ (fun H locs hW => ?_)
        exact xw_iret C rfl hW dX6_cheapest_102 h
      have h := ite_p c_12 h
      exact tX6_cheapest_b92 C hW (lv_sub hl [3] rfl) h
    have h := ite_n c_10 h
    refine lv_aload_n hx hb dX6_cheapest_37 rfl (lv_at hl 0 rfl) ?_
    refine lv_iload hx hb dX6_cheapest_38 (lv_at hl 4 rfl) ?_
    refine lv_iload_n hx hb dX6_cheapest_40 rfl (lv_at hl 1 rfl) ?_
    obtain ⟨r_18, μ_17, hh_16, h⟩ := bd_s h
    refine wo_Vi (rest := []) C hW (kX6_isNearly l D g ad  hh_16) (cwV 2 hts gX6_cheapest_X6_isNearly rfl rfl rfl (by decide +kernel) ⟨Nat.le_of_ble_eq_true rfl, Nat.le_of_ble_eq_true rfl⟩) kl_20_50_0 co_o rfl rfl hl.1 rfl (Nat.le_of_ble_eq_true rfl) dX6_cheapest_41 ⟨Nat.zero_le _, Nat.zero_le _⟩ (fun H locs hW => ?_)
    refine lv_if_eq (tgt := 74) hx hb dX6_cheapest_44 (by decide) (fun c_19 => ?_) (fun c_19 => ?_)
    · have h := ite_p c_19 h
      exact tX6_cheapest_b74 C h32 hW (lv_sub hl [0, 1, 2, 3, 4] rfl) h
    have h := ite_n c_19 h
    refine lv_iload_n hx hb dX6_cheapest_47 rfl (lv_at hl 3 rfl) ?_
    refine lv_bipush (v := (-4)) hx hb dX6_cheapest_48 (by decide) ?_
    refine lv_icmp_eq (tgt := 69) hx hb dX6_cheapest_50 (by decide) (fun c_20 => ?_) (fun c_20 => ?_)
    · have h := ite_p c_20 h
      exact tX6_cheapest_b69 C h32 hW (lv_sub hl [0, 1, 2, 4] rfl) h
    have h := ite_n c_20 h
    refine lv_aload_n hx hb dX6_cheapest_53 rfl (lv_at hl 0 rfl) ?_
    refine lv_iload hx hb dX6_cheapest_54 (lv_at hl 4 rfl) ?_
    refine lv_iload_n hx hb dX6_cheapest_56 rfl (lv_at hl 1 rfl) ?_
    obtain ⟨r_23, μ_22, hh_21, h⟩ := bd_s h
    refine wo_Vi (rest := []) C hW (kX6_priceOf l D g ad  hh_21) (cwV 2 hts gX6_cheapest_X6_priceOf rfl rfl rfl (by decide +kernel) ⟨Nat.le_of_ble_eq_true rfl, Nat.le_of_ble_eq_true rfl⟩) kl_20_50_0 co_o rfl rfl hl.1 rfl (Nat.le_of_ble_eq_true rfl) dX6_cheapest_57 ⟨Nat.zero_le _, Nat.zero_le _⟩ (fun H locs hW => ?_)
    refine lv_aload_n hx hb dX6_cheapest_60 rfl (lv_at hl 0 rfl) ?_
    refine lv_iload_n hx hb dX6_cheapest_61 rfl (lv_at hl 3 rfl) ?_
    refine lv_iload_n hx hb dX6_cheapest_62 rfl (lv_at hl 1 rfl) ?_
    obtain ⟨r_26, μ_25, hh_24, h⟩ := bd_s h
    refine wo_Vi (rest := [.int r_23]) C hW (kX6_priceOf l D g ad  hh_24) (cwV 2 hts gX6_cheapest_X6_priceOf rfl rfl rfl (by decide +kernel) ⟨Nat.le_of_ble_eq_true rfl, Nat.le_of_ble_eq_true rfl⟩) kl_20_50_0 co_o rfl rfl hl.1 rfl (Nat.le_of_ble_eq_true rfl) dX6_cheapest_63 ⟨Nat.zero_le _, Nat.zero_le _⟩ (fun H locs hW => ?_)
    refine lv_icmp_gt (tgt := 74) hx hb dX6_cheapest_66 (by decide) (fun c_27 => ?_) (fun c_27 => ?_)
    · have h := ite_p c_27 h
      exact tX6_cheapest_b74 C h32 hW (lv_sub hl [0, 1, 2, 3, 4] rfl) h
    have h := ite_n c_27 h
    exact tX6_cheapest_b69 C h32 hW (lv_sub hl [0, 1, 2, 4] rfl) h
set_option maxHeartbeats 4000000 in
set_option maxRecDepth 100000 in
theorem kX6_cheapest (l : Launch) (D : va_G) (g : G3) (ad : Ky → Nat) {v1 v2 : Int32} {μ μ' : Mem} {r : Int32} (h : X6_cheapest v1 v2 μ = some (r, μ')) : CtI l yX6_cheapest wsX6_cheapest rX6_cheapest D (tysX g) keysM ad (cX g ad) [.ref (ad (20, 50, 0)), .int v1, .int v2] μ r μ' := by
  refine ctI_of (cc := cX6_cheapest) (maxL := 5) (ret := (some .int)) keysM_nd (by decide) rfl (Nat.le_of_ble_eq_true rfl) (fun p e s m below meth c A ls C hW hl => ?_)
  have hl : lv_has ls 5 [(0, .ref (ad (20, 50, 0))), (1, .int v1), (2, .int v2)] := hl
  obtain ⟨hx, hb, hr, hts, hown, hlocks, hml, hA⟩ := id C
  refine lv_aload_n hx hb dX6_cheapest_0 rfl (lv_at hl 0 rfl) ?_
  refine lv_iload_n hx hb dX6_cheapest_1 rfl (lv_at hl 1 rfl) ?_
  obtain ⟨r_3, μ_2, hh_1, h⟩ := bd_s h
  refine wo_Vi (rest := []) C hW (kX6_isThing l D g ad  hh_1) (cwV 1 hts gX6_cheapest_X6_isThing rfl rfl rfl (by decide +kernel) ⟨Nat.le_of_ble_eq_true rfl, Nat.le_of_ble_eq_true rfl⟩) kl_20_50_0 co_o rfl rfl hl.1 rfl (Nat.le_of_ble_eq_true rfl) dX6_cheapest_2 ⟨Nat.zero_le _, Nat.zero_le _⟩ (fun H locs hW => ?_)
  refine lv_if_eq (tgt := 17) hx hb dX6_cheapest_5 (by decide) (fun c_4 => ?_) (fun c_4 => ?_)
  · have h := ite_p c_4 h
    refine lv_iconst (v := (-1)) hx hb dX6_cheapest_17 (by decide) ?_
    exact xw_iret C rfl hW dX6_cheapest_18 h
  have h := ite_n c_4 h
  refine lv_iload_n hx hb dX6_cheapest_8 rfl (lv_at hl 2 rfl) ?_
  refine lv_iconst (v := 0) hx hb dX6_cheapest_9 (by decide) ?_
  refine lv_iconst (v := 1) hx hb dX6_cheapest_10 (by decide) ?_
  obtain ⟨r_7, μ_6, hh_5, h⟩ := bd_s h
  refine wo_Si (rest := []) C hW (kX6_in l D g ad  hh_5) (cwS 3 hts gX6_cheapest_X6_in rfl rfl rfl (by decide +kernel) ⟨Nat.le_of_ble_eq_true rfl, Nat.le_of_ble_eq_true rfl⟩) rfl hl.1 rfl (Nat.le_of_ble_eq_true rfl) dX6_cheapest_11 ⟨Nat.zero_le _, Nat.zero_le _⟩ (fun H locs hW => ?_)
  refine lv_if_ne (tgt := 19) hx hb dX6_cheapest_14 (by decide) (fun c_8 => ?_) (fun c_8 => ?_)
  · have h := ite_n c_8 h
    refine lv_bipush (v := (-4)) hx hb dX6_cheapest_19 (by decide) ?_
    refine lv_istore_n (lv' := [(3, .int (-4)), (0, .ref (ad (20, 50, 0))), (1, .int v1), (2, .int v2)]) hx hb dX6_cheapest_21 rfl hl (by decide) rfl (fun ls hl => ?_)
    refine lv_aload_n hx hb dX6_cheapest_22 rfl (lv_at hl 1 rfl) ?_
    refine wo_get (C := RX6) (T := TX6) (N := 14) hx hb hts iX6_cheapest_6 hown hW kl_20_50_0 co_o rfl 2 (by decide) (hts _ mX6_cheapest_l13) (fun _ h9 => h9) rfl dX6_cheapest_23 ?_
    refine lv_iconst (v := 0) hx hb dX6_cheapest_26 (by decide) ?_
    obtain ⟨hi_9, h⟩ := gi_s h
    refine xw_ald hx hb hW kl_20_2_0 rfl hi_9 dX6_cheapest_27 ?_
    refine lv_iconst (v := 1) hx hb dX6_cheapest_28 (by decide) ?_
    refine lv_isub hx hb dX6_cheapest_29 ?_
    refine lv_istore (lv' := [(4, .int ((μ_6 20 2 0 (0 : Int32).toNatClampNeg) - 1)), (3, .int (-4)), (0, .ref (ad (20, 50, 0))), (1, .int v1), (2, .int v2)]) hx hb dX6_cheapest_30 hl (by decide) rfl (fun ls hl => ?_)
    exact tX6_cheapest_b32 C 1000 _ _ _ _ _ _ hW (lv_sub hl [2, 3, 4, 1, 0] rfl) h
  have h := ite_p c_8 h
  refine lv_iconst (v := (-1)) hx hb dX6_cheapest_17 (by decide) ?_
  exact xw_iret C rfl hW dX6_cheapest_18 h
abbrev rX6_taken : Room := { frames := 0, cells := 0, slots := 0, locals := 0 }
theorem mX6_taken_l13 : Cond.fieldLink RX6 13 "NearlyBoughtModel" "told" "[I" ∈ wsX6_taken := by decide +kernel
theorem mX6_taken_l19 : Cond.fieldLink RX6 19 "NearlyBoughtModel" "s" "[I" ∈ wsX6_taken := by decide +kernel
theorem iX6_taken_6 : ∀ w ∈ wsX60, w ∈ wsX6_taken := fun _ h => List.mem_cons_of_mem _ (List.mem_append_right _ h)
set_option maxHeartbeats 4000000 in
set_option maxRecDepth 100000 in
theorem tX6_taken_b34 {p : Program} {l : Launch} {e : Env} {s : State} {m : MethodId} {args : Array Value} {below : List Frame} {meth : Method} {c : Code} {A : Nat → Prop} {D : va_G} {g : G3} {ad : Ky → Nat} (C : Cx p s m args meth c cX6_taken (some .int) 3 RX6 wsX6_taken A) {r0 : Int32} {μ0 : Mem} {v2 s0 s1 : Int32} {k4 : Int32 → Int32 → Mem → Option (Int32 × Mem)} (h4 : ∀ (v1 v2 : Int32) (μ : Mem) (H : Heap) (locs : List Loc) (ls : Array Slot), WX D g keysM ad A s s.heap μ H locs → lv_has ls 3 [(0, .ref (ad (20, 50, 0))), (1, .int v1), (2, .int v2)] → k4 v1 v2 μ = some (r0, μ0) → TgI r0 p l e rX6_taken s m args below meth c D g keysM ad A μ0 H locs (F0 m 4 ls [])) {μ : Mem} {H : Heap} {locs : List Loc} {ls : Array Slot} (hW : WX D g keysM ad A s s.heap μ H locs) (hl : lv_has ls 3 [(0, .ref (ad (20, 50, 0))), (2, .int v2)]) (h : X6_taken_b34 k4 v2 s0 s1 μ = some (r0, μ0)) : TgI r0 p l e rX6_taken s m args below meth c D g keysM ad A μ0 H locs (F0 m 34 ls [.int s1, .int s0]) := by
  obtain ⟨hx, hb, hr, hts, hown, hlocks, hml, hA⟩ := id C
  refine lv_iadd hx hb dX6_taken_34 ?_
  refine lv_istore_n (lv' := [(1, .int (s0 + s1)), (0, .ref (ad (20, 50, 0))), (2, .int v2)]) hx hb dX6_taken_35 rfl hl (by decide) rfl (fun ls hl => ?_)
  refine lv_iinc (v := v2 + 1) (lv' := [(2, .int (v2 + 1)), (1, .int (s0 + s1)), (0, .ref (ad (20, 50, 0)))]) hx hb dX6_taken_36 hl (k := 2) rfl rfl (by decide) rfl (fun ls hl => ?_)
  refine lv_goto (tgt := 4) hx hb dX6_taken_39 (by decide) ?_
  exact h4 _ _ _ _ _ _ hW (lv_sub hl [2, 1, 0] rfl) h
set_option maxHeartbeats 4000000 in
set_option maxRecDepth 100000 in
theorem tX6_taken_b4 {p : Program} {l : Launch} {e : Env} {s : State} {m : MethodId} {args : Array Value} {below : List Frame} {meth : Method} {c : Code} {A : Nat → Prop} {D : va_G} {g : G3} {ad : Ky → Nat} (C : Cx p s m args meth c cX6_taken (some .int) 3 RX6 wsX6_taken A) {r0 : Int32} {μ0 : Mem} (n : Nat) : ∀ (v1 v2 : Int32) (μ : Mem) (H : Heap) (locs : List Loc) (ls : Array Slot), WX D g keysM ad A s s.heap μ H locs → lv_has ls 3 [(0, .ref (ad (20, 50, 0))), (1, .int v1), (2, .int v2)] → lo2 (X6_taken_b4) n v1 v2 μ = some (r0, μ0) → TgI r0 p l e rX6_taken s m args below meth c D g keysM ad A μ0 H locs (F0 m 4 ls []) := by
  obtain ⟨hx, hb, hr, hts, hown, hlocks, hml, hA⟩ := id C
  induction n with
  | zero =>
    intro v1 v2 μ H locs ls hW hl h
    cases h
  | succ n h4 =>
    intro v1 v2 μ H locs ls hW hl h
    have h : X6_taken_b4 (lo2 (X6_taken_b4) n) v1 v2 μ = some (r0, μ0) := h
    refine lv_iload_n hx hb dX6_taken_4 rfl (lv_at hl 2 rfl) ?_
    refine lv_aload_n hx hb dX6_taken_5 rfl (lv_at hl 0 rfl) ?_
    refine wo_get (C := RX6) (T := TX6) (N := 14) hx hb hts iX6_taken_6 hown hW kl_20_50_0 co_o rfl 2 (by decide) (hts _ mX6_taken_l13) (fun _ h9 => h9) rfl dX6_taken_6 ?_
    refine lv_iconst (v := 1) hx hb dX6_taken_9 (by decide) ?_
    obtain ⟨hi_1, h⟩ := gi_s h
    refine xw_ald hx hb hW kl_20_2_0 rfl hi_1 dX6_taken_10 ?_
    refine lv_icmp_ge (tgt := 42) hx hb dX6_taken_11 (by decide) (fun c_2 => ?_) (fun c_2 => ?_)
    · have h := ite_p c_2 h
      refine lv_iload_n hx hb dX6_taken_42 rfl (lv_at hl 1 rfl) ?_
      exact xw_iret C rfl hW dX6_taken_43 h
    have h := ite_n c_2 h
    refine lv_iload_n hx hb dX6_taken_14 rfl (lv_at hl 1 rfl) ?_
    refine lv_aload_n hx hb dX6_taken_15 rfl (lv_at hl 0 rfl) ?_
    refine wo_get (C := RX6) (T := TX6) (N := 14) hx hb hts iX6_taken_6 hown hW kl_20_50_0 co_o rfl 4 (by decide) (hts _ mX6_taken_l19) (fun _ h9 => h9) rfl dX6_taken_16 ?_
    refine lv_bipush (v := 6) hx hb dX6_taken_19 (by decide) ?_
    refine lv_iload_n hx hb dX6_taken_21 rfl (lv_at hl 2 rfl) ?_
    refine lv_iadd hx hb dX6_taken_22 ?_
    obtain ⟨hi_3, h⟩ := gi_s h
    refine xw_ald hx hb hW kl_20_4_0 rfl hi_3 dX6_taken_23 ?_
    refine lv_bipush (v := (-4)) hx hb dX6_taken_24 (by decide) ?_
    refine lv_icmp_ne (tgt := 33) hx hb dX6_taken_26 (by decide) (fun c_4 => ?_) (fun c_4 => ?_)
    · have h := ite_n c_4 h
      refine lv_iconst (v := 1) hx hb dX6_taken_33 (by decide) ?_
      exact tX6_taken_b34 C h4 hW (lv_sub hl [0, 2] rfl) h
    have h := ite_p c_4 h
    refine lv_iconst (v := 0) hx hb dX6_taken_29 (by decide) ?_
    refine lv_goto (tgt := 34) hx hb dX6_taken_30 (by decide) ?_
    exact tX6_taken_b34 C h4 hW (lv_sub hl [0, 2] rfl) h
set_option maxHeartbeats 4000000 in
set_option maxRecDepth 100000 in
theorem kX6_taken (l : Launch) (D : va_G) (g : G3) (ad : Ky → Nat) {μ μ' : Mem} {r : Int32} (h : X6_taken μ = some (r, μ')) : CtI l yX6_taken wsX6_taken rX6_taken D (tysX g) keysM ad (cX g ad) [.ref (ad (20, 50, 0))] μ r μ' := by
  refine ctI_of (cc := cX6_taken) (maxL := 3) (ret := (some .int)) keysM_nd (by decide) rfl (Nat.le_of_ble_eq_true rfl) (fun p e s m below meth c A ls C hW hl => ?_)
  have hl : lv_has ls 3 [(0, .ref (ad (20, 50, 0)))] := hl
  obtain ⟨hx, hb, hr, hts, hown, hlocks, hml, hA⟩ := id C
  refine lv_iconst (v := 0) hx hb dX6_taken_0 (by decide) ?_
  refine lv_istore_n (lv' := [(1, .int 0), (0, .ref (ad (20, 50, 0)))]) hx hb dX6_taken_1 rfl hl (by decide) rfl (fun ls hl => ?_)
  refine lv_iconst (v := 0) hx hb dX6_taken_2 (by decide) ?_
  refine lv_istore_n (lv' := [(2, .int 0), (1, .int 0), (0, .ref (ad (20, 50, 0)))]) hx hb dX6_taken_3 rfl hl (by decide) rfl (fun ls hl => ?_)
  exact tX6_taken_b4 C 1000 _ _ _ _ _ _ hW (lv_sub hl [2, 1, 0] rfl) h
abbrev rX6_count : Room := { frames := 1, cells := 0, slots := 0, locals := 22 }
theorem mX6_count_l13 : Cond.fieldLink RX6 13 "NearlyBoughtModel" "told" "[I" ∈ wsX6_count := by decide +kernel
theorem mX6_count_l19 : Cond.fieldLink RX6 19 "NearlyBoughtModel" "s" "[I" ∈ wsX6_count := by decide +kernel
theorem mX6_count_l94 : Cond.fieldLink RX6 94 "NearlyBoughtModel" "noted" "I" ∈ wsX6_count := by decide +kernel
theorem mX6_count_l88 : Cond.fieldLink RX6 88 "NearlyBoughtModel" "known" "I" ∈ wsX6_count := by decide +kernel
theorem mX6_count_l91 : Cond.fieldLink RX6 91 "NearlyBoughtModel" "kept" "I" ∈ wsX6_count := by decide +kernel
theorem mX6_count_l60 : Cond.fieldLink RX6 60 "NearlyBoughtModel" "typed" "I" ∈ wsX6_count := by decide +kernel
theorem iX6_count_6 : ∀ w ∈ wsX60, w ∈ wsX6_count := fun _ h => List.mem_cons_of_mem _ (List.mem_append_right _ h)
set_option maxHeartbeats 4000000 in
set_option maxRecDepth 100000 in
theorem kX6_count (l : Launch) (D : va_G) (g : G3) (ad : Ky → Nat) {v1 : Int32} {μ μ' : Mem} {r : Int32} (h : X6_count v1 μ = some (r, μ')) : CtI l yX6_count wsX6_count rX6_count D (tysX g) keysM ad (cX g ad) [.ref (ad (20, 50, 0)), .int v1] μ r μ' := by
  refine ctI_of (cc := cX6_count) (maxL := 2) (ret := (some .int)) keysM_nd (by decide) rfl (Nat.le_of_ble_eq_true rfl) (fun p e s m below meth c A ls C hW hl => ?_)
  have hl : lv_has ls 2 [(0, .ref (ad (20, 50, 0))), (1, .int v1)] := hl
  obtain ⟨hx, hb, hr, hts, hown, hlocks, hml, hA⟩ := id C
  refine lv_iload_n hx hb dX6_count_0 rfl (lv_at hl 1 rfl) ?_
  by_cases c_1 : v1 = 0
  · have h := ite_p c_1 h
    refine lv_tableIn (off := 51) (tgt := 52) hx hb dX6_count_1 (by rw [c_1]; decide) (by rw [c_1]; decide) (by rw [c_1]; rfl) (by decide) ?_
    refine lv_aload_n hx hb dX6_count_52 rfl (lv_at hl 0 rfl) ?_
    refine wo_get (C := RX6) (T := TX6) (N := 14) hx hb hts iX6_count_6 hown hW kl_20_50_0 co_o rfl 2 (by decide) (hts _ mX6_count_l13) (fun _ h9 => h9) rfl dX6_count_53 ?_
    refine lv_iconst (v := 0) hx hb dX6_count_56 (by decide) ?_
    obtain ⟨hi_2, h⟩ := gi_s h
    refine xw_ald hx hb hW kl_20_2_0 rfl hi_2 dX6_count_57 ?_
    exact xw_iret C rfl hW dX6_count_58 h
  have h := ite_n c_1 h
  by_cases c_3 : v1 = 1
  · have h := ite_p c_3 h
    refine lv_tableIn (off := 58) (tgt := 59) hx hb dX6_count_1 (by rw [c_3]; decide) (by rw [c_3]; decide) (by rw [c_3]; rfl) (by decide) ?_
    refine lv_aload_n hx hb dX6_count_59 rfl (lv_at hl 0 rfl) ?_
    refine wo_get (C := RX6) (T := TX6) (N := 14) hx hb hts iX6_count_6 hown hW kl_20_50_0 co_o rfl 2 (by decide) (hts _ mX6_count_l13) (fun _ h9 => h9) rfl dX6_count_60 ?_
    refine lv_iconst (v := 1) hx hb dX6_count_63 (by decide) ?_
    obtain ⟨hi_4, h⟩ := gi_s h
    refine xw_ald hx hb hW kl_20_2_0 rfl hi_4 dX6_count_64 ?_
    exact xw_iret C rfl hW dX6_count_65 h
  have h := ite_n c_3 h
  by_cases c_5 : v1 = 2
  · have h := ite_p c_5 h
    refine lv_tableIn (off := 65) (tgt := 66) hx hb dX6_count_1 (by rw [c_5]; decide) (by rw [c_5]; decide) (by rw [c_5]; rfl) (by decide) ?_
    refine lv_aload_n hx hb dX6_count_66 rfl (lv_at hl 0 rfl) ?_
    refine wo_get (C := RX6) (T := TX6) (N := 14) hx hb hts iX6_count_6 hown hW kl_20_50_0 co_o rfl 4 (by decide) (hts _ mX6_count_l19) (fun _ h9 => h9) rfl dX6_count_67 ?_
    refine lv_bipush (v := 54) hx hb dX6_count_70 (by decide) ?_
    obtain ⟨hi_6, h⟩ := gi_s h
    refine xw_ald hx hb hW kl_20_4_0 rfl hi_6 dX6_count_72 ?_
    exact xw_iret C rfl hW dX6_count_73 h
  have h := ite_n c_5 h
  by_cases c_7 : v1 = 3
  · have h := ite_p c_7 h
    refine lv_tableIn (off := 73) (tgt := 74) hx hb dX6_count_1 (by rw [c_7]; decide) (by rw [c_7]; decide) (by rw [c_7]; rfl) (by decide) ?_
    refine lv_aload_n hx hb dX6_count_74 rfl (lv_at hl 0 rfl) ?_
    obtain ⟨r_10, μ_9, hh_8, h⟩ := bd_s h
    refine wo_Vi (rest := []) C hW (kX6_taken l D g ad  hh_8) (cwV 0 hts gX6_count_X6_taken rfl rfl rfl (by decide +kernel) ⟨Nat.le_of_ble_eq_true rfl, Nat.le_of_ble_eq_true rfl⟩) kl_20_50_0 co_o rfl rfl hl.1 rfl (Nat.le_of_ble_eq_true rfl) dX6_count_75 ⟨Nat.zero_le _, Nat.zero_le _⟩ (fun H locs hW => ?_)
    exact xw_iret C rfl hW dX6_count_78 h
  have h := ite_n c_7 h
  by_cases c_11 : v1 = 4
  · have h := ite_p c_11 h
    refine lv_tableIn (off := 78) (tgt := 79) hx hb dX6_count_1 (by rw [c_11]; decide) (by rw [c_11]; decide) (by rw [c_11]; rfl) (by decide) ?_
    refine lv_aload_n hx hb dX6_count_79 rfl (lv_at hl 0 rfl) ?_
    obtain ⟨r_14, μ_13, hh_12, h⟩ := bd_s h
    refine wo_Vi (rest := []) C hW (kX6_allCoins l D g ad  hh_12) (cwV 0 hts gX6_count_X6_allCoins rfl rfl rfl (by decide +kernel) ⟨Nat.le_of_ble_eq_true rfl, Nat.le_of_ble_eq_true rfl⟩) kl_20_50_0 co_o rfl rfl hl.1 rfl (Nat.le_of_ble_eq_true rfl) dX6_count_80 ⟨Nat.zero_le _, Nat.zero_le _⟩ (fun H locs hW => ?_)
    exact xw_iret C rfl hW dX6_count_83 h
  have h := ite_n c_11 h
  by_cases c_15 : v1 = 5
  · have h := ite_p c_15 h
    refine lv_tableIn (off := 83) (tgt := 84) hx hb dX6_count_1 (by rw [c_15]; decide) (by rw [c_15]; decide) (by rw [c_15]; rfl) (by decide) ?_
    refine lv_aload_n hx hb dX6_count_84 rfl (lv_at hl 0 rfl) ?_
    refine wo_get (C := RX6) (T := TX6) (N := 14) hx hb hts iX6_count_6 hown hW kl_20_50_0 co_o rfl 10 (by decide) (hts _ mX6_count_l94) (fun _ h9 => h9) rfl dX6_count_85 ?_
    exact xw_iret C rfl hW dX6_count_88 h
  have h := ite_n c_15 h
  by_cases c_16 : v1 = 6
  · have h := ite_p c_16 h
    refine lv_tableIn (off := 88) (tgt := 89) hx hb dX6_count_1 (by rw [c_16]; decide) (by rw [c_16]; decide) (by rw [c_16]; rfl) (by decide) ?_
    refine lv_aload_n hx hb dX6_count_89 rfl (lv_at hl 0 rfl) ?_
    refine wo_get (C := RX6) (T := TX6) (N := 14) hx hb hts iX6_count_6 hown hW kl_20_50_0 co_o rfl 6 (by decide) (hts _ mX6_count_l88) (fun _ h9 => h9) rfl dX6_count_90 ?_
    exact xw_iret C rfl hW dX6_count_93 h
  have h := ite_n c_16 h
  by_cases c_17 : v1 = 7
  · have h := ite_p c_17 h
    refine lv_tableIn (off := 93) (tgt := 94) hx hb dX6_count_1 (by rw [c_17]; decide) (by rw [c_17]; decide) (by rw [c_17]; rfl) (by decide) ?_
    refine lv_aload_n hx hb dX6_count_94 rfl (lv_at hl 0 rfl) ?_
    refine wo_get (C := RX6) (T := TX6) (N := 14) hx hb hts iX6_count_6 hown hW kl_20_50_0 co_o rfl 8 (by decide) (hts _ mX6_count_l91) (fun _ h9 => h9) rfl dX6_count_95 ?_
    exact xw_iret C rfl hW dX6_count_98 h
  have h := ite_n c_17 h
  by_cases c_18 : v1 = 8
  · have h := ite_p c_18 h
    refine lv_tableIn (off := 98) (tgt := 99) hx hb dX6_count_1 (by rw [c_18]; decide) (by rw [c_18]; decide) (by rw [c_18]; rfl) (by decide) ?_
    refine lv_aload_n hx hb dX6_count_99 rfl (lv_at hl 0 rfl) ?_
    refine wo_get (C := RX6) (T := TX6) (N := 14) hx hb hts iX6_count_6 hown hW kl_20_50_0 co_o rfl 1 (by decide) (hts _ mX6_count_l60) (fun _ h9 => h9) rfl dX6_count_100 ?_
    exact xw_iret C rfl hW dX6_count_103 h
  have h := ite_n c_18 h
  have t_19 := ne_ti (k := 0) rfl c_1
  have t_20 := ne_ti (k := 1) rfl c_3
  have t_21 := ne_ti (k := 2) rfl c_5
  have t_22 := ne_ti (k := 3) rfl c_7
  have t_23 := ne_ti (k := 4) rfl c_11
  have t_24 := ne_ti (k := 5) rfl c_15
  have t_25 := ne_ti (k := 6) rfl c_16
  have t_26 := ne_ti (k := 7) rfl c_17
  have t_27 := ne_ti (k := 8) rfl c_18
  refine lv_tableOut (tgt := 104) hx hb dX6_count_1 (by omega) (by decide) ?_
  refine lv_iconst (v := (-1)) hx hb dX6_count_104 (by decide) ?_
  exact xw_iret C rfl hW dX6_count_105 h
abbrev rX6_isPerson : Room := { frames := 1, cells := 0, slots := 0, locals := 22 }
theorem mX6_isPerson_l13 : Cond.fieldLink RX6 13 "NearlyBoughtModel" "told" "[I" ∈ wsX6_isPerson := by decide +kernel
theorem iX6_isPerson_6 : ∀ w ∈ wsX60, w ∈ wsX6_isPerson := fun _ h => List.mem_cons_of_mem _ (List.mem_append_right _ h)
set_option maxHeartbeats 4000000 in
set_option maxRecDepth 100000 in
theorem kX6_isPerson (l : Launch) (D : va_G) (g : G3) (ad : Ky → Nat) {v1 : Int32} {μ μ' : Mem} {r : Int32} (h : X6_isPerson v1 μ = some (r, μ')) : CtI l yX6_isPerson wsX6_isPerson rX6_isPerson D (tysX g) keysM ad (cX g ad) [.ref (ad (20, 50, 0)), .int v1] μ r μ' := by
  refine ctI_of (cc := cX6_isPerson) (maxL := 2) (ret := (some .boolean)) keysM_nd (by decide) rfl (Nat.le_of_ble_eq_true rfl) (fun p e s m below meth c A ls C hW hl => ?_)
  have hl : lv_has ls 2 [(0, .ref (ad (20, 50, 0))), (1, .int v1)] := hl
  obtain ⟨hx, hb, hr, hts, hown, hlocks, hml, hA⟩ := id C
  refine lv_iload_n hx hb dX6_isPerson_0 rfl (lv_at hl 1 rfl) ?_
  refine lv_iconst (v := 0) hx hb dX6_isPerson_1 (by decide) ?_
  refine lv_aload_n hx hb dX6_isPerson_2 rfl (lv_at hl 0 rfl) ?_
  refine wo_get (C := RX6) (T := TX6) (N := 14) hx hb hts iX6_isPerson_6 hown hW kl_20_50_0 co_o rfl 2 (by decide) (hts _ mX6_isPerson_l13) (fun _ h9 => h9) rfl dX6_isPerson_3 ?_
  refine lv_iconst (v := 0) hx hb dX6_isPerson_6 (by decide) ?_
  obtain ⟨hi_1, h⟩ := gi_s h
  refine xw_ald hx hb hW kl_20_2_0 rfl hi_1 dX6_isPerson_7 ?_
  refine lv_iconst (v := 1) hx hb dX6_isPerson_8 (by decide) ?_
  refine lv_isub hx hb dX6_isPerson_9 ?_
  obtain ⟨r_4, μ_3, hh_2, h⟩ := bd_s h
  refine wo_Si (rest := []) C hW (kX6_in l D g ad  hh_2) (cwS 3 hts gX6_isPerson_X6_in rfl rfl rfl (by decide +kernel) ⟨Nat.le_of_ble_eq_true rfl, Nat.le_of_ble_eq_true rfl⟩) rfl hl.1 rfl (Nat.le_of_ble_eq_true rfl) dX6_isPerson_10 ⟨Nat.zero_le _, Nat.zero_le _⟩ (fun H locs hW => ?_)
  obtain ⟨hb_5, h⟩ := gb_s h
  exact xw_zret C rfl hb_5 hW dX6_isPerson_13 h
abbrev rX6_counts : Room := { frames := 2, cells := 0, slots := 0, locals := 43 }
theorem mX6_counts_l13 : Cond.fieldLink RX6 13 "NearlyBoughtModel" "told" "[I" ∈ wsX6_counts := by decide +kernel
theorem iX6_counts_6 : ∀ w ∈ wsX60, w ∈ wsX6_counts := fun _ h => List.mem_cons_of_mem _ (List.mem_append_right _ h)
set_option maxHeartbeats 4000000 in
set_option maxRecDepth 100000 in
theorem tX6_counts_b126 {p : Program} {l : Launch} {e : Env} {s : State} {m : MethodId} {args : Array Value} {below : List Frame} {meth : Method} {c : Code} {A : Nat → Prop} {D : va_G} {g : G3} {ad : Ky → Nat} (C : Cx p s m args meth c cX6_counts (some .int) 11 RX6 wsX6_counts A) {r0 : Int32} {μ0 : Mem} {v3 v6 v7 : Int32} (n : Nat) : ∀ (v8 v9 : Int32) (μ : Mem) (H : Heap) (locs : List Loc) (ls : Array Slot), WX D g keysM ad A s s.heap μ H locs → lv_has ls 11 [(3, .int v3), (6, .int v6), (7, .int v7), (8, .int v8), (9, .int v9)] → lo2 (X6_counts_b126 v3 v6 v7) n v8 v9 μ = some (r0, μ0) → TgI r0 p l e rX6_counts s m args below meth c D g keysM ad A μ0 H locs (F0 m 126 ls []) := by
  obtain ⟨hx, hb, hr, hts, hown, hlocks, hml, hA⟩ := id C
  induction n with
  | zero =>
    intro v8 v9 μ H locs ls hW hl h
    cases h
  | succ n h126 =>
    intro v8 v9 μ H locs ls hW hl h
    have h : X6_counts_b126 v3 v6 v7 (lo2 (X6_counts_b126 v3 v6 v7) n) v8 v9 μ = some (r0, μ0) := h
    refine lv_iload hx hb dX6_counts_126 (lv_at hl 4 rfl) ?_
    refine lv_if_le (tgt := 149) hx hb dX6_counts_128 (by decide) (fun c_15 => ?_) (fun c_15 => ?_)
    · have h := ite_p c_15 h
      refine lv_iload_n hx hb dX6_counts_149 rfl (lv_at hl 0 rfl) ?_
      refine lv_if_ne (tgt := 161) hx hb dX6_counts_150 (by decide) (fun c_16 => ?_) (fun c_16 => ?_)
      · have h := ite_n c_16 h
        refine lv_iload hx hb dX6_counts_161 (lv_at hl 1 rfl) ?_
        refine lv_iload hx hb dX6_counts_163 (lv_at hl 3 rfl) ?_
        obtain ⟨hz_17, h⟩ := gz_s h
        refine lv_idiv hx hb dX6_counts_165 hz_17 ?_
        exact xw_iret C rfl hW dX6_counts_166 h
      have h := ite_p c_16 h
      refine lv_iload hx hb dX6_counts_153 (lv_at hl 2 rfl) ?_
      refine lv_iload hx hb dX6_counts_155 (lv_at hl 3 rfl) ?_
      obtain ⟨hz_18, h⟩ := gz_s h
      refine lv_idiv hx hb dX6_counts_157 hz_18 ?_
      refine lv_goto (tgt := 166) hx hb dX6_counts_158 (by decide) ?_
      exact xw_iret C rfl hW dX6_counts_166 h
    have h := ite_n c_15 h
    refine lv_iload hx hb dX6_counts_131 (lv_at hl 3 rfl) ?_
    refine lv_iload hx hb dX6_counts_133 (lv_at hl 4 rfl) ?_
    obtain ⟨hz_19, h⟩ := gz_s h
    refine lv_irem hx hb dX6_counts_135 hz_19 ?_
    refine lv_istore (lv' := [(10, .int (v8 - v8 / v9 * v9)), (3, .int v3), (6, .int v6), (7, .int v7), (8, .int v8), (9, .int v9)]) hx hb dX6_counts_136 hl (by decide) rfl (fun ls hl => ?_)
    refine lv_iload hx hb dX6_counts_138 (lv_at hl 5 rfl) ?_
    refine lv_istore (lv' := [(8, .int v9), (10, .int (v8 - v8 / v9 * v9)), (3, .int v3), (6, .int v6), (7, .int v7), (9, .int v9)]) hx hb dX6_counts_140 hl (by decide) rfl (fun ls hl => ?_)
    refine lv_iload hx hb dX6_counts_142 (lv_at hl 1 rfl) ?_
    refine lv_istore (lv' := [(9, .int (v8 - v8 / v9 * v9)), (8, .int v9), (10, .int (v8 - v8 / v9 * v9)), (3, .int v3), (6, .int v6), (7, .int v7)]) hx hb dX6_counts_144 hl (by decide) rfl (fun ls hl => ?_)
    refine lv_goto (tgt := 126) hx hb dX6_counts_146 (by decide) ?_
    exact h126 _ _ _ _ _ _ hW (lv_sub hl [3, 4, 5, 1, 0] rfl) h
set_option maxHeartbeats 4000000 in
set_option maxRecDepth 100000 in
theorem tX6_counts_b85 {p : Program} {l : Launch} {e : Env} {s : State} {m : MethodId} {args : Array Value} {below : List Frame} {meth : Method} {c : Code} {A : Nat → Prop} {D : va_G} {g : G3} {ad : Ky → Nat} (C : Cx p s m args meth c cX6_counts (some .int) 11 RX6 wsX6_counts A) {r0 : Int32} {μ0 : Mem} {v2 v3 v4 : Int32} (n : Nat) : ∀ (v5 v6 v7 : Int32) (μ : Mem) (H : Heap) (locs : List Loc) (ls : Array Slot), WX D g keysM ad A s s.heap μ H locs → lv_has ls 11 [(2, .int v2), (3, .int v3), (4, .int v4), (5, .int v5), (6, .int v6), (7, .int v7)] → lo3 (X6_counts_b85 v2 v3 v4) n v5 v6 v7 μ = some (r0, μ0) → TgI r0 p l e rX6_counts s m args below meth c D g keysM ad A μ0 H locs (F0 m 85 ls []) := by
  obtain ⟨hx, hb, hr, hts, hown, hlocks, hml, hA⟩ := id C
  induction n with
  | zero =>
    intro v5 v6 v7 μ H locs ls hW hl h
    cases h
  | succ n h85 =>
    intro v5 v6 v7 μ H locs ls hW hl h
    have h : X6_counts_b85 v2 v3 v4 (lo3 (X6_counts_b85 v2 v3 v4) n) v5 v6 v7 μ = some (r0, μ0) := h
    refine lv_iload hx hb dX6_counts_85 (lv_at hl 5 rfl) ?_
    refine lv_iload_n hx hb dX6_counts_87 rfl (lv_at hl 0 rfl) ?_
    refine lv_icmp_ge (tgt := 111) hx hb dX6_counts_88 (by decide) (fun c_14 => ?_) (fun c_14 => ?_)
    · have h := ite_p c_14 h
      refine lv_iload hx hb dX6_counts_111 (lv_at hl 4 rfl) ?_
      refine lv_iload hx hb dX6_counts_113 (lv_at hl 3 rfl) ?_
      refine lv_isub hx hb dX6_counts_115 ?_
      refine lv_istore (lv' := [(7, .int (v6 - v5)), (2, .int v2), (3, .int v3), (4, .int v4), (5, .int v5), (6, .int v6)]) hx hb dX6_counts_116 hl (by decide) rfl (fun ls hl => ?_)
      refine lv_iload hx hb dX6_counts_118 (lv_at hl 0 rfl) ?_
      refine lv_istore (lv' := [(8, .int (v6 - v5)), (7, .int (v6 - v5)), (2, .int v2), (3, .int v3), (4, .int v4), (5, .int v5), (6, .int v6)]) hx hb dX6_counts_120 hl (by decide) rfl (fun ls hl => ?_)
      refine lv_iload hx hb dX6_counts_122 (lv_at hl 6 rfl) ?_
      refine lv_istore (lv' := [(9, .int v6), (8, .int (v6 - v5)), (7, .int (v6 - v5)), (2, .int v2), (3, .int v3), (4, .int v4), (5, .int v5), (6, .int v6)]) hx hb dX6_counts_124 hl (by decide) rfl (fun ls hl => ?_)
      exact tX6_counts_b126 C 1000 _ _ _ _ _ _ hW (lv_sub hl [4, 7, 2, 1, 0] rfl) h
    have h := ite_n c_14 h
    refine lv_iload hx hb dX6_counts_91 (lv_at hl 3 rfl) ?_
    refine lv_iload hx hb dX6_counts_93 (lv_at hl 2 rfl) ?_
    refine lv_imul hx hb dX6_counts_95 ?_
    refine lv_istore (lv' := [(5, .int (v5 * v4)), (2, .int v2), (3, .int v3), (4, .int v4), (6, .int v6), (7, .int v7)]) hx hb dX6_counts_96 hl (by decide) rfl (fun ls hl => ?_)
    refine lv_iload hx hb dX6_counts_98 (lv_at hl 4 rfl) ?_
    refine lv_bipush (v := 12) hx hb dX6_counts_100 (by decide) ?_
    refine lv_imul hx hb dX6_counts_102 ?_
    refine lv_istore (lv' := [(6, .int (v6 * 12)), (5, .int (v5 * v4)), (2, .int v2), (3, .int v3), (4, .int v4), (7, .int v7)]) hx hb dX6_counts_103 hl (by decide) rfl (fun ls hl => ?_)
    refine lv_iinc (v := v7 + 1) (lv' := [(7, .int (v7 + 1)), (6, .int (v6 * 12)), (5, .int (v5 * v4)), (2, .int v2), (3, .int v3), (4, .int v4)]) hx hb dX6_counts_105 hl (k := 5) rfl rfl (by decide) rfl (fun ls hl => ?_)
    refine lv_goto (tgt := 85) hx hb dX6_counts_108 (by decide) ?_
    exact h85 _ _ _ _ _ _ _ hW (lv_sub hl [3, 4, 5, 2, 1, 0] rfl) h
set_option maxHeartbeats 4000000 in
set_option maxRecDepth 100000 in
theorem tX6_counts_b67 {p : Program} {l : Launch} {e : Env} {s : State} {m : MethodId} {args : Array Value} {below : List Frame} {meth : Method} {c : Code} {A : Nat → Prop} {D : va_G} {g : G3} {ad : Ky → Nat} (C : Cx p s m args meth c cX6_counts (some .int) 11 RX6 wsX6_counts A) {r0 : Int32} {μ0 : Mem} {v1 v2 v3 v5 s0 s1 : Int32} {k34 : Int32 → Int32 → Mem → Option (Int32 × Mem)} (h34 : ∀ (v4 v5 : Int32) (μ : Mem) (H : Heap) (locs : List Loc) (ls : Array Slot), WX D g keysM ad A s s.heap μ H locs → lv_has ls 11 [(0, .ref (ad (20, 50, 0))), (1, .int v1), (2, .int v2), (3, .int v3), (4, .int v4), (5, .int v5)] → k34 v4 v5 μ = some (r0, μ0) → TgI r0 p l e rX6_counts s m args below meth c D g keysM ad A μ0 H locs (F0 m 34 ls [])) {μ : Mem} {H : Heap} {locs : List Loc} {ls : Array Slot} (hW : WX D g keysM ad A s s.heap μ H locs) (hl : lv_has ls 11 [(0, .ref (ad (20, 50, 0))), (1, .int v1), (2, .int v2), (3, .int v3), (5, .int v5)]) (h : X6_counts_b67 k34 v1 v2 v3 v5 s0 s1 μ = some (r0, μ0)) : TgI r0 p l e rX6_counts s m args below meth c D g keysM ad A μ0 H locs (F0 m 67 ls [.int s1, .int s0]) := by
  obtain ⟨hx, hb, hr, hts, hown, hlocks, hml, hA⟩ := id C
  refine lv_iadd hx hb dX6_counts_67 ?_
  refine lv_istore (lv' := [(4, .int (s0 + s1)), (0, .ref (ad (20, 50, 0))), (1, .int v1), (2, .int v2), (3, .int v3), (5, .int v5)]) hx hb dX6_counts_68 hl (by decide) rfl (fun ls hl => ?_)
  refine lv_iinc (v := v5 + 1) (lv' := [(5, .int (v5 + 1)), (4, .int (s0 + s1)), (0, .ref (ad (20, 50, 0))), (1, .int v1), (2, .int v2), (3, .int v3)]) hx hb dX6_counts_70 hl (k := 5) rfl rfl (by decide) rfl (fun ls hl => ?_)
  refine lv_goto (tgt := 34) hx hb dX6_counts_73 (by decide) ?_
  exact h34 _ _ _ _ _ _ hW (lv_sub hl [2, 3, 4, 5, 1, 0] rfl) h
set_option maxHeartbeats 4000000 in
set_option maxRecDepth 100000 in
theorem tX6_counts_b34 {p : Program} {l : Launch} {e : Env} {s : State} {m : MethodId} {args : Array Value} {below : List Frame} {meth : Method} {c : Code} {A : Nat → Prop} {D : va_G} {g : G3} {ad : Ky → Nat} (C : Cx p s m args meth c cX6_counts (some .int) 11 RX6 wsX6_counts A) {r0 : Int32} {μ0 : Mem} {v1 v2 v3 : Int32} (n : Nat) : ∀ (v4 v5 : Int32) (μ : Mem) (H : Heap) (locs : List Loc) (ls : Array Slot), WX D g keysM ad A s s.heap μ H locs → lv_has ls 11 [(0, .ref (ad (20, 50, 0))), (1, .int v1), (2, .int v2), (3, .int v3), (4, .int v4), (5, .int v5)] → lo2 (X6_counts_b34 v1 v2 v3) n v4 v5 μ = some (r0, μ0) → TgI r0 p l e rX6_counts s m args below meth c D g keysM ad A μ0 H locs (F0 m 34 ls []) := by
  obtain ⟨hx, hb, hr, hts, hown, hlocks, hml, hA⟩ := id C
  induction n with
  | zero =>
    intro v4 v5 μ H locs ls hW hl h
    cases h
  | succ n h34 =>
    intro v4 v5 μ H locs ls hW hl h
    have h : X6_counts_b34 v1 v2 v3 (lo2 (X6_counts_b34 v1 v2 v3) n) v4 v5 μ = some (r0, μ0) := h
    refine lv_iload hx hb dX6_counts_34 (lv_at hl 5 rfl) ?_
    refine lv_bipush (v := 13) hx hb dX6_counts_36 (by decide) ?_
    refine lv_icmp_ge (tgt := 76) hx hb dX6_counts_38 (by decide) (fun c_13 => ?_) (fun c_13 => ?_)
    · have h := ite_p c_13 h
      refine lv_iconst (v := 1) hx hb dX6_counts_76 (by decide) ?_
      refine lv_istore (lv' := [(5, .int 1), (0, .ref (ad (20, 50, 0))), (1, .int v1), (2, .int v2), (3, .int v3), (4, .int v4)]) hx hb dX6_counts_77 hl (by decide) rfl (fun ls hl => ?_)
      refine lv_iconst (v := 1) hx hb dX6_counts_79 (by decide) ?_
      refine lv_istore (lv' := [(6, .int 1), (5, .int 1), (0, .ref (ad (20, 50, 0))), (1, .int v1), (2, .int v2), (3, .int v3), (4, .int v4)]) hx hb dX6_counts_80 hl (by decide) rfl (fun ls hl => ?_)
      refine lv_iconst (v := 0) hx hb dX6_counts_82 (by decide) ?_
      refine lv_istore (lv' := [(7, .int 0), (6, .int 1), (5, .int 1), (0, .ref (ad (20, 50, 0))), (1, .int v1), (2, .int v2), (3, .int v3), (4, .int v4)]) hx hb dX6_counts_83 hl (by decide) rfl (fun ls hl => ?_)
      exact tX6_counts_b85 C 1000 _ _ _ _ _ _ _ hW (lv_sub hl [5, 6, 7, 2, 1, 0] rfl) h
    have h := ite_n c_13 h
    refine lv_iload hx hb dX6_counts_41 (lv_at hl 4 rfl) ?_
    refine lv_aload_n hx hb dX6_counts_43 rfl (lv_at hl 0 rfl) ?_
    refine lv_aload_n hx hb dX6_counts_44 rfl (lv_at hl 0 rfl) ?_
    refine wo_get (C := RX6) (T := TX6) (N := 14) hx hb hts iX6_counts_6 hown hW kl_20_50_0 co_o rfl 2 (by decide) (hts _ mX6_counts_l13) (fun _ h9 => h9) rfl dX6_counts_45 ?_
    refine lv_iconst (v := 5) hx hb dX6_counts_48 (by decide) ?_
    refine lv_iload_n hx hb dX6_counts_49 rfl (lv_at hl 1 rfl) ?_
    refine lv_iadd hx hb dX6_counts_50 ?_
    obtain ⟨hi_20, h⟩ := gi_s h
    refine xw_ald hx hb hW kl_20_2_0 rfl hi_20 dX6_counts_51 ?_
    refine lv_iload hx hb dX6_counts_52 (lv_at hl 5 rfl) ?_
    obtain ⟨r_23, μ_22, hh_21, h⟩ := bd_s h
    refine wo_Vi (rest := [.int v4]) C hW (kX6_countedOf l D g ad  hh_21) (cwV 2 hts gX6_counts_X6_countedOf rfl rfl rfl (by decide +kernel) ⟨Nat.le_of_ble_eq_true rfl, Nat.le_of_ble_eq_true rfl⟩) kl_20_50_0 co_o rfl rfl hl.1 rfl (Nat.le_of_ble_eq_true rfl) dX6_counts_54 ⟨Nat.zero_le _, Nat.zero_le _⟩ (fun H locs hW => ?_)
    refine lv_bipush (v := 9) hx hb dX6_counts_57 (by decide) ?_
    refine lv_icmp_ge (tgt := 66) hx hb dX6_counts_59 (by decide) (fun c_24 => ?_) (fun c_24 => ?_)
    · have h := ite_p c_24 h
      refine lv_iconst (v := 0) hx hb dX6_counts_66 (by decide) ?_
      exact tX6_counts_b67 C h34 hW (lv_sub hl [0, 1, 2, 3, 5] rfl) h
    have h := ite_n c_24 h
    refine lv_iconst (v := 1) hx hb dX6_counts_62 (by decide) ?_
    refine lv_goto (tgt := 67) hx hb dX6_counts_63 (by decide) ?_
    exact tX6_counts_b67 C h34 hW (lv_sub hl [0, 1, 2, 3, 5] rfl) h
set_option maxHeartbeats 4000000 in
set_option maxRecDepth 100000 in
theorem kX6_counts (l : Launch) (D : va_G) (g : G3) (ad : Ky → Nat) {v1 v2 v3 : Int32} {μ μ' : Mem} {r : Int32} (h : X6_counts v1 v2 v3 μ = some (r, μ')) : CtI l yX6_counts wsX6_counts rX6_counts D (tysX g) keysM ad (cX g ad) [.ref (ad (20, 50, 0)), .int v1, .int v2, .int v3] μ r μ' := by
  refine ctI_of (cc := cX6_counts) (maxL := 11) (ret := (some .int)) keysM_nd (by decide) rfl (Nat.le_of_ble_eq_true rfl) (fun p e s m below meth c A ls C hW hl => ?_)
  have hl : lv_has ls 11 [(0, .ref (ad (20, 50, 0))), (1, .int v1), (2, .int v2), (3, .int v3)] := hl
  obtain ⟨hx, hb, hr, hts, hown, hlocks, hml, hA⟩ := id C
  refine lv_aload_n hx hb dX6_counts_0 rfl (lv_at hl 0 rfl) ?_
  refine lv_iload_n hx hb dX6_counts_1 rfl (lv_at hl 1 rfl) ?_
  obtain ⟨r_3, μ_2, hh_1, h⟩ := bd_s h
  refine wo_Vi (rest := []) C hW (kX6_isPerson l D g ad  hh_1) (cwV 1 hts gX6_counts_X6_isPerson rfl rfl rfl (by decide +kernel) ⟨Nat.le_of_ble_eq_true rfl, Nat.le_of_ble_eq_true rfl⟩) kl_20_50_0 co_o rfl rfl hl.1 rfl (Nat.le_of_ble_eq_true rfl) dX6_counts_2 ⟨Nat.zero_le _, Nat.zero_le _⟩ (fun H locs hW => ?_)
  refine lv_if_eq (tgt := 26) hx hb dX6_counts_5 (by decide) (fun c_4 => ?_) (fun c_4 => ?_)
  · have h := ite_p c_4 h
    refine lv_iconst (v := (-1)) hx hb dX6_counts_26 (by decide) ?_
    exact xw_iret C rfl hW dX6_counts_27 h
  have h := ite_n c_4 h
  refine lv_iload_n hx hb dX6_counts_8 rfl (lv_at hl 2 rfl) ?_
  refine lv_iconst (v := 0) hx hb dX6_counts_9 (by decide) ?_
  refine lv_iconst (v := 4) hx hb dX6_counts_10 (by decide) ?_
  obtain ⟨r_7, μ_6, hh_5, h⟩ := bd_s h
  refine wo_Si (rest := []) C hW (kX6_in l D g ad  hh_5) (cwS 3 hts gX6_counts_X6_in rfl rfl rfl (by decide +kernel) ⟨Nat.le_of_ble_eq_true rfl, Nat.le_of_ble_eq_true rfl⟩) rfl hl.1 rfl (Nat.le_of_ble_eq_true rfl) dX6_counts_11 ⟨Nat.zero_le _, Nat.zero_le _⟩ (fun H locs hW => ?_)
  refine lv_if_eq (tgt := 26) hx hb dX6_counts_14 (by decide) (fun c_8 => ?_) (fun c_8 => ?_)
  · have h := ite_p c_8 h
    refine lv_iconst (v := (-1)) hx hb dX6_counts_26 (by decide) ?_
    exact xw_iret C rfl hW dX6_counts_27 h
  have h := ite_n c_8 h
  refine lv_iload_n hx hb dX6_counts_17 rfl (lv_at hl 3 rfl) ?_
  refine lv_iconst (v := 0) hx hb dX6_counts_18 (by decide) ?_
  refine lv_iconst (v := 1) hx hb dX6_counts_19 (by decide) ?_
  obtain ⟨r_11, μ_10, hh_9, h⟩ := bd_s h
  refine wo_Si (rest := []) C hW (kX6_in l D g ad  hh_9) (cwS 3 hts gX6_counts_X6_in rfl rfl rfl (by decide +kernel) ⟨Nat.le_of_ble_eq_true rfl, Nat.le_of_ble_eq_true rfl⟩) rfl hl.1 rfl (Nat.le_of_ble_eq_true rfl) dX6_counts_20 ⟨Nat.zero_le _, Nat.zero_le _⟩ (fun H locs hW => ?_)
  refine lv_if_ne (tgt := 28) hx hb dX6_counts_23 (by decide) (fun c_12 => ?_) (fun c_12 => ?_)
  · have h := ite_n c_12 h
    refine lv_iconst (v := 0) hx hb dX6_counts_28 (by decide) ?_
    refine lv_istore (lv' := [(4, .int 0), (0, .ref (ad (20, 50, 0))), (1, .int v1), (2, .int v2), (3, .int v3)]) hx hb dX6_counts_29 hl (by decide) rfl (fun ls hl => ?_)
    refine lv_iconst (v := 1) hx hb dX6_counts_31 (by decide) ?_
    refine lv_istore (lv' := [(5, .int 1), (4, .int 0), (0, .ref (ad (20, 50, 0))), (1, .int v1), (2, .int v2), (3, .int v3)]) hx hb dX6_counts_32 hl (by decide) rfl (fun ls hl => ?_)
    exact tX6_counts_b34 C 1000 _ _ _ _ _ _ hW (lv_sub hl [2, 3, 4, 5, 1, 0] rfl) h
  have h := ite_p c_12 h
  refine lv_iconst (v := (-1)) hx hb dX6_counts_26 (by decide) ?_
  exact xw_iret C rfl hW dX6_counts_27 h
abbrev rX6_keeps : Room := { frames := 0, cells := 0, slots := 0, locals := 0 }
theorem mX6_keeps_l88 : Cond.fieldLink RX6 88 "NearlyBoughtModel" "known" "I" ∈ wsX6_keeps := by decide +kernel
theorem mX6_keeps_l22 : Cond.fieldLink RX6 22 "NearlyBoughtModel" "past" "[I" ∈ wsX6_keeps := by decide +kernel
theorem mX6_keeps_l19 : Cond.fieldLink RX6 19 "NearlyBoughtModel" "s" "[I" ∈ wsX6_keeps := by decide +kernel
theorem iX6_keeps_6 : ∀ w ∈ wsX60, w ∈ wsX6_keeps := fun _ h => List.mem_cons_of_mem _ (List.mem_append_right _ h)
set_option maxHeartbeats 4000000 in
set_option maxRecDepth 100000 in
theorem tX6_keeps_b51 {p : Program} {l : Launch} {e : Env} {s : State} {m : MethodId} {args : Array Value} {below : List Frame} {meth : Method} {c : Code} {A : Nat → Prop} {D : va_G} {g : G3} {ad : Ky → Nat} (C : Cx p s m args meth c cX6_keeps none 2 RX6 wsX6_keeps A) {μ0 : Mem} (n : Nat) : ∀ (v1 : Int32) (μ : Mem) (H : Heap) (locs : List Loc) (ls : Array Slot), WX D g keysM ad A s s.heap μ H locs → lv_has ls 2 [(0, .ref (ad (20, 50, 0))), (1, .int v1)] → lo1 (X6_keeps_b51) n v1 μ = some μ0 → TgV p l e rX6_keeps s m args below meth c D g keysM ad A μ0 H locs (F0 m 51 ls []) := by
  obtain ⟨hx, hb, hr, hts, hown, hlocks, hml, hA⟩ := id C
  induction n with
  | zero =>
    intro v1 μ H locs ls hW hl h
    cases h
  | succ n h51 =>
    intro v1 μ H locs ls hW hl h
    have h : X6_keeps_b51 (lo1 (X6_keeps_b51) n) v1 μ = some μ0 := h
    refine lv_iload_n hx hb dX6_keeps_51 rfl (lv_at hl 1 rfl) ?_
    refine lv_bipush (v := 55) hx hb dX6_keeps_52 (by decide) ?_
    refine lv_icmp_ge (tgt := 83) hx hb dX6_keeps_54 (by decide) (fun c_2 => ?_) (fun c_2 => ?_)
    · have h := ite_p c_2 h
      refine lv_aload_n hx hb dX6_keeps_83 rfl (lv_at hl 0 rfl) ?_
      refine lv_dup hx hb dX6_keeps_84 rfl ?_
      refine wo_get (C := RX6) (T := TX6) (N := 14) hx hb hts iX6_keeps_6 hown hW kl_20_50_0 co_o rfl 6 (by decide) (hts _ mX6_keeps_l88) (fun _ h9 => h9) rfl dX6_keeps_85 ?_
      refine lv_iconst (v := 1) hx hb dX6_keeps_88 (by decide) ?_
      refine lv_iadd hx hb dX6_keeps_89 ?_
      refine xw_put (C := RX6) (T := TX6) (N := 14) hx hb hts iX6_keeps_6 tyX6 tyX6_ok nmX6 hown hW kl_20_50_0 co_o rfl 6 (by decide) (hts _ mX6_keeps_l88) (fun _ h9 => h9) rfl (by decide +kernel) (Nat.le_of_ble_eq_true rfl) keysM_ok rfl (po_6 _) dX6_keeps_90 (fun H locs hW => ?_)
      exact xw_vret C rfl hW dX6_keeps_93 h
    have h := ite_n c_2 h
    refine lv_aload_n hx hb dX6_keeps_57 rfl (lv_at hl 0 rfl) ?_
    refine wo_get (C := RX6) (T := TX6) (N := 14) hx hb hts iX6_keeps_6 hown hW kl_20_50_0 co_o rfl 5 (by decide) (hts _ mX6_keeps_l22) (fun _ h9 => h9) rfl dX6_keeps_58 ?_
    refine lv_bipush (v := 55) hx hb dX6_keeps_61 (by decide) ?_
    refine lv_aload_n hx hb dX6_keeps_63 rfl (lv_at hl 0 rfl) ?_
    refine wo_get (C := RX6) (T := TX6) (N := 14) hx hb hts iX6_keeps_6 hown hW kl_20_50_0 co_o rfl 6 (by decide) (hts _ mX6_keeps_l88) (fun _ h9 => h9) rfl dX6_keeps_64 ?_
    refine lv_imul hx hb dX6_keeps_67 ?_
    refine lv_iload_n hx hb dX6_keeps_68 rfl (lv_at hl 1 rfl) ?_
    refine lv_iadd hx hb dX6_keeps_69 ?_
    refine lv_aload_n hx hb dX6_keeps_70 rfl (lv_at hl 0 rfl) ?_
    refine wo_get (C := RX6) (T := TX6) (N := 14) hx hb hts iX6_keeps_6 hown hW kl_20_50_0 co_o rfl 4 (by decide) (hts _ mX6_keeps_l19) (fun _ h9 => h9) rfl dX6_keeps_71 ?_
    refine lv_iload_n hx hb dX6_keeps_74 rfl (lv_at hl 1 rfl) ?_
    obtain ⟨hi_3, h⟩ := gi_s h
    refine xw_ald hx hb hW kl_20_4_0 rfl hi_3 dX6_keeps_75 ?_
    obtain ⟨hi_4, h⟩ := gi_s h
    refine xw_ast hx hb hW kl_20_5_0 (fun _ => rfl) rfl hi_4 dX6_keeps_76 (fun H locs hW => ?_)
    refine lv_iinc (v := v1 + 1) (lv' := [(1, .int (v1 + 1)), (0, .ref (ad (20, 50, 0)))]) hx hb dX6_keeps_77 hl (k := 1) rfl rfl (by decide) rfl (fun ls hl => ?_)
    refine lv_goto (tgt := 51) hx hb dX6_keeps_80 (by decide) ?_
    exact h51 _ _ _ _ _ hW (lv_sub hl [1, 0] rfl) h
set_option maxHeartbeats 4000000 in
set_option maxRecDepth 100000 in
theorem tX6_keeps_b49 {p : Program} {l : Launch} {e : Env} {s : State} {m : MethodId} {args : Array Value} {below : List Frame} {meth : Method} {c : Code} {A : Nat → Prop} {D : va_G} {g : G3} {ad : Ky → Nat} (C : Cx p s m args meth c cX6_keeps none 2 RX6 wsX6_keeps A) {μ0 : Mem} {μ : Mem} {H : Heap} {locs : List Loc} {ls : Array Slot} (hW : WX D g keysM ad A s s.heap μ H locs) (hl : lv_has ls 2 [(0, .ref (ad (20, 50, 0)))]) (h : X6_keeps_b49 μ = some μ0) : TgV p l e rX6_keeps s m args below meth c D g keysM ad A μ0 H locs (F0 m 49 ls []) := by
  obtain ⟨hx, hb, hr, hts, hown, hlocks, hml, hA⟩ := id C
  refine lv_iconst (v := 0) hx hb dX6_keeps_49 (by decide) ?_
  refine lv_istore_n (lv' := [(1, .int 0), (0, .ref (ad (20, 50, 0)))]) hx hb dX6_keeps_50 rfl hl (by decide) rfl (fun ls hl => ?_)
  exact tX6_keeps_b51 C 1000 _ _ _ _ _ hW (lv_sub hl [1, 0] rfl) h
set_option maxHeartbeats 4000000 in
set_option maxRecDepth 100000 in
theorem tX6_keeps_b11 {p : Program} {l : Launch} {e : Env} {s : State} {m : MethodId} {args : Array Value} {below : List Frame} {meth : Method} {c : Code} {A : Nat → Prop} {D : va_G} {g : G3} {ad : Ky → Nat} (C : Cx p s m args meth c cX6_keeps none 2 RX6 wsX6_keeps A) {μ0 : Mem} (n : Nat) : ∀ (v1 : Int32) (μ : Mem) (H : Heap) (locs : List Loc) (ls : Array Slot), WX D g keysM ad A s s.heap μ H locs → lv_has ls 2 [(0, .ref (ad (20, 50, 0))), (1, .int v1)] → lo1 (X6_keeps_b11) n v1 μ = some μ0 → TgV p l e rX6_keeps s m args below meth c D g keysM ad A μ0 H locs (F0 m 11 ls []) := by
  obtain ⟨hx, hb, hr, hts, hown, hlocks, hml, hA⟩ := id C
  induction n with
  | zero =>
    intro v1 μ H locs ls hW hl h
    cases h
  | succ n h11 =>
    intro v1 μ H locs ls hW hl h
    have h : X6_keeps_b11 (lo1 (X6_keeps_b11) n) v1 μ = some μ0 := h
    refine lv_iload_n hx hb dX6_keeps_11 rfl (lv_at hl 1 rfl) ?_
    refine lv_sipush (v := 385) hx hb dX6_keeps_12 (by decide) ?_
    refine lv_icmp_ge (tgt := 39) hx hb dX6_keeps_15 (by decide) (fun c_5 => ?_) (fun c_5 => ?_)
    · have h := ite_p c_5 h
      refine lv_aload_n hx hb dX6_keeps_39 rfl (lv_at hl 0 rfl) ?_
      refine lv_dup hx hb dX6_keeps_40 rfl ?_
      refine wo_get (C := RX6) (T := TX6) (N := 14) hx hb hts iX6_keeps_6 hown hW kl_20_50_0 co_o rfl 6 (by decide) (hts _ mX6_keeps_l88) (fun _ h9 => h9) rfl dX6_keeps_41 ?_
      refine lv_iconst (v := 1) hx hb dX6_keeps_44 (by decide) ?_
      refine lv_isub hx hb dX6_keeps_45 ?_
      refine xw_put (C := RX6) (T := TX6) (N := 14) hx hb hts iX6_keeps_6 tyX6 tyX6_ok nmX6 hown hW kl_20_50_0 co_o rfl 6 (by decide) (hts _ mX6_keeps_l88) (fun _ h9 => h9) rfl (by decide +kernel) (Nat.le_of_ble_eq_true rfl) keysM_ok rfl (po_6 _) dX6_keeps_46 (fun H locs hW => ?_)
      exact tX6_keeps_b49 C hW (lv_sub hl [0] rfl) h
    have h := ite_n c_5 h
    refine lv_aload_n hx hb dX6_keeps_18 rfl (lv_at hl 0 rfl) ?_
    refine wo_get (C := RX6) (T := TX6) (N := 14) hx hb hts iX6_keeps_6 hown hW kl_20_50_0 co_o rfl 5 (by decide) (hts _ mX6_keeps_l22) (fun _ h9 => h9) rfl dX6_keeps_19 ?_
    refine lv_iload_n hx hb dX6_keeps_22 rfl (lv_at hl 1 rfl) ?_
    refine lv_aload_n hx hb dX6_keeps_23 rfl (lv_at hl 0 rfl) ?_
    refine wo_get (C := RX6) (T := TX6) (N := 14) hx hb hts iX6_keeps_6 hown hW kl_20_50_0 co_o rfl 5 (by decide) (hts _ mX6_keeps_l22) (fun _ h9 => h9) rfl dX6_keeps_24 ?_
    refine lv_iload_n hx hb dX6_keeps_27 rfl (lv_at hl 1 rfl) ?_
    refine lv_bipush (v := 55) hx hb dX6_keeps_28 (by decide) ?_
    refine lv_iadd hx hb dX6_keeps_30 ?_
    obtain ⟨hi_6, h⟩ := gi_s h
    refine xw_ald hx hb hW kl_20_5_0 rfl hi_6 dX6_keeps_31 ?_
    obtain ⟨hi_7, h⟩ := gi_s h
    refine xw_ast hx hb hW kl_20_5_0 (fun _ => rfl) rfl hi_7 dX6_keeps_32 (fun H locs hW => ?_)
    refine lv_iinc (v := v1 + 1) (lv' := [(1, .int (v1 + 1)), (0, .ref (ad (20, 50, 0)))]) hx hb dX6_keeps_33 hl (k := 1) rfl rfl (by decide) rfl (fun ls hl => ?_)
    refine lv_goto (tgt := 11) hx hb dX6_keeps_36 (by decide) ?_
    exact h11 _ _ _ _ _ hW (lv_sub hl [1, 0] rfl) h
set_option maxHeartbeats 4000000 in
set_option maxRecDepth 100000 in
theorem kX6_keeps (l : Launch) (D : va_G) (g : G3) (ad : Ky → Nat) {μ μ' : Mem} (h : X6_keeps μ = some μ') : CtV l yX6_keeps wsX6_keeps rX6_keeps D (tysX g) keysM ad (cX g ad) [.ref (ad (20, 50, 0))] μ μ' := by
  refine ctV_of (cc := cX6_keeps) (maxL := 2) (ret := none) keysM_nd (by decide) rfl (Nat.le_of_ble_eq_true rfl) (fun p e s m below meth c A ls C hW hl => ?_)
  have hl : lv_has ls 2 [(0, .ref (ad (20, 50, 0)))] := hl
  obtain ⟨hx, hb, hr, hts, hown, hlocks, hml, hA⟩ := id C
  refine lv_aload_n hx hb dX6_keeps_0 rfl (lv_at hl 0 rfl) ?_
  refine wo_get (C := RX6) (T := TX6) (N := 14) hx hb hts iX6_keeps_6 hown hW kl_20_50_0 co_o rfl 6 (by decide) (hts _ mX6_keeps_l88) (fun _ h9 => h9) rfl dX6_keeps_1 ?_
  refine lv_bipush (v := 8) hx hb dX6_keeps_4 (by decide) ?_
  refine lv_icmp_ne (tgt := 49) hx hb dX6_keeps_6 (by decide) (fun c_1 => ?_) (fun c_1 => ?_)
  · have h := ite_n c_1 h
    exact tX6_keeps_b49 C hW (lv_sub hl [0] rfl) h
  have h := ite_p c_1 h
  refine lv_iconst (v := 0) hx hb dX6_keeps_9 (by decide) ?_
  refine lv_istore_n (lv' := [(1, .int 0), (0, .ref (ad (20, 50, 0)))]) hx hb dX6_keeps_10 rfl hl (by decide) rfl (fun ls hl => ?_)
  exact tX6_keeps_b11 C 1000 _ _ _ _ _ hW (lv_sub hl [1, 0] rfl) h
abbrev rX6_fair : Room := { frames := 7, cells := 0, slots := 0, locals := 163 }
theorem mX6_fair_l19 : Cond.fieldLink RX6 19 "NearlyBoughtModel" "s" "[I" ∈ wsX6_fair := by decide +kernel
theorem iX6_fair_6 : ∀ w ∈ wsX60, w ∈ wsX6_fair := fun _ h => List.mem_cons_of_mem _ (List.mem_append_right _ h)
set_option maxHeartbeats 4000000 in
set_option maxRecDepth 100000 in
theorem kX6_fair (l : Launch) (D : va_G) (g : G3) (ad : Ky → Nat) {μ μ' : Mem} {r : Int32} (h : X6_fair μ = some (r, μ')) : CtI l yX6_fair wsX6_fair rX6_fair D (tysX g) keysM ad (cX g ad) [.ref (ad (20, 50, 0))] μ r μ' := by
  refine ctI_of (cc := cX6_fair) (maxL := 1) (ret := (some .int)) keysM_nd (by decide) rfl (Nat.le_of_ble_eq_true rfl) (fun p e s m below meth c A ls C hW hl => ?_)
  have hl : lv_has ls 1 [(0, .ref (ad (20, 50, 0)))] := hl
  obtain ⟨hx, hb, hr, hts, hown, hlocks, hml, hA⟩ := id C
  refine lv_aload_n hx hb dX6_fair_0 rfl (lv_at hl 0 rfl) ?_
  refine wo_get (C := RX6) (T := TX6) (N := 14) hx hb hts iX6_fair_6 hown hW kl_20_50_0 co_o rfl 4 (by decide) (hts _ mX6_fair_l19) (fun _ h9 => h9) rfl dX6_fair_1 ?_
  refine lv_bipush (v := 54) hx hb dX6_fair_4 (by decide) ?_
  obtain ⟨hi_1, h⟩ := gi_s h
  refine xw_ald hx hb hW kl_20_4_0 rfl hi_1 dX6_fair_6 ?_
  refine lv_bipush (v := 99) hx hb dX6_fair_7 (by decide) ?_
  refine lv_icmp_ne (tgt := 15) hx hb dX6_fair_9 (by decide) (fun c_2 => ?_) (fun c_2 => ?_)
  · have h := ite_n c_2 h
    refine lv_aload_n hx hb dX6_fair_15 rfl (lv_at hl 0 rfl) ?_
    obtain ⟨μ_4, hh_3, h⟩ := bdv_s h
    refine wo_Vv (rest := []) C hW (kX6_keeps l D g ad  hh_3) (cwV 0 hts gX6_fair_X6_keeps rfl rfl rfl (by decide +kernel) ⟨Nat.le_of_ble_eq_true rfl, Nat.le_of_ble_eq_true rfl⟩) kl_20_50_0 co_o rfl rfl hl.1 rfl (Nat.le_of_ble_eq_true rfl) dX6_fair_16 ⟨Nat.zero_le _, Nat.zero_le _⟩ (fun H locs hW => ?_)
    refine lv_aload_n hx hb dX6_fair_19 rfl (lv_at hl 0 rfl) ?_
    obtain ⟨r_7, μ_6, hh_5, h⟩ := bd_s h
    refine wo_Vi (rest := []) C hW (kX6_holds l D g ad  hh_5) (cwV 0 hts gX6_fair_X6_holds rfl rfl rfl (by decide +kernel) ⟨Nat.le_of_ble_eq_true rfl, Nat.le_of_ble_eq_true rfl⟩) kl_20_50_0 co_o rfl rfl hl.1 rfl (Nat.le_of_ble_eq_true rfl) dX6_fair_20 ⟨Nat.zero_le _, Nat.zero_le _⟩ (fun H locs hW => ?_)
    exact xw_iret C rfl hW dX6_fair_23 h
  have h := ite_p c_2 h
  refine lv_bipush (v := (-2)) hx hb dX6_fair_12 (by decide) ?_
  exact xw_iret C rfl hW dX6_fair_14 h
abbrev rX6_letterAt : Room := { frames := 0, cells := 0, slots := 0, locals := 0 }
theorem mX6_letterAt_l60 : Cond.fieldLink RX6 60 "NearlyBoughtModel" "typed" "I" ∈ wsX6_letterAt := by decide +kernel
theorem mX6_letterAt_l7 : Cond.fieldLink RX6 7 "NearlyBoughtModel" "text" "[I" ∈ wsX6_letterAt := by decide +kernel
theorem iX6_letterAt_6 : ∀ w ∈ wsX60, w ∈ wsX6_letterAt := fun _ h => List.mem_cons_of_mem _ (List.mem_append_right _ h)
set_option maxHeartbeats 4000000 in
set_option maxRecDepth 100000 in
theorem kX6_letterAt (l : Launch) (D : va_G) (g : G3) (ad : Ky → Nat) {v1 : Int32} {μ μ' : Mem} {r : Int32} (h : X6_letterAt v1 μ = some (r, μ')) : CtI l yX6_letterAt wsX6_letterAt rX6_letterAt D (tysX g) keysM ad (cX g ad) [.ref (ad (20, 50, 0)), .int v1] μ r μ' := by
  refine ctI_of (cc := cX6_letterAt) (maxL := 2) (ret := (some .int)) keysM_nd (by decide) rfl (Nat.le_of_ble_eq_true rfl) (fun p e s m below meth c A ls C hW hl => ?_)
  have hl : lv_has ls 2 [(0, .ref (ad (20, 50, 0))), (1, .int v1)] := hl
  obtain ⟨hx, hb, hr, hts, hown, hlocks, hml, hA⟩ := id C
  refine lv_iload_n hx hb dX6_letterAt_0 rfl (lv_at hl 1 rfl) ?_
  refine lv_aload_n hx hb dX6_letterAt_1 rfl (lv_at hl 0 rfl) ?_
  refine wo_get (C := RX6) (T := TX6) (N := 14) hx hb hts iX6_letterAt_6 hown hW kl_20_50_0 co_o rfl 1 (by decide) (hts _ mX6_letterAt_l60) (fun _ h9 => h9) rfl dX6_letterAt_2 ?_
  refine lv_icmp_ge (tgt := 17) hx hb dX6_letterAt_5 (by decide) (fun c_1 => ?_) (fun c_1 => ?_)
  · have h := ite_p c_1 h
    refine lv_iconst (v := (-1)) hx hb dX6_letterAt_17 (by decide) ?_
    exact xw_iret C rfl hW dX6_letterAt_18 h
  have h := ite_n c_1 h
  refine lv_aload_n hx hb dX6_letterAt_8 rfl (lv_at hl 0 rfl) ?_
  refine wo_get (C := RX6) (T := TX6) (N := 14) hx hb hts iX6_letterAt_6 hown hW kl_20_50_0 co_o rfl 0 (by decide) (hts _ mX6_letterAt_l7) (fun _ h9 => h9) rfl dX6_letterAt_9 ?_
  refine lv_iload_n hx hb dX6_letterAt_12 rfl (lv_at hl 1 rfl) ?_
  obtain ⟨hi_2, h⟩ := gi_s h
  refine xw_ald hx hb hW kl_20_0_0 rfl hi_2 dX6_letterAt_13 ?_
  refine lv_goto (tgt := 18) hx hb dX6_letterAt_14 (by decide) ?_
  exact xw_iret C rfl hW dX6_letterAt_18 h
abbrev rX6_isFigure : Room := { frames := 1, cells := 0, slots := 0, locals := 22 }
set_option maxHeartbeats 4000000 in
set_option maxRecDepth 100000 in
theorem kX6_isFigure (l : Launch) (D : va_G) (g : G3) (ad : Ky → Nat) {v0 : Int32} {μ μ' : Mem} {r : Int32} (h : X6_isFigure v0 μ = some (r, μ')) : CtI l yX6_isFigure wsX6_isFigure rX6_isFigure D (tysX g) keysM ad (cX g ad) [.int v0] μ r μ' := by
  refine ctI_of (cc := cX6_isFigure) (maxL := 1) (ret := (some .boolean)) keysM_nd (by decide) rfl (Nat.le_of_ble_eq_true rfl) (fun p e s m below meth c A ls C hW hl => ?_)
  have hl : lv_has ls 1 [(0, .int v0)] := hl
  obtain ⟨hx, hb, hr, hts, hown, hlocks, hml, hA⟩ := id C
  refine lv_iload_n hx hb dX6_isFigure_0 rfl (lv_at hl 0 rfl) ?_
  refine lv_bipush (v := 48) hx hb dX6_isFigure_1 (by decide) ?_
  refine lv_bipush (v := 57) hx hb dX6_isFigure_3 (by decide) ?_
  obtain ⟨r_3, μ_2, hh_1, h⟩ := bd_s h
  refine wo_Si (rest := []) C hW (kX6_in l D g ad  hh_1) (cwS 3 hts gX6_isFigure_X6_in rfl rfl rfl (by decide +kernel) ⟨Nat.le_of_ble_eq_true rfl, Nat.le_of_ble_eq_true rfl⟩) rfl hl.1 rfl (Nat.le_of_ble_eq_true rfl) dX6_isFigure_5 ⟨Nat.zero_le _, Nat.zero_le _⟩ (fun H locs hW => ?_)
  obtain ⟨hb_4, h⟩ := gb_s h
  exact xw_zret C rfl hb_4 hW dX6_isFigure_8 h
abbrev rX6_number : Room := { frames := 2, cells := 0, slots := 0, locals := 42 }
theorem mX6_number_l63 : Cond.fieldLink RX6 63 "NearlyBoughtModel" "at" "I" ∈ wsX6_number := by decide +kernel
theorem iX6_number_6 : ∀ w ∈ wsX60, w ∈ wsX6_number := fun _ h => List.mem_cons_of_mem _ (List.mem_append_right _ h)
set_option maxHeartbeats 4000000 in
set_option maxRecDepth 100000 in
theorem tX6_number_b109 {p : Program} {l : Launch} {e : Env} {s : State} {m : MethodId} {args : Array Value} {below : List Frame} {meth : Method} {c : Code} {A : Nat → Prop} {D : va_G} {g : G3} {ad : Ky → Nat} (C : Cx p s m args meth c cX6_number (some .int) 6 RX6 wsX6_number A) {r0 : Int32} {μ0 : Mem} {v4 s0 : Int32} {μ : Mem} {H : Heap} {locs : List Loc} {ls : Array Slot} (hW : WX D g keysM ad A s s.heap μ H locs) (hl : lv_has ls 6 [(0, .ref (ad (20, 50, 0))), (4, .int v4)]) (h : X6_number_b109 v4 s0 μ = some (r0, μ0)) : TgI r0 p l e rX6_number s m args below meth c D g keysM ad A μ0 H locs (F0 m 109 ls [.int s0]) := by
  obtain ⟨hx, hb, hr, hts, hown, hlocks, hml, hA⟩ := id C
  refine lv_istore (lv' := [(5, .int s0), (0, .ref (ad (20, 50, 0))), (4, .int v4)]) hx hb dX6_number_109 hl (by decide) rfl (fun ls hl => ?_)
  refine lv_aload_n hx hb dX6_number_111 rfl (lv_at hl 1 rfl) ?_
  refine lv_dup hx hb dX6_number_112 rfl ?_
  refine wo_get (C := RX6) (T := TX6) (N := 14) hx hb hts iX6_number_6 hown hW kl_20_50_0 co_o rfl 11 (by decide) (hts _ mX6_number_l63) (fun _ h9 => h9) rfl dX6_number_113 ?_
  refine lv_iconst (v := 1) hx hb dX6_number_116 (by decide) ?_
  refine lv_iadd hx hb dX6_number_117 ?_
  refine xw_put (C := RX6) (T := TX6) (N := 14) hx hb hts iX6_number_6 tyX6 tyX6_ok nmX6 hown hW kl_20_50_0 co_o rfl 11 (by decide) (hts _ mX6_number_l63) (fun _ h9 => h9) rfl (by decide +kernel) (Nat.le_of_ble_eq_true rfl) keysM_ok rfl (po_11 _) dX6_number_118 (fun H locs hW => ?_)
  refine lv_iload hx hb dX6_number_121 (lv_at hl 0 rfl) ?_
  refine lv_if_eq (tgt := 131) hx hb dX6_number_123 (by decide) (fun c_22 => ?_) (fun c_22 => ?_)
  · have h := ite_p c_22 h
    refine lv_iconst (v := (-1)) hx hb dX6_number_131 (by decide) ?_
    exact xw_iret C rfl hW dX6_number_132 h
  have h := ite_n c_22 h
  refine lv_iload hx hb dX6_number_126 (lv_at hl 2 rfl) ?_
  refine lv_goto (tgt := 132) hx hb dX6_number_128 (by decide) ?_
  exact xw_iret C rfl hW dX6_number_132 h
set_option maxHeartbeats 4000000 in
set_option maxRecDepth 100000 in
theorem tX6_number_b108 {p : Program} {l : Launch} {e : Env} {s : State} {m : MethodId} {args : Array Value} {below : List Frame} {meth : Method} {c : Code} {A : Nat → Prop} {D : va_G} {g : G3} {ad : Ky → Nat} (C : Cx p s m args meth c cX6_number (some .int) 6 RX6 wsX6_number A) {r0 : Int32} {μ0 : Mem} {v4 : Int32} {μ : Mem} {H : Heap} {locs : List Loc} {ls : Array Slot} (hW : WX D g keysM ad A s s.heap μ H locs) (hl : lv_has ls 6 [(0, .ref (ad (20, 50, 0))), (4, .int v4)]) (h : X6_number_b108 v4 μ = some (r0, μ0)) : TgI r0 p l e rX6_number s m args below meth c D g keysM ad A μ0 H locs (F0 m 108 ls []) := by
  obtain ⟨hx, hb, hr, hts, hown, hlocks, hml, hA⟩ := id C
  refine lv_iconst (v := 0) hx hb dX6_number_108 (by decide) ?_
  exact tX6_number_b109 C hW (lv_sub hl [0, 1] rfl) h
set_option maxHeartbeats 4000000 in
set_option maxRecDepth 100000 in
theorem tX6_number_b82 {p : Program} {l : Launch} {e : Env} {s : State} {m : MethodId} {args : Array Value} {below : List Frame} {meth : Method} {c : Code} {A : Nat → Prop} {D : va_G} {g : G3} {ad : Ky → Nat} (C : Cx p s m args meth c cX6_number (some .int) 6 RX6 wsX6_number A) {r0 : Int32} {μ0 : Mem} {v1 v2 v3 v4 : Int32} {μ : Mem} {H : Heap} {locs : List Loc} {ls : Array Slot} (hW : WX D g keysM ad A s s.heap μ H locs) (hl : lv_has ls 6 [(0, .ref (ad (20, 50, 0))), (1, .int v1), (2, .int v2), (3, .int v3), (4, .int v4)]) (h : X6_number_b82 v1 v2 v3 v4 μ = some (r0, μ0)) : TgI r0 p l e rX6_number s m args below meth c D g keysM ad A μ0 H locs (F0 m 82 ls []) := by
  obtain ⟨hx, hb, hr, hts, hown, hlocks, hml, hA⟩ := id C
  refine lv_aload_n hx hb dX6_number_82 rfl (lv_at hl 0 rfl) ?_
  refine lv_aload_n hx hb dX6_number_83 rfl (lv_at hl 0 rfl) ?_
  refine wo_get (C := RX6) (T := TX6) (N := 14) hx hb hts iX6_number_6 hown hW kl_20_50_0 co_o rfl 11 (by decide) (hts _ mX6_number_l63) (fun _ h9 => h9) rfl dX6_number_84 ?_
  obtain ⟨r_20, μ_19, hh_18, h⟩ := bd_s h
  refine wo_Vi (rest := []) C hW (kX6_letterAt l D g ad  hh_18) (cwV 1 hts gX6_number_X6_letterAt rfl rfl rfl (by decide +kernel) ⟨Nat.le_of_ble_eq_true rfl, Nat.le_of_ble_eq_true rfl⟩) kl_20_50_0 co_o rfl rfl hl.1 rfl (Nat.le_of_ble_eq_true rfl) dX6_number_87 ⟨Nat.zero_le _, Nat.zero_le _⟩ (fun H locs hW => ?_)
  refine lv_iload_n hx hb dX6_number_90 rfl (lv_at hl 3 rfl) ?_
  refine lv_icmp_ne (tgt := 108) hx hb dX6_number_91 (by decide) (fun c_21 => ?_) (fun c_21 => ?_)
  · have h := ite_n c_21 h
    exact tX6_number_b108 C hW (lv_sub hl [0, 4] rfl) h
  have h := ite_p c_21 h
  refine lv_iload hx hb dX6_number_94 (lv_at hl 4 rfl) ?_
  refine lv_iload_n hx hb dX6_number_96 rfl (lv_at hl 1 rfl) ?_
  refine lv_iload_n hx hb dX6_number_97 rfl (lv_at hl 2 rfl) ?_
  obtain ⟨r_25, μ_24, hh_23, h⟩ := bd_s h
  refine wo_Si (rest := []) C hW (kX6_in l D g ad  hh_23) (cwS 3 hts gX6_number_X6_in rfl rfl rfl (by decide +kernel) ⟨Nat.le_of_ble_eq_true rfl, Nat.le_of_ble_eq_true rfl⟩) rfl hl.1 rfl (Nat.le_of_ble_eq_true rfl) dX6_number_98 ⟨Nat.zero_le _, Nat.zero_le _⟩ (fun H locs hW => ?_)
  refine lv_if_eq (tgt := 108) hx hb dX6_number_101 (by decide) (fun c_26 => ?_) (fun c_26 => ?_)
  · have h := ite_p c_26 h
    exact tX6_number_b108 C hW (lv_sub hl [0, 4] rfl) h
  have h := ite_n c_26 h
  refine lv_iconst (v := 1) hx hb dX6_number_104 (by decide) ?_
  refine lv_goto (tgt := 109) hx hb dX6_number_105 (by decide) ?_
  exact tX6_number_b109 C hW (lv_sub hl [0, 4] rfl) h
set_option maxHeartbeats 4000000 in
set_option maxRecDepth 100000 in
theorem kX6_number (l : Launch) (D : va_G) (g : G3) (ad : Ky → Nat) {v1 v2 v3 : Int32} {μ μ' : Mem} {r : Int32} (h : X6_number v1 v2 v3 μ = some (r, μ')) : CtI l yX6_number wsX6_number rX6_number D (tysX g) keysM ad (cX g ad) [.ref (ad (20, 50, 0)), .int v1, .int v2, .int v3] μ r μ' := by
  refine ctI_of (cc := cX6_number) (maxL := 6) (ret := (some .int)) keysM_nd (by decide) rfl (Nat.le_of_ble_eq_true rfl) (fun p e s m below meth c A ls C hW hl => ?_)
  have hl : lv_has ls 6 [(0, .ref (ad (20, 50, 0))), (1, .int v1), (2, .int v2), (3, .int v3)] := hl
  obtain ⟨hx, hb, hr, hts, hown, hlocks, hml, hA⟩ := id C
  refine lv_aload_n hx hb dX6_number_0 rfl (lv_at hl 0 rfl) ?_
  refine lv_aload_n hx hb dX6_number_1 rfl (lv_at hl 0 rfl) ?_
  refine wo_get (C := RX6) (T := TX6) (N := 14) hx hb hts iX6_number_6 hown hW kl_20_50_0 co_o rfl 11 (by decide) (hts _ mX6_number_l63) (fun _ h9 => h9) rfl dX6_number_2 ?_
  obtain ⟨r_3, μ_2, hh_1, h⟩ := bd_s h
  refine wo_Vi (rest := []) C hW (kX6_letterAt l D g ad  hh_1) (cwV 1 hts gX6_number_X6_letterAt rfl rfl rfl (by decide +kernel) ⟨Nat.le_of_ble_eq_true rfl, Nat.le_of_ble_eq_true rfl⟩) kl_20_50_0 co_o rfl rfl hl.1 rfl (Nat.le_of_ble_eq_true rfl) dX6_number_5 ⟨Nat.zero_le _, Nat.zero_le _⟩ (fun H locs hW => ?_)
  obtain ⟨r_6, μ_5, hh_4, h⟩ := bd_s h
  refine wo_Si (rest := []) C hW (kX6_isFigure l D g ad  hh_4) (cwS 1 hts gX6_number_X6_isFigure rfl rfl rfl (by decide +kernel) ⟨Nat.le_of_ble_eq_true rfl, Nat.le_of_ble_eq_true rfl⟩) rfl hl.1 rfl (Nat.le_of_ble_eq_true rfl) dX6_number_8 ⟨Nat.zero_le _, Nat.zero_le _⟩ (fun H locs hW => ?_)
  refine lv_if_ne (tgt := 16) hx hb dX6_number_11 (by decide) (fun c_7 => ?_) (fun c_7 => ?_)
  · have h := ite_n c_7 h
    refine lv_aload_n hx hb dX6_number_16 rfl (lv_at hl 0 rfl) ?_
    refine lv_aload_n hx hb dX6_number_17 rfl (lv_at hl 0 rfl) ?_
    refine wo_get (C := RX6) (T := TX6) (N := 14) hx hb hts iX6_number_6 hown hW kl_20_50_0 co_o rfl 11 (by decide) (hts _ mX6_number_l63) (fun _ h9 => h9) rfl dX6_number_18 ?_
    obtain ⟨r_10, μ_9, hh_8, h⟩ := bd_s h
    refine wo_Vi (rest := []) C hW (kX6_letterAt l D g ad  hh_8) (cwV 1 hts gX6_number_X6_letterAt rfl rfl rfl (by decide +kernel) ⟨Nat.le_of_ble_eq_true rfl, Nat.le_of_ble_eq_true rfl⟩) kl_20_50_0 co_o rfl rfl hl.1 rfl (Nat.le_of_ble_eq_true rfl) dX6_number_21 ⟨Nat.zero_le _, Nat.zero_le _⟩ (fun H locs hW => ?_)
    refine lv_bipush (v := 48) hx hb dX6_number_24 (by decide) ?_
    refine lv_isub hx hb dX6_number_26 ?_
    refine lv_istore (lv' := [(4, .int (r_10 - 48)), (0, .ref (ad (20, 50, 0))), (1, .int v1), (2, .int v2), (3, .int v3)]) hx hb dX6_number_27 hl (by decide) rfl (fun ls hl => ?_)
    refine lv_aload_n hx hb dX6_number_29 rfl (lv_at hl 1 rfl) ?_
    refine lv_dup hx hb dX6_number_30 rfl ?_
    refine wo_get (C := RX6) (T := TX6) (N := 14) hx hb hts iX6_number_6 hown hW kl_20_50_0 co_o rfl 11 (by decide) (hts _ mX6_number_l63) (fun _ h9 => h9) rfl dX6_number_31 ?_
    refine lv_iconst (v := 1) hx hb dX6_number_34 (by decide) ?_
    refine lv_iadd hx hb dX6_number_35 ?_
    refine xw_put (C := RX6) (T := TX6) (N := 14) hx hb hts iX6_number_6 tyX6 tyX6_ok nmX6 hown hW kl_20_50_0 co_o rfl 11 (by decide) (hts _ mX6_number_l63) (fun _ h9 => h9) rfl (by decide +kernel) (Nat.le_of_ble_eq_true rfl) keysM_ok rfl (po_11 _) dX6_number_36 (fun H locs hW => ?_)
    refine lv_aload_n hx hb dX6_number_39 rfl (lv_at hl 1 rfl) ?_
    refine lv_aload_n hx hb dX6_number_40 rfl (lv_at hl 1 rfl) ?_
    refine wo_get (C := RX6) (T := TX6) (N := 14) hx hb hts iX6_number_6 hown hW kl_20_50_0 co_o rfl 11 (by decide) (hts _ mX6_number_l63) (fun _ h9 => h9) rfl dX6_number_41 ?_
    obtain ⟨r_13, μ_12, hh_11, h⟩ := bd_s h
    refine wo_Vi (rest := []) C hW (kX6_letterAt l D g ad  hh_11) (cwV 1 hts gX6_number_X6_letterAt rfl rfl rfl (by decide +kernel) ⟨Nat.le_of_ble_eq_true rfl, Nat.le_of_ble_eq_true rfl⟩) kl_20_50_0 co_o rfl rfl hl.1 rfl (Nat.le_of_ble_eq_true rfl) dX6_number_44 ⟨Nat.zero_le _, Nat.zero_le _⟩ (fun H locs hW => ?_)
    obtain ⟨r_16, μ_15, hh_14, h⟩ := bd_s h
    refine wo_Si (rest := []) C hW (kX6_isFigure l D g ad  hh_14) (cwS 1 hts gX6_number_X6_isFigure rfl rfl rfl (by decide +kernel) ⟨Nat.le_of_ble_eq_true rfl, Nat.le_of_ble_eq_true rfl⟩) rfl hl.1 rfl (Nat.le_of_ble_eq_true rfl) dX6_number_47 ⟨Nat.zero_le _, Nat.zero_le _⟩ (fun H locs hW => ?_)
    refine lv_if_eq (tgt := 82) hx hb dX6_number_50 (by decide) (fun c_17 => ?_) (fun c_17 => ?_)
    · have h := ite_p c_17 h
      exact tX6_number_b82 C hW (lv_sub hl [1, 2, 3, 4, 0] rfl) h
    have h := ite_n c_17 h
    refine lv_bipush (v := 10) hx hb dX6_number_53 (by decide) ?_
    refine lv_iload hx hb dX6_number_55 (lv_at hl 0 rfl) ?_
    refine lv_imul hx hb dX6_number_57 ?_
    refine lv_aload_n hx hb dX6_number_58 rfl (lv_at hl 1 rfl) ?_
    refine lv_aload_n hx hb dX6_number_59 rfl (lv_at hl 1 rfl) ?_
    refine wo_get (C := RX6) (T := TX6) (N := 14) hx hb hts iX6_number_6 hown hW kl_20_50_0 co_o rfl 11 (by decide) (hts _ mX6_number_l63) (fun _ h9 => h9) rfl dX6_number_60 ?_
    obtain ⟨r_29, μ_28, hh_27, h⟩ := bd_s h
    refine wo_Vi (rest := [.int (10 * (r_10 - 48))]) C hW (kX6_letterAt l D g ad  hh_27) (cwV 1 hts gX6_number_X6_letterAt rfl rfl rfl (by decide +kernel) ⟨Nat.le_of_ble_eq_true rfl, Nat.le_of_ble_eq_true rfl⟩) kl_20_50_0 co_o rfl rfl hl.1 rfl (Nat.le_of_ble_eq_true rfl) dX6_number_63 ⟨Nat.zero_le _, Nat.zero_le _⟩ (fun H locs hW => ?_)
    refine lv_iadd hx hb dX6_number_66 ?_
    refine lv_bipush (v := 48) hx hb dX6_number_67 (by decide) ?_
    refine lv_isub hx hb dX6_number_69 ?_
    refine lv_istore (lv' := [(4, .int (((10 * (r_10 - 48)) + r_29) - 48)), (0, .ref (ad (20, 50, 0))), (1, .int v1), (2, .int v2), (3, .int v3)]) hx hb dX6_number_70 hl (by decide) rfl (fun ls hl => ?_)
    refine lv_aload_n hx hb dX6_number_72 rfl (lv_at hl 1 rfl) ?_
    refine lv_dup hx hb dX6_number_73 rfl ?_
    refine wo_get (C := RX6) (T := TX6) (N := 14) hx hb hts iX6_number_6 hown hW kl_20_50_0 co_o rfl 11 (by decide) (hts _ mX6_number_l63) (fun _ h9 => h9) rfl dX6_number_74 ?_
    refine lv_iconst (v := 1) hx hb dX6_number_77 (by decide) ?_
    refine lv_iadd hx hb dX6_number_78 ?_
    refine xw_put (C := RX6) (T := TX6) (N := 14) hx hb hts iX6_number_6 tyX6 tyX6_ok nmX6 hown hW kl_20_50_0 co_o rfl 11 (by decide) (hts _ mX6_number_l63) (fun _ h9 => h9) rfl (by decide +kernel) (Nat.le_of_ble_eq_true rfl) keysM_ok rfl (po_11 _) dX6_number_79 (fun H locs hW => ?_)
    exact tX6_number_b82 C hW (lv_sub hl [1, 2, 3, 4, 0] rfl) h
  have h := ite_p c_7 h
  refine lv_iconst (v := (-1)) hx hb dX6_number_14 (by decide) ?_
  exact xw_iret C rfl hW dX6_number_15 h
abbrev rX6_pauseOf : Room := { frames := 0, cells := 0, slots := 0, locals := 0 }
theorem mX6_pauseOf_l16 : Cond.fieldLink RX6 16 "NearlyBoughtModel" "draft" "[I" ∈ wsX6_pauseOf := by decide +kernel
theorem iX6_pauseOf_6 : ∀ w ∈ wsX60, w ∈ wsX6_pauseOf := fun _ h => List.mem_cons_of_mem _ (List.mem_append_right _ h)
set_option maxHeartbeats 4000000 in
set_option maxRecDepth 100000 in
theorem kX6_pauseOf (l : Launch) (D : va_G) (g : G3) (ad : Ky → Nat) {v1 v2 v3 v4 : Int32} {μ μ' : Mem} (h : X6_pauseOf v1 v2 v3 v4 μ = some μ') : CtV l yX6_pauseOf wsX6_pauseOf rX6_pauseOf D (tysX g) keysM ad (cX g ad) [.ref (ad (20, 50, 0)), .int v1, .int v2, .int v3, .int v4] μ μ' := by
  refine ctV_of (cc := cX6_pauseOf) (maxL := 6) (ret := none) keysM_nd (by decide) rfl (Nat.le_of_ble_eq_true rfl) (fun p e s m below meth c A ls C hW hl => ?_)
  have hl : lv_has ls 6 [(0, .ref (ad (20, 50, 0))), (1, .int v1), (2, .int v2), (3, .int v3), (4, .int v4)] := hl
  obtain ⟨hx, hb, hr, hts, hown, hlocks, hml, hA⟩ := id C
  refine lv_aload_n hx hb dX6_pauseOf_0 rfl (lv_at hl 0 rfl) ?_
  refine wo_get (C := RX6) (T := TX6) (N := 14) hx hb hts iX6_pauseOf_6 hown hW kl_20_50_0 co_o rfl 3 (by decide) (hts _ mX6_pauseOf_l16) (fun _ h9 => h9) rfl dX6_pauseOf_1 ?_
  refine lv_iconst (v := 2) hx hb dX6_pauseOf_4 (by decide) ?_
  obtain ⟨hi_1, h⟩ := gi_s h
  refine xw_ald hx hb hW kl_20_3_0 rfl hi_1 dX6_pauseOf_5 ?_
  refine lv_istore (lv' := [(5, .int (μ 20 3 0 (2 : Int32).toNatClampNeg)), (0, .ref (ad (20, 50, 0))), (1, .int v1), (2, .int v2), (3, .int v3), (4, .int v4)]) hx hb dX6_pauseOf_6 hl (by decide) rfl (fun ls hl => ?_)
  refine lv_aload_n hx hb dX6_pauseOf_8 rfl (lv_at hl 1 rfl) ?_
  refine wo_get (C := RX6) (T := TX6) (N := 14) hx hb hts iX6_pauseOf_6 hown hW kl_20_50_0 co_o rfl 3 (by decide) (hts _ mX6_pauseOf_l16) (fun _ h9 => h9) rfl dX6_pauseOf_9 ?_
  refine lv_bipush (v := 23) hx hb dX6_pauseOf_12 (by decide) ?_
  refine lv_iload hx hb dX6_pauseOf_14 (lv_at hl 0 rfl) ?_
  refine lv_iadd hx hb dX6_pauseOf_16 ?_
  refine lv_iload_n hx hb dX6_pauseOf_17 rfl (lv_at hl 2 rfl) ?_
  obtain ⟨hi_2, h⟩ := gi_s h
  refine xw_ast hx hb hW kl_20_3_0 (fun _ => rfl) rfl hi_2 dX6_pauseOf_18 (fun H locs hW => ?_)
  refine lv_aload_n hx hb dX6_pauseOf_19 rfl (lv_at hl 1 rfl) ?_
  refine wo_get (C := RX6) (T := TX6) (N := 14) hx hb hts iX6_pauseOf_6 hown hW kl_20_50_0 co_o rfl 3 (by decide) (hts _ mX6_pauseOf_l16) (fun _ h9 => h9) rfl dX6_pauseOf_20 ?_
  refine lv_bipush (v := 32) hx hb dX6_pauseOf_23 (by decide) ?_
  refine lv_iload hx hb dX6_pauseOf_25 (lv_at hl 0 rfl) ?_
  refine lv_iadd hx hb dX6_pauseOf_27 ?_
  refine lv_iload_n hx hb dX6_pauseOf_28 rfl (lv_at hl 3 rfl) ?_
  obtain ⟨hi_3, h⟩ := gi_s h
  refine xw_ast hx hb hW kl_20_3_0 (fun _ => rfl) rfl hi_3 dX6_pauseOf_29 (fun H locs hW => ?_)
  refine lv_aload_n hx hb dX6_pauseOf_30 rfl (lv_at hl 1 rfl) ?_
  refine wo_get (C := RX6) (T := TX6) (N := 14) hx hb hts iX6_pauseOf_6 hown hW kl_20_50_0 co_o rfl 3 (by decide) (hts _ mX6_pauseOf_l16) (fun _ h9 => h9) rfl dX6_pauseOf_31 ?_
  refine lv_bipush (v := 41) hx hb dX6_pauseOf_34 (by decide) ?_
  refine lv_iload hx hb dX6_pauseOf_36 (lv_at hl 0 rfl) ?_
  refine lv_iadd hx hb dX6_pauseOf_38 ?_
  refine lv_iload_n hx hb dX6_pauseOf_39 rfl (lv_at hl 4 rfl) ?_
  obtain ⟨hi_4, h⟩ := gi_s h
  refine xw_ast hx hb hW kl_20_3_0 (fun _ => rfl) rfl hi_4 dX6_pauseOf_40 (fun H locs hW => ?_)
  refine lv_aload_n hx hb dX6_pauseOf_41 rfl (lv_at hl 1 rfl) ?_
  refine wo_get (C := RX6) (T := TX6) (N := 14) hx hb hts iX6_pauseOf_6 hown hW kl_20_50_0 co_o rfl 3 (by decide) (hts _ mX6_pauseOf_l16) (fun _ h9 => h9) rfl dX6_pauseOf_42 ?_
  refine lv_bipush (v := 50) hx hb dX6_pauseOf_45 (by decide) ?_
  refine lv_iload hx hb dX6_pauseOf_47 (lv_at hl 0 rfl) ?_
  refine lv_iadd hx hb dX6_pauseOf_49 ?_
  refine lv_iload hx hb dX6_pauseOf_50 (lv_at hl 5 rfl) ?_
  obtain ⟨hi_5, h⟩ := gi_s h
  refine xw_ast hx hb hW kl_20_3_0 (fun _ => rfl) rfl hi_5 dX6_pauseOf_52 (fun H locs hW => ?_)
  refine lv_aload_n hx hb dX6_pauseOf_53 rfl (lv_at hl 1 rfl) ?_
  refine wo_get (C := RX6) (T := TX6) (N := 14) hx hb hts iX6_pauseOf_6 hown hW kl_20_50_0 co_o rfl 3 (by decide) (hts _ mX6_pauseOf_l16) (fun _ h9 => h9) rfl dX6_pauseOf_54 ?_
  refine lv_iconst (v := 2) hx hb dX6_pauseOf_57 (by decide) ?_
  refine lv_dup2_11 hx hb dX6_pauseOf_58 rfl rfl ?_
  obtain ⟨hi_6, h⟩ := gi_s h
  refine xw_ald hx hb hW kl_20_3_0 rfl hi_6 dX6_pauseOf_59 ?_
  refine lv_iconst (v := 1) hx hb dX6_pauseOf_60 (by decide) ?_
  refine lv_iadd hx hb dX6_pauseOf_61 ?_
  obtain ⟨hi_7, h⟩ := gi_s h
  refine xw_ast hx hb hW kl_20_3_0 (fun _ => rfl) rfl hi_7 dX6_pauseOf_62 (fun H locs hW => ?_)
  exact xw_vret C rfl hW dX6_pauseOf_63 h
