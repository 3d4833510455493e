/-! WALKS, laid by program out of the bytecode -/
abbrev rX0_remember : Room := { frames := 2, cells := 0, slots := 0, locals := 48 }
theorem mX0_remember_l11 : Cond.fieldLink RX0 11 "NearlyBought$History" "before" "[LNearlyBought$Market;" ∈ wsX0_remember := by decide +kernel
theorem mX0_remember_l20 : Cond.fieldLink RX0 20 "NearlyBought$History" "next" "I" ∈ wsX0_remember := by decide +kernel
theorem mX0_remember_l28 : Cond.fieldLink RX0 28 "NearlyBought$History" "size" "I" ∈ wsX0_remember := by decide +kernel
theorem mX0_remember_l31 : Cond.methodLink RX0 31 Lib.Math.min.name ∈ wsX0_remember := by decide +kernel
theorem mX0_remember_stmin : Cond.static Lib.Math.min.name ∈ wsX0_remember := by decide +kernel
theorem mX0_remember_inm : Cond.initialized "java/lang/Math" ∈ wsX0_remember := by decide +kernel
theorem mX0_remember_comin : Cond.code Lib.Math.min.name Lib.Math.min.code 2 (some .int) ∈ wsX0_remember := by decide +kernel
theorem iX0_remember_0 : ∀ w ∈ wsX00, w ∈ wsX0_remember := fun _ h => List.mem_cons_of_mem _ (List.mem_append_left _ (List.mem_append_right _ h))
set_option maxHeartbeats 4000000 in
set_option maxRecDepth 100000 in
theorem kX0_remember (l : Launch) (D : va_G) (g : G3) (ad : Ky → Nat) {μ μ' : Mem} (h : X0_remember μ = some μ') : CtV l yX0_remember wsX0_remember rX0_remember D (tysX g) keysX ad (cX g ad) [.ref (ad (15, 50, 0)), .ref (ad (0, 50, 0))] μ μ' := by
  refine ctV_of (cc := cX0_remember) (maxL := 2) (ret := none) keysX_nd (by decide) rfl (Nat.le_of_ble_eq_true rfl) (fun p e s m below meth c A ls C hW hl => ?_)
  have hl : lv_has ls 2 [(0, .ref (ad (15, 50, 0))), (1, .ref (ad (0, 50, 0)))] := hl
  obtain ⟨hx, hb, hr, hts, hown, hlocks, hml, hA⟩ := id C
  refine lv_aload_n hx hb dX0_remember_0 rfl (lv_at hl 0 rfl) ?_
  refine wo_get (C := RX0) (T := TX0) (N := 3) hx hb hts iX0_remember_0 hown hW kl_15_50_0 ch_o rfl 0 (by decide) (hts _ mX0_remember_l11) (fun _ h9 => h9) rfl dX0_remember_1 ?_
  refine lv_aload_n hx hb dX0_remember_4 rfl (lv_at hl 0 rfl) ?_
  refine wo_get (C := RX0) (T := TX0) (N := 3) hx hb hts iX0_remember_0 hown hW kl_15_50_0 ch_o rfl 1 (by decide) (hts _ mX0_remember_l20) (fun _ h9 => h9) rfl dX0_remember_5 ?_
  obtain ⟨hi_1, h⟩ := gi_s h
  refine wo_ldq hx hb hW kl_15_0_50 2 rfl (n := 8) (g := fun j => ad (2 + j, 50, 0)) rfl rfl hi_1 dX0_remember_8 ?_
  refine lv_aload_n hx hb dX0_remember_9 rfl (lv_at hl 1 rfl) ?_
  obtain ⟨μ_3, hh_2, h⟩ := bdv_s h
  refine wo_Vv (rest := []) C hW (kX1_copyFrom l D g ad (q := (2 + (μ 15 1 0 0).toNatClampNeg)) (q1 := 0) (by have := vp_lt hi_1; omega) (by decide) hh_2) (cwV 1 hts gX0_remember_X1_copyFrom rfl rfl rfl (by decide +kernel) ⟨Nat.le_of_ble_eq_true rfl, Nat.le_of_ble_eq_true rfl⟩) (km_o (2 + (μ 15 1 0 0).toNatClampNeg) (by have := vp_lt hi_1; omega)) (cm_o (by have := vp_lt hi_1; omega)) rfl rfl hl.1 rfl (Nat.le_of_ble_eq_true rfl) dX0_remember_10 ⟨Nat.zero_le _, Nat.zero_le _⟩ (fun H locs hW => ?_)
  refine lv_aload_n hx hb dX0_remember_13 rfl (lv_at hl 0 rfl) ?_
  refine lv_aload_n hx hb dX0_remember_14 rfl (lv_at hl 0 rfl) ?_
  refine wo_get (C := RX0) (T := TX0) (N := 3) hx hb hts iX0_remember_0 hown hW kl_15_50_0 ch_o rfl 1 (by decide) (hts _ mX0_remember_l20) (fun _ h9 => h9) rfl dX0_remember_15 ?_
  refine lv_iconst (v := 1) hx hb dX0_remember_18 (by decide) ?_
  refine lv_iadd hx hb dX0_remember_19 ?_
  refine lv_bipush (v := 8) hx hb dX0_remember_20 (by decide) ?_
  refine lv_irem hx hb dX0_remember_22 (by decide) ?_
  refine xw_put (C := RX0) (T := TX0) (N := 3) hx hb hts iX0_remember_0 tyX0 tyX0_ok nmX0 hown hW kl_15_50_0 ch_o rfl 1 (by decide) (hts _ mX0_remember_l20) (fun _ h9 => h9) rfl (by decide +kernel) (Nat.le_of_ble_eq_true rfl) keysX_ok rfl (ph_1 _) dX0_remember_23 (fun H locs hW => ?_)
  refine lv_aload_n hx hb dX0_remember_26 rfl (lv_at hl 0 rfl) ?_
  refine lv_aload_n hx hb dX0_remember_27 rfl (lv_at hl 0 rfl) ?_
  refine wo_get (C := RX0) (T := TX0) (N := 3) hx hb hts iX0_remember_0 hown hW kl_15_50_0 ch_o rfl 2 (by decide) (hts _ mX0_remember_l28) (fun _ h9 => h9) rfl dX0_remember_28 ?_
  refine lv_iconst (v := 1) hx hb dX0_remember_31 (by decide) ?_
  refine lv_iadd hx hb dX0_remember_32 ?_
  refine lv_bipush (v := 8) hx hb dX0_remember_33 (by decide) ?_
  refine va_mmin (ls := ls) (rest := [.ref (ad (15, 50, 0))]) hx hb (hml.trans hl.1.symm) hown (hts _ mX0_remember_l31) (hts _ mX0_remember_stmin) (hts _ mX0_remember_inm) (hts _ mX0_remember_comin) (Nat.le_of_ble_eq_true rfl) (Nat.le_of_ble_eq_true rfl) (Nat.zero_le _) (Nat.zero_le _) dX0_remember_35 ?_
  refine xw_put (C := RX0) (T := TX0) (N := 3) hx hb hts iX0_remember_0 tyX0 tyX0_ok nmX0 hown hW kl_15_50_0 ch_o rfl 2 (by decide) (hts _ mX0_remember_l28) (fun _ h9 => h9) rfl (by decide +kernel) (Nat.le_of_ble_eq_true rfl) keysX_ok rfl (ph_2 _) dX0_remember_38 (fun H locs hW => ?_)
  exact xw_vret C rfl hW dX0_remember_41 h
abbrev rX0_restore : Room := { frames := 2, cells := 0, slots := 0, locals := 48 }
theorem mX0_restore_l20 : Cond.fieldLink RX0 20 "NearlyBought$History" "next" "I" ∈ wsX0_restore := by decide +kernel
theorem mX0_restore_l28 : Cond.fieldLink RX0 28 "NearlyBought$History" "size" "I" ∈ wsX0_restore := by decide +kernel
theorem mX0_restore_l37 : Cond.methodLink RX0 37 Lib.Math.max.name ∈ wsX0_restore := by decide +kernel
theorem mX0_restore_stmax : Cond.static Lib.Math.max.name ∈ wsX0_restore := by decide +kernel
theorem mX0_restore_inm : Cond.initialized "java/lang/Math" ∈ wsX0_restore := by decide +kernel
theorem mX0_restore_comax : Cond.code Lib.Math.max.name Lib.Math.max.code 2 (some .int) ∈ wsX0_restore := by decide +kernel
theorem mX0_restore_l11 : Cond.fieldLink RX0 11 "NearlyBought$History" "before" "[LNearlyBought$Market;" ∈ wsX0_restore := by decide +kernel
theorem iX0_restore_0 : ∀ w ∈ wsX00, w ∈ wsX0_restore := fun _ h => List.mem_cons_of_mem _ (List.mem_append_left _ (List.mem_append_right _ h))
set_option maxHeartbeats 4000000 in
set_option maxRecDepth 100000 in
theorem kX0_restore (l : Launch) (D : va_G) (g : G3) (ad : Ky → Nat) {μ μ' : Mem} (h : X0_restore μ = some μ') : CtV l yX0_restore wsX0_restore rX0_restore D (tysX g) keysX ad (cX g ad) [.ref (ad (15, 50, 0)), .ref (ad (0, 50, 0))] μ μ' := by
  refine ctV_of (cc := cX0_restore) (maxL := 2) (ret := none) keysX_nd (by decide) rfl (Nat.le_of_ble_eq_true rfl) (fun p e s m below meth c A ls C hW hl => ?_)
  have hl : lv_has ls 2 [(0, .ref (ad (15, 50, 0))), (1, .ref (ad (0, 50, 0)))] := hl
  obtain ⟨hx, hb, hr, hts, hown, hlocks, hml, hA⟩ := id C
  refine lv_aload_n hx hb dX0_restore_0 rfl (lv_at hl 0 rfl) ?_
  refine lv_aload_n hx hb dX0_restore_1 rfl (lv_at hl 0 rfl) ?_
  refine wo_get (C := RX0) (T := TX0) (N := 3) hx hb hts iX0_restore_0 hown hW kl_15_50_0 ch_o rfl 1 (by decide) (hts _ mX0_restore_l20) (fun _ h9 => h9) rfl dX0_restore_2 ?_
  refine lv_bipush (v := 8) hx hb dX0_restore_5 (by decide) ?_
  refine lv_iadd hx hb dX0_restore_7 ?_
  refine lv_iconst (v := 1) hx hb dX0_restore_8 (by decide) ?_
  refine lv_isub hx hb dX0_restore_9 ?_
  refine lv_bipush (v := 8) hx hb dX0_restore_10 (by decide) ?_
  refine lv_irem hx hb dX0_restore_12 (by decide) ?_
  refine xw_put (C := RX0) (T := TX0) (N := 3) hx hb hts iX0_restore_0 tyX0 tyX0_ok nmX0 hown hW kl_15_50_0 ch_o rfl 1 (by decide) (hts _ mX0_restore_l20) (fun _ h9 => h9) rfl (by decide +kernel) (Nat.le_of_ble_eq_true rfl) keysX_ok rfl (ph_1 _) dX0_restore_13 (fun H locs hW => ?_)
  refine lv_aload_n hx hb dX0_restore_16 rfl (lv_at hl 0 rfl) ?_
  refine lv_aload_n hx hb dX0_restore_17 rfl (lv_at hl 0 rfl) ?_
  refine wo_get (C := RX0) (T := TX0) (N := 3) hx hb hts iX0_restore_0 hown hW kl_15_50_0 ch_o rfl 2 (by decide) (hts _ mX0_restore_l28) (fun _ h9 => h9) rfl dX0_restore_18 ?_
  refine lv_iconst (v := 1) hx hb dX0_restore_21 (by decide) ?_
  refine lv_isub hx hb dX0_restore_22 ?_
  refine lv_iconst (v := 0) hx hb dX0_restore_23 (by decide) ?_
  refine va_mmax (ls := ls) (rest := [.ref (ad (15, 50, 0))]) hx hb (hml.trans hl.1.symm) hown (hts _ mX0_restore_l37) (hts _ mX0_restore_stmax) (hts _ mX0_restore_inm) (hts _ mX0_restore_comax) (Nat.le_of_ble_eq_true rfl) (Nat.le_of_ble_eq_true rfl) (Nat.zero_le _) (Nat.zero_le _) dX0_restore_24 ?_
  refine xw_put (C := RX0) (T := TX0) (N := 3) hx hb hts iX0_restore_0 tyX0 tyX0_ok nmX0 hown hW kl_15_50_0 ch_o rfl 2 (by decide) (hts _ mX0_restore_l28) (fun _ h9 => h9) rfl (by decide +kernel) (Nat.le_of_ble_eq_true rfl) keysX_ok rfl (ph_2 _) dX0_restore_27 (fun H locs hW => ?_)
  refine lv_aload_n hx hb dX0_restore_30 rfl (lv_at hl 1 rfl) ?_
  refine lv_aload_n hx hb dX0_restore_31 rfl (lv_at hl 0 rfl) ?_
  refine wo_get (C := RX0) (T := TX0) (N := 3) hx hb hts iX0_restore_0 hown hW kl_15_50_0 ch_o rfl 0 (by decide) (hts _ mX0_restore_l11) (fun _ h9 => h9) rfl dX0_restore_32 ?_
  refine lv_aload_n hx hb dX0_restore_35 rfl (lv_at hl 0 rfl) ?_
  refine wo_get (C := RX0) (T := TX0) (N := 3) hx hb hts iX0_restore_0 hown hW kl_15_50_0 ch_o rfl 1 (by decide) (hts _ mX0_restore_l20) (fun _ h9 => h9) rfl dX0_restore_36 ?_
  obtain ⟨hi_1, h⟩ := gi_s h
  refine wo_ldq hx hb hW kl_15_0_50 2 rfl (n := 8) (g := fun j => ad (2 + j, 50, 0)) rfl rfl hi_1 dX0_restore_39 ?_
  obtain ⟨μ_3, hh_2, h⟩ := bdv_s h
  refine wo_Vv (rest := []) C hW (kX1_copyFrom l D g ad (q := 0) (q1 := (2 + ((xs (xs μ 15 1 0 0 ((((μ 15 1 0 0) + 8) - 1) - (((μ 15 1 0 0) + 8) - 1) / 8 * 8)) 15 2 0 0 (if (((xs μ 15 1 0 0 ((((μ 15 1 0 0) + 8) - 1) - (((μ 15 1 0 0) + 8) - 1) / 8 * 8)) 15 2 0 0) - 1) < 0 then 0 else (((xs μ 15 1 0 0 ((((μ 15 1 0 0) + 8) - 1) - (((μ 15 1 0 0) + 8) - 1) / 8 * 8)) 15 2 0 0) - 1))) 15 1 0 0).toNatClampNeg)) (by decide) (by have := vp_lt hi_1; omega) hh_2) (cwV 1 hts gX0_restore_X1_copyFrom rfl rfl rfl (by decide +kernel) ⟨Nat.le_of_ble_eq_true rfl, Nat.le_of_ble_eq_true rfl⟩) (km_o 0 (by decide)) (cm_o (by decide)) rfl rfl hl.1 rfl (Nat.le_of_ble_eq_true rfl) dX0_restore_40 ⟨Nat.zero_le _, Nat.zero_le _⟩ (fun H locs hW => ?_)
  exact xw_vret C rfl hW dX0_restore_43 h
abbrev rX2_letterAt : Room := { frames := 0, cells := 0, slots := 0, locals := 0 }
theorem mX2_letterAt_l20 : Cond.fieldLink RX2 20 "NearlyBought$Reader" "at" "I" ∈ wsX2_letterAt := by decide +kernel
theorem iX2_letterAt_2 : ∀ w ∈ wsX20, w ∈ wsX2_letterAt := fun _ h => List.mem_cons_of_mem _ (List.mem_append_right _ h)
set_option maxHeartbeats 4000000 in
set_option maxRecDepth 100000 in
theorem kX2_letterAt (l : Launch) (D : va_G) (g : G3) (ad : Ky → Nat) {v2 : Int32} {μ μ' : Mem} {r : Int32} (h : X2_letterAt v2 μ = some (r, μ')) : CtI l yX2_letterAt wsX2_letterAt rX2_letterAt D (tysX g) keysX ad (cX g ad) [.ref (ad (14, 50, 0)), .ref (ad (17, 0, 0)), .int v2] μ r μ' := by
  refine ctI_of (cc := cX2_letterAt) (maxL := 3) (ret := (some .int)) keysX_nd (by decide) rfl (Nat.le_of_ble_eq_true rfl) (fun p e s m below meth c A ls C hW hl => ?_)
  have hl : lv_has ls 3 [(0, .ref (ad (14, 50, 0))), (1, .ref (ad (17, 0, 0))), (2, .int v2)] := hl
  obtain ⟨hx, hb, hr, hts, hown, hlocks, hml, hA⟩ := id C
  refine lv_aload_n hx hb dX2_letterAt_0 rfl (lv_at hl 0 rfl) ?_
  refine wo_get (C := RX2) (T := TX2) (N := 2) hx hb hts iX2_letterAt_2 hown hW kl_14_50_0 cr_o rfl 1 (by decide) (hts _ mX2_letterAt_l20) (fun _ h9 => h9) rfl dX2_letterAt_1 ?_
  refine lv_if_lt (tgt := 33) hx hb dX2_letterAt_4 (by decide) (fun c_1 => ?_) (fun c_1 => ?_)
  · have h := ite_p c_1 h
    refine lv_iconst (v := 0) hx hb dX2_letterAt_33 (by decide) ?_
    exact xw_iret C rfl hW dX2_letterAt_34 h
  have h := ite_n c_1 h
  refine lv_aload_n hx hb dX2_letterAt_7 rfl (lv_at hl 0 rfl) ?_
  refine wo_get (C := RX2) (T := TX2) (N := 2) hx hb hts iX2_letterAt_2 hown hW kl_14_50_0 cr_o rfl 1 (by decide) (hts _ mX2_letterAt_l20) (fun _ h9 => h9) rfl dX2_letterAt_8 ?_
  refine lv_iload_n hx hb dX2_letterAt_11 rfl (lv_at hl 2 rfl) ?_
  refine lv_icmp_ge (tgt := 33) hx hb dX2_letterAt_12 (by decide) (fun c_2 => ?_) (fun c_2 => ?_)
  · have h := ite_p c_2 h
    refine lv_iconst (v := 0) hx hb dX2_letterAt_33 (by decide) ?_
    exact xw_iret C rfl hW dX2_letterAt_34 h
  have h := ite_n c_2 h
  refine lv_aload_n hx hb dX2_letterAt_15 rfl (lv_at hl 0 rfl) ?_
  refine wo_get (C := RX2) (T := TX2) (N := 2) hx hb hts iX2_letterAt_2 hown hW kl_14_50_0 cr_o rfl 1 (by decide) (hts _ mX2_letterAt_l20) (fun _ h9 => h9) rfl dX2_letterAt_16 ?_
  refine lv_aload_n hx hb dX2_letterAt_19 rfl (lv_at hl 1 rfl) ?_
  refine wo_len (v := 200) hx hb hW kl_17_0_0 0 rfl rfl (by decide) dX2_letterAt_20 ?_
  refine lv_icmp_ge (tgt := 33) hx hb dX2_letterAt_21 (by decide) (fun c_3 => ?_) (fun c_3 => ?_)
  · have h := ite_p c_3 h
    refine lv_iconst (v := 0) hx hb dX2_letterAt_33 (by decide) ?_
    exact xw_iret C rfl hW dX2_letterAt_34 h
  have h := ite_n c_3 h
  refine lv_aload_n hx hb dX2_letterAt_24 rfl (lv_at hl 1 rfl) ?_
  refine lv_aload_n hx hb dX2_letterAt_25 rfl (lv_at hl 0 rfl) ?_
  refine wo_get (C := RX2) (T := TX2) (N := 2) hx hb hts iX2_letterAt_2 hown hW kl_14_50_0 cr_o rfl 1 (by decide) (hts _ mX2_letterAt_l20) (fun _ h9 => h9) rfl dX2_letterAt_26 ?_
  obtain ⟨hi_4, h⟩ := gi_s h
  refine xw_ald hx hb hW kl_17_0_0 rfl hi_4 dX2_letterAt_29 ?_
  refine lv_goto (tgt := 34) hx hb dX2_letterAt_30 (by decide) ?_
  exact xw_iret C rfl hW dX2_letterAt_34 h
abbrev rX2_numbersDue : Room := { frames := 0, cells := 0, slots := 0, locals := 0 }
set_option maxHeartbeats 4000000 in
set_option maxRecDepth 100000 in
theorem kX2_numbersDue (l : Launch) (D : va_G) (g : G3) (ad : Ky → Nat) {v0 : Int32} {μ μ' : Mem} {r : Int32} (h : X2_numbersDue v0 μ = some (r, μ')) : CtI l yX2_numbersDue wsX2_numbersDue rX2_numbersDue D (tysX g) keysX ad (cX g ad) [.int v0] μ r μ' := by
  refine ctI_of (cc := cX2_numbersDue) (maxL := 1) (ret := (some .int)) keysX_nd (by decide) rfl (Nat.le_of_ble_eq_true rfl) (fun p e s m below meth c A ls C hW hl => ?_)
  have hl : lv_has ls 1 [(0, .int v0)] := hl
  obtain ⟨hx, hb, hr, hts, hown, hlocks, hml, hA⟩ := id C
  refine lv_iload_n hx hb dX2_numbersDue_0 rfl (lv_at hl 0 rfl) ?_
  by_cases c_1 : v0 = 97
  · have h := ite_p c_1 h
    refine lv_lookup (off := 53) (tgt := 54) hx hb dX2_numbersDue_1 (by decide) (by rw [c_1]; decide) (by decide) ?_
    refine lv_iconst (v := 4) hx hb dX2_numbersDue_54 (by decide) ?_
    exact xw_iret C rfl hW dX2_numbersDue_55 h
  have h := ite_n c_1 h
  by_cases c_2 : v0 = 101
  · have h := ite_p c_2 h
    refine lv_lookup (off := 55) (tgt := 56) hx hb dX2_numbersDue_1 (by decide) (by rw [c_2]; decide) (by decide) ?_
    refine lv_iconst (v := 1) hx hb dX2_numbersDue_56 (by decide) ?_
    exact xw_iret C rfl hW dX2_numbersDue_57 h
  have h := ite_n c_2 h
  by_cases c_3 : v0 = 103
  · have h := ite_p c_3 h
    refine lv_lookup (off := 55) (tgt := 56) hx hb dX2_numbersDue_1 (by decide) (by rw [c_3]; decide) (by decide) ?_
    refine lv_iconst (v := 1) hx hb dX2_numbersDue_56 (by decide) ?_
    exact xw_iret C rfl hW dX2_numbersDue_57 h
  have h := ite_n c_3 h
  by_cases c_4 : v0 = 112
  · have h := ite_p c_4 h
    refine lv_lookup (off := 51) (tgt := 52) hx hb dX2_numbersDue_1 (by decide) (by rw [c_4]; decide) (by decide) ?_
    refine lv_iconst (v := 2) hx hb dX2_numbersDue_52 (by decide) ?_
    exact xw_iret C rfl hW dX2_numbersDue_53 h
  have h := ite_n c_4 h
  by_cases c_5 : v0 = 116
  · have h := ite_p c_5 h
    refine lv_lookup (off := 55) (tgt := 56) hx hb dX2_numbersDue_1 (by decide) (by rw [c_5]; decide) (by decide) ?_
    refine lv_iconst (v := 1) hx hb dX2_numbersDue_56 (by decide) ?_
    exact xw_iret C rfl hW dX2_numbersDue_57 h
  have h := ite_n c_5 h
  have t_6 := ne_ti (k := 97) rfl c_1
  have t_7 := ne_ti (k := 101) rfl c_2
  have t_8 := ne_ti (k := 103) rfl c_3
  have t_9 := ne_ti (k := 112) rfl c_4
  have t_10 := ne_ti (k := 116) rfl c_5
  refine lv_lookup (off := 57) (tgt := 58) hx hb dX2_numbersDue_1 (by decide) (by simp [Op.lookupswitch.offset, Ne.symm t_6, Ne.symm t_7, Ne.symm t_8, Ne.symm t_9, Ne.symm t_10]) (by decide) ?_
  refine lv_iconst (v := 0) hx hb dX2_numbersDue_58 (by decide) ?_
  exact xw_iret C rfl hW dX2_numbersDue_59 h
abbrev rX2_readNumber : Room := { frames := 1, cells := 0, slots := 0, locals := 22 }
theorem mX2_readNumber_l43 : Cond.methodLink RX2 43 Lib.Math.max.name ∈ wsX2_readNumber := by decide +kernel
theorem mX2_readNumber_stmax : Cond.static Lib.Math.max.name ∈ wsX2_readNumber := by decide +kernel
theorem mX2_readNumber_inm : Cond.initialized "java/lang/Math" ∈ wsX2_readNumber := by decide +kernel
theorem mX2_readNumber_comax : Cond.code Lib.Math.max.name Lib.Math.max.code 2 (some .int) ∈ wsX2_readNumber := by decide +kernel
theorem mX2_readNumber_l20 : Cond.fieldLink RX2 20 "NearlyBought$Reader" "at" "I" ∈ wsX2_readNumber := by decide +kernel
theorem iX2_readNumber_2 : ∀ w ∈ wsX20, w ∈ wsX2_readNumber := fun _ h => List.mem_cons_of_mem _ (List.mem_append_right _ h)
set_option maxHeartbeats 4000000 in
set_option maxRecDepth 100000 in
theorem tX2_readNumber_b5 {p : Program} {l : Launch} {e : Env} {s : State} {m : MethodId} {args : Array Value} {below : List Frame} {meth : Method} {c : Code} {A : Nat → Prop} {D : va_G} {g : G3} {ad : Ky → Nat} (C : Cx p s m args meth c cX2_readNumber (some .int) 6 RX2 wsX2_readNumber A) {r0 : Int32} {μ0 : Mem} {v2 : Int32} (n : Nat) : ∀ (v3 v4 : Int32) (μ : Mem) (H : Heap) (locs : List Loc) (ls : Array Slot), WX D g keysX ad A s s.heap μ H locs → lv_has ls 6 [(0, .ref (ad (14, 50, 0))), (1, .ref (ad (17, 0, 0))), (2, .int v2), (3, .int v3), (4, .int v4)] → lo2 (X2_readNumber_b5 v2) n v3 v4 μ = some (r0, μ0) → TgI r0 p l e rX2_readNumber s m args below meth c D g keysX ad A μ0 H locs (F0 m 5 ls []) := by
  obtain ⟨hx, hb, hr, hts, hown, hlocks, hml, hA⟩ := id C
  induction n with
  | zero =>
    intro v3 v4 μ H locs ls hW hl h
    cases h
  | succ n h5 =>
    intro v3 v4 μ H locs ls hW hl h
    have h : X2_readNumber_b5 v2 (lo2 (X2_readNumber_b5 v2) n) v3 v4 μ = some (r0, μ0) := h
    refine lv_iload hx hb dX2_readNumber_5 (lv_at hl 4 rfl) ?_
    refine lv_iconst (v := 2) hx hb dX2_readNumber_7 (by decide) ?_
    refine lv_icmp_ge (tgt := 66) hx hb dX2_readNumber_8 (by decide) (fun c_1 => ?_) (fun c_1 => ?_)
    · have h := ite_p c_1 h
      refine lv_iload_n hx hb dX2_readNumber_66 rfl (lv_at hl 3 rfl) ?_
      exact xw_iret C rfl hW dX2_readNumber_67 h
    have h := ite_n c_1 h
    refine lv_aload_n hx hb dX2_readNumber_11 rfl (lv_at hl 0 rfl) ?_
    refine lv_aload_n hx hb dX2_readNumber_12 rfl (lv_at hl 1 rfl) ?_
    refine lv_iload_n hx hb dX2_readNumber_13 rfl (lv_at hl 2 rfl) ?_
    obtain ⟨r_4, μ_3, hh_2, h⟩ := bd_s h
    refine wo_Vi (rest := []) C hW (kX2_letterAt l D g ad  hh_2) (cwV 2 hts gX2_readNumber_X2_letterAt rfl rfl rfl (by decide +kernel) ⟨Nat.le_of_ble_eq_true rfl, Nat.le_of_ble_eq_true rfl⟩) kl_14_50_0 cr_o rfl rfl hl.1 rfl (Nat.le_of_ble_eq_true rfl) dX2_readNumber_14 ⟨Nat.zero_le _, Nat.zero_le _⟩ (fun H locs hW => ?_)
    refine lv_istore (lv' := [(5, .int r_4), (0, .ref (ad (14, 50, 0))), (1, .ref (ad (17, 0, 0))), (2, .int v2), (3, .int v3), (4, .int v4)]) hx hb dX2_readNumber_17 hl (by decide) rfl (fun ls hl => ?_)
    refine lv_iload hx hb dX2_readNumber_19 (lv_at hl 0 rfl) ?_
    refine lv_bipush (v := 48) hx hb dX2_readNumber_21 (by decide) ?_
    refine lv_icmp_lt (tgt := 33) hx hb dX2_readNumber_23 (by decide) (fun c_5 => ?_) (fun c_5 => ?_)
    · have h := ite_p c_5 h
      refine lv_iload_n hx hb dX2_readNumber_33 rfl (lv_at hl 4 rfl) ?_
      exact xw_iret C rfl hW dX2_readNumber_34 h
    have h := ite_n c_5 h
    refine lv_iload hx hb dX2_readNumber_26 (lv_at hl 0 rfl) ?_
    refine lv_bipush (v := 57) hx hb dX2_readNumber_28 (by decide) ?_
    refine lv_icmp_le (tgt := 35) hx hb dX2_readNumber_30 (by decide) (fun c_6 => ?_) (fun c_6 => ?_)
    · have h := ite_p c_6 h
      refine lv_iconst (v := 0) hx hb dX2_readNumber_35 (by decide) ?_
      refine lv_iload_n hx hb dX2_readNumber_36 rfl (lv_at hl 4 rfl) ?_
      refine va_mmax (ls := ls) (rest := []) hx hb (hml.trans hl.1.symm) hown (hts _ mX2_readNumber_l43) (hts _ mX2_readNumber_stmax) (hts _ mX2_readNumber_inm) (hts _ mX2_readNumber_comax) (Nat.le_of_ble_eq_true rfl) (Nat.le_of_ble_eq_true rfl) (Nat.zero_le _) (Nat.zero_le _) dX2_readNumber_37 ?_
      refine lv_bipush (v := 10) hx hb dX2_readNumber_40 (by decide) ?_
      refine lv_imul hx hb dX2_readNumber_42 ?_
      refine lv_iload hx hb dX2_readNumber_43 (lv_at hl 0 rfl) ?_
      refine lv_iadd hx hb dX2_readNumber_45 ?_
      refine lv_bipush (v := 48) hx hb dX2_readNumber_46 (by decide) ?_
      refine lv_isub hx hb dX2_readNumber_48 ?_
      refine lv_istore_n (lv' := [(3, .int ((((if 0 < v3 then v3 else 0) * 10) + r_4) - 48)), (5, .int r_4), (0, .ref (ad (14, 50, 0))), (1, .ref (ad (17, 0, 0))), (2, .int v2), (4, .int v4)]) hx hb dX2_readNumber_49 rfl hl (by decide) rfl (fun ls hl => ?_)
      refine lv_aload_n hx hb dX2_readNumber_50 rfl (lv_at hl 2 rfl) ?_
      refine lv_dup hx hb dX2_readNumber_51 rfl ?_
      refine wo_get (C := RX2) (T := TX2) (N := 2) hx hb hts iX2_readNumber_2 hown hW kl_14_50_0 cr_o rfl 1 (by decide) (hts _ mX2_readNumber_l20) (fun _ h9 => h9) rfl dX2_readNumber_52 ?_
      refine lv_iconst (v := 1) hx hb dX2_readNumber_55 (by decide) ?_
      refine lv_iadd hx hb dX2_readNumber_56 ?_
      refine xw_put (C := RX2) (T := TX2) (N := 2) hx hb hts iX2_readNumber_2 tyX2 tyX2_ok nmX2 hown hW kl_14_50_0 cr_o rfl 1 (by decide) (hts _ mX2_readNumber_l20) (fun _ h9 => h9) rfl (by decide +kernel) (Nat.le_of_ble_eq_true rfl) keysX_ok rfl (pr_1 _) dX2_readNumber_57 (fun H locs hW => ?_)
      refine lv_iinc (v := v4 + 1) (lv' := [(4, .int (v4 + 1)), (3, .int ((((if 0 < v3 then v3 else 0) * 10) + r_4) - 48)), (5, .int r_4), (0, .ref (ad (14, 50, 0))), (1, .ref (ad (17, 0, 0))), (2, .int v2)]) hx hb dX2_readNumber_60 hl (k := 5) rfl rfl (by decide) rfl (fun ls hl => ?_)
      refine lv_goto (tgt := 5) hx hb dX2_readNumber_63 (by decide) ?_
      exact h5 _ _ _ _ _ _ hW (lv_sub hl [3, 4, 5, 1, 0] rfl) h
    have h := ite_n c_6 h
    refine lv_iload_n hx hb dX2_readNumber_33 rfl (lv_at hl 4 rfl) ?_
    exact xw_iret C rfl hW dX2_readNumber_34 h
set_option maxHeartbeats 4000000 in
set_option maxRecDepth 100000 in
theorem kX2_readNumber (l : Launch) (D : va_G) (g : G3) (ad : Ky → Nat) {v2 : Int32} {μ μ' : Mem} {r : Int32} (h : X2_readNumber v2 μ = some (r, μ')) : CtI l yX2_readNumber wsX2_readNumber rX2_readNumber D (tysX g) keysX ad (cX g ad) [.ref (ad (14, 50, 0)), .ref (ad (17, 0, 0)), .int v2] μ r μ' := by
  refine ctI_of (cc := cX2_readNumber) (maxL := 6) (ret := (some .int)) keysX_nd (by decide) rfl (Nat.le_of_ble_eq_true rfl) (fun p e s m below meth c A ls C hW hl => ?_)
  have hl : lv_has ls 6 [(0, .ref (ad (14, 50, 0))), (1, .ref (ad (17, 0, 0))), (2, .int v2)] := hl
  obtain ⟨hx, hb, hr, hts, hown, hlocks, hml, hA⟩ := id C
  refine lv_iconst (v := (-1)) hx hb dX2_readNumber_0 (by decide) ?_
  refine lv_istore_n (lv' := [(3, .int (-1)), (0, .ref (ad (14, 50, 0))), (1, .ref (ad (17, 0, 0))), (2, .int v2)]) hx hb dX2_readNumber_1 rfl hl (by decide) rfl (fun ls hl => ?_)
  refine lv_iconst (v := 0) hx hb dX2_readNumber_2 (by decide) ?_
  refine lv_istore (lv' := [(4, .int 0), (3, .int (-1)), (0, .ref (ad (14, 50, 0))), (1, .ref (ad (17, 0, 0))), (2, .int v2)]) hx hb dX2_readNumber_3 hl (by decide) rfl (fun ls hl => ?_)
  exact tX2_readNumber_b5 C 1000 _ _ _ _ _ _ hW (lv_sub hl [2, 3, 4, 1, 0] rfl) h
abbrev rX2_readItem : Room := { frames := 2, cells := 0, slots := 0, locals := 47 }
theorem mX2_readItem_l20 : Cond.fieldLink RX2 20 "NearlyBought$Reader" "at" "I" ∈ wsX2_readItem := by decide +kernel
theorem mX2_readItem_l11 : Cond.fieldLink RX2 11 "NearlyBought$Reader" "numbers" "[I" ∈ wsX2_readItem := by decide +kernel
theorem iX2_readItem_2 : ∀ w ∈ wsX20, w ∈ wsX2_readItem := fun _ h => List.mem_cons_of_mem _ (List.mem_append_right _ h)
set_option maxHeartbeats 4000000 in
set_option maxRecDepth 100000 in
theorem tX2_readItem_b77 {p : Program} {l : Launch} {e : Env} {s : State} {m : MethodId} {args : Array Value} {below : List Frame} {meth : Method} {c : Code} {A : Nat → Prop} {D : va_G} {g : G3} {ad : Ky → Nat} (C : Cx p s m args meth c cX2_readItem (some .boolean) 7 RX2 wsX2_readItem A) {r0 : Int32} {μ0 : Mem} {v2 v3 v4 v5 s0 s1 : Int32} {k23 : Int32 → Mem → Option (Int32 × Mem)} (h23 : ∀ (v4 : Int32) (μ : Mem) (H : Heap) (locs : List Loc) (ls : Array Slot), WX D g keysX ad A s s.heap μ H locs → lv_has ls 7 [(0, .ref (ad (14, 50, 0))), (1, .ref (ad (17, 0, 0))), (2, .int v2), (3, .int v3), (4, .int v4)] → k23 v4 μ = some (r0, μ0) → TgI r0 p l e rX2_readItem s m args below meth c D g keysX ad A μ0 H locs (F0 m 23 ls [])) {μ : Mem} {H : Heap} {locs : List Loc} {ls : Array Slot} (hW : WX D g keysX ad A s s.heap μ H locs) (hl : lv_has ls 7 [(0, .ref (ad (14, 50, 0))), (1, .ref (ad (17, 0, 0))), (2, .int v2), (3, .int v3), (4, .int v4), (5, .int v5)]) (h : X2_readItem_b77 k23 v2 v3 v4 v5 s0 s1 μ = some (r0, μ0)) : TgI r0 p l e rX2_readItem s m args below meth c D g keysX ad A μ0 H locs (F0 m 77 ls [.int s1, .int s0]) := by
  obtain ⟨hx, hb, hr, hts, hown, hlocks, hml, hA⟩ := id C
  refine lv_icmp_eq (tgt := 82) hx hb dX2_readItem_77 (by decide) (fun c_17 => ?_) (fun c_17 => ?_)
  · have h := ite_p c_17 h
    refine lv_aload_n hx hb dX2_readItem_82 rfl (lv_at hl 0 rfl) ?_
    refine wo_get (C := RX2) (T := TX2) (N := 2) hx hb hts iX2_readItem_2 hown hW kl_14_50_0 cr_o rfl 0 (by decide) (hts _ mX2_readItem_l11) (fun _ h9 => h9) rfl dX2_readItem_83 ?_
    refine lv_iload hx hb dX2_readItem_86 (lv_at hl 4 rfl) ?_
    refine lv_iload hx hb dX2_readItem_88 (lv_at hl 5 rfl) ?_
    obtain ⟨hi_18, h⟩ := gi_s h
    refine xw_ast hx hb hW kl_14_0_0 (fun _ => rfl) rfl hi_18 dX2_readItem_90 (fun H locs hW => ?_)
    refine lv_iinc (v := v4 + 1) (lv' := [(4, .int (v4 + 1)), (0, .ref (ad (14, 50, 0))), (1, .ref (ad (17, 0, 0))), (2, .int v2), (3, .int v3), (5, .int v5)]) hx hb dX2_readItem_91 hl (k := 4) rfl rfl (by decide) rfl (fun ls hl => ?_)
    refine lv_goto (tgt := 23) hx hb dX2_readItem_94 (by decide) ?_
    exact h23 _ _ _ _ _ hW (lv_sub hl [1, 2, 3, 4, 0] rfl) h
  have h := ite_n c_17 h
  refine lv_iconst (v := 0) hx hb dX2_readItem_80 (by decide) ?_
  exact xw_zret C rfl (by decide) hW dX2_readItem_81 h
set_option maxHeartbeats 4000000 in
set_option maxRecDepth 100000 in
theorem tX2_readItem_b23 {p : Program} {l : Launch} {e : Env} {s : State} {m : MethodId} {args : Array Value} {below : List Frame} {meth : Method} {c : Code} {A : Nat → Prop} {D : va_G} {g : G3} {ad : Ky → Nat} (C : Cx p s m args meth c cX2_readItem (some .boolean) 7 RX2 wsX2_readItem A) {r0 : Int32} {μ0 : Mem} {v2 v3 : Int32} (n : Nat) : ∀ (v4 : Int32) (μ : Mem) (H : Heap) (locs : List Loc) (ls : Array Slot), WX D g keysX ad A s s.heap μ H locs → lv_has ls 7 [(0, .ref (ad (14, 50, 0))), (1, .ref (ad (17, 0, 0))), (2, .int v2), (3, .int v3), (4, .int v4)] → lo1 (X2_readItem_b23 v2 v3) n v4 μ = some (r0, μ0) → TgI r0 p l e rX2_readItem s m args below meth c D g keysX ad A μ0 H locs (F0 m 23 ls []) := by
  obtain ⟨hx, hb, hr, hts, hown, hlocks, hml, hA⟩ := id C
  induction n with
  | zero =>
    intro v4 μ H locs ls hW hl h
    cases h
  | succ n h23 =>
    intro v4 μ H locs ls hW hl h
    have h : X2_readItem_b23 v2 v3 (lo1 (X2_readItem_b23 v2 v3) n) v4 μ = some (r0, μ0) := h
    refine lv_iload hx hb dX2_readItem_23 (lv_at hl 4 rfl) ?_
    refine lv_iload_n hx hb dX2_readItem_25 rfl (lv_at hl 3 rfl) ?_
    refine lv_icmp_ge (tgt := 97) hx hb dX2_readItem_26 (by decide) (fun c_7 => ?_) (fun c_7 => ?_)
    · have h := ite_p c_7 h
      refine lv_iload_n hx hb dX2_readItem_97 rfl (lv_at hl 3 rfl) ?_
      refine lv_if_le (tgt := 105) hx hb dX2_readItem_98 (by decide) (fun c_8 => ?_) (fun c_8 => ?_)
      · have h := ite_p c_8 h
        refine lv_iconst (v := 0) hx hb dX2_readItem_105 (by decide) ?_
        exact xw_zret C rfl (by decide) hW dX2_readItem_106 h
      have h := ite_n c_8 h
      refine lv_iconst (v := 1) hx hb dX2_readItem_101 (by decide) ?_
      refine lv_goto (tgt := 106) hx hb dX2_readItem_102 (by decide) ?_
      exact xw_zret C rfl (by decide) hW dX2_readItem_106 h
    have h := ite_n c_7 h
    refine lv_aload_n hx hb dX2_readItem_29 rfl (lv_at hl 0 rfl) ?_
    refine lv_aload_n hx hb dX2_readItem_30 rfl (lv_at hl 1 rfl) ?_
    refine lv_iload_n hx hb dX2_readItem_31 rfl (lv_at hl 2 rfl) ?_
    obtain ⟨r_11, μ_10, hh_9, h⟩ := bd_s h
    refine wo_Vi (rest := []) C hW (kX2_readNumber l D g ad  hh_9) (cwV 2 hts gX2_readItem_X2_readNumber rfl rfl rfl (by decide +kernel) ⟨Nat.le_of_ble_eq_true rfl, Nat.le_of_ble_eq_true rfl⟩) kl_14_50_0 cr_o rfl rfl hl.1 rfl (Nat.le_of_ble_eq_true rfl) dX2_readItem_32 ⟨Nat.zero_le _, Nat.zero_le _⟩ (fun H locs hW => ?_)
    refine lv_istore (lv' := [(5, .int r_11), (0, .ref (ad (14, 50, 0))), (1, .ref (ad (17, 0, 0))), (2, .int v2), (3, .int v3), (4, .int v4)]) hx hb dX2_readItem_35 hl (by decide) rfl (fun ls hl => ?_)
    refine lv_aload_n hx hb dX2_readItem_37 rfl (lv_at hl 1 rfl) ?_
    refine lv_aload_n hx hb dX2_readItem_38 rfl (lv_at hl 2 rfl) ?_
    refine lv_iload_n hx hb dX2_readItem_39 rfl (lv_at hl 3 rfl) ?_
    obtain ⟨r_14, μ_13, hh_12, h⟩ := bd_s h
    refine wo_Vi (rest := []) C hW (kX2_letterAt l D g ad  hh_12) (cwV 2 hts gX2_readItem_X2_letterAt rfl rfl rfl (by decide +kernel) ⟨Nat.le_of_ble_eq_true rfl, Nat.le_of_ble_eq_true rfl⟩) kl_14_50_0 cr_o rfl rfl hl.1 rfl (Nat.le_of_ble_eq_true rfl) dX2_readItem_40 ⟨Nat.zero_le _, Nat.zero_le _⟩ (fun H locs hW => ?_)
    refine lv_istore (lv' := [(6, .int r_14), (5, .int r_11), (0, .ref (ad (14, 50, 0))), (1, .ref (ad (17, 0, 0))), (2, .int v2), (3, .int v3), (4, .int v4)]) hx hb dX2_readItem_43 hl (by decide) rfl (fun ls hl => ?_)
    refine lv_aload_n hx hb dX2_readItem_45 rfl (lv_at hl 2 rfl) ?_
    refine lv_dup hx hb dX2_readItem_46 rfl ?_
    refine wo_get (C := RX2) (T := TX2) (N := 2) hx hb hts iX2_readItem_2 hown hW kl_14_50_0 cr_o rfl 1 (by decide) (hts _ mX2_readItem_l20) (fun _ h9 => h9) rfl dX2_readItem_47 ?_
    refine lv_iconst (v := 1) hx hb dX2_readItem_50 (by decide) ?_
    refine lv_iadd hx hb dX2_readItem_51 ?_
    refine xw_put (C := RX2) (T := TX2) (N := 2) hx hb hts iX2_readItem_2 tyX2 tyX2_ok nmX2 hown hW kl_14_50_0 cr_o rfl 1 (by decide) (hts _ mX2_readItem_l20) (fun _ h9 => h9) rfl (by decide +kernel) (Nat.le_of_ble_eq_true rfl) keysX_ok rfl (pr_1 _) dX2_readItem_52 (fun H locs hW => ?_)
    refine lv_iload hx hb dX2_readItem_55 (lv_at hl 1 rfl) ?_
    refine lv_if_lt (tgt := 80) hx hb dX2_readItem_57 (by decide) (fun c_15 => ?_) (fun c_15 => ?_)
    · have h := ite_p c_15 h
      refine lv_iconst (v := 0) hx hb dX2_readItem_80 (by decide) ?_
      exact xw_zret C rfl (by decide) hW dX2_readItem_81 h
    have h := ite_n c_15 h
    refine lv_iload hx hb dX2_readItem_60 (lv_at hl 0 rfl) ?_
    refine lv_iload hx hb dX2_readItem_62 (lv_at hl 6 rfl) ?_
    refine lv_iload_n hx hb dX2_readItem_64 rfl (lv_at hl 5 rfl) ?_
    refine lv_iconst (v := 1) hx hb dX2_readItem_65 (by decide) ?_
    refine lv_isub hx hb dX2_readItem_66 ?_
    refine lv_icmp_ne (tgt := 75) hx hb dX2_readItem_67 (by decide) (fun c_16 => ?_) (fun c_16 => ?_)
    · have h := ite_n c_16 h
      refine lv_bipush (v := 44) hx hb dX2_readItem_75 (by decide) ?_
      exact tX2_readItem_b77 C h23 hW (lv_sub hl [2, 3, 4, 5, 6, 1] rfl) h
    have h := ite_p c_16 h
    refine lv_bipush (v := 59) hx hb dX2_readItem_70 (by decide) ?_
    refine lv_goto (tgt := 77) hx hb dX2_readItem_72 (by decide) ?_
    exact tX2_readItem_b77 C h23 hW (lv_sub hl [2, 3, 4, 5, 6, 1] rfl) h
set_option maxHeartbeats 4000000 in
set_option maxRecDepth 100000 in
theorem kX2_readItem (l : Launch) (D : va_G) (g : G3) (ad : Ky → Nat) {v2 : Int32} {μ μ' : Mem} {r : Int32} (h : X2_readItem v2 μ = some (r, μ')) : CtI l yX2_readItem wsX2_readItem rX2_readItem D (tysX g) keysX ad (cX g ad) [.ref (ad (14, 50, 0)), .ref (ad (17, 0, 0)), .int v2] μ r μ' := by
  refine ctI_of (cc := cX2_readItem) (maxL := 7) (ret := (some .boolean)) keysX_nd (by decide) rfl (Nat.le_of_ble_eq_true rfl) (fun p e s m below meth c A ls C hW hl => ?_)
  have hl : lv_has ls 7 [(0, .ref (ad (14, 50, 0))), (1, .ref (ad (17, 0, 0))), (2, .int v2)] := hl
  obtain ⟨hx, hb, hr, hts, hown, hlocks, hml, hA⟩ := id C
  refine lv_aload_n hx hb dX2_readItem_0 rfl (lv_at hl 0 rfl) ?_
  refine lv_aload_n hx hb dX2_readItem_1 rfl (lv_at hl 1 rfl) ?_
  refine lv_iload_n hx hb dX2_readItem_2 rfl (lv_at hl 2 rfl) ?_
  obtain ⟨r_3, μ_2, hh_1, h⟩ := bd_s h
  refine wo_Vi (rest := []) C hW (kX2_letterAt l D g ad  hh_1) (cwV 2 hts gX2_readItem_X2_letterAt rfl rfl rfl (by decide +kernel) ⟨Nat.le_of_ble_eq_true rfl, Nat.le_of_ble_eq_true rfl⟩) kl_14_50_0 cr_o rfl rfl hl.1 rfl (Nat.le_of_ble_eq_true rfl) dX2_readItem_3 ⟨Nat.zero_le _, Nat.zero_le _⟩ (fun H locs hW => ?_)
  obtain ⟨r_6, μ_5, hh_4, h⟩ := bd_s h
  refine wo_Si (rest := []) C hW (kX2_numbersDue l D g ad  hh_4) (cwS 1 hts gX2_readItem_X2_numbersDue rfl rfl rfl (by decide +kernel) ⟨Nat.le_of_ble_eq_true rfl, Nat.le_of_ble_eq_true rfl⟩) rfl hl.1 rfl (Nat.le_of_ble_eq_true rfl) dX2_readItem_6 ⟨Nat.zero_le _, Nat.zero_le _⟩ (fun H locs hW => ?_)
  refine lv_istore_n (lv' := [(3, .int r_6), (0, .ref (ad (14, 50, 0))), (1, .ref (ad (17, 0, 0))), (2, .int v2)]) hx hb dX2_readItem_9 rfl hl (by decide) rfl (fun ls hl => ?_)
  refine lv_aload_n hx hb dX2_readItem_10 rfl (lv_at hl 1 rfl) ?_
  refine lv_dup hx hb dX2_readItem_11 rfl ?_
  refine wo_get (C := RX2) (T := TX2) (N := 2) hx hb hts iX2_readItem_2 hown hW kl_14_50_0 cr_o rfl 1 (by decide) (hts _ mX2_readItem_l20) (fun _ h9 => h9) rfl dX2_readItem_12 ?_
  refine lv_iconst (v := 1) hx hb dX2_readItem_15 (by decide) ?_
  refine lv_iadd hx hb dX2_readItem_16 ?_
  refine xw_put (C := RX2) (T := TX2) (N := 2) hx hb hts iX2_readItem_2 tyX2 tyX2_ok nmX2 hown hW kl_14_50_0 cr_o rfl 1 (by decide) (hts _ mX2_readItem_l20) (fun _ h9 => h9) rfl (by decide +kernel) (Nat.le_of_ble_eq_true rfl) keysX_ok rfl (pr_1 _) dX2_readItem_17 (fun H locs hW => ?_)
  refine lv_iconst (v := 0) hx hb dX2_readItem_20 (by decide) ?_
  refine lv_istore (lv' := [(4, .int 0), (3, .int r_6), (0, .ref (ad (14, 50, 0))), (1, .ref (ad (17, 0, 0))), (2, .int v2)]) hx hb dX2_readItem_21 hl (by decide) rfl (fun ls hl => ?_)
  exact tX2_readItem_b23 C 1000 _ _ _ _ _ hW (lv_sub hl [2, 3, 4, 1, 0] rfl) h
abbrev rX2_read : Room := { frames := 3, cells := 0, slots := 0, locals := 73 }
theorem mX2_read_l20 : Cond.fieldLink RX2 20 "NearlyBought$Reader" "at" "I" ∈ wsX2_read := by decide +kernel
theorem mX2_read_l11 : Cond.fieldLink RX2 11 "NearlyBought$Reader" "numbers" "[I" ∈ wsX2_read := by decide +kernel
theorem iX2_read_2 : ∀ w ∈ wsX20, w ∈ wsX2_read := fun _ h => List.mem_cons_of_mem _ (List.mem_append_left _ (List.mem_append_right _ h))
set_option maxHeartbeats 4000000 in
set_option maxRecDepth 100000 in
theorem tX2_read_b12 {p : Program} {l : Launch} {e : Env} {s : State} {m : MethodId} {args : Array Value} {below : List Frame} {meth : Method} {c : Code} {A : Nat → Prop} {D : va_G} {g : G3} {ad : Ky → Nat} (C : Cx p s m args meth c cX2_read (some .int) 6 RX2 wsX2_read A) {q : Nat} (h2 : q < 14) (h1 : 12 ≤ q) {r0 : Int32} {μ0 : Mem} {v2 : Int32} (n : Nat) : ∀ (v4 : Int32) (μ : Mem) (H : Heap) (locs : List Loc) (ls : Array Slot), WX D g keysX ad A s s.heap μ H locs → lv_has ls 6 [(0, .ref (ad (14, 50, 0))), (1, .ref (ad (17, 0, 0))), (2, .int v2), (3, .ref (ad (q, 50, 0))), (4, .int v4)] → lo1 (X2_read_b12 q v2) n v4 μ = some (r0, μ0) → TgI r0 p l e rX2_read s m args below meth c D g keysX ad A μ0 H locs (F0 m 12 ls []) := by
  obtain ⟨hx, hb, hr, hts, hown, hlocks, hml, hA⟩ := id C
  induction n with
  | zero =>
    intro v4 μ H locs ls hW hl h
    cases h
  | succ n h12 =>
    intro v4 μ H locs ls hW hl h
    have h : X2_read_b12 q v2 (lo1 (X2_read_b12 q v2) n) v4 μ = some (r0, μ0) := h
    refine lv_iload hx hb dX2_read_12 (lv_at hl 4 rfl) ?_
    refine lv_iload_n hx hb dX2_read_14 rfl (lv_at hl 2 rfl) ?_
    refine lv_icmp_ge (tgt := 65) hx hb dX2_read_15 (by decide) (fun c_3 => ?_) (fun c_3 => ?_)
    · have h := ite_p c_3 h
      refine lv_bipush (v := (-4)) hx hb dX2_read_65 (by decide) ?_
      exact xw_iret C rfl hW dX2_read_67 h
    have h := ite_n c_3 h
    refine lv_aload_n hx hb dX2_read_18 rfl (lv_at hl 0 rfl) ?_
    refine wo_get (C := RX2) (T := TX2) (N := 2) hx hb hts iX2_read_2 hown hW kl_14_50_0 cr_o rfl 1 (by decide) (hts _ mX2_read_l20) (fun _ h9 => h9) rfl dX2_read_19 ?_
    refine lv_iload_n hx hb dX2_read_22 rfl (lv_at hl 2 rfl) ?_
    refine lv_icmp_ge (tgt := 65) hx hb dX2_read_23 (by decide) (fun c_4 => ?_) (fun c_4 => ?_)
    · have h := ite_p c_4 h
      refine lv_bipush (v := (-4)) hx hb dX2_read_65 (by decide) ?_
      exact xw_iret C rfl hW dX2_read_67 h
    have h := ite_n c_4 h
    refine lv_aload_n hx hb dX2_read_26 rfl (lv_at hl 0 rfl) ?_
    refine wo_get (C := RX2) (T := TX2) (N := 2) hx hb hts iX2_read_2 hown hW kl_14_50_0 cr_o rfl 1 (by decide) (hts _ mX2_read_l20) (fun _ h9 => h9) rfl dX2_read_27 ?_
    refine lv_istore (lv' := [(5, .int (μ 14 1 0 0)), (0, .ref (ad (14, 50, 0))), (1, .ref (ad (17, 0, 0))), (2, .int v2), (3, .ref (ad (q, 50, 0))), (4, .int v4)]) hx hb dX2_read_30 hl (by decide) rfl (fun ls hl => ?_)
    refine lv_aload_n hx hb dX2_read_32 rfl (lv_at hl 1 rfl) ?_
    refine lv_aload_n hx hb dX2_read_33 rfl (lv_at hl 2 rfl) ?_
    refine lv_iload_n hx hb dX2_read_34 rfl (lv_at hl 3 rfl) ?_
    obtain ⟨r_7, μ_6, hh_5, h⟩ := bd_s h
    refine wo_Vi (rest := []) C hW (kX2_readItem l D g ad  hh_5) (cwV 2 hts gX2_read_X2_readItem rfl rfl rfl (by decide +kernel) ⟨Nat.le_of_ble_eq_true rfl, Nat.le_of_ble_eq_true rfl⟩) kl_14_50_0 cr_o rfl rfl hl.1 rfl (Nat.le_of_ble_eq_true rfl) dX2_read_35 ⟨Nat.zero_le _, Nat.zero_le _⟩ (fun H locs hW => ?_)
    refine lv_if_eq (tgt := 56) hx hb dX2_read_38 (by decide) (fun c_8 => ?_) (fun c_8 => ?_)
    · have h := ite_p c_8 h
      refine lv_iload hx hb dX2_read_56 (lv_at hl 0 rfl) ?_
      exact xw_iret C rfl hW dX2_read_58 h
    have h := ite_n c_8 h
    refine lv_aload_n hx hb dX2_read_41 rfl (lv_at hl 4 rfl) ?_
    refine lv_aload_n hx hb dX2_read_42 rfl (lv_at hl 2 rfl) ?_
    refine lv_iload hx hb dX2_read_43 (lv_at hl 0 rfl) ?_
    obtain ⟨hi_9, h⟩ := gi_s h
    refine xw_ald hx hb hW kl_17_0_0 rfl hi_9 dX2_read_45 ?_
    refine lv_aload_n hx hb dX2_read_46 rfl (lv_at hl 1 rfl) ?_
    refine wo_get (C := RX2) (T := TX2) (N := 2) hx hb hts iX2_read_2 hown hW kl_14_50_0 cr_o rfl 0 (by decide) (hts _ mX2_read_l11) (fun _ h9 => h9) rfl dX2_read_47 ?_
    obtain ⟨r_12, μ_11, hh_10, h⟩ := bd_s h
    refine wo_Vi (rest := []) C hW (kX4_takeItem l D g ad (q := q) h2 h1 hh_10) (cwV 2 hts gX2_read_X4_takeItem rfl rfl rfl (by decide +kernel) ⟨Nat.le_of_ble_eq_true rfl, Nat.le_of_ble_eq_true rfl⟩) (kt_o q h2 h1) (ct_o h2 h1) rfl rfl hl.1 rfl (Nat.le_of_ble_eq_true rfl) dX2_read_50 ⟨Nat.zero_le _, Nat.zero_le _⟩ (fun H locs hW => ?_)
    refine lv_if_ne (tgt := 59) hx hb dX2_read_53 (by decide) (fun c_13 => ?_) (fun c_13 => ?_)
    · have h := ite_n c_13 h
      refine lv_iinc (v := v4 + 1) (lv' := [(4, .int (v4 + 1)), (5, .int (μ 14 1 0 0)), (0, .ref (ad (14, 50, 0))), (1, .ref (ad (17, 0, 0))), (2, .int v2), (3, .ref (ad (q, 50, 0)))]) hx hb dX2_read_59 hl (k := 5) rfl rfl (by decide) rfl (fun ls hl => ?_)
      refine lv_goto (tgt := 12) hx hb dX2_read_62 (by decide) ?_
      exact h12 _ _ _ _ _ hW (lv_sub hl [2, 3, 4, 5, 0] rfl) h
    have h := ite_p c_13 h
    refine lv_iload hx hb dX2_read_56 (lv_at hl 0 rfl) ?_
    exact xw_iret C rfl hW dX2_read_58 h
set_option maxHeartbeats 4000000 in
set_option maxRecDepth 100000 in
theorem kX2_read (l : Launch) (D : va_G) (g : G3) (ad : Ky → Nat) {q : Nat} (h2 : q < 14) (h1 : 12 ≤ q) {v2 : Int32} {μ μ' : Mem} {r : Int32} (h : X2_read q v2 μ = some (r, μ')) : CtI l yX2_read wsX2_read rX2_read D (tysX g) keysX ad (cX g ad) [.ref (ad (14, 50, 0)), .ref (ad (17, 0, 0)), .int v2, .ref (ad (q, 50, 0))] μ r μ' := by
  refine ctI_of (cc := cX2_read) (maxL := 6) (ret := (some .int)) keysX_nd (by decide) rfl (Nat.le_of_ble_eq_true rfl) (fun p e s m below meth c A ls C hW hl => ?_)
  have hl : lv_has ls 6 [(0, .ref (ad (14, 50, 0))), (1, .ref (ad (17, 0, 0))), (2, .int v2), (3, .ref (ad (q, 50, 0)))] := hl
  obtain ⟨hx, hb, hr, hts, hown, hlocks, hml, hA⟩ := id C
  refine lv_aload_n hx hb dX2_read_0 rfl (lv_at hl 3 rfl) ?_
  obtain ⟨μ_2, hh_1, h⟩ := bdv_s h
  refine wo_Vv (rest := []) C hW (kX4_clear l D g ad (q := q) h2 h1 hh_1) (cwV 0 hts gX2_read_X4_clear rfl rfl rfl (by decide +kernel) ⟨Nat.le_of_ble_eq_true rfl, Nat.le_of_ble_eq_true rfl⟩) (kt_o q h2 h1) (ct_o h2 h1) rfl rfl hl.1 rfl (Nat.le_of_ble_eq_true rfl) dX2_read_1 ⟨Nat.zero_le _, Nat.zero_le _⟩ (fun H locs hW => ?_)
  refine lv_aload_n hx hb dX2_read_4 rfl (lv_at hl 0 rfl) ?_
  refine lv_iconst (v := 0) hx hb dX2_read_5 (by decide) ?_
  refine xw_put (C := RX2) (T := TX2) (N := 2) hx hb hts iX2_read_2 tyX2 tyX2_ok nmX2 hown hW kl_14_50_0 cr_o rfl 1 (by decide) (hts _ mX2_read_l20) (fun _ h9 => h9) rfl (by decide +kernel) (Nat.le_of_ble_eq_true rfl) keysX_ok rfl (pr_1 _) dX2_read_6 (fun H locs hW => ?_)
  refine lv_iconst (v := 0) hx hb dX2_read_9 (by decide) ?_
  refine lv_istore (lv' := [(4, .int 0), (0, .ref (ad (14, 50, 0))), (1, .ref (ad (17, 0, 0))), (2, .int v2), (3, .ref (ad (q, 50, 0)))]) hx hb dX2_read_10 hl (by decide) rfl (fun ls hl => ?_)
  exact tX2_read_b12 C h2 h1 1000 _ _ _ _ _ hW (lv_sub hl [1, 2, 3, 4, 0] rfl) h
abbrev rX3_add : Room := { frames := 0, cells := 0, slots := 0, locals := 0 }
theorem mX3_add_l21 : Cond.fieldLink RX3 21 "NearlyBought$Sights" "size" "I" ∈ wsX3_add := by decide +kernel
theorem mX3_add_l9 : Cond.fieldLink RX3 9 "NearlyBought$Sights" "things" "[I" ∈ wsX3_add := by decide +kernel
theorem mX3_add_l15 : Cond.fieldLink RX3 15 "NearlyBought$Sights" "persons" "[I" ∈ wsX3_add := by decide +kernel
theorem mX3_add_l18 : Cond.fieldLink RX3 18 "NearlyBought$Sights" "fairs" "[I" ∈ wsX3_add := by decide +kernel
theorem iX3_add_3 : ∀ w ∈ wsX30, w ∈ wsX3_add := fun _ h => List.mem_cons_of_mem _ (List.mem_append_right _ h)
set_option maxHeartbeats 4000000 in
set_option maxRecDepth 100000 in
theorem kX3_add (l : Launch) (D : va_G) (g : G3) (ad : Ky → Nat) {v1 v2 v3 : Int32} {μ μ' : Mem} (h : X3_add v1 v2 v3 μ = some μ') : CtV l yX3_add wsX3_add rX3_add D (tysX g) keysX ad (cX g ad) [.ref (ad (16, 50, 0)), .int v1, .int v2, .int v3] μ μ' := by
  refine ctV_of (cc := cX3_add) (maxL := 4) (ret := none) keysX_nd (by decide) rfl (Nat.le_of_ble_eq_true rfl) (fun p e s m below meth c A ls C hW hl => ?_)
  have hl : lv_has ls 4 [(0, .ref (ad (16, 50, 0))), (1, .int v1), (2, .int v2), (3, .int v3)] := hl
  obtain ⟨hx, hb, hr, hts, hown, hlocks, hml, hA⟩ := id C
  refine lv_aload_n hx hb dX3_add_0 rfl (lv_at hl 0 rfl) ?_
  refine wo_get (C := RX3) (T := TX3) (N := 4) hx hb hts iX3_add_3 hown hW kl_16_50_0 cs_o rfl 3 (by decide) (hts _ mX3_add_l21) (fun _ h9 => h9) rfl dX3_add_1 ?_
  refine lv_bipush (v := 6) hx hb dX3_add_4 (by decide) ?_
  refine lv_icmp_ge (tgt := 49) hx hb dX3_add_6 (by decide) (fun c_1 => ?_) (fun c_1 => ?_)
  · have h := ite_p c_1 h
    exact xw_vret C rfl hW dX3_add_49 h
  have h := ite_n c_1 h
  refine lv_aload_n hx hb dX3_add_9 rfl (lv_at hl 0 rfl) ?_
  refine wo_get (C := RX3) (T := TX3) (N := 4) hx hb hts iX3_add_3 hown hW kl_16_50_0 cs_o rfl 0 (by decide) (hts _ mX3_add_l9) (fun _ h9 => h9) rfl dX3_add_10 ?_
  refine lv_aload_n hx hb dX3_add_13 rfl (lv_at hl 0 rfl) ?_
  refine wo_get (C := RX3) (T := TX3) (N := 4) hx hb hts iX3_add_3 hown hW kl_16_50_0 cs_o rfl 3 (by decide) (hts _ mX3_add_l21) (fun _ h9 => h9) rfl dX3_add_14 ?_
  refine lv_iload_n hx hb dX3_add_17 rfl (lv_at hl 1 rfl) ?_
  obtain ⟨hi_2, h⟩ := gi_s h
  refine xw_ast hx hb hW kl_16_0_0 (fun _ => rfl) rfl hi_2 dX3_add_18 (fun H locs hW => ?_)
  refine lv_aload_n hx hb dX3_add_19 rfl (lv_at hl 0 rfl) ?_
  refine wo_get (C := RX3) (T := TX3) (N := 4) hx hb hts iX3_add_3 hown hW kl_16_50_0 cs_o rfl 1 (by decide) (hts _ mX3_add_l15) (fun _ h9 => h9) rfl dX3_add_20 ?_
  refine lv_aload_n hx hb dX3_add_23 rfl (lv_at hl 0 rfl) ?_
  refine wo_get (C := RX3) (T := TX3) (N := 4) hx hb hts iX3_add_3 hown hW kl_16_50_0 cs_o rfl 3 (by decide) (hts _ mX3_add_l21) (fun _ h9 => h9) rfl dX3_add_24 ?_
  refine lv_iload_n hx hb dX3_add_27 rfl (lv_at hl 2 rfl) ?_
  obtain ⟨hi_3, h⟩ := gi_s h
  refine xw_ast hx hb hW kl_16_1_0 (fun _ => rfl) rfl hi_3 dX3_add_28 (fun H locs hW => ?_)
  refine lv_aload_n hx hb dX3_add_29 rfl (lv_at hl 0 rfl) ?_
  refine wo_get (C := RX3) (T := TX3) (N := 4) hx hb hts iX3_add_3 hown hW kl_16_50_0 cs_o rfl 2 (by decide) (hts _ mX3_add_l18) (fun _ h9 => h9) rfl dX3_add_30 ?_
  refine lv_aload_n hx hb dX3_add_33 rfl (lv_at hl 0 rfl) ?_
  refine wo_get (C := RX3) (T := TX3) (N := 4) hx hb hts iX3_add_3 hown hW kl_16_50_0 cs_o rfl 3 (by decide) (hts _ mX3_add_l21) (fun _ h9 => h9) rfl dX3_add_34 ?_
  refine lv_iload_n hx hb dX3_add_37 rfl (lv_at hl 3 rfl) ?_
  obtain ⟨hi_4, h⟩ := gi_s h
  refine xw_ast hx hb hW kl_16_2_0 (fun _ => rfl) rfl hi_4 dX3_add_38 (fun H locs hW => ?_)
  refine lv_aload_n hx hb dX3_add_39 rfl (lv_at hl 0 rfl) ?_
  refine lv_dup hx hb dX3_add_40 rfl ?_
  refine wo_get (C := RX3) (T := TX3) (N := 4) hx hb hts iX3_add_3 hown hW kl_16_50_0 cs_o rfl 3 (by decide) (hts _ mX3_add_l21) (fun _ h9 => h9) rfl dX3_add_41 ?_
  refine lv_iconst (v := 1) hx hb dX3_add_44 (by decide) ?_
  refine lv_iadd hx hb dX3_add_45 ?_
  refine xw_put (C := RX3) (T := TX3) (N := 4) hx hb hts iX3_add_3 tyX3 tyX3_ok nmX3 hown hW kl_16_50_0 cs_o rfl 3 (by decide) (hts _ mX3_add_l21) (fun _ h9 => h9) rfl (by decide +kernel) (Nat.le_of_ble_eq_true rfl) keysX_ok rfl (ps_3 _) dX3_add_46 (fun H locs hW => ?_)
  exact xw_vret C rfl hW dX3_add_49 h
abbrev rX3_allHoldIn : Room := { frames := 5, cells := 0, slots := 0, locals := 112 }
theorem mX3_allHoldIn_l21 : Cond.fieldLink RX3 21 "NearlyBought$Sights" "size" "I" ∈ wsX3_allHoldIn := by decide +kernel
theorem mX3_allHoldIn_l18 : Cond.fieldLink RX3 18 "NearlyBought$Sights" "fairs" "[I" ∈ wsX3_allHoldIn := by decide +kernel
theorem mX3_allHoldIn_l35 : Cond.fieldLink RX3 35 "NearlyBought$Market" "owner" "[I" ∈ wsX3_allHoldIn := by decide +kernel
theorem mX3_allHoldIn_l9 : Cond.fieldLink RX3 9 "NearlyBought$Sights" "things" "[I" ∈ wsX3_allHoldIn := by decide +kernel
theorem mX3_allHoldIn_l15 : Cond.fieldLink RX3 15 "NearlyBought$Sights" "persons" "[I" ∈ wsX3_allHoldIn := by decide +kernel
theorem iX3_allHoldIn_1 : ∀ w ∈ wsX10, w ∈ wsX3_allHoldIn := fun _ h => List.mem_cons_of_mem _ (List.mem_append_left _ (List.mem_append_right _ h))
theorem iX3_allHoldIn_3 : ∀ w ∈ wsX30, w ∈ wsX3_allHoldIn := fun _ h => List.mem_cons_of_mem _ (List.mem_append_left _ (List.mem_append_left _ (List.mem_append_right _ h)))
set_option maxHeartbeats 4000000 in
set_option maxRecDepth 100000 in
theorem tX3_allHoldIn_b65 {p : Program} {l : Launch} {e : Env} {s : State} {m : MethodId} {args : Array Value} {below : List Frame} {meth : Method} {c : Code} {A : Nat → Prop} {D : va_G} {g : G3} {ad : Ky → Nat} (C : Cx p s m args meth c cX3_allHoldIn (some .boolean) 5 RX3 wsX3_allHoldIn A) {r0 : Int32} {μ0 : Mem} {v3 v4 : Int32} {k7 : Int32 → Mem → Option (Int32 × Mem)} (h7 : ∀ (v3 : Int32) (μ : Mem) (H : Heap) (locs : List Loc) (ls : Array Slot), WX D g keysX ad A s s.heap μ H locs → lv_has ls 5 [(0, .ref (ad (16, 50, 0))), (1, .ref (ad (1, 50, 0))), (3, .int v3)] → k7 v3 μ = some (r0, μ0) → TgI r0 p l e rX3_allHoldIn s m args below meth c D g keysX ad A μ0 H locs (F0 m 7 ls [])) {k21 : Int32 → Mem → Option (Int32 × Mem)} (h21 : ∀ (v4 : Int32) (μ : Mem) (H : Heap) (locs : List Loc) (ls : Array Slot), WX D g keysX ad A s s.heap μ H locs → lv_has ls 5 [(0, .ref (ad (16, 50, 0))), (1, .ref (ad (1, 50, 0))), (3, .int v3), (4, .int v4)] → k21 v4 μ = some (r0, μ0) → TgI r0 p l e rX3_allHoldIn s m args below meth c D g keysX ad A μ0 H locs (F0 m 21 ls [])) {μ : Mem} {H : Heap} {locs : List Loc} {ls : Array Slot} (hW : WX D g keysX ad A s s.heap μ H locs) (hl : lv_has ls 5 [(0, .ref (ad (16, 50, 0))), (1, .ref (ad (1, 50, 0))), (3, .int v3), (4, .int v4)]) (h : X3_allHoldIn_b65 k7 k21 v3 v4 μ = some (r0, μ0)) : TgI r0 p l e rX3_allHoldIn s m args below meth c D g keysX ad A μ0 H locs (F0 m 65 ls []) := by
  obtain ⟨hx, hb, hr, hts, hown, hlocks, hml, hA⟩ := id C
  refine lv_iinc (v := v4 + 1) (lv' := [(4, .int (v4 + 1)), (0, .ref (ad (16, 50, 0))), (1, .ref (ad (1, 50, 0))), (3, .int v3)]) hx hb dX3_allHoldIn_65 hl (k := 3) rfl rfl (by decide) rfl (fun ls hl => ?_)
  refine lv_goto (tgt := 21) hx hb dX3_allHoldIn_68 (by decide) ?_
  exact h21 _ _ _ _ _ hW (lv_sub hl [1, 2, 3, 0] rfl) h
set_option maxHeartbeats 4000000 in
set_option maxRecDepth 100000 in
theorem tX3_allHoldIn_b21 {p : Program} {l : Launch} {e : Env} {s : State} {m : MethodId} {args : Array Value} {below : List Frame} {meth : Method} {c : Code} {A : Nat → Prop} {D : va_G} {g : G3} {ad : Ky → Nat} (C : Cx p s m args meth c cX3_allHoldIn (some .boolean) 5 RX3 wsX3_allHoldIn A) {r0 : Int32} {μ0 : Mem} {v3 : Int32} {k7 : Int32 → Mem → Option (Int32 × Mem)} (h7 : ∀ (v3 : Int32) (μ : Mem) (H : Heap) (locs : List Loc) (ls : Array Slot), WX D g keysX ad A s s.heap μ H locs → lv_has ls 5 [(0, .ref (ad (16, 50, 0))), (1, .ref (ad (1, 50, 0))), (3, .int v3)] → k7 v3 μ = some (r0, μ0) → TgI r0 p l e rX3_allHoldIn s m args below meth c D g keysX ad A μ0 H locs (F0 m 7 ls [])) (n : Nat) : ∀ (v4 : Int32) (μ : Mem) (H : Heap) (locs : List Loc) (ls : Array Slot), WX D g keysX ad A s s.heap μ H locs → lv_has ls 5 [(0, .ref (ad (16, 50, 0))), (1, .ref (ad (1, 50, 0))), (3, .int v3), (4, .int v4)] → lo1 (X3_allHoldIn_b21 k7 v3) n v4 μ = some (r0, μ0) → TgI r0 p l e rX3_allHoldIn s m args below meth c D g keysX ad A μ0 H locs (F0 m 21 ls []) := by
  obtain ⟨hx, hb, hr, hts, hown, hlocks, hml, hA⟩ := id C
  induction n with
  | zero =>
    intro v4 μ H locs ls hW hl h
    cases h
  | succ n h21 =>
    intro v4 μ H locs ls hW hl h
    have h : X3_allHoldIn_b21 k7 v3 (lo1 (X3_allHoldIn_b21 k7 v3) n) v4 μ = some (r0, μ0) := h
    refine lv_iload hx hb dX3_allHoldIn_21 (lv_at hl 3 rfl) ?_
    refine lv_aload_n hx hb dX3_allHoldIn_23 rfl (lv_at hl 0 rfl) ?_
    refine wo_get (C := RX3) (T := TX3) (N := 4) hx hb hts iX3_allHoldIn_3 hown hW kl_16_50_0 cs_o rfl 3 (by decide) (hts _ mX3_allHoldIn_l21) (fun _ h9 => h9) rfl dX3_allHoldIn_24 ?_
    refine lv_icmp_ge (tgt := 71) hx hb dX3_allHoldIn_27 (by decide) (fun c_7 => ?_) (fun c_7 => ?_)
    · have h := ite_p c_7 h
      refine lv_iinc (v := v3 + 1) (lv' := [(3, .int (v3 + 1)), (0, .ref (ad (16, 50, 0))), (1, .ref (ad (1, 50, 0))), (4, .int v4)]) hx hb dX3_allHoldIn_71 hl (k := 2) rfl rfl (by decide) rfl (fun ls hl => ?_)
      refine lv_goto (tgt := 7) hx hb dX3_allHoldIn_74 (by decide) ?_
      exact h7 _ _ _ _ _ hW (lv_sub hl [1, 2, 0] rfl) h
    have h := ite_n c_7 h
    refine lv_aload_n hx hb dX3_allHoldIn_30 rfl (lv_at hl 0 rfl) ?_
    refine wo_get (C := RX3) (T := TX3) (N := 4) hx hb hts iX3_allHoldIn_3 hown hW kl_16_50_0 cs_o rfl 2 (by decide) (hts _ mX3_allHoldIn_l18) (fun _ h9 => h9) rfl dX3_allHoldIn_31 ?_
    refine lv_iload hx hb dX3_allHoldIn_34 (lv_at hl 3 rfl) ?_
    obtain ⟨hi_8, h⟩ := gi_s h
    refine xw_ald hx hb hW kl_16_2_0 rfl hi_8 dX3_allHoldIn_36 ?_
    refine lv_iload_n hx hb dX3_allHoldIn_37 rfl (lv_at hl 2 rfl) ?_
    refine lv_icmp_ne (tgt := 65) hx hb dX3_allHoldIn_38 (by decide) (fun c_9 => ?_) (fun c_9 => ?_)
    · have h := ite_n c_9 h
      exact tX3_allHoldIn_b65 C h7 h21 hW (lv_sub hl [0, 1, 2, 3] rfl) h
    have h := ite_p c_9 h
    refine lv_aload_n hx hb dX3_allHoldIn_41 rfl (lv_at hl 1 rfl) ?_
    refine wo_get (C := RX1) (T := TX1) (N := 10) hx hb hts iX3_allHoldIn_1 hown hW (km_o 1 (by decide)) (cm_o (by decide)) rfl 4 (by decide) (hts _ mX3_allHoldIn_l35) (fun _ h9 => h9) rfl dX3_allHoldIn_42 ?_
    refine lv_aload_n hx hb dX3_allHoldIn_45 rfl (lv_at hl 0 rfl) ?_
    refine wo_get (C := RX3) (T := TX3) (N := 4) hx hb hts iX3_allHoldIn_3 hown hW kl_16_50_0 cs_o rfl 0 (by decide) (hts _ mX3_allHoldIn_l9) (fun _ h9 => h9) rfl dX3_allHoldIn_46 ?_
    refine lv_iload hx hb dX3_allHoldIn_49 (lv_at hl 3 rfl) ?_
    obtain ⟨hi_10, h⟩ := gi_s h
    refine xw_ald hx hb hW kl_16_0_0 rfl hi_10 dX3_allHoldIn_51 ?_
    obtain ⟨hi_11, h⟩ := gi_s h
    refine xw_ald hx hb hW (km_a 1 (by decide) 4 (by decide) (by decide)) (cm_a (by decide) (by decide)) hi_11 dX3_allHoldIn_52 ?_
    refine lv_aload_n hx hb dX3_allHoldIn_53 rfl (lv_at hl 0 rfl) ?_
    refine wo_get (C := RX3) (T := TX3) (N := 4) hx hb hts iX3_allHoldIn_3 hown hW kl_16_50_0 cs_o rfl 1 (by decide) (hts _ mX3_allHoldIn_l15) (fun _ h9 => h9) rfl dX3_allHoldIn_54 ?_
    refine lv_iload hx hb dX3_allHoldIn_57 (lv_at hl 3 rfl) ?_
    obtain ⟨hi_12, h⟩ := gi_s h
    refine xw_ald hx hb hW kl_16_1_0 rfl hi_12 dX3_allHoldIn_59 ?_
    refine lv_icmp_eq (tgt := 65) hx hb dX3_allHoldIn_60 (by decide) (fun c_13 => ?_) (fun c_13 => ?_)
    · have h := ite_p c_13 h
      exact tX3_allHoldIn_b65 C h7 h21 hW (lv_sub hl [0, 1, 2, 3] rfl) h
    have h := ite_n c_13 h
    refine lv_iconst (v := 0) hx hb dX3_allHoldIn_63 (by decide) ?_
    exact xw_zret C rfl (by decide) hW dX3_allHoldIn_64 h
set_option maxHeartbeats 4000000 in
set_option maxRecDepth 100000 in
theorem tX3_allHoldIn_b7 {p : Program} {l : Launch} {e : Env} {s : State} {m : MethodId} {args : Array Value} {below : List Frame} {meth : Method} {c : Code} {A : Nat → Prop} {D : va_G} {g : G3} {ad : Ky → Nat} (C : Cx p s m args meth c cX3_allHoldIn (some .boolean) 5 RX3 wsX3_allHoldIn A) {r0 : Int32} {μ0 : Mem} (n : Nat) : ∀ (v3 : Int32) (μ : Mem) (H : Heap) (locs : List Loc) (ls : Array Slot), WX D g keysX ad A s s.heap μ H locs → lv_has ls 5 [(0, .ref (ad (16, 50, 0))), (1, .ref (ad (1, 50, 0))), (3, .int v3)] → lo1 (X3_allHoldIn_b7) n v3 μ = some (r0, μ0) → TgI r0 p l e rX3_allHoldIn s m args below meth c D g keysX ad A μ0 H locs (F0 m 7 ls []) := by
  obtain ⟨hx, hb, hr, hts, hown, hlocks, hml, hA⟩ := id C
  induction n with
  | zero =>
    intro v3 μ H locs ls hW hl h
    cases h
  | succ n h7 =>
    intro v3 μ H locs ls hW hl h
    have h : X3_allHoldIn_b7 (lo1 (X3_allHoldIn_b7) n) v3 μ = some (r0, μ0) := h
    refine lv_iload_n hx hb dX3_allHoldIn_7 rfl (lv_at hl 2 rfl) ?_
    refine lv_bipush (v := 9) hx hb dX3_allHoldIn_8 (by decide) ?_
    refine lv_icmp_gt (tgt := 77) hx hb dX3_allHoldIn_10 (by decide) (fun c_3 => ?_) (fun c_3 => ?_)
    · have h := ite_p c_3 h
      refine lv_iconst (v := 1) hx hb dX3_allHoldIn_77 (by decide) ?_
      exact xw_zret C rfl (by decide) hW dX3_allHoldIn_78 h
    have h := ite_n c_3 h
    refine lv_aload_n hx hb dX3_allHoldIn_13 rfl (lv_at hl 1 rfl) ?_
    obtain ⟨r_6, μ_5, hh_4, h⟩ := bd_s h
    refine wo_Vi (rest := []) C hW (kX1_holdFair l D g ad (q := 1) (by decide) hh_4) (cwV 0 hts gX3_allHoldIn_X1_holdFair rfl rfl rfl (by decide +kernel) ⟨Nat.le_of_ble_eq_true rfl, Nat.le_of_ble_eq_true rfl⟩) (km_o 1 (by decide)) (cm_o (by decide)) rfl rfl hl.1 rfl (Nat.le_of_ble_eq_true rfl) dX3_allHoldIn_14 ⟨Nat.zero_le _, Nat.zero_le _⟩ (fun H locs hW => ?_)
    refine lv_pop hx hb dX3_allHoldIn_17 rfl ?_
    refine lv_iconst (v := 0) hx hb dX3_allHoldIn_18 (by decide) ?_
    refine lv_istore (lv' := [(4, .int 0), (0, .ref (ad (16, 50, 0))), (1, .ref (ad (1, 50, 0))), (3, .int v3)]) hx hb dX3_allHoldIn_19 hl (by decide) rfl (fun ls hl => ?_)
    exact tX3_allHoldIn_b21 C h7 1000 _ _ _ _ _ hW (lv_sub hl [1, 2, 3, 0] rfl) h
set_option maxHeartbeats 4000000 in
set_option maxRecDepth 100000 in
theorem kX3_allHoldIn (l : Launch) (D : va_G) (g : G3) (ad : Ky → Nat) {v2 : Int32} {μ μ' : Mem} {r : Int32} (h : X3_allHoldIn v2 μ = some (r, μ')) : CtI l yX3_allHoldIn wsX3_allHoldIn rX3_allHoldIn D (tysX g) keysX ad (cX g ad) [.ref (ad (16, 50, 0)), .ref (ad (1, 50, 0)), .int v2] μ r μ' := by
  refine ctI_of (cc := cX3_allHoldIn) (maxL := 5) (ret := (some .boolean)) keysX_nd (by decide) rfl (Nat.le_of_ble_eq_true rfl) (fun p e s m below meth c A ls C hW hl => ?_)
  have hl : lv_has ls 5 [(0, .ref (ad (16, 50, 0))), (1, .ref (ad (1, 50, 0))), (2, .int v2)] := hl
  obtain ⟨hx, hb, hr, hts, hown, hlocks, hml, hA⟩ := id C
  refine lv_aload_n hx hb dX3_allHoldIn_0 rfl (lv_at hl 1 rfl) ?_
  refine lv_iload_n hx hb dX3_allHoldIn_1 rfl (lv_at hl 2 rfl) ?_
  obtain ⟨μ_2, hh_1, h⟩ := bdv_s h
  refine wo_Vv (rest := []) C hW (kX1_begin l D g ad (q := 1) (by decide) hh_1) (cwV 1 hts gX3_allHoldIn_X1_begin rfl rfl rfl (by decide +kernel) ⟨Nat.le_of_ble_eq_true rfl, Nat.le_of_ble_eq_true rfl⟩) (km_o 1 (by decide)) (cm_o (by decide)) rfl rfl hl.1 rfl (Nat.le_of_ble_eq_true rfl) dX3_allHoldIn_2 ⟨Nat.zero_le _, Nat.zero_le _⟩ (fun H locs hW => ?_)
  refine lv_iconst (v := 1) hx hb dX3_allHoldIn_5 (by decide) ?_
  refine lv_istore_n (lv' := [(3, .int 1), (0, .ref (ad (16, 50, 0))), (1, .ref (ad (1, 50, 0))), (2, .int v2)]) hx hb dX3_allHoldIn_6 rfl hl (by decide) rfl (fun ls hl => ?_)
  exact tX3_allHoldIn_b7 C 1000 _ _ _ _ _ hW (lv_sub hl [1, 2, 0] rfl) h
