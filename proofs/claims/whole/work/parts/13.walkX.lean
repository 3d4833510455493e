/-! WALKS, laid by program out of the bytecode -/
abbrev rX5_keep : Room := { frames := 2, cells := 0, slots := 0, locals := 48 }
theorem mX5_keep_l201 : Cond.fieldLink RX5 201 "NearlyBought" "keptCount" "I" ∈ wsX5_keep := by decide +kernel
theorem mX5_keep_l49 : Cond.fieldLink RX5 49 "NearlyBought" "kept" "[LNearlyBought$Market;" ∈ wsX5_keep := by decide +kernel
theorem mX5_keep_l35 : Cond.fieldLink RX5 35 "NearlyBought" "now" "LNearlyBought$Market;" ∈ wsX5_keep := by decide +kernel
theorem iX5_keep_5 : ∀ w ∈ wsX50, w ∈ wsX5_keep := fun _ h => List.mem_cons_of_mem _ (List.mem_append_left _ (List.mem_append_right _ h))
set_option maxHeartbeats 4000000 in
set_option maxRecDepth 100000 in
theorem kX5_keep (l : Launch) (D : va_G) (g : G3) (ad : Ky → Nat) {μ μ' : Mem} {r : Int32} (h : X5_keep μ = some (r, μ')) : CtI l yX5_keep wsX5_keep rX5_keep D (tysX g) keysX ad (cX g ad) [.ref (ad (17, 50, 0))] μ r μ' := by
  refine ctI_of (cc := cX5_keep) (maxL := 1) (ret := (some .int)) keysX_nd (by decide) rfl (Nat.le_of_ble_eq_true rfl) (fun p e s m below meth c A ls C hW hl => ?_)
  have hl : lv_has ls 1 [(0, .ref (ad (17, 50, 0)))] := hl
  obtain ⟨hx, hb, hr, hts, hown, hlocks, hml, hA⟩ := id C
  refine lv_aload_n hx hb dX5_keep_0 rfl (lv_at hl 0 rfl) ?_
  refine wo_get (C := RX5) (T := TX5) (N := 11) hx hb hts iX5_keep_5 hown hW kl_17_50_0 cn_o rfl 10 (by decide) (hts _ mX5_keep_l201) (fun _ h9 => h9) rfl dX5_keep_1 ?_
  refine lv_iconst (v := 2) hx hb dX5_keep_4 (by decide) ?_
  refine lv_icmp_lt (tgt := 11) hx hb dX5_keep_5 (by decide) (fun c_1 => ?_) (fun c_1 => ?_)
  · have h := ite_p c_1 h
    refine lv_aload_n hx hb dX5_keep_11 rfl (lv_at hl 0 rfl) ?_
    refine wo_get (C := RX5) (T := TX5) (N := 11) hx hb hts iX5_keep_5 hown hW kl_17_50_0 cn_o rfl 7 (by decide) (hts _ mX5_keep_l49) (fun _ h9 => h9) rfl dX5_keep_12 ?_
    refine lv_aload_n hx hb dX5_keep_15 rfl (lv_at hl 0 rfl) ?_
    refine wo_get (C := RX5) (T := TX5) (N := 11) hx hb hts iX5_keep_5 hown hW kl_17_50_0 cn_o rfl 10 (by decide) (hts _ mX5_keep_l201) (fun _ h9 => h9) rfl dX5_keep_16 ?_
    obtain ⟨hi_2, h⟩ := gi_s h
    refine wo_ldq hx hb hW kl_17_7_50 2 rfl (n := 2) (g := fun j => ad (10 + j, 50, 0)) rfl rfl hi_2 dX5_keep_19 ?_
    refine lv_aload_n hx hb dX5_keep_20 rfl (lv_at hl 0 rfl) ?_
    refine wo_get (C := RX5) (T := TX5) (N := 11) hx hb hts iX5_keep_5 hown hW kl_17_50_0 cn_o rfl 4 (by decide) (hts _ mX5_keep_l35) (fun _ h9 => h9) rfl dX5_keep_21 ?_
    obtain ⟨μ_4, hh_3, h⟩ := bdv_s h
    refine wo_Vv (rest := []) C hW (kX1_copyFrom l D g ad (q := (10 + (μ 17 10 0 0).toNatClampNeg)) (q1 := 0) (by have := vp_lt hi_2; omega) (by decide) hh_3) (cwV 1 hts gX5_keep_X1_copyFrom rfl rfl rfl (by decide +kernel) ⟨Nat.le_of_ble_eq_true rfl, Nat.le_of_ble_eq_true rfl⟩) (km_o (10 + (μ 17 10 0 0).toNatClampNeg) (by have := vp_lt hi_2; omega)) (cm_o (by have := vp_lt hi_2; omega)) rfl rfl hl.1 rfl (Nat.le_of_ble_eq_true rfl) dX5_keep_24 ⟨Nat.zero_le _, Nat.zero_le _⟩ (fun H locs hW => ?_)
    refine lv_aload_n hx hb dX5_keep_27 rfl (lv_at hl 0 rfl) ?_
    refine lv_dup hx hb dX5_keep_28 rfl ?_
    refine wo_get (C := RX5) (T := TX5) (N := 11) hx hb hts iX5_keep_5 hown hW kl_17_50_0 cn_o rfl 10 (by decide) (hts _ mX5_keep_l201) (fun _ h9 => h9) rfl dX5_keep_29 ?_
    refine lv_iconst (v := 1) hx hb dX5_keep_32 (by decide) ?_
    refine lv_iadd hx hb dX5_keep_33 ?_
    refine xw_put (C := RX5) (T := TX5) (N := 11) hx hb hts iX5_keep_5 tyX5 tyX5_ok nmX5 hown hW kl_17_50_0 cn_o rfl 10 (by decide) (hts _ mX5_keep_l201) (fun _ h9 => h9) rfl (by decide +kernel) (Nat.le_of_ble_eq_true rfl) keysX_ok rfl (pn_10 _) dX5_keep_34 (fun H locs hW => ?_)
    refine lv_aload_n hx hb dX5_keep_37 rfl (lv_at hl 0 rfl) ?_
    refine wo_get (C := RX5) (T := TX5) (N := 11) hx hb hts iX5_keep_5 hown hW kl_17_50_0 cn_o rfl 10 (by decide) (hts _ mX5_keep_l201) (fun _ h9 => h9) rfl dX5_keep_38 ?_
    exact xw_iret C rfl hW dX5_keep_41 h
  have h := ite_n c_1 h
  refine lv_bipush (v := (-3)) hx hb dX5_keep_8 (by decide) ?_
  exact xw_iret C rfl hW dX5_keep_10 h
abbrev rX5_layTheText : Room := { frames := 5, cells := 0, slots := 0, locals := 112 }
theorem mX5_layTheText_l16 : Cond.fieldLink RX5 16 "NearlyBought" "reader" "LNearlyBought$Reader;" ∈ wsX5_layTheText := by decide +kernel
theorem mX5_layTheText_l9 : Cond.fieldLink RX5 9 "NearlyBought" "text" "[I" ∈ wsX5_layTheText := by decide +kernel
theorem mX5_layTheText_l66 : Cond.fieldLink RX5 66 "NearlyBought" "textLength" "I" ∈ wsX5_layTheText := by decide +kernel
theorem mX5_layTheText_l27 : Cond.fieldLink RX5 27 "NearlyBought" "laid" "LNearlyBought$Tale;" ∈ wsX5_layTheText := by decide +kernel
theorem mX5_layTheText_l35 : Cond.fieldLink RX5 35 "NearlyBought" "now" "LNearlyBought$Market;" ∈ wsX5_layTheText := by decide +kernel
theorem mX5_layTheText_l45 : Cond.fieldLink RX5 45 "NearlyBought" "history" "LNearlyBought$History;" ∈ wsX5_layTheText := by decide +kernel
theorem mX5_layTheText_l145 : Cond.fieldLink RX5 145 "NearlyBought$History" "size" "I" ∈ wsX5_layTheText := by decide +kernel
theorem mX5_layTheText_l201 : Cond.fieldLink RX5 201 "NearlyBought" "keptCount" "I" ∈ wsX5_layTheText := by decide +kernel
theorem mX5_layTheText_l56 : Cond.fieldLink RX5 56 "NearlyBought" "sights" "LNearlyBought$Sights;" ∈ wsX5_layTheText := by decide +kernel
theorem mX5_layTheText_l167 : Cond.fieldLink RX5 167 "NearlyBought$Sights" "size" "I" ∈ wsX5_layTheText := by decide +kernel
theorem iX5_layTheText_0 : ∀ w ∈ wsX00, w ∈ wsX5_layTheText := fun _ h => List.mem_cons_of_mem _ (List.mem_append_left _ (List.mem_append_left _ (List.mem_append_left _ (List.mem_append_left _ (List.mem_append_right _ h)))))
theorem iX5_layTheText_3 : ∀ w ∈ wsX30, w ∈ wsX5_layTheText := fun _ h => List.mem_cons_of_mem _ (List.mem_append_left _ (List.mem_append_left _ (List.mem_append_left _ (List.mem_append_right _ h))))
theorem iX5_layTheText_5 : ∀ w ∈ wsX50, w ∈ wsX5_layTheText := fun _ h => List.mem_cons_of_mem _ (List.mem_append_left _ (List.mem_append_left _ (List.mem_append_left _ (List.mem_append_left _ (List.mem_append_left _ (List.mem_append_right _ h))))))
set_option maxHeartbeats 4000000 in
set_option maxRecDepth 100000 in
theorem kX5_layTheText (l : Launch) (D : va_G) (g : G3) (ad : Ky → Nat) {μ μ' : Mem} (h : X5_layTheText μ = some μ') : CtV l yX5_layTheText wsX5_layTheText rX5_layTheText D (tysX g) keysX ad (cX g ad) [.ref (ad (17, 50, 0))] μ μ' := by
  refine ctV_of (cc := cX5_layTheText) (maxL := 1) (ret := none) keysX_nd (by decide) rfl (Nat.le_of_ble_eq_true rfl) (fun p e s m below meth c A ls C hW hl => ?_)
  have hl : lv_has ls 1 [(0, .ref (ad (17, 50, 0)))] := hl
  obtain ⟨hx, hb, hr, hts, hown, hlocks, hml, hA⟩ := id C
  refine lv_aload_n hx hb dX5_layTheText_0 rfl (lv_at hl 0 rfl) ?_
  refine wo_get (C := RX5) (T := TX5) (N := 11) hx hb hts iX5_layTheText_5 hown hW kl_17_50_0 cn_o rfl 1 (by decide) (hts _ mX5_layTheText_l16) (fun _ h9 => h9) rfl dX5_layTheText_1 ?_
  refine lv_aload_n hx hb dX5_layTheText_4 rfl (lv_at hl 0 rfl) ?_
  refine wo_get (C := RX5) (T := TX5) (N := 11) hx hb hts iX5_layTheText_5 hown hW kl_17_50_0 cn_o rfl 0 (by decide) (hts _ mX5_layTheText_l9) (fun _ h9 => h9) rfl dX5_layTheText_5 ?_
  refine lv_aload_n hx hb dX5_layTheText_8 rfl (lv_at hl 0 rfl) ?_
  refine wo_get (C := RX5) (T := TX5) (N := 11) hx hb hts iX5_layTheText_5 hown hW kl_17_50_0 cn_o rfl 9 (by decide) (hts _ mX5_layTheText_l66) (fun _ h9 => h9) rfl dX5_layTheText_9 ?_
  refine lv_aload_n hx hb dX5_layTheText_12 rfl (lv_at hl 0 rfl) ?_
  refine wo_get (C := RX5) (T := TX5) (N := 11) hx hb hts iX5_layTheText_5 hown hW kl_17_50_0 cn_o rfl 3 (by decide) (hts _ mX5_layTheText_l27) (fun _ h9 => h9) rfl dX5_layTheText_13 ?_
  obtain ⟨r_3, μ_2, hh_1, h⟩ := bd_s h
  refine wo_Vi (rest := []) C hW (kX2_read l D g ad (q := 13) (by decide) (by decide) hh_1) (cwV 3 hts gX5_layTheText_X2_read rfl rfl rfl (by decide +kernel) ⟨Nat.le_of_ble_eq_true rfl, Nat.le_of_ble_eq_true rfl⟩) kl_14_50_0 cr_o rfl rfl hl.1 rfl (Nat.le_of_ble_eq_true rfl) dX5_layTheText_16 ⟨Nat.zero_le _, Nat.zero_le _⟩ (fun H locs hW => ?_)
  refine lv_pop hx hb dX5_layTheText_19 rfl ?_
  refine lv_aload_n hx hb dX5_layTheText_20 rfl (lv_at hl 0 rfl) ?_
  refine wo_get (C := RX5) (T := TX5) (N := 11) hx hb hts iX5_layTheText_5 hown hW kl_17_50_0 cn_o rfl 4 (by decide) (hts _ mX5_layTheText_l35) (fun _ h9 => h9) rfl dX5_layTheText_21 ?_
  refine lv_bipush (v := (-4)) hx hb dX5_layTheText_24 (by decide) ?_
  obtain ⟨μ_5, hh_4, h⟩ := bdv_s h
  refine wo_Vv (rest := []) C hW (kX1_begin l D g ad (q := 0) (by decide) hh_4) (cwV 1 hts gX5_layTheText_X1_begin rfl rfl rfl (by decide +kernel) ⟨Nat.le_of_ble_eq_true rfl, Nat.le_of_ble_eq_true rfl⟩) (km_o 0 (by decide)) (cm_o (by decide)) rfl rfl hl.1 rfl (Nat.le_of_ble_eq_true rfl) dX5_layTheText_26 ⟨Nat.zero_le _, Nat.zero_le _⟩ (fun H locs hW => ?_)
  refine lv_aload_n hx hb dX5_layTheText_29 rfl (lv_at hl 0 rfl) ?_
  refine wo_get (C := RX5) (T := TX5) (N := 11) hx hb hts iX5_layTheText_5 hown hW kl_17_50_0 cn_o rfl 6 (by decide) (hts _ mX5_layTheText_l45) (fun _ h9 => h9) rfl dX5_layTheText_30 ?_
  refine lv_iconst (v := 0) hx hb dX5_layTheText_33 (by decide) ?_
  refine xw_put (C := RX0) (T := TX0) (N := 3) hx hb hts iX5_layTheText_0 tyX0 tyX0_ok nmX0 hown hW kl_15_50_0 ch_o rfl 2 (by decide) (hts _ mX5_layTheText_l145) (fun _ h9 => h9) rfl (by decide +kernel) (Nat.le_of_ble_eq_true rfl) keysX_ok rfl (ph_2 _) dX5_layTheText_34 (fun H locs hW => ?_)
  refine lv_aload_n hx hb dX5_layTheText_37 rfl (lv_at hl 0 rfl) ?_
  refine lv_iconst (v := 0) hx hb dX5_layTheText_38 (by decide) ?_
  refine xw_put (C := RX5) (T := TX5) (N := 11) hx hb hts iX5_layTheText_5 tyX5 tyX5_ok nmX5 hown hW kl_17_50_0 cn_o rfl 10 (by decide) (hts _ mX5_layTheText_l201) (fun _ h9 => h9) rfl (by decide +kernel) (Nat.le_of_ble_eq_true rfl) keysX_ok rfl (pn_10 _) dX5_layTheText_39 (fun H locs hW => ?_)
  refine lv_aload_n hx hb dX5_layTheText_42 rfl (lv_at hl 0 rfl) ?_
  refine wo_get (C := RX5) (T := TX5) (N := 11) hx hb hts iX5_layTheText_5 hown hW kl_17_50_0 cn_o rfl 8 (by decide) (hts _ mX5_layTheText_l56) (fun _ h9 => h9) rfl dX5_layTheText_43 ?_
  refine lv_iconst (v := 0) hx hb dX5_layTheText_46 (by decide) ?_
  refine xw_put (C := RX3) (T := TX3) (N := 4) hx hb hts iX5_layTheText_3 tyX3 tyX3_ok nmX3 hown hW kl_16_50_0 cs_o rfl 3 (by decide) (hts _ mX5_layTheText_l167) (fun _ h9 => h9) rfl (by decide +kernel) (Nat.le_of_ble_eq_true rfl) keysX_ok rfl (ps_3 _) dX5_layTheText_47 (fun H locs hW => ?_)
  exact xw_vret C rfl hW dX5_layTheText_50 h
abbrev rX5_lay : Room := { frames := 6, cells := 0, slots := 0, locals := 132 }
theorem mX5_lay_l16 : Cond.fieldLink RX5 16 "NearlyBought" "reader" "LNearlyBought$Reader;" ∈ wsX5_lay := by decide +kernel
theorem mX5_lay_l9 : Cond.fieldLink RX5 9 "NearlyBought" "text" "[I" ∈ wsX5_lay := by decide +kernel
theorem mX5_lay_l66 : Cond.fieldLink RX5 66 "NearlyBought" "textLength" "I" ∈ wsX5_lay := by decide +kernel
theorem mX5_lay_l23 : Cond.fieldLink RX5 23 "NearlyBought" "draft" "LNearlyBought$Tale;" ∈ wsX5_lay := by decide +kernel
theorem mX5_lay_l27 : Cond.fieldLink RX5 27 "NearlyBought" "laid" "LNearlyBought$Tale;" ∈ wsX5_lay := by decide +kernel
theorem mX5_lay_l78 : Cond.fieldLink RX5 78 "NearlyBought$Tale" "things" "I" ∈ wsX5_lay := by decide +kernel
theorem iX5_lay_4 : ∀ w ∈ wsX40, w ∈ wsX5_lay := fun _ h => List.mem_cons_of_mem _ (List.mem_append_left _ (List.mem_append_left _ (List.mem_append_left _ (List.mem_append_left _ (List.mem_append_right _ h)))))
theorem iX5_lay_5 : ∀ w ∈ wsX50, w ∈ wsX5_lay := fun _ h => List.mem_cons_of_mem _ (List.mem_append_left _ (List.mem_append_left _ (List.mem_append_left _ (List.mem_append_left _ (List.mem_append_left _ (List.mem_append_right _ h))))))
set_option maxHeartbeats 4000000 in
set_option maxRecDepth 100000 in
theorem kX5_lay (l : Launch) (D : va_G) (g : G3) (ad : Ky → Nat) {μ μ' : Mem} {r : Int32} (h : X5_lay μ = some (r, μ')) : CtI l yX5_lay wsX5_lay rX5_lay D (tysX g) keysX ad (cX g ad) [.ref (ad (17, 50, 0))] μ r μ' := by
  refine ctI_of (cc := cX5_lay) (maxL := 1) (ret := (some .int)) keysX_nd (by decide) rfl (Nat.le_of_ble_eq_true rfl) (fun p e s m below meth c A ls C hW hl => ?_)
  have hl : lv_has ls 1 [(0, .ref (ad (17, 50, 0)))] := hl
  obtain ⟨hx, hb, hr, hts, hown, hlocks, hml, hA⟩ := id C
  refine lv_aload_n hx hb dX5_lay_0 rfl (lv_at hl 0 rfl) ?_
  refine wo_get (C := RX5) (T := TX5) (N := 11) hx hb hts iX5_lay_5 hown hW kl_17_50_0 cn_o rfl 1 (by decide) (hts _ mX5_lay_l16) (fun _ h9 => h9) rfl dX5_lay_1 ?_
  refine lv_aload_n hx hb dX5_lay_4 rfl (lv_at hl 0 rfl) ?_
  refine wo_get (C := RX5) (T := TX5) (N := 11) hx hb hts iX5_lay_5 hown hW kl_17_50_0 cn_o rfl 0 (by decide) (hts _ mX5_lay_l9) (fun _ h9 => h9) rfl dX5_lay_5 ?_
  refine lv_aload_n hx hb dX5_lay_8 rfl (lv_at hl 0 rfl) ?_
  refine wo_get (C := RX5) (T := TX5) (N := 11) hx hb hts iX5_lay_5 hown hW kl_17_50_0 cn_o rfl 9 (by decide) (hts _ mX5_lay_l66) (fun _ h9 => h9) rfl dX5_lay_9 ?_
  refine lv_aload_n hx hb dX5_lay_12 rfl (lv_at hl 0 rfl) ?_
  refine wo_get (C := RX5) (T := TX5) (N := 11) hx hb hts iX5_lay_5 hown hW kl_17_50_0 cn_o rfl 2 (by decide) (hts _ mX5_lay_l23) (fun _ h9 => h9) rfl dX5_lay_13 ?_
  obtain ⟨r_3, μ_2, hh_1, h⟩ := bd_s h
  refine wo_Vi (rest := []) C hW (kX2_read l D g ad (q := 12) (by decide) (by decide) hh_1) (cwV 3 hts gX5_lay_X2_read rfl rfl rfl (by decide +kernel) ⟨Nat.le_of_ble_eq_true rfl, Nat.le_of_ble_eq_true rfl⟩) kl_14_50_0 cr_o rfl rfl hl.1 rfl (Nat.le_of_ble_eq_true rfl) dX5_lay_16 ⟨Nat.zero_le _, Nat.zero_le _⟩ (fun H locs hW => ?_)
  refine lv_bipush (v := (-4)) hx hb dX5_lay_19 (by decide) ?_
  refine lv_icmp_ne (tgt := 34) hx hb dX5_lay_21 (by decide) (fun c_4 => ?_) (fun c_4 => ?_)
  · have h := ite_n c_4 h
    refine lv_bipush (v := (-2)) hx hb dX5_lay_34 (by decide) ?_
    exact xw_iret C rfl hW dX5_lay_36 h
  have h := ite_p c_4 h
  refine lv_aload_n hx hb dX5_lay_24 rfl (lv_at hl 0 rfl) ?_
  refine wo_get (C := RX5) (T := TX5) (N := 11) hx hb hts iX5_lay_5 hown hW kl_17_50_0 cn_o rfl 2 (by decide) (hts _ mX5_lay_l23) (fun _ h9 => h9) rfl dX5_lay_25 ?_
  obtain ⟨r_7, μ_6, hh_5, h⟩ := bd_s h
  refine wo_Vi (rest := []) C hW (kX4_canBeLaid l D g ad (q := 12) (by decide) (by decide) hh_5) (cwV 0 hts gX5_lay_X4_canBeLaid rfl rfl rfl (by decide +kernel) ⟨Nat.le_of_ble_eq_true rfl, Nat.le_of_ble_eq_true rfl⟩) (kt_o 12 (by decide) (by decide)) (ct_o (by decide) (by decide)) rfl rfl hl.1 rfl (Nat.le_of_ble_eq_true rfl) dX5_lay_28 ⟨Nat.zero_le _, Nat.zero_le _⟩ (fun H locs hW => ?_)
  refine lv_if_ne (tgt := 37) hx hb dX5_lay_31 (by decide) (fun c_8 => ?_) (fun c_8 => ?_)
  · have h := ite_n c_8 h
    refine lv_aload_n hx hb dX5_lay_37 rfl (lv_at hl 0 rfl) ?_
    obtain ⟨μ_10, hh_9, h⟩ := bdv_s h
    refine wo_Vv (rest := []) C hW (kX5_layTheText l D g ad  hh_9) (cwV 0 hts gX5_lay_X5_layTheText rfl rfl rfl (by decide +kernel) ⟨Nat.le_of_ble_eq_true rfl, Nat.le_of_ble_eq_true rfl⟩) kl_17_50_0 cn_o rfl rfl hl.1 rfl (Nat.le_of_ble_eq_true rfl) dX5_lay_38 ⟨Nat.zero_le _, Nat.zero_le _⟩ (fun H locs hW => ?_)
    refine lv_aload_n hx hb dX5_lay_41 rfl (lv_at hl 0 rfl) ?_
    refine wo_get (C := RX5) (T := TX5) (N := 11) hx hb hts iX5_lay_5 hown hW kl_17_50_0 cn_o rfl 3 (by decide) (hts _ mX5_lay_l27) (fun _ h9 => h9) rfl dX5_lay_42 ?_
    refine wo_get (C := RX4) (T := TX4) (N := 12) hx hb hts iX5_lay_4 hown hW (kt_o 13 (by decide) (by decide)) (ct_o (by decide) (by decide)) rfl 1 (by decide) (hts _ mX5_lay_l78) (fun _ h9 => h9) rfl dX5_lay_45 ?_
    exact xw_iret C rfl hW dX5_lay_48 h
  have h := ite_p c_8 h
  refine lv_bipush (v := (-2)) hx hb dX5_lay_34 (by decide) ?_
  exact xw_iret C rfl hW dX5_lay_36 h
abbrev rX5_nearly : Room := { frames := 1, cells := 0, slots := 0, locals := 21 }
theorem mX5_nearly_l27 : Cond.fieldLink RX5 27 "NearlyBought" "laid" "LNearlyBought$Tale;" ∈ wsX5_nearly := by decide +kernel
theorem mX5_nearly_l35 : Cond.fieldLink RX5 35 "NearlyBought" "now" "LNearlyBought$Market;" ∈ wsX5_nearly := by decide +kernel
theorem mX5_nearly_l120 : Cond.fieldLink RX5 120 "NearlyBought$Market" "breaths" "[[I" ∈ wsX5_nearly := by decide +kernel
theorem mX5_nearly_l124 : Cond.fieldLink RX5 124 "NearlyBought$Market" "counted" "[[I" ∈ wsX5_nearly := by decide +kernel
theorem mX5_nearly_l127 : Cond.fieldLink RX5 127 "NearlyBought$Market" "since" "[[I" ∈ wsX5_nearly := by decide +kernel
theorem mX5_nearly_l130 : Cond.fieldLink RX5 130 "NearlyBought$Market" "price" "[[I" ∈ wsX5_nearly := by decide +kernel
theorem iX5_nearly_1 : ∀ w ∈ wsX10, w ∈ wsX5_nearly := fun _ h => List.mem_cons_of_mem _ (List.mem_append_left _ (List.mem_append_right _ h))
theorem iX5_nearly_5 : ∀ w ∈ wsX50, w ∈ wsX5_nearly := fun _ h => List.mem_cons_of_mem _ (List.mem_append_left _ (List.mem_append_left _ (List.mem_append_right _ h)))
set_option maxHeartbeats 4000000 in
set_option maxRecDepth 100000 in
theorem kX5_nearly (l : Launch) (D : va_G) (g : G3) (ad : Ky → Nat) {v1 v2 v3 : Int32} {μ μ' : Mem} {r : Int32} (h : X5_nearly v1 v2 v3 μ = some (r, μ')) : CtI l yX5_nearly wsX5_nearly rX5_nearly D (tysX g) keysX ad (cX g ad) [.ref (ad (17, 50, 0)), .int v1, .int v2, .int v3] μ r μ' := by
  refine ctI_of (cc := cX5_nearly) (maxL := 4) (ret := (some .int)) keysX_nd (by decide) rfl (Nat.le_of_ble_eq_true rfl) (fun p e s m below meth c A ls C hW hl => ?_)
  have hl : lv_has ls 4 [(0, .ref (ad (17, 50, 0))), (1, .int v1), (2, .int v2), (3, .int v3)] := hl
  obtain ⟨hx, hb, hr, hts, hown, hlocks, hml, hA⟩ := id C
  refine lv_aload_n hx hb dX5_nearly_0 rfl (lv_at hl 0 rfl) ?_
  refine wo_get (C := RX5) (T := TX5) (N := 11) hx hb hts iX5_nearly_5 hown hW kl_17_50_0 cn_o rfl 3 (by decide) (hts _ mX5_nearly_l27) (fun _ h9 => h9) rfl dX5_nearly_1 ?_
  refine lv_iload_n hx hb dX5_nearly_4 rfl (lv_at hl 1 rfl) ?_
  obtain ⟨r_3, μ_2, hh_1, h⟩ := bd_s h
  refine wo_Vi (rest := []) C hW (kX4_hasPerson l D g ad (q := 13) (by decide) (by decide) hh_1) (cwV 1 hts gX5_nearly_X4_hasPerson rfl rfl rfl (by decide +kernel) ⟨Nat.le_of_ble_eq_true rfl, Nat.le_of_ble_eq_true rfl⟩) (kt_o 13 (by decide) (by decide)) (ct_o (by decide) (by decide)) rfl rfl hl.1 rfl (Nat.le_of_ble_eq_true rfl) dX5_nearly_5 ⟨Nat.zero_le _, Nat.zero_le _⟩ (fun H locs hW => ?_)
  refine lv_if_eq (tgt := 22) hx hb dX5_nearly_8 (by decide) (fun c_4 => ?_) (fun c_4 => ?_)
  · have h := ite_p c_4 h
    refine lv_iconst (v := (-1)) hx hb dX5_nearly_22 (by decide) ?_
    exact xw_iret C rfl hW dX5_nearly_23 h
  have h := ite_n c_4 h
  refine lv_aload_n hx hb dX5_nearly_11 rfl (lv_at hl 0 rfl) ?_
  refine wo_get (C := RX5) (T := TX5) (N := 11) hx hb hts iX5_nearly_5 hown hW kl_17_50_0 cn_o rfl 3 (by decide) (hts _ mX5_nearly_l27) (fun _ h9 => h9) rfl dX5_nearly_12 ?_
  refine lv_iload_n hx hb dX5_nearly_15 rfl (lv_at hl 2 rfl) ?_
  obtain ⟨r_7, μ_6, hh_5, h⟩ := bd_s h
  refine wo_Vi (rest := []) C hW (kX4_hasThing l D g ad (q := 13) (by decide) (by decide) hh_5) (cwV 1 hts gX5_nearly_X4_hasThing rfl rfl rfl (by decide +kernel) ⟨Nat.le_of_ble_eq_true rfl, Nat.le_of_ble_eq_true rfl⟩) (kt_o 13 (by decide) (by decide)) (ct_o (by decide) (by decide)) rfl rfl hl.1 rfl (Nat.le_of_ble_eq_true rfl) dX5_nearly_16 ⟨Nat.zero_le _, Nat.zero_le _⟩ (fun H locs hW => ?_)
  refine lv_if_ne (tgt := 24) hx hb dX5_nearly_19 (by decide) (fun c_8 => ?_) (fun c_8 => ?_)
  · have h := ite_n c_8 h
    refine lv_iload_n hx hb dX5_nearly_24 rfl (lv_at hl 3 rfl) ?_
    by_cases c_9 : v3 = 0
    · have h := ite_p c_9 h
      refine lv_tableIn (off := 35) (tgt := 60) hx hb dX5_nearly_25 (by rw [c_9]; decide) (by rw [c_9]; decide) (by rw [c_9]; rfl) (by decide) ?_
      refine lv_aload_n hx hb dX5_nearly_60 rfl (lv_at hl 0 rfl) ?_
      refine wo_get (C := RX5) (T := TX5) (N := 11) hx hb hts iX5_nearly_5 hown hW kl_17_50_0 cn_o rfl 4 (by decide) (hts _ mX5_nearly_l35) (fun _ h9 => h9) rfl dX5_nearly_61 ?_
      refine wo_get (C := RX1) (T := TX1) (N := 10) hx hb hts iX5_nearly_1 hown hW (km_o 0 (by decide)) (cm_o (by decide)) rfl 6 (by decide) (hts _ mX5_nearly_l120) (fun _ h9 => h9) rfl dX5_nearly_64 ?_
      refine lv_iload_n hx hb dX5_nearly_67 rfl (lv_at hl 1 rfl) ?_
      obtain ⟨hi_10, h⟩ := gi_s h
      refine wo_ldq hx hb hW (km_q 0 (by decide) 6 (by decide) (by decide)) 1 rfl (cm_q (by decide) (by decide)) rfl hi_10 dX5_nearly_68 ?_
      refine lv_iload_n hx hb dX5_nearly_69 rfl (lv_at hl 2 rfl) ?_
      obtain ⟨hi_11, h⟩ := gi_s h
      refine xw_ald hx hb hW (km_r 0 (by decide) 6 (by decide) (by decide) _ (vp_lt hi_10)) (cm_r (by decide) (by decide) (vp_lt hi_10)) hi_11 dX5_nearly_70 ?_
      exact xw_iret C rfl hW dX5_nearly_71 h
    have h := ite_n c_9 h
    by_cases c_12 : v3 = 1
    · have h := ite_p c_12 h
      refine lv_tableIn (off := 47) (tgt := 72) hx hb dX5_nearly_25 (by rw [c_12]; decide) (by rw [c_12]; decide) (by rw [c_12]; rfl) (by decide) ?_
      refine lv_aload_n hx hb dX5_nearly_72 rfl (lv_at hl 0 rfl) ?_
      refine wo_get (C := RX5) (T := TX5) (N := 11) hx hb hts iX5_nearly_5 hown hW kl_17_50_0 cn_o rfl 4 (by decide) (hts _ mX5_nearly_l35) (fun _ h9 => h9) rfl dX5_nearly_73 ?_
      refine wo_get (C := RX1) (T := TX1) (N := 10) hx hb hts iX5_nearly_1 hown hW (km_o 0 (by decide)) (cm_o (by decide)) rfl 8 (by decide) (hts _ mX5_nearly_l124) (fun _ h9 => h9) rfl dX5_nearly_76 ?_
      refine lv_iload_n hx hb dX5_nearly_79 rfl (lv_at hl 1 rfl) ?_
      obtain ⟨hi_13, h⟩ := gi_s h
      refine wo_ldq hx hb hW (km_q 0 (by decide) 8 (by decide) (by decide)) 1 rfl (cm_q (by decide) (by decide)) rfl hi_13 dX5_nearly_80 ?_
      refine lv_iload_n hx hb dX5_nearly_81 rfl (lv_at hl 2 rfl) ?_
      obtain ⟨hi_14, h⟩ := gi_s h
      refine xw_ald hx hb hW (km_r 0 (by decide) 8 (by decide) (by decide) _ (vp_lt hi_13)) (cm_r (by decide) (by decide) (vp_lt hi_13)) hi_14 dX5_nearly_82 ?_
      exact xw_iret C rfl hW dX5_nearly_83 h
    have h := ite_n c_12 h
    by_cases c_15 : v3 = 2
    · have h := ite_p c_15 h
      refine lv_tableIn (off := 59) (tgt := 84) hx hb dX5_nearly_25 (by rw [c_15]; decide) (by rw [c_15]; decide) (by rw [c_15]; rfl) (by decide) ?_
      refine lv_aload_n hx hb dX5_nearly_84 rfl (lv_at hl 0 rfl) ?_
      refine wo_get (C := RX5) (T := TX5) (N := 11) hx hb hts iX5_nearly_5 hown hW kl_17_50_0 cn_o rfl 4 (by decide) (hts _ mX5_nearly_l35) (fun _ h9 => h9) rfl dX5_nearly_85 ?_
      refine wo_get (C := RX1) (T := TX1) (N := 10) hx hb hts iX5_nearly_1 hown hW (km_o 0 (by decide)) (cm_o (by decide)) rfl 7 (by decide) (hts _ mX5_nearly_l127) (fun _ h9 => h9) rfl dX5_nearly_88 ?_
      refine lv_iload_n hx hb dX5_nearly_91 rfl (lv_at hl 1 rfl) ?_
      obtain ⟨hi_16, h⟩ := gi_s h
      refine wo_ldq hx hb hW (km_q 0 (by decide) 7 (by decide) (by decide)) 1 rfl (cm_q (by decide) (by decide)) rfl hi_16 dX5_nearly_92 ?_
      refine lv_iload_n hx hb dX5_nearly_93 rfl (lv_at hl 2 rfl) ?_
      obtain ⟨hi_17, h⟩ := gi_s h
      refine xw_ald hx hb hW (km_r 0 (by decide) 7 (by decide) (by decide) _ (vp_lt hi_16)) (cm_r (by decide) (by decide) (vp_lt hi_16)) hi_17 dX5_nearly_94 ?_
      exact xw_iret C rfl hW dX5_nearly_95 h
    have h := ite_n c_15 h
    by_cases c_18 : v3 = 3
    · have h := ite_p c_18 h
      refine lv_tableIn (off := 71) (tgt := 96) hx hb dX5_nearly_25 (by rw [c_18]; decide) (by rw [c_18]; decide) (by rw [c_18]; rfl) (by decide) ?_
      refine lv_aload_n hx hb dX5_nearly_96 rfl (lv_at hl 0 rfl) ?_
      refine wo_get (C := RX5) (T := TX5) (N := 11) hx hb hts iX5_nearly_5 hown hW kl_17_50_0 cn_o rfl 4 (by decide) (hts _ mX5_nearly_l35) (fun _ h9 => h9) rfl dX5_nearly_97 ?_
      refine wo_get (C := RX1) (T := TX1) (N := 10) hx hb hts iX5_nearly_1 hown hW (km_o 0 (by decide)) (cm_o (by decide)) rfl 9 (by decide) (hts _ mX5_nearly_l130) (fun _ h9 => h9) rfl dX5_nearly_100 ?_
      refine lv_iload_n hx hb dX5_nearly_103 rfl (lv_at hl 1 rfl) ?_
      obtain ⟨hi_19, h⟩ := gi_s h
      refine wo_ldq hx hb hW (km_q 0 (by decide) 9 (by decide) (by decide)) 1 rfl (cm_q (by decide) (by decide)) rfl hi_19 dX5_nearly_104 ?_
      refine lv_iload_n hx hb dX5_nearly_105 rfl (lv_at hl 2 rfl) ?_
      obtain ⟨hi_20, h⟩ := gi_s h
      refine xw_ald hx hb hW (km_r 0 (by decide) 9 (by decide) (by decide) _ (vp_lt hi_19)) (cm_r (by decide) (by decide) (vp_lt hi_19)) hi_20 dX5_nearly_106 ?_
      refine lv_bipush (v := (-4)) hx hb dX5_nearly_107 (by decide) ?_
      refine lv_icmp_eq (tgt := 116) hx hb dX5_nearly_109 (by decide) (fun c_21 => ?_) (fun c_21 => ?_)
      · have h := ite_p c_21 h
        refine lv_iconst (v := 0) hx hb dX5_nearly_116 (by decide) ?_
        exact xw_iret C rfl hW dX5_nearly_117 h
      have h := ite_n c_21 h
      refine lv_iconst (v := 1) hx hb dX5_nearly_112 (by decide) ?_
      refine lv_goto (tgt := 117) hx hb dX5_nearly_113 (by decide) ?_
      exact xw_iret C rfl hW dX5_nearly_117 h
    have h := ite_n c_18 h
    by_cases c_22 : v3 = 4
    · have h := ite_p c_22 h
      refine lv_tableIn (off := 93) (tgt := 118) hx hb dX5_nearly_25 (by rw [c_22]; decide) (by rw [c_22]; decide) (by rw [c_22]; rfl) (by decide) ?_
      refine lv_aload_n hx hb dX5_nearly_118 rfl (lv_at hl 0 rfl) ?_
      refine wo_get (C := RX5) (T := TX5) (N := 11) hx hb hts iX5_nearly_5 hown hW kl_17_50_0 cn_o rfl 4 (by decide) (hts _ mX5_nearly_l35) (fun _ h9 => h9) rfl dX5_nearly_119 ?_
      refine wo_get (C := RX1) (T := TX1) (N := 10) hx hb hts iX5_nearly_1 hown hW (km_o 0 (by decide)) (cm_o (by decide)) rfl 9 (by decide) (hts _ mX5_nearly_l130) (fun _ h9 => h9) rfl dX5_nearly_122 ?_
      refine lv_iload_n hx hb dX5_nearly_125 rfl (lv_at hl 1 rfl) ?_
      obtain ⟨hi_23, h⟩ := gi_s h
      refine wo_ldq hx hb hW (km_q 0 (by decide) 9 (by decide) (by decide)) 1 rfl (cm_q (by decide) (by decide)) rfl hi_23 dX5_nearly_126 ?_
      refine lv_iload_n hx hb dX5_nearly_127 rfl (lv_at hl 2 rfl) ?_
      obtain ⟨hi_24, h⟩ := gi_s h
      refine xw_ald hx hb hW (km_r 0 (by decide) 9 (by decide) (by decide) _ (vp_lt hi_23)) (cm_r (by decide) (by decide) (vp_lt hi_23)) hi_24 dX5_nearly_128 ?_
      exact xw_iret C rfl hW dX5_nearly_129 h
    have h := ite_n c_22 h
    have t_25 := ne_ti (k := 0) rfl c_9
    have t_26 := ne_ti (k := 1) rfl c_12
    have t_27 := ne_ti (k := 2) rfl c_15
    have t_28 := ne_ti (k := 3) rfl c_18
    have t_29 := ne_ti (k := 4) rfl c_22
    refine lv_tableOut (tgt := 130) hx hb dX5_nearly_25 (by omega) (by decide) ?_
    refine lv_iconst (v := (-1)) hx hb dX5_nearly_130 (by decide) ?_
    exact xw_iret C rfl hW dX5_nearly_131 h
  have h := ite_p c_8 h
  refine lv_iconst (v := (-1)) hx hb dX5_nearly_22 (by decide) ?_
  exact xw_iret C rfl hW dX5_nearly_23 h
abbrev rX5_never : Room := { frames := 6, cells := 0, slots := 0, locals := 134 }
theorem mX5_never_l39 : Cond.fieldLink RX5 39 "NearlyBought" "trial" "LNearlyBought$Market;" ∈ wsX5_never := by decide +kernel
theorem mX5_never_l35 : Cond.fieldLink RX5 35 "NearlyBought" "now" "LNearlyBought$Market;" ∈ wsX5_never := by decide +kernel
theorem mX5_never_l27 : Cond.fieldLink RX5 27 "NearlyBought" "laid" "LNearlyBought$Tale;" ∈ wsX5_never := by decide +kernel
theorem mX5_never_l78 : Cond.fieldLink RX5 78 "NearlyBought$Tale" "things" "I" ∈ wsX5_never := by decide +kernel
theorem iX5_never_4 : ∀ w ∈ wsX40, w ∈ wsX5_never := fun _ h => List.mem_cons_of_mem _ (List.mem_append_left _ (List.mem_append_right _ h))
theorem iX5_never_5 : ∀ w ∈ wsX50, w ∈ wsX5_never := fun _ h => List.mem_cons_of_mem _ (List.mem_append_left _ (List.mem_append_left _ (List.mem_append_right _ h)))
set_option maxHeartbeats 4000000 in
set_option maxRecDepth 100000 in
theorem tX5_never_b52 {p : Program} {l : Launch} {e : Env} {s : State} {m : MethodId} {args : Array Value} {below : List Frame} {meth : Method} {c : Code} {A : Nat → Prop} {D : va_G} {g : G3} {ad : Ky → Nat} (C : Cx p s m args meth c cX5_never (some .int) 3 RX5 wsX5_never A) {r0 : Int32} {μ0 : Mem} {v1 v2 : Int32} {k24 : Int32 → Int32 → Mem → Option (Int32 × Mem)} (h24 : ∀ (v1 v2 : Int32) (μ : Mem) (H : Heap) (locs : List Loc) (ls : Array Slot), WX D g keysX ad A s s.heap μ H locs → lv_has ls 3 [(0, .ref (ad (17, 50, 0))), (1, .int v1), (2, .int v2)] → k24 v1 v2 μ = some (r0, μ0) → TgI r0 p l e rX5_never s m args below meth c D g keysX ad A μ0 H locs (F0 m 24 ls [])) {μ : Mem} {H : Heap} {locs : List Loc} {ls : Array Slot} (hW : WX D g keysX ad A s s.heap μ H locs) (hl : lv_has ls 3 [(0, .ref (ad (17, 50, 0))), (1, .int v1), (2, .int v2)]) (h : X5_never_b52 k24 v1 v2 μ = some (r0, μ0)) : TgI r0 p l e rX5_never s m args below meth c D g keysX ad A μ0 H locs (F0 m 52 ls []) := by
  obtain ⟨hx, hb, hr, hts, hown, hlocks, hml, hA⟩ := id C
  refine lv_iinc (v := v2 + 1) (lv' := [(2, .int (v2 + 1)), (0, .ref (ad (17, 50, 0))), (1, .int v1)]) hx hb dX5_never_52 hl (k := 2) rfl rfl (by decide) rfl (fun ls hl => ?_)
  refine lv_goto (tgt := 24) hx hb dX5_never_55 (by decide) ?_
  exact h24 _ _ _ _ _ _ hW (lv_sub hl [1, 2, 0] rfl) h
set_option maxHeartbeats 4000000 in
set_option maxRecDepth 100000 in
theorem tX5_never_b24 {p : Program} {l : Launch} {e : Env} {s : State} {m : MethodId} {args : Array Value} {below : List Frame} {meth : Method} {c : Code} {A : Nat → Prop} {D : va_G} {g : G3} {ad : Ky → Nat} (C : Cx p s m args meth c cX5_never (some .int) 3 RX5 wsX5_never A) {r0 : Int32} {μ0 : Mem} (n : Nat) : ∀ (v1 v2 : Int32) (μ : Mem) (H : Heap) (locs : List Loc) (ls : Array Slot), WX D g keysX ad A s s.heap μ H locs → lv_has ls 3 [(0, .ref (ad (17, 50, 0))), (1, .int v1), (2, .int v2)] → lo2 (X5_never_b24) n v1 v2 μ = some (r0, μ0) → TgI r0 p l e rX5_never s m args below meth c D g keysX ad A μ0 H locs (F0 m 24 ls []) := by
  obtain ⟨hx, hb, hr, hts, hown, hlocks, hml, hA⟩ := id C
  induction n with
  | zero =>
    intro v1 v2 μ H locs ls hW hl h
    cases h
  | succ n h24 =>
    intro v1 v2 μ H locs ls hW hl h
    have h : X5_never_b24 (lo2 (X5_never_b24) n) v1 v2 μ = some (r0, μ0) := h
    refine lv_iload_n hx hb dX5_never_24 rfl (lv_at hl 2 rfl) ?_
    refine lv_aload_n hx hb dX5_never_25 rfl (lv_at hl 0 rfl) ?_
    refine wo_get (C := RX5) (T := TX5) (N := 11) hx hb hts iX5_never_5 hown hW kl_17_50_0 cn_o rfl 3 (by decide) (hts _ mX5_never_l27) (fun _ h9 => h9) rfl dX5_never_26 ?_
    refine wo_get (C := RX4) (T := TX4) (N := 12) hx hb hts iX5_never_4 hown hW (kt_o 13 (by decide) (by decide)) (ct_o (by decide) (by decide)) rfl 1 (by decide) (hts _ mX5_never_l78) (fun _ h9 => h9) rfl dX5_never_29 ?_
    refine lv_icmp_ge (tgt := 58) hx hb dX5_never_32 (by decide) (fun c_5 => ?_) (fun c_5 => ?_)
    · have h := ite_p c_5 h
      refine lv_iload_n hx hb dX5_never_58 rfl (lv_at hl 1 rfl) ?_
      exact xw_iret C rfl hW dX5_never_59 h
    have h := ite_n c_5 h
    refine lv_aload_n hx hb dX5_never_35 rfl (lv_at hl 0 rfl) ?_
    refine wo_get (C := RX5) (T := TX5) (N := 11) hx hb hts iX5_never_5 hown hW kl_17_50_0 cn_o rfl 5 (by decide) (hts _ mX5_never_l39) (fun _ h9 => h9) rfl dX5_never_36 ?_
    refine lv_iload_n hx hb dX5_never_39 rfl (lv_at hl 2 rfl) ?_
    obtain ⟨r_8, μ_7, hh_6, h⟩ := bd_s h
    refine wo_Vi (rest := []) C hW (kX1_isFree l D g ad (q := 1) (by decide) hh_6) (cwV 1 hts gX5_never_X1_isFree rfl rfl rfl (by decide +kernel) ⟨Nat.le_of_ble_eq_true rfl, Nat.le_of_ble_eq_true rfl⟩) (km_o 1 (by decide)) (cm_o (by decide)) rfl rfl hl.1 rfl (Nat.le_of_ble_eq_true rfl) dX5_never_40 ⟨Nat.zero_le _, Nat.zero_le _⟩ (fun H locs hW => ?_)
    refine lv_if_eq (tgt := 52) hx hb dX5_never_43 (by decide) (fun c_9 => ?_) (fun c_9 => ?_)
    · have h := ite_p c_9 h
      exact tX5_never_b52 C h24 hW (lv_sub hl [0, 1, 2] rfl) h
    have h := ite_n c_9 h
    refine lv_iload_n hx hb dX5_never_46 rfl (lv_at hl 1 rfl) ?_
    refine lv_iconst (v := 1) hx hb dX5_never_47 (by decide) ?_
    refine lv_iload_n hx hb dX5_never_48 rfl (lv_at hl 2 rfl) ?_
    refine lv_ishl hx hb dX5_never_49 ?_
    refine lv_ior hx hb dX5_never_50 ?_
    refine lv_istore_n (lv' := [(1, .int (v1 ||| (1 <<< (v2 &&& 31)))), (0, .ref (ad (17, 50, 0))), (2, .int v2)]) hx hb dX5_never_51 rfl hl (by decide) rfl (fun ls hl => ?_)
    exact tX5_never_b52 C h24 hW (lv_sub hl [1, 0, 2] rfl) h
set_option maxHeartbeats 4000000 in
set_option maxRecDepth 100000 in
theorem kX5_never (l : Launch) (D : va_G) (g : G3) (ad : Ky → Nat) {μ μ' : Mem} {r : Int32} (h : X5_never μ = some (r, μ')) : CtI l yX5_never wsX5_never rX5_never D (tysX g) keysX ad (cX g ad) [.ref (ad (17, 50, 0))] μ r μ' := by
  refine ctI_of (cc := cX5_never) (maxL := 3) (ret := (some .int)) keysX_nd (by decide) rfl (Nat.le_of_ble_eq_true rfl) (fun p e s m below meth c A ls C hW hl => ?_)
  have hl : lv_has ls 3 [(0, .ref (ad (17, 50, 0)))] := hl
  obtain ⟨hx, hb, hr, hts, hown, hlocks, hml, hA⟩ := id C
  refine lv_aload_n hx hb dX5_never_0 rfl (lv_at hl 0 rfl) ?_
  refine wo_get (C := RX5) (T := TX5) (N := 11) hx hb hts iX5_never_5 hown hW kl_17_50_0 cn_o rfl 5 (by decide) (hts _ mX5_never_l39) (fun _ h9 => h9) rfl dX5_never_1 ?_
  refine lv_aload_n hx hb dX5_never_4 rfl (lv_at hl 0 rfl) ?_
  refine wo_get (C := RX5) (T := TX5) (N := 11) hx hb hts iX5_never_5 hown hW kl_17_50_0 cn_o rfl 4 (by decide) (hts _ mX5_never_l35) (fun _ h9 => h9) rfl dX5_never_5 ?_
  obtain ⟨μ_2, hh_1, h⟩ := bdv_s h
  refine wo_Vv (rest := []) C hW (kX1_copyFrom l D g ad (q := 1) (q1 := 0) (by decide) (by decide) hh_1) (cwV 1 hts gX5_never_X1_copyFrom rfl rfl rfl (by decide +kernel) ⟨Nat.le_of_ble_eq_true rfl, Nat.le_of_ble_eq_true rfl⟩) (km_o 1 (by decide)) (cm_o (by decide)) rfl rfl hl.1 rfl (Nat.le_of_ble_eq_true rfl) dX5_never_8 ⟨Nat.zero_le _, Nat.zero_le _⟩ (fun H locs hW => ?_)
  refine lv_aload_n hx hb dX5_never_11 rfl (lv_at hl 0 rfl) ?_
  refine wo_get (C := RX5) (T := TX5) (N := 11) hx hb hts iX5_never_5 hown hW kl_17_50_0 cn_o rfl 5 (by decide) (hts _ mX5_never_l39) (fun _ h9 => h9) rfl dX5_never_12 ?_
  refine lv_bipush (v := 9) hx hb dX5_never_15 (by decide) ?_
  obtain ⟨μ_4, hh_3, h⟩ := bdv_s h
  refine wo_Vv (rest := []) C hW (kX1_holdFairs l D g ad (q := 1) (by decide) hh_3) (cwV 1 hts gX5_never_X1_holdFairs rfl rfl rfl (by decide +kernel) ⟨Nat.le_of_ble_eq_true rfl, Nat.le_of_ble_eq_true rfl⟩) (km_o 1 (by decide)) (cm_o (by decide)) rfl rfl hl.1 rfl (Nat.le_of_ble_eq_true rfl) dX5_never_17 ⟨Nat.zero_le _, Nat.zero_le _⟩ (fun H locs hW => ?_)
  refine lv_iconst (v := 0) hx hb dX5_never_20 (by decide) ?_
  refine lv_istore_n (lv' := [(1, .int 0), (0, .ref (ad (17, 50, 0)))]) hx hb dX5_never_21 rfl hl (by decide) rfl (fun ls hl => ?_)
  refine lv_iconst (v := 0) hx hb dX5_never_22 (by decide) ?_
  refine lv_istore_n (lv' := [(2, .int 0), (1, .int 0), (0, .ref (ad (17, 50, 0)))]) hx hb dX5_never_23 rfl hl (by decide) rfl (fun ls hl => ?_)
  exact tX5_never_b24 C 1000 _ _ _ _ _ _ hW (lv_sub hl [2, 1, 0] rfl) h
abbrev rX5_pause : Room := { frames := 3, cells := 0, slots := 0, locals := 69 }
theorem mX5_pause_l27 : Cond.fieldLink RX5 27 "NearlyBought" "laid" "LNearlyBought$Tale;" ∈ wsX5_pause := by decide +kernel
theorem mX5_pause_l45 : Cond.fieldLink RX5 45 "NearlyBought" "history" "LNearlyBought$History;" ∈ wsX5_pause := by decide +kernel
theorem mX5_pause_l35 : Cond.fieldLink RX5 35 "NearlyBought" "now" "LNearlyBought$Market;" ∈ wsX5_pause := by decide +kernel
theorem mX5_pause_l124 : Cond.fieldLink RX5 124 "NearlyBought$Market" "counted" "[[I" ∈ wsX5_pause := by decide +kernel
theorem iX5_pause_1 : ∀ w ∈ wsX10, w ∈ wsX5_pause := fun _ h => List.mem_cons_of_mem _ (List.mem_append_left _ (List.mem_append_left _ (List.mem_append_right _ h)))
theorem iX5_pause_5 : ∀ w ∈ wsX50, w ∈ wsX5_pause := fun _ h => List.mem_cons_of_mem _ (List.mem_append_left _ (List.mem_append_left _ (List.mem_append_left _ (List.mem_append_right _ h))))
set_option maxHeartbeats 4000000 in
set_option maxRecDepth 100000 in
theorem kX5_pause (l : Launch) (D : va_G) (g : G3) (ad : Ky → Nat) {v1 v2 v3 : Int32} {μ μ' : Mem} {r : Int32} (h : X5_pause v1 v2 v3 μ = some (r, μ')) : CtI l yX5_pause wsX5_pause rX5_pause D (tysX g) keysX ad (cX g ad) [.ref (ad (17, 50, 0)), .int v1, .int v2, .int v3] μ r μ' := by
  refine ctI_of (cc := cX5_pause) (maxL := 4) (ret := (some .int)) keysX_nd (by decide) rfl (Nat.le_of_ble_eq_true rfl) (fun p e s m below meth c A ls C hW hl => ?_)
  have hl : lv_has ls 4 [(0, .ref (ad (17, 50, 0))), (1, .int v1), (2, .int v2), (3, .int v3)] := hl
  obtain ⟨hx, hb, hr, hts, hown, hlocks, hml, hA⟩ := id C
  refine lv_aload_n hx hb dX5_pause_0 rfl (lv_at hl 0 rfl) ?_
  refine wo_get (C := RX5) (T := TX5) (N := 11) hx hb hts iX5_pause_5 hown hW kl_17_50_0 cn_o rfl 3 (by decide) (hts _ mX5_pause_l27) (fun _ h9 => h9) rfl dX5_pause_1 ?_
  refine lv_iload_n hx hb dX5_pause_4 rfl (lv_at hl 1 rfl) ?_
  obtain ⟨r_3, μ_2, hh_1, h⟩ := bd_s h
  refine wo_Vi (rest := []) C hW (kX4_hasPerson l D g ad (q := 13) (by decide) (by decide) hh_1) (cwV 1 hts gX5_pause_X4_hasPerson rfl rfl rfl (by decide +kernel) ⟨Nat.le_of_ble_eq_true rfl, Nat.le_of_ble_eq_true rfl⟩) (kt_o 13 (by decide) (by decide)) (ct_o (by decide) (by decide)) rfl rfl hl.1 rfl (Nat.le_of_ble_eq_true rfl) dX5_pause_5 ⟨Nat.zero_le _, Nat.zero_le _⟩ (fun H locs hW => ?_)
  refine lv_if_eq (tgt := 33) hx hb dX5_pause_8 (by decide) (fun c_4 => ?_) (fun c_4 => ?_)
  · have h := ite_p c_4 h
    refine lv_iconst (v := (-1)) hx hb dX5_pause_33 (by decide) ?_
    exact xw_iret C rfl hW dX5_pause_34 h
  have h := ite_n c_4 h
  refine lv_aload_n hx hb dX5_pause_11 rfl (lv_at hl 0 rfl) ?_
  refine wo_get (C := RX5) (T := TX5) (N := 11) hx hb hts iX5_pause_5 hown hW kl_17_50_0 cn_o rfl 3 (by decide) (hts _ mX5_pause_l27) (fun _ h9 => h9) rfl dX5_pause_12 ?_
  refine lv_iload_n hx hb dX5_pause_15 rfl (lv_at hl 2 rfl) ?_
  obtain ⟨r_7, μ_6, hh_5, h⟩ := bd_s h
  refine wo_Vi (rest := []) C hW (kX4_hasThing l D g ad (q := 13) (by decide) (by decide) hh_5) (cwV 1 hts gX5_pause_X4_hasThing rfl rfl rfl (by decide +kernel) ⟨Nat.le_of_ble_eq_true rfl, Nat.le_of_ble_eq_true rfl⟩) (kt_o 13 (by decide) (by decide)) (ct_o (by decide) (by decide)) rfl rfl hl.1 rfl (Nat.le_of_ble_eq_true rfl) dX5_pause_16 ⟨Nat.zero_le _, Nat.zero_le _⟩ (fun H locs hW => ?_)
  refine lv_if_eq (tgt := 33) hx hb dX5_pause_19 (by decide) (fun c_8 => ?_) (fun c_8 => ?_)
  · have h := ite_p c_8 h
    refine lv_iconst (v := (-1)) hx hb dX5_pause_33 (by decide) ?_
    exact xw_iret C rfl hW dX5_pause_34 h
  have h := ite_n c_8 h
  refine lv_iload_n hx hb dX5_pause_22 rfl (lv_at hl 3 rfl) ?_
  refine lv_iconst (v := 1) hx hb dX5_pause_23 (by decide) ?_
  refine lv_icmp_lt (tgt := 33) hx hb dX5_pause_24 (by decide) (fun c_9 => ?_) (fun c_9 => ?_)
  · have h := ite_p c_9 h
    refine lv_iconst (v := (-1)) hx hb dX5_pause_33 (by decide) ?_
    exact xw_iret C rfl hW dX5_pause_34 h
  have h := ite_n c_9 h
  refine lv_iload_n hx hb dX5_pause_27 rfl (lv_at hl 3 rfl) ?_
  refine lv_bipush (v := 30) hx hb dX5_pause_28 (by decide) ?_
  refine lv_icmp_le (tgt := 35) hx hb dX5_pause_30 (by decide) (fun c_10 => ?_) (fun c_10 => ?_)
  · have h := ite_p c_10 h
    refine lv_aload_n hx hb dX5_pause_35 rfl (lv_at hl 0 rfl) ?_
    refine wo_get (C := RX5) (T := TX5) (N := 11) hx hb hts iX5_pause_5 hown hW kl_17_50_0 cn_o rfl 6 (by decide) (hts _ mX5_pause_l45) (fun _ h9 => h9) rfl dX5_pause_36 ?_
    refine lv_aload_n hx hb dX5_pause_39 rfl (lv_at hl 0 rfl) ?_
    refine wo_get (C := RX5) (T := TX5) (N := 11) hx hb hts iX5_pause_5 hown hW kl_17_50_0 cn_o rfl 4 (by decide) (hts _ mX5_pause_l35) (fun _ h9 => h9) rfl dX5_pause_40 ?_
    obtain ⟨μ_12, hh_11, h⟩ := bdv_s h
    refine wo_Vv (rest := []) C hW (kX0_remember l D g ad  hh_11) (cwV 1 hts gX5_pause_X0_remember rfl rfl rfl (by decide +kernel) ⟨Nat.le_of_ble_eq_true rfl, Nat.le_of_ble_eq_true rfl⟩) kl_15_50_0 ch_o rfl rfl hl.1 rfl (Nat.le_of_ble_eq_true rfl) dX5_pause_43 ⟨Nat.zero_le _, Nat.zero_le _⟩ (fun H locs hW => ?_)
    refine lv_aload_n hx hb dX5_pause_46 rfl (lv_at hl 0 rfl) ?_
    refine wo_get (C := RX5) (T := TX5) (N := 11) hx hb hts iX5_pause_5 hown hW kl_17_50_0 cn_o rfl 4 (by decide) (hts _ mX5_pause_l35) (fun _ h9 => h9) rfl dX5_pause_47 ?_
    refine lv_iload_n hx hb dX5_pause_50 rfl (lv_at hl 1 rfl) ?_
    refine lv_iload_n hx hb dX5_pause_51 rfl (lv_at hl 2 rfl) ?_
    refine lv_iload_n hx hb dX5_pause_52 rfl (lv_at hl 3 rfl) ?_
    obtain ⟨μ_14, hh_13, h⟩ := bdv_s h
    refine wo_Vv (rest := []) C hW (kX1_addPause l D g ad (q := 0) (by decide) hh_13) (cwV 3 hts gX5_pause_X1_addPause rfl rfl rfl (by decide +kernel) ⟨Nat.le_of_ble_eq_true rfl, Nat.le_of_ble_eq_true rfl⟩) (km_o 0 (by decide)) (cm_o (by decide)) rfl rfl hl.1 rfl (Nat.le_of_ble_eq_true rfl) dX5_pause_53 ⟨Nat.zero_le _, Nat.zero_le _⟩ (fun H locs hW => ?_)
    refine lv_aload_n hx hb dX5_pause_56 rfl (lv_at hl 0 rfl) ?_
    refine wo_get (C := RX5) (T := TX5) (N := 11) hx hb hts iX5_pause_5 hown hW kl_17_50_0 cn_o rfl 4 (by decide) (hts _ mX5_pause_l35) (fun _ h9 => h9) rfl dX5_pause_57 ?_
    refine wo_get (C := RX1) (T := TX1) (N := 10) hx hb hts iX5_pause_1 hown hW (km_o 0 (by decide)) (cm_o (by decide)) rfl 8 (by decide) (hts _ mX5_pause_l124) (fun _ h9 => h9) rfl dX5_pause_60 ?_
    refine lv_iload_n hx hb dX5_pause_63 rfl (lv_at hl 1 rfl) ?_
    obtain ⟨hi_15, h⟩ := gi_s h
    refine wo_ldq hx hb hW (km_q 0 (by decide) 8 (by decide) (by decide)) 1 rfl (cm_q (by decide) (by decide)) rfl hi_15 dX5_pause_64 ?_
    refine lv_iload_n hx hb dX5_pause_65 rfl (lv_at hl 2 rfl) ?_
    obtain ⟨hi_16, h⟩ := gi_s h
    refine xw_ald hx hb hW (km_r 0 (by decide) 8 (by decide) (by decide) _ (vp_lt hi_15)) (cm_r (by decide) (by decide) (vp_lt hi_15)) hi_16 dX5_pause_66 ?_
    exact xw_iret C rfl hW dX5_pause_67 h
  have h := ite_n c_10 h
  refine lv_iconst (v := (-1)) hx hb dX5_pause_33 (by decide) ?_
  exact xw_iret C rfl hW dX5_pause_34 h
abbrev rX5_person : Room := { frames := 2, cells := 0, slots := 0, locals := 45 }
theorem mX5_person_l27 : Cond.fieldLink RX5 27 "NearlyBought" "laid" "LNearlyBought$Tale;" ∈ wsX5_person := by decide +kernel
theorem mX5_person_l85 : Cond.fieldLink RX5 85 "NearlyBought$Tale" "kind" "[I" ∈ wsX5_person := by decide +kernel
theorem mX5_person_l35 : Cond.fieldLink RX5 35 "NearlyBought" "now" "LNearlyBought$Market;" ∈ wsX5_person := by decide +kernel
theorem mX5_person_l88 : Cond.fieldLink RX5 88 "NearlyBought$Market" "coins" "[I" ∈ wsX5_person := by decide +kernel
theorem iX5_person_1 : ∀ w ∈ wsX10, w ∈ wsX5_person := fun _ h => List.mem_cons_of_mem _ (List.mem_append_right _ h)
theorem iX5_person_4 : ∀ w ∈ wsX40, w ∈ wsX5_person := fun _ h => List.mem_cons_of_mem _ (List.mem_append_left _ (List.mem_append_right _ h))
theorem iX5_person_5 : ∀ w ∈ wsX50, w ∈ wsX5_person := fun _ h => List.mem_cons_of_mem _ (List.mem_append_left _ (List.mem_append_left _ (List.mem_append_right _ h)))
set_option maxHeartbeats 4000000 in
set_option maxRecDepth 100000 in
theorem kX5_person (l : Launch) (D : va_G) (g : G3) (ad : Ky → Nat) {v1 v2 : Int32} {μ μ' : Mem} {r : Int32} (h : X5_person v1 v2 μ = some (r, μ')) : CtI l yX5_person wsX5_person rX5_person D (tysX g) keysX ad (cX g ad) [.ref (ad (17, 50, 0)), .int v1, .int v2] μ r μ' := by
  refine ctI_of (cc := cX5_person) (maxL := 3) (ret := (some .int)) keysX_nd (by decide) rfl (Nat.le_of_ble_eq_true rfl) (fun p e s m below meth c A ls C hW hl => ?_)
  have hl : lv_has ls 3 [(0, .ref (ad (17, 50, 0))), (1, .int v1), (2, .int v2)] := hl
  obtain ⟨hx, hb, hr, hts, hown, hlocks, hml, hA⟩ := id C
  refine lv_aload_n hx hb dX5_person_0 rfl (lv_at hl 0 rfl) ?_
  refine wo_get (C := RX5) (T := TX5) (N := 11) hx hb hts iX5_person_5 hown hW kl_17_50_0 cn_o rfl 3 (by decide) (hts _ mX5_person_l27) (fun _ h9 => h9) rfl dX5_person_1 ?_
  refine lv_iload_n hx hb dX5_person_4 rfl (lv_at hl 1 rfl) ?_
  obtain ⟨r_3, μ_2, hh_1, h⟩ := bd_s h
  refine wo_Vi (rest := []) C hW (kX4_hasPerson l D g ad (q := 13) (by decide) (by decide) hh_1) (cwV 1 hts gX5_person_X4_hasPerson rfl rfl rfl (by decide +kernel) ⟨Nat.le_of_ble_eq_true rfl, Nat.le_of_ble_eq_true rfl⟩) (kt_o 13 (by decide) (by decide)) (ct_o (by decide) (by decide)) rfl rfl hl.1 rfl (Nat.le_of_ble_eq_true rfl) dX5_person_5 ⟨Nat.zero_le _, Nat.zero_le _⟩ (fun H locs hW => ?_)
  refine lv_if_ne (tgt := 13) hx hb dX5_person_8 (by decide) (fun c_4 => ?_) (fun c_4 => ?_)
  · have h := ite_n c_4 h
    refine lv_iload_n hx hb dX5_person_13 rfl (lv_at hl 2 rfl) ?_
    by_cases c_5 : v2 = 0
    · have h := ite_p c_5 h
      refine lv_tableIn (off := 30) (tgt := 44) hx hb dX5_person_14 (by rw [c_5]; decide) (by rw [c_5]; decide) (by rw [c_5]; rfl) (by decide) ?_
      refine lv_aload_n hx hb dX5_person_44 rfl (lv_at hl 0 rfl) ?_
      refine wo_get (C := RX5) (T := TX5) (N := 11) hx hb hts iX5_person_5 hown hW kl_17_50_0 cn_o rfl 3 (by decide) (hts _ mX5_person_l27) (fun _ h9 => h9) rfl dX5_person_45 ?_
      refine wo_get (C := RX4) (T := TX4) (N := 12) hx hb hts iX5_person_4 hown hW (kt_o 13 (by decide) (by decide)) (ct_o (by decide) (by decide)) rfl 5 (by decide) (hts _ mX5_person_l85) (fun _ h9 => h9) rfl dX5_person_48 ?_
      refine lv_iload_n hx hb dX5_person_51 rfl (lv_at hl 1 rfl) ?_
      obtain ⟨hi_6, h⟩ := gi_s h
      refine xw_ald hx hb hW (kt_a 13 (by decide) (by decide) 5 (by decide) (by decide)) (ct_6 (by decide) (by decide) (by decide)) hi_6 dX5_person_52 ?_
      exact xw_iret C rfl hW dX5_person_53 h
    have h := ite_n c_5 h
    by_cases c_7 : v2 = 1
    · have h := ite_p c_7 h
      refine lv_tableIn (off := 40) (tgt := 54) hx hb dX5_person_14 (by rw [c_7]; decide) (by rw [c_7]; decide) (by rw [c_7]; rfl) (by decide) ?_
      refine lv_aload_n hx hb dX5_person_54 rfl (lv_at hl 0 rfl) ?_
      refine wo_get (C := RX5) (T := TX5) (N := 11) hx hb hts iX5_person_5 hown hW kl_17_50_0 cn_o rfl 4 (by decide) (hts _ mX5_person_l35) (fun _ h9 => h9) rfl dX5_person_55 ?_
      refine wo_get (C := RX1) (T := TX1) (N := 10) hx hb hts iX5_person_1 hown hW (km_o 0 (by decide)) (cm_o (by decide)) rfl 3 (by decide) (hts _ mX5_person_l88) (fun _ h9 => h9) rfl dX5_person_58 ?_
      refine lv_iload_n hx hb dX5_person_61 rfl (lv_at hl 1 rfl) ?_
      obtain ⟨hi_8, h⟩ := gi_s h
      refine xw_ald hx hb hW (km_a 0 (by decide) 3 (by decide) (by decide)) (cm_a (by decide) (by decide)) hi_8 dX5_person_62 ?_
      exact xw_iret C rfl hW dX5_person_63 h
    have h := ite_n c_7 h
    by_cases c_9 : v2 = 2
    · have h := ite_p c_9 h
      refine lv_tableIn (off := 50) (tgt := 64) hx hb dX5_person_14 (by rw [c_9]; decide) (by rw [c_9]; decide) (by rw [c_9]; rfl) (by decide) ?_
      refine lv_aload_n hx hb dX5_person_64 rfl (lv_at hl 0 rfl) ?_
      refine wo_get (C := RX5) (T := TX5) (N := 11) hx hb hts iX5_person_5 hown hW kl_17_50_0 cn_o rfl 4 (by decide) (hts _ mX5_person_l35) (fun _ h9 => h9) rfl dX5_person_65 ?_
      refine lv_iload_n hx hb dX5_person_68 rfl (lv_at hl 1 rfl) ?_
      obtain ⟨r_12, μ_11, hh_10, h⟩ := bd_s h
      refine wo_Vi (rest := []) C hW (kX1_thingsOf l D g ad (q := 0) (by decide) hh_10) (cwV 1 hts gX5_person_X1_thingsOf rfl rfl rfl (by decide +kernel) ⟨Nat.le_of_ble_eq_true rfl, Nat.le_of_ble_eq_true rfl⟩) (km_o 0 (by decide)) (cm_o (by decide)) rfl rfl hl.1 rfl (Nat.le_of_ble_eq_true rfl) dX5_person_69 ⟨Nat.zero_le _, Nat.zero_le _⟩ (fun H locs hW => ?_)
      exact xw_iret C rfl hW dX5_person_72 h
    have h := ite_n c_9 h
    by_cases c_13 : v2 = 3
    · have h := ite_p c_13 h
      refine lv_tableIn (off := 59) (tgt := 73) hx hb dX5_person_14 (by rw [c_13]; decide) (by rw [c_13]; decide) (by rw [c_13]; rfl) (by decide) ?_
      refine lv_aload_n hx hb dX5_person_73 rfl (lv_at hl 0 rfl) ?_
      refine wo_get (C := RX5) (T := TX5) (N := 11) hx hb hts iX5_person_5 hown hW kl_17_50_0 cn_o rfl 4 (by decide) (hts _ mX5_person_l35) (fun _ h9 => h9) rfl dX5_person_74 ?_
      refine lv_iload_n hx hb dX5_person_77 rfl (lv_at hl 1 rfl) ?_
      obtain ⟨r_16, μ_15, hh_14, h⟩ := bd_s h
      refine wo_Vi (rest := []) C hW (kX1_worthOf l D g ad (q := 0) (by decide) hh_14) (cwV 1 hts gX5_person_X1_worthOf rfl rfl rfl (by decide +kernel) ⟨Nat.le_of_ble_eq_true rfl, Nat.le_of_ble_eq_true rfl⟩) (km_o 0 (by decide)) (cm_o (by decide)) rfl rfl hl.1 rfl (Nat.le_of_ble_eq_true rfl) dX5_person_78 ⟨Nat.zero_le _, Nat.zero_le _⟩ (fun H locs hW => ?_)
      exact xw_iret C rfl hW dX5_person_81 h
    have h := ite_n c_13 h
    have t_17 := ne_ti (k := 0) rfl c_5
    have t_18 := ne_ti (k := 1) rfl c_7
    have t_19 := ne_ti (k := 2) rfl c_9
    have t_20 := ne_ti (k := 3) rfl c_13
    refine lv_tableOut (tgt := 82) hx hb dX5_person_14 (by omega) (by decide) ?_
    refine lv_iconst (v := (-1)) hx hb dX5_person_82 (by decide) ?_
    exact xw_iret C rfl hW dX5_person_83 h
  have h := ite_p c_4 h
  refine lv_iconst (v := (-1)) hx hb dX5_person_11 (by decide) ?_
  exact xw_iret C rfl hW dX5_person_12 h
abbrev rX5_rank : Room := { frames := 1, cells := 0, slots := 0, locals := 24 }
theorem mX5_rank_l27 : Cond.fieldLink RX5 27 "NearlyBought" "laid" "LNearlyBought$Tale;" ∈ wsX5_rank := by decide +kernel
theorem mX5_rank_l78 : Cond.fieldLink RX5 78 "NearlyBought$Tale" "things" "I" ∈ wsX5_rank := by decide +kernel
theorem mX5_rank_l35 : Cond.fieldLink RX5 35 "NearlyBought" "now" "LNearlyBought$Market;" ∈ wsX5_rank := by decide +kernel
theorem mX5_rank_l130 : Cond.fieldLink RX5 130 "NearlyBought$Market" "price" "[[I" ∈ wsX5_rank := by decide +kernel
theorem iX5_rank_1 : ∀ w ∈ wsX10, w ∈ wsX5_rank := fun _ h => List.mem_cons_of_mem _ (List.mem_append_right _ h)
theorem iX5_rank_4 : ∀ w ∈ wsX40, w ∈ wsX5_rank := fun _ h => List.mem_cons_of_mem _ (List.mem_append_left _ (List.mem_append_right _ h))
theorem iX5_rank_5 : ∀ w ∈ wsX50, w ∈ wsX5_rank := fun _ h => List.mem_cons_of_mem _ (List.mem_append_left _ (List.mem_append_left _ (List.mem_append_right _ h)))
set_option maxHeartbeats 4000000 in
set_option maxRecDepth 100000 in
theorem tX5_rank_b61 {p : Program} {l : Launch} {e : Env} {s : State} {m : MethodId} {args : Array Value} {below : List Frame} {meth : Method} {c : Code} {A : Nat → Prop} {D : va_G} {g : G3} {ad : Ky → Nat} (C : Cx p s m args meth c cX5_rank (some .int) 4 RX5 wsX5_rank A) {r0 : Int32} {μ0 : Mem} {v1 v2 v3 : Int32} {k19 : Int32 → Mem → Option (Int32 × Mem)} (h19 : ∀ (v3 : Int32) (μ : Mem) (H : Heap) (locs : List Loc) (ls : Array Slot), WX D g keysX ad A s s.heap μ H locs → lv_has ls 4 [(0, .ref (ad (17, 50, 0))), (1, .int v1), (2, .int v2), (3, .int v3)] → k19 v3 μ = some (r0, μ0) → TgI r0 p l e rX5_rank s m args below meth c D g keysX ad A μ0 H locs (F0 m 19 ls [])) {μ : Mem} {H : Heap} {locs : List Loc} {ls : Array Slot} (hW : WX D g keysX ad A s s.heap μ H locs) (hl : lv_has ls 4 [(0, .ref (ad (17, 50, 0))), (1, .int v1), (2, .int v2), (3, .int v3)]) (h : X5_rank_b61 k19 v1 v2 v3 μ = some (r0, μ0)) : TgI r0 p l e rX5_rank s m args below meth c D g keysX ad A μ0 H locs (F0 m 61 ls []) := by
  obtain ⟨hx, hb, hr, hts, hown, hlocks, hml, hA⟩ := id C
  refine lv_iinc (v := v3 + 1) (lv' := [(3, .int (v3 + 1)), (0, .ref (ad (17, 50, 0))), (1, .int v1), (2, .int v2)]) hx hb dX5_rank_61 hl (k := 3) rfl rfl (by decide) rfl (fun ls hl => ?_)
  refine lv_goto (tgt := 19) hx hb dX5_rank_64 (by decide) ?_
  exact h19 _ _ _ _ _ hW (lv_sub hl [1, 2, 3, 0] rfl) h
set_option maxHeartbeats 4000000 in
set_option maxRecDepth 100000 in
theorem tX5_rank_b19 {p : Program} {l : Launch} {e : Env} {s : State} {m : MethodId} {args : Array Value} {below : List Frame} {meth : Method} {c : Code} {A : Nat → Prop} {D : va_G} {g : G3} {ad : Ky → Nat} (C : Cx p s m args meth c cX5_rank (some .int) 4 RX5 wsX5_rank A) {r0 : Int32} {μ0 : Mem} {v1 v2 : Int32} (n : Nat) : ∀ (v3 : Int32) (μ : Mem) (H : Heap) (locs : List Loc) (ls : Array Slot), WX D g keysX ad A s s.heap μ H locs → lv_has ls 4 [(0, .ref (ad (17, 50, 0))), (1, .int v1), (2, .int v2), (3, .int v3)] → lo1 (X5_rank_b19 v1 v2) n v3 μ = some (r0, μ0) → TgI r0 p l e rX5_rank s m args below meth c D g keysX ad A μ0 H locs (F0 m 19 ls []) := by
  obtain ⟨hx, hb, hr, hts, hown, hlocks, hml, hA⟩ := id C
  induction n with
  | zero =>
    intro v3 μ H locs ls hW hl h
    cases h
  | succ n h19 =>
    intro v3 μ H locs ls hW hl h
    have h : X5_rank_b19 v1 v2 (lo1 (X5_rank_b19 v1 v2) n) v3 μ = some (r0, μ0) := h
    refine lv_iload_n hx hb dX5_rank_19 rfl (lv_at hl 3 rfl) ?_
    refine lv_aload_n hx hb dX5_rank_20 rfl (lv_at hl 0 rfl) ?_
    refine wo_get (C := RX5) (T := TX5) (N := 11) hx hb hts iX5_rank_5 hown hW kl_17_50_0 cn_o rfl 3 (by decide) (hts _ mX5_rank_l27) (fun _ h9 => h9) rfl dX5_rank_21 ?_
    refine wo_get (C := RX4) (T := TX4) (N := 12) hx hb hts iX5_rank_4 hown hW (kt_o 13 (by decide) (by decide)) (ct_o (by decide) (by decide)) rfl 1 (by decide) (hts _ mX5_rank_l78) (fun _ h9 => h9) rfl dX5_rank_24 ?_
    refine lv_icmp_ge (tgt := 67) hx hb dX5_rank_27 (by decide) (fun c_6 => ?_) (fun c_6 => ?_)
    · have h := ite_p c_6 h
      refine lv_bipush (v := (-4)) hx hb dX5_rank_67 (by decide) ?_
      exact xw_iret C rfl hW dX5_rank_69 h
    have h := ite_n c_6 h
    refine lv_aload_n hx hb dX5_rank_30 rfl (lv_at hl 0 rfl) ?_
    refine wo_get (C := RX5) (T := TX5) (N := 11) hx hb hts iX5_rank_5 hown hW kl_17_50_0 cn_o rfl 4 (by decide) (hts _ mX5_rank_l35) (fun _ h9 => h9) rfl dX5_rank_31 ?_
    refine wo_get (C := RX1) (T := TX1) (N := 10) hx hb hts iX5_rank_1 hown hW (km_o 0 (by decide)) (cm_o (by decide)) rfl 9 (by decide) (hts _ mX5_rank_l130) (fun _ h9 => h9) rfl dX5_rank_34 ?_
    refine lv_iload_n hx hb dX5_rank_37 rfl (lv_at hl 1 rfl) ?_
    obtain ⟨hi_7, h⟩ := gi_s h
    refine wo_ldq hx hb hW (km_q 0 (by decide) 9 (by decide) (by decide)) 1 rfl (cm_q (by decide) (by decide)) rfl hi_7 dX5_rank_38 ?_
    refine lv_iload_n hx hb dX5_rank_39 rfl (lv_at hl 3 rfl) ?_
    obtain ⟨hi_8, h⟩ := gi_s h
    refine xw_ald hx hb hW (km_r 0 (by decide) 9 (by decide) (by decide) _ (vp_lt hi_7)) (cm_r (by decide) (by decide) (vp_lt hi_7)) hi_8 dX5_rank_40 ?_
    refine lv_bipush (v := (-4)) hx hb dX5_rank_41 (by decide) ?_
    refine lv_icmp_eq (tgt := 61) hx hb dX5_rank_43 (by decide) (fun c_9 => ?_) (fun c_9 => ?_)
    · have h := ite_p c_9 h
      exact tX5_rank_b61 C h19 hW (lv_sub hl [0, 1, 2, 3] rfl) h
    have h := ite_n c_9 h
    refine lv_aload_n hx hb dX5_rank_46 rfl (lv_at hl 0 rfl) ?_
    refine wo_get (C := RX5) (T := TX5) (N := 11) hx hb hts iX5_rank_5 hown hW kl_17_50_0 cn_o rfl 4 (by decide) (hts _ mX5_rank_l35) (fun _ h9 => h9) rfl dX5_rank_47 ?_
    refine lv_iload_n hx hb dX5_rank_50 rfl (lv_at hl 1 rfl) ?_
    refine lv_iload_n hx hb dX5_rank_51 rfl (lv_at hl 3 rfl) ?_
    obtain ⟨r_12, μ_11, hh_10, h⟩ := bd_s h
    refine wo_Vi (rest := []) C hW (kX1_dearerTo l D g ad (q := 0) (by decide) hh_10) (cwV 2 hts gX5_rank_X1_dearerTo rfl rfl rfl (by decide +kernel) ⟨Nat.le_of_ble_eq_true rfl, Nat.le_of_ble_eq_true rfl⟩) (km_o 0 (by decide)) (cm_o (by decide)) rfl rfl hl.1 rfl (Nat.le_of_ble_eq_true rfl) dX5_rank_52 ⟨Nat.zero_le _, Nat.zero_le _⟩ (fun H locs hW => ?_)
    refine lv_iload_n hx hb dX5_rank_55 rfl (lv_at hl 2 rfl) ?_
    refine lv_icmp_ne (tgt := 61) hx hb dX5_rank_56 (by decide) (fun c_13 => ?_) (fun c_13 => ?_)
    · have h := ite_n c_13 h
      exact tX5_rank_b61 C h19 hW (lv_sub hl [0, 1, 2, 3] rfl) h
    have h := ite_p c_13 h
    refine lv_iload_n hx hb dX5_rank_59 rfl (lv_at hl 3 rfl) ?_
    exact xw_iret C rfl hW dX5_rank_60 h
set_option maxHeartbeats 4000000 in
set_option maxRecDepth 100000 in
theorem kX5_rank (l : Launch) (D : va_G) (g : G3) (ad : Ky → Nat) {v1 v2 : Int32} {μ μ' : Mem} {r : Int32} (h : X5_rank v1 v2 μ = some (r, μ')) : CtI l yX5_rank wsX5_rank rX5_rank D (tysX g) keysX ad (cX g ad) [.ref (ad (17, 50, 0)), .int v1, .int v2] μ r μ' := by
  refine ctI_of (cc := cX5_rank) (maxL := 4) (ret := (some .int)) keysX_nd (by decide) rfl (Nat.le_of_ble_eq_true rfl) (fun p e s m below meth c A ls C hW hl => ?_)
  have hl : lv_has ls 4 [(0, .ref (ad (17, 50, 0))), (1, .int v1), (2, .int v2)] := hl
  obtain ⟨hx, hb, hr, hts, hown, hlocks, hml, hA⟩ := id C
  refine lv_aload_n hx hb dX5_rank_0 rfl (lv_at hl 0 rfl) ?_
  refine wo_get (C := RX5) (T := TX5) (N := 11) hx hb hts iX5_rank_5 hown hW kl_17_50_0 cn_o rfl 3 (by decide) (hts _ mX5_rank_l27) (fun _ h9 => h9) rfl dX5_rank_1 ?_
  refine lv_iload_n hx hb dX5_rank_4 rfl (lv_at hl 1 rfl) ?_
  obtain ⟨r_3, μ_2, hh_1, h⟩ := bd_s h
  refine wo_Vi (rest := []) C hW (kX4_hasPerson l D g ad (q := 13) (by decide) (by decide) hh_1) (cwV 1 hts gX5_rank_X4_hasPerson rfl rfl rfl (by decide +kernel) ⟨Nat.le_of_ble_eq_true rfl, Nat.le_of_ble_eq_true rfl⟩) (kt_o 13 (by decide) (by decide)) (ct_o (by decide) (by decide)) rfl rfl hl.1 rfl (Nat.le_of_ble_eq_true rfl) dX5_rank_5 ⟨Nat.zero_le _, Nat.zero_le _⟩ (fun H locs hW => ?_)
  refine lv_if_eq (tgt := 15) hx hb dX5_rank_8 (by decide) (fun c_4 => ?_) (fun c_4 => ?_)
  · have h := ite_p c_4 h
    refine lv_iconst (v := (-1)) hx hb dX5_rank_15 (by decide) ?_
    exact xw_iret C rfl hW dX5_rank_16 h
  have h := ite_n c_4 h
  refine lv_iload_n hx hb dX5_rank_11 rfl (lv_at hl 2 rfl) ?_
  refine lv_if_ge (tgt := 17) hx hb dX5_rank_12 (by decide) (fun c_5 => ?_) (fun c_5 => ?_)
  · have h := ite_p c_5 h
    refine lv_iconst (v := 0) hx hb dX5_rank_17 (by decide) ?_
    refine lv_istore_n (lv' := [(3, .int 0), (0, .ref (ad (17, 50, 0))), (1, .int v1), (2, .int v2)]) hx hb dX5_rank_18 rfl hl (by decide) rfl (fun ls hl => ?_)
    exact tX5_rank_b19 C 1000 _ _ _ _ _ hW (lv_sub hl [1, 2, 3, 0] rfl) h
  have h := ite_n c_5 h
  refine lv_iconst (v := (-1)) hx hb dX5_rank_15 (by decide) ?_
  exact xw_iret C rfl hW dX5_rank_16 h
abbrev rX5_seen : Room := { frames := 1, cells := 0, slots := 0, locals := 23 }
theorem mX5_seen_l27 : Cond.fieldLink RX5 27 "NearlyBought" "laid" "LNearlyBought$Tale;" ∈ wsX5_seen := by decide +kernel
theorem mX5_seen_l56 : Cond.fieldLink RX5 56 "NearlyBought" "sights" "LNearlyBought$Sights;" ∈ wsX5_seen := by decide +kernel
theorem mX5_seen_l167 : Cond.fieldLink RX5 167 "NearlyBought$Sights" "size" "I" ∈ wsX5_seen := by decide +kernel
theorem iX5_seen_3 : ∀ w ∈ wsX30, w ∈ wsX5_seen := fun _ h => List.mem_cons_of_mem _ (List.mem_append_left _ (List.mem_append_right _ h))
theorem iX5_seen_5 : ∀ w ∈ wsX50, w ∈ wsX5_seen := fun _ h => List.mem_cons_of_mem _ (List.mem_append_left _ (List.mem_append_left _ (List.mem_append_right _ h)))
set_option maxHeartbeats 4000000 in
set_option maxRecDepth 100000 in
theorem kX5_seen (l : Launch) (D : va_G) (g : G3) (ad : Ky → Nat) {v1 v2 v3 : Int32} {μ μ' : Mem} {r : Int32} (h : X5_seen v1 v2 v3 μ = some (r, μ')) : CtI l yX5_seen wsX5_seen rX5_seen D (tysX g) keysX ad (cX g ad) [.ref (ad (17, 50, 0)), .int v1, .int v2, .int v3] μ r μ' := by
  refine ctI_of (cc := cX5_seen) (maxL := 4) (ret := (some .int)) keysX_nd (by decide) rfl (Nat.le_of_ble_eq_true rfl) (fun p e s m below meth c A ls C hW hl => ?_)
  have hl : lv_has ls 4 [(0, .ref (ad (17, 50, 0))), (1, .int v1), (2, .int v2), (3, .int v3)] := hl
  obtain ⟨hx, hb, hr, hts, hown, hlocks, hml, hA⟩ := id C
  refine lv_aload_n hx hb dX5_seen_0 rfl (lv_at hl 0 rfl) ?_
  refine wo_get (C := RX5) (T := TX5) (N := 11) hx hb hts iX5_seen_5 hown hW kl_17_50_0 cn_o rfl 3 (by decide) (hts _ mX5_seen_l27) (fun _ h9 => h9) rfl dX5_seen_1 ?_
  refine lv_iload_n hx hb dX5_seen_4 rfl (lv_at hl 1 rfl) ?_
  obtain ⟨r_3, μ_2, hh_1, h⟩ := bd_s h
  refine wo_Vi (rest := []) C hW (kX4_hasThing l D g ad (q := 13) (by decide) (by decide) hh_1) (cwV 1 hts gX5_seen_X4_hasThing rfl rfl rfl (by decide +kernel) ⟨Nat.le_of_ble_eq_true rfl, Nat.le_of_ble_eq_true rfl⟩) (kt_o 13 (by decide) (by decide)) (ct_o (by decide) (by decide)) rfl rfl hl.1 rfl (Nat.le_of_ble_eq_true rfl) dX5_seen_5 ⟨Nat.zero_le _, Nat.zero_le _⟩ (fun H locs hW => ?_)
  refine lv_if_eq (tgt := 33) hx hb dX5_seen_8 (by decide) (fun c_4 => ?_) (fun c_4 => ?_)
  · have h := ite_p c_4 h
    refine lv_iconst (v := (-1)) hx hb dX5_seen_33 (by decide) ?_
    exact xw_iret C rfl hW dX5_seen_34 h
  have h := ite_n c_4 h
  refine lv_aload_n hx hb dX5_seen_11 rfl (lv_at hl 0 rfl) ?_
  refine wo_get (C := RX5) (T := TX5) (N := 11) hx hb hts iX5_seen_5 hown hW kl_17_50_0 cn_o rfl 3 (by decide) (hts _ mX5_seen_l27) (fun _ h9 => h9) rfl dX5_seen_12 ?_
  refine lv_iload_n hx hb dX5_seen_15 rfl (lv_at hl 2 rfl) ?_
  obtain ⟨r_7, μ_6, hh_5, h⟩ := bd_s h
  refine wo_Vi (rest := []) C hW (kX4_hasPerson l D g ad (q := 13) (by decide) (by decide) hh_5) (cwV 1 hts gX5_seen_X4_hasPerson rfl rfl rfl (by decide +kernel) ⟨Nat.le_of_ble_eq_true rfl, Nat.le_of_ble_eq_true rfl⟩) (kt_o 13 (by decide) (by decide)) (ct_o (by decide) (by decide)) rfl rfl hl.1 rfl (Nat.le_of_ble_eq_true rfl) dX5_seen_16 ⟨Nat.zero_le _, Nat.zero_le _⟩ (fun H locs hW => ?_)
  refine lv_if_eq (tgt := 33) hx hb dX5_seen_19 (by decide) (fun c_8 => ?_) (fun c_8 => ?_)
  · have h := ite_p c_8 h
    refine lv_iconst (v := (-1)) hx hb dX5_seen_33 (by decide) ?_
    exact xw_iret C rfl hW dX5_seen_34 h
  have h := ite_n c_8 h
  refine lv_iload_n hx hb dX5_seen_22 rfl (lv_at hl 3 rfl) ?_
  refine lv_iconst (v := 1) hx hb dX5_seen_23 (by decide) ?_
  refine lv_icmp_lt (tgt := 33) hx hb dX5_seen_24 (by decide) (fun c_9 => ?_) (fun c_9 => ?_)
  · have h := ite_p c_9 h
    refine lv_iconst (v := (-1)) hx hb dX5_seen_33 (by decide) ?_
    exact xw_iret C rfl hW dX5_seen_34 h
  have h := ite_n c_9 h
  refine lv_iload_n hx hb dX5_seen_27 rfl (lv_at hl 3 rfl) ?_
  refine lv_bipush (v := 9) hx hb dX5_seen_28 (by decide) ?_
  refine lv_icmp_le (tgt := 35) hx hb dX5_seen_30 (by decide) (fun c_10 => ?_) (fun c_10 => ?_)
  · have h := ite_p c_10 h
    refine lv_aload_n hx hb dX5_seen_35 rfl (lv_at hl 0 rfl) ?_
    refine wo_get (C := RX5) (T := TX5) (N := 11) hx hb hts iX5_seen_5 hown hW kl_17_50_0 cn_o rfl 8 (by decide) (hts _ mX5_seen_l56) (fun _ h9 => h9) rfl dX5_seen_36 ?_
    refine wo_get (C := RX3) (T := TX3) (N := 4) hx hb hts iX5_seen_3 hown hW kl_16_50_0 cs_o rfl 3 (by decide) (hts _ mX5_seen_l167) (fun _ h9 => h9) rfl dX5_seen_39 ?_
    refine lv_bipush (v := 6) hx hb dX5_seen_42 (by decide) ?_
    refine lv_icmp_lt (tgt := 50) hx hb dX5_seen_44 (by decide) (fun c_11 => ?_) (fun c_11 => ?_)
    · have h := ite_p c_11 h
      refine lv_aload_n hx hb dX5_seen_50 rfl (lv_at hl 0 rfl) ?_
      refine wo_get (C := RX5) (T := TX5) (N := 11) hx hb hts iX5_seen_5 hown hW kl_17_50_0 cn_o rfl 8 (by decide) (hts _ mX5_seen_l56) (fun _ h9 => h9) rfl dX5_seen_51 ?_
      refine lv_iload_n hx hb dX5_seen_54 rfl (lv_at hl 1 rfl) ?_
      refine lv_iload_n hx hb dX5_seen_55 rfl (lv_at hl 2 rfl) ?_
      refine lv_iload_n hx hb dX5_seen_56 rfl (lv_at hl 3 rfl) ?_
      obtain ⟨μ_13, hh_12, h⟩ := bdv_s h
      refine wo_Vv (rest := []) C hW (kX3_add l D g ad  hh_12) (cwV 3 hts gX5_seen_X3_add rfl rfl rfl (by decide +kernel) ⟨Nat.le_of_ble_eq_true rfl, Nat.le_of_ble_eq_true rfl⟩) kl_16_50_0 cs_o rfl rfl hl.1 rfl (Nat.le_of_ble_eq_true rfl) dX5_seen_57 ⟨Nat.zero_le _, Nat.zero_le _⟩ (fun H locs hW => ?_)
      refine lv_aload_n hx hb dX5_seen_60 rfl (lv_at hl 0 rfl) ?_
      refine wo_get (C := RX5) (T := TX5) (N := 11) hx hb hts iX5_seen_5 hown hW kl_17_50_0 cn_o rfl 8 (by decide) (hts _ mX5_seen_l56) (fun _ h9 => h9) rfl dX5_seen_61 ?_
      refine wo_get (C := RX3) (T := TX3) (N := 4) hx hb hts iX5_seen_3 hown hW kl_16_50_0 cs_o rfl 3 (by decide) (hts _ mX5_seen_l167) (fun _ h9 => h9) rfl dX5_seen_64 ?_
      exact xw_iret C rfl hW dX5_seen_67 h
    have h := ite_n c_11 h
    refine lv_bipush (v := (-3)) hx hb dX5_seen_47 (by decide) ?_
    exact xw_iret C rfl hW dX5_seen_49 h
  have h := ite_n c_10 h
  refine lv_iconst (v := (-1)) hx hb dX5_seen_33 (by decide) ?_
  exact xw_iret C rfl hW dX5_seen_34 h
abbrev rX5_stop : Room := { frames := 6, cells := 0, slots := 0, locals := 134 }
theorem mX5_stop_l27 : Cond.fieldLink RX5 27 "NearlyBought" "laid" "LNearlyBought$Tale;" ∈ wsX5_stop := by decide +kernel
theorem mX5_stop_l39 : Cond.fieldLink RX5 39 "NearlyBought" "trial" "LNearlyBought$Market;" ∈ wsX5_stop := by decide +kernel
theorem mX5_stop_l35 : Cond.fieldLink RX5 35 "NearlyBought" "now" "LNearlyBought$Market;" ∈ wsX5_stop := by decide +kernel
theorem mX5_stop_l108 : Cond.fieldLink RX5 108 "NearlyBought$Market" "owner" "[I" ∈ wsX5_stop := by decide +kernel
theorem iX5_stop_1 : ∀ w ∈ wsX10, w ∈ wsX5_stop := fun _ h => List.mem_cons_of_mem _ (List.mem_append_left _ (List.mem_append_right _ h))
theorem iX5_stop_5 : ∀ w ∈ wsX50, w ∈ wsX5_stop := fun _ h => List.mem_cons_of_mem _ (List.mem_append_left _ (List.mem_append_left _ (List.mem_append_right _ h)))
set_option maxHeartbeats 4000000 in
set_option maxRecDepth 100000 in
theorem tX5_stop_b70 {p : Program} {l : Launch} {e : Env} {s : State} {m : MethodId} {args : Array Value} {below : List Frame} {meth : Method} {c : Code} {A : Nat → Prop} {D : va_G} {g : G3} {ad : Ky → Nat} (C : Cx p s m args meth c cX5_stop (some .int) 6 RX5 wsX5_stop A) {r0 : Int32} {μ0 : Mem} {v1 v2 v3 v4 : Int32} {k36 : Int32 → Mem → Option (Int32 × Mem)} (h36 : ∀ (v4 : Int32) (μ : Mem) (H : Heap) (locs : List Loc) (ls : Array Slot), WX D g keysX ad A s s.heap μ H locs → lv_has ls 6 [(0, .ref (ad (17, 50, 0))), (1, .int v1), (2, .int v2), (3, .int v3), (4, .int v4)] → k36 v4 μ = some (r0, μ0) → TgI r0 p l e rX5_stop s m args below meth c D g keysX ad A μ0 H locs (F0 m 36 ls [])) {μ : Mem} {H : Heap} {locs : List Loc} {ls : Array Slot} (hW : WX D g keysX ad A s s.heap μ H locs) (hl : lv_has ls 6 [(0, .ref (ad (17, 50, 0))), (1, .int v1), (2, .int v2), (3, .int v3), (4, .int v4)]) (h : X5_stop_b70 k36 v1 v2 v3 v4 μ = some (r0, μ0)) : TgI r0 p l e rX5_stop s m args below meth c D g keysX ad A μ0 H locs (F0 m 70 ls []) := by
  obtain ⟨hx, hb, hr, hts, hown, hlocks, hml, hA⟩ := id C
  refine lv_aload_n hx hb dX5_stop_70 rfl (lv_at hl 0 rfl) ?_
  refine wo_get (C := RX5) (T := TX5) (N := 11) hx hb hts iX5_stop_5 hown hW kl_17_50_0 cn_o rfl 5 (by decide) (hts _ mX5_stop_l39) (fun _ h9 => h9) rfl dX5_stop_71 ?_
  refine lv_iload_n hx hb dX5_stop_74 rfl (lv_at hl 2 rfl) ?_
  obtain ⟨r_17, μ_16, hh_15, h⟩ := bd_s h
  refine wo_Vi (rest := []) C hW (kX1_fairsTillGone l D g ad (q := 1) (by decide) hh_15) (cwV 1 hts gX5_stop_X1_fairsTillGone rfl rfl rfl (by decide +kernel) ⟨Nat.le_of_ble_eq_true rfl, Nat.le_of_ble_eq_true rfl⟩) (km_o 1 (by decide)) (cm_o (by decide)) rfl rfl hl.1 rfl (Nat.le_of_ble_eq_true rfl) dX5_stop_75 ⟨Nat.zero_le _, Nat.zero_le _⟩ (fun H locs hW => ?_)
  refine lv_istore (lv' := [(5, .int r_17), (0, .ref (ad (17, 50, 0))), (1, .int v1), (2, .int v2), (3, .int v3), (4, .int v4)]) hx hb dX5_stop_78 hl (by decide) rfl (fun ls hl => ?_)
  refine lv_aload_n hx hb dX5_stop_80 rfl (lv_at hl 1 rfl) ?_
  refine wo_get (C := RX5) (T := TX5) (N := 11) hx hb hts iX5_stop_5 hown hW kl_17_50_0 cn_o rfl 5 (by decide) (hts _ mX5_stop_l39) (fun _ h9 => h9) rfl dX5_stop_81 ?_
  refine wo_get (C := RX1) (T := TX1) (N := 10) hx hb hts iX5_stop_1 hown hW (km_o 1 (by decide)) (cm_o (by decide)) rfl 4 (by decide) (hts _ mX5_stop_l108) (fun _ h9 => h9) rfl dX5_stop_84 ?_
  refine lv_iload_n hx hb dX5_stop_87 rfl (lv_at hl 3 rfl) ?_
  obtain ⟨hi_18, h⟩ := gi_s h
  refine xw_ald hx hb hW (km_a 1 (by decide) 4 (by decide) (by decide)) (cm_a (by decide) (by decide)) hi_18 dX5_stop_88 ?_
  refine lv_iload_n hx hb dX5_stop_89 rfl (lv_at hl 2 rfl) ?_
  refine lv_icmp_ne (tgt := 105) hx hb dX5_stop_90 (by decide) (fun c_19 => ?_) (fun c_19 => ?_)
  · have h := ite_n c_19 h
    refine lv_iinc (v := v4 + 1) (lv' := [(4, .int (v4 + 1)), (5, .int r_17), (0, .ref (ad (17, 50, 0))), (1, .int v1), (2, .int v2), (3, .int v3)]) hx hb dX5_stop_105 hl (k := 5) rfl rfl (by decide) rfl (fun ls hl => ?_)
    refine lv_goto (tgt := 36) hx hb dX5_stop_108 (by decide) ?_
    exact h36 _ _ _ _ _ hW (lv_sub hl [2, 3, 4, 5, 0] rfl) h
  have h := ite_p c_19 h
  refine lv_iload_n hx hb dX5_stop_93 rfl (lv_at hl 4 rfl) ?_
  refine lv_if_ne (tgt := 102) hx hb dX5_stop_94 (by decide) (fun c_20 => ?_) (fun c_20 => ?_)
  · have h := ite_n c_20 h
    refine lv_iload hx hb dX5_stop_102 (lv_at hl 0 rfl) ?_
    exact xw_iret C rfl hW dX5_stop_104 h
  have h := ite_p c_20 h
  refine lv_iload hx hb dX5_stop_97 (lv_at hl 5 rfl) ?_
  refine lv_goto (tgt := 104) hx hb dX5_stop_99 (by decide) ?_
  exact xw_iret C rfl hW dX5_stop_104 h
set_option maxHeartbeats 4000000 in
set_option maxRecDepth 100000 in
theorem tX5_stop_b36 {p : Program} {l : Launch} {e : Env} {s : State} {m : MethodId} {args : Array Value} {below : List Frame} {meth : Method} {c : Code} {A : Nat → Prop} {D : va_G} {g : G3} {ad : Ky → Nat} (C : Cx p s m args meth c cX5_stop (some .int) 6 RX5 wsX5_stop A) {r0 : Int32} {μ0 : Mem} {v1 v2 v3 : Int32} (n : Nat) : ∀ (v4 : Int32) (μ : Mem) (H : Heap) (locs : List Loc) (ls : Array Slot), WX D g keysX ad A s s.heap μ H locs → lv_has ls 6 [(0, .ref (ad (17, 50, 0))), (1, .int v1), (2, .int v2), (3, .int v3), (4, .int v4)] → lo1 (X5_stop_b36 v1 v2 v3) n v4 μ = some (r0, μ0) → TgI r0 p l e rX5_stop s m args below meth c D g keysX ad A μ0 H locs (F0 m 36 ls []) := by
  obtain ⟨hx, hb, hr, hts, hown, hlocks, hml, hA⟩ := id C
  induction n with
  | zero =>
    intro v4 μ H locs ls hW hl h
    cases h
  | succ n h36 =>
    intro v4 μ H locs ls hW hl h
    have h : X5_stop_b36 v1 v2 v3 (lo1 (X5_stop_b36 v1 v2 v3) n) v4 μ = some (r0, μ0) := h
    refine lv_iload hx hb dX5_stop_36 (lv_at hl 4 rfl) ?_
    refine lv_bipush (v := 30) hx hb dX5_stop_38 (by decide) ?_
    refine lv_icmp_gt (tgt := 111) hx hb dX5_stop_40 (by decide) (fun c_11 => ?_) (fun c_11 => ?_)
    · have h := ite_p c_11 h
      refine lv_bipush (v := (-4)) hx hb dX5_stop_111 (by decide) ?_
      exact xw_iret C rfl hW dX5_stop_113 h
    have h := ite_n c_11 h
    refine lv_aload_n hx hb dX5_stop_43 rfl (lv_at hl 0 rfl) ?_
    refine wo_get (C := RX5) (T := TX5) (N := 11) hx hb hts iX5_stop_5 hown hW kl_17_50_0 cn_o rfl 5 (by decide) (hts _ mX5_stop_l39) (fun _ h9 => h9) rfl dX5_stop_44 ?_
    refine lv_aload_n hx hb dX5_stop_47 rfl (lv_at hl 0 rfl) ?_
    refine wo_get (C := RX5) (T := TX5) (N := 11) hx hb hts iX5_stop_5 hown hW kl_17_50_0 cn_o rfl 4 (by decide) (hts _ mX5_stop_l35) (fun _ h9 => h9) rfl dX5_stop_48 ?_
    obtain ⟨μ_13, hh_12, h⟩ := bdv_s h
    refine wo_Vv (rest := []) C hW (kX1_copyFrom l D g ad (q := 1) (q1 := 0) (by decide) (by decide) hh_12) (cwV 1 hts gX5_stop_X1_copyFrom rfl rfl rfl (by decide +kernel) ⟨Nat.le_of_ble_eq_true rfl, Nat.le_of_ble_eq_true rfl⟩) (km_o 1 (by decide)) (cm_o (by decide)) rfl rfl hl.1 rfl (Nat.le_of_ble_eq_true rfl) dX5_stop_51 ⟨Nat.zero_le _, Nat.zero_le _⟩ (fun H locs hW => ?_)
    refine lv_iload hx hb dX5_stop_54 (lv_at hl 4 rfl) ?_
    refine lv_if_le (tgt := 70) hx hb dX5_stop_56 (by decide) (fun c_14 => ?_) (fun c_14 => ?_)
    · have h := ite_p c_14 h
      exact tX5_stop_b70 C h36 hW (lv_sub hl [0, 1, 2, 3, 4] rfl) h
    have h := ite_n c_14 h
    refine lv_aload_n hx hb dX5_stop_59 rfl (lv_at hl 0 rfl) ?_
    refine wo_get (C := RX5) (T := TX5) (N := 11) hx hb hts iX5_stop_5 hown hW kl_17_50_0 cn_o rfl 5 (by decide) (hts _ mX5_stop_l39) (fun _ h9 => h9) rfl dX5_stop_60 ?_
    refine lv_iload_n hx hb dX5_stop_63 rfl (lv_at hl 1 rfl) ?_
    refine lv_iload_n hx hb dX5_stop_64 rfl (lv_at hl 2 rfl) ?_
    refine lv_iload hx hb dX5_stop_65 (lv_at hl 4 rfl) ?_
    obtain ⟨μ_22, hh_21, h⟩ := bdv_s h
    refine wo_Vv (rest := []) C hW (kX1_addPause l D g ad (q := 1) (by decide) hh_21) (cwV 3 hts gX5_stop_X1_addPause rfl rfl rfl (by decide +kernel) ⟨Nat.le_of_ble_eq_true rfl, Nat.le_of_ble_eq_true rfl⟩) (km_o 1 (by decide)) (cm_o (by decide)) rfl rfl hl.1 rfl (Nat.le_of_ble_eq_true rfl) dX5_stop_67 ⟨Nat.zero_le _, Nat.zero_le _⟩ (fun H locs hW => ?_)
    exact tX5_stop_b70 C h36 hW (lv_sub hl [0, 1, 2, 3, 4] rfl) h
set_option maxHeartbeats 4000000 in
set_option maxRecDepth 100000 in
theorem kX5_stop (l : Launch) (D : va_G) (g : G3) (ad : Ky → Nat) {v1 v2 v3 : Int32} {μ μ' : Mem} {r : Int32} (h : X5_stop v1 v2 v3 μ = some (r, μ')) : CtI l yX5_stop wsX5_stop rX5_stop D (tysX g) keysX ad (cX g ad) [.ref (ad (17, 50, 0)), .int v1, .int v2, .int v3] μ r μ' := by
  refine ctI_of (cc := cX5_stop) (maxL := 6) (ret := (some .int)) keysX_nd (by decide) rfl (Nat.le_of_ble_eq_true rfl) (fun p e s m below meth c A ls C hW hl => ?_)
  have hl : lv_has ls 6 [(0, .ref (ad (17, 50, 0))), (1, .int v1), (2, .int v2), (3, .int v3)] := hl
  obtain ⟨hx, hb, hr, hts, hown, hlocks, hml, hA⟩ := id C
  refine lv_aload_n hx hb dX5_stop_0 rfl (lv_at hl 0 rfl) ?_
  refine wo_get (C := RX5) (T := TX5) (N := 11) hx hb hts iX5_stop_5 hown hW kl_17_50_0 cn_o rfl 3 (by decide) (hts _ mX5_stop_l27) (fun _ h9 => h9) rfl dX5_stop_1 ?_
  refine lv_iload_n hx hb dX5_stop_4 rfl (lv_at hl 1 rfl) ?_
  obtain ⟨r_3, μ_2, hh_1, h⟩ := bd_s h
  refine wo_Vi (rest := []) C hW (kX4_hasPerson l D g ad (q := 13) (by decide) (by decide) hh_1) (cwV 1 hts gX5_stop_X4_hasPerson rfl rfl rfl (by decide +kernel) ⟨Nat.le_of_ble_eq_true rfl, Nat.le_of_ble_eq_true rfl⟩) (kt_o 13 (by decide) (by decide)) (ct_o (by decide) (by decide)) rfl rfl hl.1 rfl (Nat.le_of_ble_eq_true rfl) dX5_stop_5 ⟨Nat.zero_le _, Nat.zero_le _⟩ (fun H locs hW => ?_)
  refine lv_if_eq (tgt := 31) hx hb dX5_stop_8 (by decide) (fun c_4 => ?_) (fun c_4 => ?_)
  · have h := ite_p c_4 h
    refine lv_iconst (v := (-1)) hx hb dX5_stop_31 (by decide) ?_
    exact xw_iret C rfl hW dX5_stop_32 h
  have h := ite_n c_4 h
  refine lv_aload_n hx hb dX5_stop_11 rfl (lv_at hl 0 rfl) ?_
  refine wo_get (C := RX5) (T := TX5) (N := 11) hx hb hts iX5_stop_5 hown hW kl_17_50_0 cn_o rfl 3 (by decide) (hts _ mX5_stop_l27) (fun _ h9 => h9) rfl dX5_stop_12 ?_
  refine lv_iload_n hx hb dX5_stop_15 rfl (lv_at hl 2 rfl) ?_
  obtain ⟨r_7, μ_6, hh_5, h⟩ := bd_s h
  refine wo_Vi (rest := []) C hW (kX4_hasThing l D g ad (q := 13) (by decide) (by decide) hh_5) (cwV 1 hts gX5_stop_X4_hasThing rfl rfl rfl (by decide +kernel) ⟨Nat.le_of_ble_eq_true rfl, Nat.le_of_ble_eq_true rfl⟩) (kt_o 13 (by decide) (by decide)) (ct_o (by decide) (by decide)) rfl rfl hl.1 rfl (Nat.le_of_ble_eq_true rfl) dX5_stop_16 ⟨Nat.zero_le _, Nat.zero_le _⟩ (fun H locs hW => ?_)
  refine lv_if_eq (tgt := 31) hx hb dX5_stop_19 (by decide) (fun c_8 => ?_) (fun c_8 => ?_)
  · have h := ite_p c_8 h
    refine lv_iconst (v := (-1)) hx hb dX5_stop_31 (by decide) ?_
    exact xw_iret C rfl hW dX5_stop_32 h
  have h := ite_n c_8 h
  refine lv_iload_n hx hb dX5_stop_22 rfl (lv_at hl 3 rfl) ?_
  refine lv_if_lt (tgt := 31) hx hb dX5_stop_23 (by decide) (fun c_9 => ?_) (fun c_9 => ?_)
  · have h := ite_p c_9 h
    refine lv_iconst (v := (-1)) hx hb dX5_stop_31 (by decide) ?_
    exact xw_iret C rfl hW dX5_stop_32 h
  have h := ite_n c_9 h
  refine lv_iload_n hx hb dX5_stop_26 rfl (lv_at hl 3 rfl) ?_
  refine lv_iconst (v := 1) hx hb dX5_stop_27 (by decide) ?_
  refine lv_icmp_le (tgt := 33) hx hb dX5_stop_28 (by decide) (fun c_10 => ?_) (fun c_10 => ?_)
  · have h := ite_p c_10 h
    refine lv_iconst (v := 0) hx hb dX5_stop_33 (by decide) ?_
    refine lv_istore (lv' := [(4, .int 0), (0, .ref (ad (17, 50, 0))), (1, .int v1), (2, .int v2), (3, .int v3)]) hx hb dX5_stop_34 hl (by decide) rfl (fun ls hl => ?_)
    exact tX5_stop_b36 C 1000 _ _ _ _ _ hW (lv_sub hl [1, 2, 3, 4, 0] rfl) h
  have h := ite_n c_10 h
  refine lv_iconst (v := (-1)) hx hb dX5_stop_31 (by decide) ?_
  exact xw_iret C rfl hW dX5_stop_32 h
abbrev rX5_thing : Room := { frames := 1, cells := 0, slots := 0, locals := 24 }
theorem mX5_thing_l27 : Cond.fieldLink RX5 27 "NearlyBought" "laid" "LNearlyBought$Tale;" ∈ wsX5_thing := by decide +kernel
theorem mX5_thing_l35 : Cond.fieldLink RX5 35 "NearlyBought" "now" "LNearlyBought$Market;" ∈ wsX5_thing := by decide +kernel
theorem mX5_thing_l101 : Cond.fieldLink RX5 101 "NearlyBought$Market" "year" "I" ∈ wsX5_thing := by decide +kernel
theorem mX5_thing_l108 : Cond.fieldLink RX5 108 "NearlyBought$Market" "owner" "[I" ∈ wsX5_thing := by decide +kernel
theorem mX5_thing_l111 : Cond.fieldLink RX5 111 "NearlyBought$Market" "missed" "[I" ∈ wsX5_thing := by decide +kernel
theorem iX5_thing_1 : ∀ w ∈ wsX10, w ∈ wsX5_thing := fun _ h => List.mem_cons_of_mem _ (List.mem_append_left _ (List.mem_append_right _ h))
theorem iX5_thing_5 : ∀ w ∈ wsX50, w ∈ wsX5_thing := fun _ h => List.mem_cons_of_mem _ (List.mem_append_left _ (List.mem_append_left _ (List.mem_append_right _ h)))
set_option maxHeartbeats 4000000 in
set_option maxRecDepth 100000 in
theorem kX5_thing (l : Launch) (D : va_G) (g : G3) (ad : Ky → Nat) {v1 v2 : Int32} {μ μ' : Mem} {r : Int32} (h : X5_thing v1 v2 μ = some (r, μ')) : CtI l yX5_thing wsX5_thing rX5_thing D (tysX g) keysX ad (cX g ad) [.ref (ad (17, 50, 0)), .int v1, .int v2] μ r μ' := by
  refine ctI_of (cc := cX5_thing) (maxL := 3) (ret := (some .int)) keysX_nd (by decide) rfl (Nat.le_of_ble_eq_true rfl) (fun p e s m below meth c A ls C hW hl => ?_)
  have hl : lv_has ls 3 [(0, .ref (ad (17, 50, 0))), (1, .int v1), (2, .int v2)] := hl
  obtain ⟨hx, hb, hr, hts, hown, hlocks, hml, hA⟩ := id C
  refine lv_aload_n hx hb dX5_thing_0 rfl (lv_at hl 0 rfl) ?_
  refine wo_get (C := RX5) (T := TX5) (N := 11) hx hb hts iX5_thing_5 hown hW kl_17_50_0 cn_o rfl 3 (by decide) (hts _ mX5_thing_l27) (fun _ h9 => h9) rfl dX5_thing_1 ?_
  refine lv_iload_n hx hb dX5_thing_4 rfl (lv_at hl 1 rfl) ?_
  obtain ⟨r_3, μ_2, hh_1, h⟩ := bd_s h
  refine wo_Vi (rest := []) C hW (kX4_hasThing l D g ad (q := 13) (by decide) (by decide) hh_1) (cwV 1 hts gX5_thing_X4_hasThing rfl rfl rfl (by decide +kernel) ⟨Nat.le_of_ble_eq_true rfl, Nat.le_of_ble_eq_true rfl⟩) (kt_o 13 (by decide) (by decide)) (ct_o (by decide) (by decide)) rfl rfl hl.1 rfl (Nat.le_of_ble_eq_true rfl) dX5_thing_5 ⟨Nat.zero_le _, Nat.zero_le _⟩ (fun H locs hW => ?_)
  refine lv_if_ne (tgt := 13) hx hb dX5_thing_8 (by decide) (fun c_4 => ?_) (fun c_4 => ?_)
  · have h := ite_n c_4 h
    refine lv_iload_n hx hb dX5_thing_13 rfl (lv_at hl 2 rfl) ?_
    by_cases c_5 : v2 = 0
    · have h := ite_p c_5 h
      refine lv_tableIn (off := 30) (tgt := 44) hx hb dX5_thing_14 (by rw [c_5]; decide) (by rw [c_5]; decide) (by rw [c_5]; rfl) (by decide) ?_
      refine lv_aload_n hx hb dX5_thing_44 rfl (lv_at hl 0 rfl) ?_
      refine wo_get (C := RX5) (T := TX5) (N := 11) hx hb hts iX5_thing_5 hown hW kl_17_50_0 cn_o rfl 3 (by decide) (hts _ mX5_thing_l27) (fun _ h9 => h9) rfl dX5_thing_45 ?_
      refine lv_iload_n hx hb dX5_thing_48 rfl (lv_at hl 1 rfl) ?_
      refine lv_aload_n hx hb dX5_thing_49 rfl (lv_at hl 0 rfl) ?_
      refine wo_get (C := RX5) (T := TX5) (N := 11) hx hb hts iX5_thing_5 hown hW kl_17_50_0 cn_o rfl 4 (by decide) (hts _ mX5_thing_l35) (fun _ h9 => h9) rfl dX5_thing_50 ?_
      refine wo_get (C := RX1) (T := TX1) (N := 10) hx hb hts iX5_thing_1 hown hW (km_o 0 (by decide)) (cm_o (by decide)) rfl 1 (by decide) (hts _ mX5_thing_l101) (fun _ h9 => h9) rfl dX5_thing_53 ?_
      obtain ⟨r_8, μ_7, hh_6, h⟩ := bd_s h
      refine wo_Vi (rest := []) C hW (kX4_costIn l D g ad (q := 13) (by decide) (by decide) hh_6) (cwV 2 hts gX5_thing_X4_costIn rfl rfl rfl (by decide +kernel) ⟨Nat.le_of_ble_eq_true rfl, Nat.le_of_ble_eq_true rfl⟩) (kt_o 13 (by decide) (by decide)) (ct_o (by decide) (by decide)) rfl rfl hl.1 rfl (Nat.le_of_ble_eq_true rfl) dX5_thing_56 ⟨Nat.zero_le _, Nat.zero_le _⟩ (fun H locs hW => ?_)
      exact xw_iret C rfl hW dX5_thing_59 h
    have h := ite_n c_5 h
    by_cases c_9 : v2 = 1
    · have h := ite_p c_9 h
      refine lv_tableIn (off := 46) (tgt := 60) hx hb dX5_thing_14 (by rw [c_9]; decide) (by rw [c_9]; decide) (by rw [c_9]; rfl) (by decide) ?_
      refine lv_aload_n hx hb dX5_thing_60 rfl (lv_at hl 0 rfl) ?_
      refine wo_get (C := RX5) (T := TX5) (N := 11) hx hb hts iX5_thing_5 hown hW kl_17_50_0 cn_o rfl 4 (by decide) (hts _ mX5_thing_l35) (fun _ h9 => h9) rfl dX5_thing_61 ?_
      refine wo_get (C := RX1) (T := TX1) (N := 10) hx hb hts iX5_thing_1 hown hW (km_o 0 (by decide)) (cm_o (by decide)) rfl 4 (by decide) (hts _ mX5_thing_l108) (fun _ h9 => h9) rfl dX5_thing_64 ?_
      refine lv_iload_n hx hb dX5_thing_67 rfl (lv_at hl 1 rfl) ?_
      obtain ⟨hi_10, h⟩ := gi_s h
      refine xw_ald hx hb hW (km_a 0 (by decide) 4 (by decide) (by decide)) (cm_a (by decide) (by decide)) hi_10 dX5_thing_68 ?_
      exact xw_iret C rfl hW dX5_thing_69 h
    have h := ite_n c_9 h
    by_cases c_11 : v2 = 2
    · have h := ite_p c_11 h
      refine lv_tableIn (off := 56) (tgt := 70) hx hb dX5_thing_14 (by rw [c_11]; decide) (by rw [c_11]; decide) (by rw [c_11]; rfl) (by decide) ?_
      refine lv_aload_n hx hb dX5_thing_70 rfl (lv_at hl 0 rfl) ?_
      refine wo_get (C := RX5) (T := TX5) (N := 11) hx hb hts iX5_thing_5 hown hW kl_17_50_0 cn_o rfl 4 (by decide) (hts _ mX5_thing_l35) (fun _ h9 => h9) rfl dX5_thing_71 ?_
      refine wo_get (C := RX1) (T := TX1) (N := 10) hx hb hts iX5_thing_1 hown hW (km_o 0 (by decide)) (cm_o (by decide)) rfl 5 (by decide) (hts _ mX5_thing_l111) (fun _ h9 => h9) rfl dX5_thing_74 ?_
      refine lv_iload_n hx hb dX5_thing_77 rfl (lv_at hl 1 rfl) ?_
      obtain ⟨hi_12, h⟩ := gi_s h
      refine xw_ald hx hb hW (km_a 0 (by decide) 5 (by decide) (by decide)) (cm_a (by decide) (by decide)) hi_12 dX5_thing_78 ?_
      exact xw_iret C rfl hW dX5_thing_79 h
    have h := ite_n c_11 h
    by_cases c_13 : v2 = 3
    · have h := ite_p c_13 h
      refine lv_tableIn (off := 66) (tgt := 80) hx hb dX5_thing_14 (by rw [c_13]; decide) (by rw [c_13]; decide) (by rw [c_13]; rfl) (by decide) ?_
      refine lv_aload_n hx hb dX5_thing_80 rfl (lv_at hl 0 rfl) ?_
      refine wo_get (C := RX5) (T := TX5) (N := 11) hx hb hts iX5_thing_5 hown hW kl_17_50_0 cn_o rfl 4 (by decide) (hts _ mX5_thing_l35) (fun _ h9 => h9) rfl dX5_thing_81 ?_
      refine lv_iload_n hx hb dX5_thing_84 rfl (lv_at hl 1 rfl) ?_
      obtain ⟨r_16, μ_15, hh_14, h⟩ := bd_s h
      refine wo_Vi (rest := []) C hW (kX1_isFree l D g ad (q := 0) (by decide) hh_14) (cwV 1 hts gX5_thing_X1_isFree rfl rfl rfl (by decide +kernel) ⟨Nat.le_of_ble_eq_true rfl, Nat.le_of_ble_eq_true rfl⟩) (km_o 0 (by decide)) (cm_o (by decide)) rfl rfl hl.1 rfl (Nat.le_of_ble_eq_true rfl) dX5_thing_85 ⟨Nat.zero_le _, Nat.zero_le _⟩ (fun H locs hW => ?_)
      refine lv_if_eq (tgt := 102) hx hb dX5_thing_88 (by decide) (fun c_17 => ?_) (fun c_17 => ?_)
      · have h := ite_p c_17 h
        refine lv_bipush (v := (-4)) hx hb dX5_thing_102 (by decide) ?_
        exact xw_iret C rfl hW dX5_thing_104 h
      have h := ite_n c_17 h
      refine lv_aload_n hx hb dX5_thing_91 rfl (lv_at hl 0 rfl) ?_
      refine wo_get (C := RX5) (T := TX5) (N := 11) hx hb hts iX5_thing_5 hown hW kl_17_50_0 cn_o rfl 4 (by decide) (hts _ mX5_thing_l35) (fun _ h9 => h9) rfl dX5_thing_92 ?_
      refine lv_iload_n hx hb dX5_thing_95 rfl (lv_at hl 1 rfl) ?_
      obtain ⟨r_20, μ_19, hh_18, h⟩ := bd_s h
      refine wo_Vi (rest := []) C hW (kX1_claimantOf l D g ad (q := 0) (by decide) hh_18) (cwV 1 hts gX5_thing_X1_claimantOf rfl rfl rfl (by decide +kernel) ⟨Nat.le_of_ble_eq_true rfl, Nat.le_of_ble_eq_true rfl⟩) (km_o 0 (by decide)) (cm_o (by decide)) rfl rfl hl.1 rfl (Nat.le_of_ble_eq_true rfl) dX5_thing_96 ⟨Nat.zero_le _, Nat.zero_le _⟩ (fun H locs hW => ?_)
      refine lv_goto (tgt := 104) hx hb dX5_thing_99 (by decide) ?_
      exact xw_iret C rfl hW dX5_thing_104 h
    have h := ite_n c_13 h
    have t_21 := ne_ti (k := 0) rfl c_5
    have t_22 := ne_ti (k := 1) rfl c_9
    have t_23 := ne_ti (k := 2) rfl c_11
    have t_24 := ne_ti (k := 3) rfl c_13
    refine lv_tableOut (tgt := 105) hx hb dX5_thing_14 (by omega) (by decide) ?_
    refine lv_iconst (v := (-1)) hx hb dX5_thing_105 (by decide) ?_
    exact xw_iret C rfl hW dX5_thing_106 h
  have h := ite_p c_4 h
  refine lv_iconst (v := (-1)) hx hb dX5_thing_11 (by decide) ?_
  exact xw_iret C rfl hW dX5_thing_12 h
abbrev rX5_undo : Room := { frames := 3, cells := 0, slots := 0, locals := 69 }
theorem mX5_undo_l45 : Cond.fieldLink RX5 45 "NearlyBought" "history" "LNearlyBought$History;" ∈ wsX5_undo := by decide +kernel
theorem mX5_undo_l145 : Cond.fieldLink RX5 145 "NearlyBought$History" "size" "I" ∈ wsX5_undo := by decide +kernel
theorem mX5_undo_l35 : Cond.fieldLink RX5 35 "NearlyBought" "now" "LNearlyBought$Market;" ∈ wsX5_undo := by decide +kernel
theorem iX5_undo_0 : ∀ w ∈ wsX00, w ∈ wsX5_undo := fun _ h => List.mem_cons_of_mem _ (List.mem_append_left _ (List.mem_append_right _ h))
theorem iX5_undo_5 : ∀ w ∈ wsX50, w ∈ wsX5_undo := fun _ h => List.mem_cons_of_mem _ (List.mem_append_left _ (List.mem_append_left _ (List.mem_append_right _ h)))
set_option maxHeartbeats 4000000 in
set_option maxRecDepth 100000 in
theorem kX5_undo (l : Launch) (D : va_G) (g : G3) (ad : Ky → Nat) {μ μ' : Mem} {r : Int32} (h : X5_undo μ = some (r, μ')) : CtI l yX5_undo wsX5_undo rX5_undo D (tysX g) keysX ad (cX g ad) [.ref (ad (17, 50, 0))] μ r μ' := by
  refine ctI_of (cc := cX5_undo) (maxL := 1) (ret := (some .int)) keysX_nd (by decide) rfl (Nat.le_of_ble_eq_true rfl) (fun p e s m below meth c A ls C hW hl => ?_)
  have hl : lv_has ls 1 [(0, .ref (ad (17, 50, 0)))] := hl
  obtain ⟨hx, hb, hr, hts, hown, hlocks, hml, hA⟩ := id C
  refine lv_aload_n hx hb dX5_undo_0 rfl (lv_at hl 0 rfl) ?_
  refine wo_get (C := RX5) (T := TX5) (N := 11) hx hb hts iX5_undo_5 hown hW kl_17_50_0 cn_o rfl 6 (by decide) (hts _ mX5_undo_l45) (fun _ h9 => h9) rfl dX5_undo_1 ?_
  refine wo_get (C := RX0) (T := TX0) (N := 3) hx hb hts iX5_undo_0 hown hW kl_15_50_0 ch_o rfl 2 (by decide) (hts _ mX5_undo_l145) (fun _ h9 => h9) rfl dX5_undo_4 ?_
  refine lv_if_ne (tgt := 13) hx hb dX5_undo_7 (by decide) (fun c_1 => ?_) (fun c_1 => ?_)
  · have h := ite_n c_1 h
    refine lv_aload_n hx hb dX5_undo_13 rfl (lv_at hl 0 rfl) ?_
    refine wo_get (C := RX5) (T := TX5) (N := 11) hx hb hts iX5_undo_5 hown hW kl_17_50_0 cn_o rfl 6 (by decide) (hts _ mX5_undo_l45) (fun _ h9 => h9) rfl dX5_undo_14 ?_
    refine lv_aload_n hx hb dX5_undo_17 rfl (lv_at hl 0 rfl) ?_
    refine wo_get (C := RX5) (T := TX5) (N := 11) hx hb hts iX5_undo_5 hown hW kl_17_50_0 cn_o rfl 4 (by decide) (hts _ mX5_undo_l35) (fun _ h9 => h9) rfl dX5_undo_18 ?_
    obtain ⟨μ_3, hh_2, h⟩ := bdv_s h
    refine wo_Vv (rest := []) C hW (kX0_restore l D g ad  hh_2) (cwV 1 hts gX5_undo_X0_restore rfl rfl rfl (by decide +kernel) ⟨Nat.le_of_ble_eq_true rfl, Nat.le_of_ble_eq_true rfl⟩) kl_15_50_0 ch_o rfl rfl hl.1 rfl (Nat.le_of_ble_eq_true rfl) dX5_undo_21 ⟨Nat.zero_le _, Nat.zero_le _⟩ (fun H locs hW => ?_)
    refine lv_aload_n hx hb dX5_undo_24 rfl (lv_at hl 0 rfl) ?_
    refine wo_get (C := RX5) (T := TX5) (N := 11) hx hb hts iX5_undo_5 hown hW kl_17_50_0 cn_o rfl 6 (by decide) (hts _ mX5_undo_l45) (fun _ h9 => h9) rfl dX5_undo_25 ?_
    refine wo_get (C := RX0) (T := TX0) (N := 3) hx hb hts iX5_undo_0 hown hW kl_15_50_0 ch_o rfl 2 (by decide) (hts _ mX5_undo_l145) (fun _ h9 => h9) rfl dX5_undo_28 ?_
    exact xw_iret C rfl hW dX5_undo_31 h
  have h := ite_p c_1 h
  refine lv_bipush (v := (-2)) hx hb dX5_undo_10 (by decide) ?_
  exact xw_iret C rfl hW dX5_undo_12 h
abbrev rX5_wanted : Room := { frames := 1, cells := 0, slots := 0, locals := 23 }
theorem mX5_wanted_l27 : Cond.fieldLink RX5 27 "NearlyBought" "laid" "LNearlyBought$Tale;" ∈ wsX5_wanted := by decide +kernel
theorem mX5_wanted_l78 : Cond.fieldLink RX5 78 "NearlyBought$Tale" "things" "I" ∈ wsX5_wanted := by decide +kernel
theorem mX5_wanted_l35 : Cond.fieldLink RX5 35 "NearlyBought" "now" "LNearlyBought$Market;" ∈ wsX5_wanted := by decide +kernel
theorem iX5_wanted_4 : ∀ w ∈ wsX40, w ∈ wsX5_wanted := fun _ h => List.mem_cons_of_mem _ (List.mem_append_left _ (List.mem_append_right _ h))
theorem iX5_wanted_5 : ∀ w ∈ wsX50, w ∈ wsX5_wanted := fun _ h => List.mem_cons_of_mem _ (List.mem_append_left _ (List.mem_append_left _ (List.mem_append_right _ h)))
set_option maxHeartbeats 4000000 in
set_option maxRecDepth 100000 in
theorem tX5_wanted_b47 {p : Program} {l : Launch} {e : Env} {s : State} {m : MethodId} {args : Array Value} {below : List Frame} {meth : Method} {c : Code} {A : Nat → Prop} {D : va_G} {g : G3} {ad : Ky → Nat} (C : Cx p s m args meth c cX5_wanted (some .int) 4 RX5 wsX5_wanted A) {r0 : Int32} {μ0 : Mem} {v1 v2 v3 : Int32} {k15 : Int32 → Int32 → Mem → Option (Int32 × Mem)} (h15 : ∀ (v2 v3 : Int32) (μ : Mem) (H : Heap) (locs : List Loc) (ls : Array Slot), WX D g keysX ad A s s.heap μ H locs → lv_has ls 4 [(0, .ref (ad (17, 50, 0))), (1, .int v1), (2, .int v2), (3, .int v3)] → k15 v2 v3 μ = some (r0, μ0) → TgI r0 p l e rX5_wanted s m args below meth c D g keysX ad A μ0 H locs (F0 m 15 ls [])) {μ : Mem} {H : Heap} {locs : List Loc} {ls : Array Slot} (hW : WX D g keysX ad A s s.heap μ H locs) (hl : lv_has ls 4 [(0, .ref (ad (17, 50, 0))), (1, .int v1), (2, .int v2), (3, .int v3)]) (h : X5_wanted_b47 k15 v1 v2 v3 μ = some (r0, μ0)) : TgI r0 p l e rX5_wanted s m args below meth c D g keysX ad A μ0 H locs (F0 m 47 ls []) := by
  obtain ⟨hx, hb, hr, hts, hown, hlocks, hml, hA⟩ := id C
  refine lv_iinc (v := v3 + 1) (lv' := [(3, .int (v3 + 1)), (0, .ref (ad (17, 50, 0))), (1, .int v1), (2, .int v2)]) hx hb dX5_wanted_47 hl (k := 3) rfl rfl (by decide) rfl (fun ls hl => ?_)
  refine lv_goto (tgt := 15) hx hb dX5_wanted_50 (by decide) ?_
  exact h15 _ _ _ _ _ _ hW (lv_sub hl [1, 2, 3, 0] rfl) h
set_option maxHeartbeats 4000000 in
set_option maxRecDepth 100000 in
theorem tX5_wanted_b15 {p : Program} {l : Launch} {e : Env} {s : State} {m : MethodId} {args : Array Value} {below : List Frame} {meth : Method} {c : Code} {A : Nat → Prop} {D : va_G} {g : G3} {ad : Ky → Nat} (C : Cx p s m args meth c cX5_wanted (some .int) 4 RX5 wsX5_wanted A) {r0 : Int32} {μ0 : Mem} {v1 : Int32} (n : Nat) : ∀ (v2 v3 : Int32) (μ : Mem) (H : Heap) (locs : List Loc) (ls : Array Slot), WX D g keysX ad A s s.heap μ H locs → lv_has ls 4 [(0, .ref (ad (17, 50, 0))), (1, .int v1), (2, .int v2), (3, .int v3)] → lo2 (X5_wanted_b15 v1) n v2 v3 μ = some (r0, μ0) → TgI r0 p l e rX5_wanted s m args below meth c D g keysX ad A μ0 H locs (F0 m 15 ls []) := by
  obtain ⟨hx, hb, hr, hts, hown, hlocks, hml, hA⟩ := id C
  induction n with
  | zero =>
    intro v2 v3 μ H locs ls hW hl h
    cases h
  | succ n h15 =>
    intro v2 v3 μ H locs ls hW hl h
    have h : X5_wanted_b15 v1 (lo2 (X5_wanted_b15 v1) n) v2 v3 μ = some (r0, μ0) := h
    refine lv_iload_n hx hb dX5_wanted_15 rfl (lv_at hl 3 rfl) ?_
    refine lv_aload_n hx hb dX5_wanted_16 rfl (lv_at hl 0 rfl) ?_
    refine wo_get (C := RX5) (T := TX5) (N := 11) hx hb hts iX5_wanted_5 hown hW kl_17_50_0 cn_o rfl 3 (by decide) (hts _ mX5_wanted_l27) (fun _ h9 => h9) rfl dX5_wanted_17 ?_
    refine wo_get (C := RX4) (T := TX4) (N := 12) hx hb hts iX5_wanted_4 hown hW (kt_o 13 (by decide) (by decide)) (ct_o (by decide) (by decide)) rfl 1 (by decide) (hts _ mX5_wanted_l78) (fun _ h9 => h9) rfl dX5_wanted_20 ?_
    refine lv_icmp_ge (tgt := 53) hx hb dX5_wanted_23 (by decide) (fun c_3 => ?_) (fun c_3 => ?_)
    · have h := ite_p c_3 h
      refine lv_iload_n hx hb dX5_wanted_53 rfl (lv_at hl 1 rfl) ?_
      refine lv_if_ne (tgt := 61) hx hb dX5_wanted_54 (by decide) (fun c_4 => ?_) (fun c_4 => ?_)
      · have h := ite_n c_4 h
        refine lv_aload_n hx hb dX5_wanted_61 rfl (lv_at hl 0 rfl) ?_
        refine wo_get (C := RX5) (T := TX5) (N := 11) hx hb hts iX5_wanted_5 hown hW kl_17_50_0 cn_o rfl 4 (by decide) (hts _ mX5_wanted_l35) (fun _ h9 => h9) rfl dX5_wanted_62 ?_
        refine lv_iload_n hx hb dX5_wanted_65 rfl (lv_at hl 2 rfl) ?_
        obtain ⟨r_7, μ_6, hh_5, h⟩ := bd_s h
        refine wo_Vi (rest := []) C hW (kX1_wantersOf l D g ad (q := 0) (by decide) hh_5) (cwV 1 hts gX5_wanted_X1_wantersOf rfl rfl rfl (by decide +kernel) ⟨Nat.le_of_ble_eq_true rfl, Nat.le_of_ble_eq_true rfl⟩) (km_o 0 (by decide)) (cm_o (by decide)) rfl rfl hl.1 rfl (Nat.le_of_ble_eq_true rfl) dX5_wanted_66 ⟨Nat.zero_le _, Nat.zero_le _⟩ (fun H locs hW => ?_)
        exact xw_iret C rfl hW dX5_wanted_69 h
      have h := ite_p c_4 h
      refine lv_iload_n hx hb dX5_wanted_57 rfl (lv_at hl 2 rfl) ?_
      refine lv_goto (tgt := 69) hx hb dX5_wanted_58 (by decide) ?_
      exact xw_iret C rfl hW dX5_wanted_69 h
    have h := ite_n c_3 h
    refine lv_aload_n hx hb dX5_wanted_26 rfl (lv_at hl 0 rfl) ?_
    refine wo_get (C := RX5) (T := TX5) (N := 11) hx hb hts iX5_wanted_5 hown hW kl_17_50_0 cn_o rfl 4 (by decide) (hts _ mX5_wanted_l35) (fun _ h9 => h9) rfl dX5_wanted_27 ?_
    refine lv_iload_n hx hb dX5_wanted_30 rfl (lv_at hl 3 rfl) ?_
    obtain ⟨r_10, μ_9, hh_8, h⟩ := bd_s h
    refine wo_Vi (rest := []) C hW (kX1_wantersOf l D g ad (q := 0) (by decide) hh_8) (cwV 1 hts gX5_wanted_X1_wantersOf rfl rfl rfl (by decide +kernel) ⟨Nat.le_of_ble_eq_true rfl, Nat.le_of_ble_eq_true rfl⟩) (km_o 0 (by decide)) (cm_o (by decide)) rfl rfl hl.1 rfl (Nat.le_of_ble_eq_true rfl) dX5_wanted_31 ⟨Nat.zero_le _, Nat.zero_le _⟩ (fun H locs hW => ?_)
    refine lv_aload_n hx hb dX5_wanted_34 rfl (lv_at hl 0 rfl) ?_
    refine wo_get (C := RX5) (T := TX5) (N := 11) hx hb hts iX5_wanted_5 hown hW kl_17_50_0 cn_o rfl 4 (by decide) (hts _ mX5_wanted_l35) (fun _ h9 => h9) rfl dX5_wanted_35 ?_
    refine lv_iload_n hx hb dX5_wanted_38 rfl (lv_at hl 2 rfl) ?_
    obtain ⟨r_13, μ_12, hh_11, h⟩ := bd_s h
    refine wo_Vi (rest := [.int r_10]) C hW (kX1_wantersOf l D g ad (q := 0) (by decide) hh_11) (cwV 1 hts gX5_wanted_X1_wantersOf rfl rfl rfl (by decide +kernel) ⟨Nat.le_of_ble_eq_true rfl, Nat.le_of_ble_eq_true rfl⟩) (km_o 0 (by decide)) (cm_o (by decide)) rfl rfl hl.1 rfl (Nat.le_of_ble_eq_true rfl) dX5_wanted_39 ⟨Nat.zero_le _, Nat.zero_le _⟩ (fun H locs hW => ?_)
    refine lv_icmp_le (tgt := 47) hx hb dX5_wanted_42 (by decide) (fun c_14 => ?_) (fun c_14 => ?_)
    · have h := ite_p c_14 h
      exact tX5_wanted_b47 C h15 hW (lv_sub hl [0, 1, 2, 3] rfl) h
    have h := ite_n c_14 h
    refine lv_iload_n hx hb dX5_wanted_45 rfl (lv_at hl 3 rfl) ?_
    refine lv_istore_n (lv' := [(2, .int v3), (0, .ref (ad (17, 50, 0))), (1, .int v1), (3, .int v3)]) hx hb dX5_wanted_46 rfl hl (by decide) rfl (fun ls hl => ?_)
    exact tX5_wanted_b47 C h15 hW (lv_sub hl [1, 2, 0, 3] rfl) h
set_option maxHeartbeats 4000000 in
set_option maxRecDepth 100000 in
theorem kX5_wanted (l : Launch) (D : va_G) (g : G3) (ad : Ky → Nat) {v1 : Int32} {μ μ' : Mem} {r : Int32} (h : X5_wanted v1 μ = some (r, μ')) : CtI l yX5_wanted wsX5_wanted rX5_wanted D (tysX g) keysX ad (cX g ad) [.ref (ad (17, 50, 0)), .int v1] μ r μ' := by
  refine ctI_of (cc := cX5_wanted) (maxL := 4) (ret := (some .int)) keysX_nd (by decide) rfl (Nat.le_of_ble_eq_true rfl) (fun p e s m below meth c A ls C hW hl => ?_)
  have hl : lv_has ls 4 [(0, .ref (ad (17, 50, 0))), (1, .int v1)] := hl
  obtain ⟨hx, hb, hr, hts, hown, hlocks, hml, hA⟩ := id C
  refine lv_iload_n hx hb dX5_wanted_0 rfl (lv_at hl 1 rfl) ?_
  refine lv_if_lt (tgt := 9) hx hb dX5_wanted_1 (by decide) (fun c_1 => ?_) (fun c_1 => ?_)
  · have h := ite_p c_1 h
    refine lv_iconst (v := (-1)) hx hb dX5_wanted_9 (by decide) ?_
    exact xw_iret C rfl hW dX5_wanted_10 h
  have h := ite_n c_1 h
  refine lv_iload_n hx hb dX5_wanted_4 rfl (lv_at hl 1 rfl) ?_
  refine lv_iconst (v := 1) hx hb dX5_wanted_5 (by decide) ?_
  refine lv_icmp_le (tgt := 11) hx hb dX5_wanted_6 (by decide) (fun c_2 => ?_) (fun c_2 => ?_)
  · have h := ite_p c_2 h
    refine lv_iconst (v := 0) hx hb dX5_wanted_11 (by decide) ?_
    refine lv_istore_n (lv' := [(2, .int 0), (0, .ref (ad (17, 50, 0))), (1, .int v1)]) hx hb dX5_wanted_12 rfl hl (by decide) rfl (fun ls hl => ?_)
    refine lv_iconst (v := 1) hx hb dX5_wanted_13 (by decide) ?_
    refine lv_istore_n (lv' := [(3, .int 1), (2, .int 0), (0, .ref (ad (17, 50, 0))), (1, .int v1)]) hx hb dX5_wanted_14 rfl hl (by decide) rfl (fun ls hl => ?_)
    exact tX5_wanted_b15 C 1000 _ _ _ _ _ _ hW (lv_sub hl [2, 3, 1, 0] rfl) h
  have h := ite_n c_2 h
  refine lv_iconst (v := (-1)) hx hb dX5_wanted_9 (by decide) ?_
  exact xw_iret C rfl hW dX5_wanted_10 h
abbrev rX5_wipe : Room := { frames := 0, cells := 0, slots := 0, locals := 0 }
theorem mX5_wipe_l66 : Cond.fieldLink RX5 66 "NearlyBought" "textLength" "I" ∈ wsX5_wipe := by decide +kernel
theorem iX5_wipe_5 : ∀ w ∈ wsX50, w ∈ wsX5_wipe := fun _ h => List.mem_cons_of_mem _ (List.mem_append_right _ h)
set_option maxHeartbeats 4000000 in
set_option maxRecDepth 100000 in
theorem kX5_wipe (l : Launch) (D : va_G) (g : G3) (ad : Ky → Nat) {μ μ' : Mem} {r : Int32} (h : X5_wipe μ = some (r, μ')) : CtI l yX5_wipe wsX5_wipe rX5_wipe D (tysX g) keysX ad (cX g ad) [.ref (ad (17, 50, 0))] μ r μ' := by
  refine ctI_of (cc := cX5_wipe) (maxL := 2) (ret := (some .int)) keysX_nd (by decide) rfl (Nat.le_of_ble_eq_true rfl) (fun p e s m below meth c A ls C hW hl => ?_)
  have hl : lv_has ls 2 [(0, .ref (ad (17, 50, 0)))] := hl
  obtain ⟨hx, hb, hr, hts, hown, hlocks, hml, hA⟩ := id C
  refine lv_aload_n hx hb dX5_wipe_0 rfl (lv_at hl 0 rfl) ?_
  refine wo_get (C := RX5) (T := TX5) (N := 11) hx hb hts iX5_wipe_5 hown hW kl_17_50_0 cn_o rfl 9 (by decide) (hts _ mX5_wipe_l66) (fun _ h9 => h9) rfl dX5_wipe_1 ?_
  refine lv_istore_n (lv' := [(1, .int (μ 17 9 0 0)), (0, .ref (ad (17, 50, 0)))]) hx hb dX5_wipe_4 rfl hl (by decide) rfl (fun ls hl => ?_)
  refine lv_aload_n hx hb dX5_wipe_5 rfl (lv_at hl 1 rfl) ?_
  refine lv_iconst (v := 0) hx hb dX5_wipe_6 (by decide) ?_
  refine xw_put (C := RX5) (T := TX5) (N := 11) hx hb hts iX5_wipe_5 tyX5 tyX5_ok nmX5 hown hW kl_17_50_0 cn_o rfl 9 (by decide) (hts _ mX5_wipe_l66) (fun _ h9 => h9) rfl (by decide +kernel) (Nat.le_of_ble_eq_true rfl) keysX_ok rfl (pn_9 _) dX5_wipe_7 (fun H locs hW => ?_)
  refine lv_iload_n hx hb dX5_wipe_10 rfl (lv_at hl 0 rfl) ?_
  exact xw_iret C rfl hW dX5_wipe_11 h
abbrev rX5_write : Room := { frames := 0, cells := 0, slots := 0, locals := 0 }
theorem mX5_write_l66 : Cond.fieldLink RX5 66 "NearlyBought" "textLength" "I" ∈ wsX5_write := by decide +kernel
theorem mX5_write_l9 : Cond.fieldLink RX5 9 "NearlyBought" "text" "[I" ∈ wsX5_write := by decide +kernel
theorem iX5_write_5 : ∀ w ∈ wsX50, w ∈ wsX5_write := fun _ h => List.mem_cons_of_mem _ (List.mem_append_right _ h)
set_option maxHeartbeats 4000000 in
set_option maxRecDepth 100000 in
theorem kX5_write (l : Launch) (D : va_G) (g : G3) (ad : Ky → Nat) {v1 : Int32} {μ μ' : Mem} {r : Int32} (h : X5_write v1 μ = some (r, μ')) : CtI l yX5_write wsX5_write rX5_write D (tysX g) keysX ad (cX g ad) [.ref (ad (17, 50, 0)), .int v1] μ r μ' := by
  refine ctI_of (cc := cX5_write) (maxL := 2) (ret := (some .int)) keysX_nd (by decide) rfl (Nat.le_of_ble_eq_true rfl) (fun p e s m below meth c A ls C hW hl => ?_)
  have hl : lv_has ls 2 [(0, .ref (ad (17, 50, 0))), (1, .int v1)] := hl
  obtain ⟨hx, hb, hr, hts, hown, hlocks, hml, hA⟩ := id C
  refine lv_iload_n hx hb dX5_write_0 rfl (lv_at hl 1 rfl) ?_
  refine lv_bipush (v := 32) hx hb dX5_write_1 (by decide) ?_
  refine lv_icmp_lt (tgt := 12) hx hb dX5_write_3 (by decide) (fun c_1 => ?_) (fun c_1 => ?_)
  · have h := ite_p c_1 h
    refine lv_iconst (v := (-1)) hx hb dX5_write_12 (by decide) ?_
    exact xw_iret C rfl hW dX5_write_13 h
  have h := ite_n c_1 h
  refine lv_iload_n hx hb dX5_write_6 rfl (lv_at hl 1 rfl) ?_
  refine lv_bipush (v := 126) hx hb dX5_write_7 (by decide) ?_
  refine lv_icmp_le (tgt := 14) hx hb dX5_write_9 (by decide) (fun c_2 => ?_) (fun c_2 => ?_)
  · have h := ite_p c_2 h
    refine lv_aload_n hx hb dX5_write_14 rfl (lv_at hl 0 rfl) ?_
    refine wo_get (C := RX5) (T := TX5) (N := 11) hx hb hts iX5_write_5 hown hW kl_17_50_0 cn_o rfl 9 (by decide) (hts _ mX5_write_l66) (fun _ h9 => h9) rfl dX5_write_15 ?_
    refine lv_sipush (v := 200) hx hb dX5_write_18 (by decide) ?_
    refine lv_icmp_lt (tgt := 27) hx hb dX5_write_21 (by decide) (fun c_3 => ?_) (fun c_3 => ?_)
    · have h := ite_p c_3 h
      refine lv_aload_n hx hb dX5_write_27 rfl (lv_at hl 0 rfl) ?_
      refine wo_get (C := RX5) (T := TX5) (N := 11) hx hb hts iX5_write_5 hown hW kl_17_50_0 cn_o rfl 0 (by decide) (hts _ mX5_write_l9) (fun _ h9 => h9) rfl dX5_write_28 ?_
      refine lv_aload_n hx hb dX5_write_31 rfl (lv_at hl 0 rfl) ?_
      refine wo_get (C := RX5) (T := TX5) (N := 11) hx hb hts iX5_write_5 hown hW kl_17_50_0 cn_o rfl 9 (by decide) (hts _ mX5_write_l66) (fun _ h9 => h9) rfl dX5_write_32 ?_
      refine lv_iload_n hx hb dX5_write_35 rfl (lv_at hl 1 rfl) ?_
      obtain ⟨hi_4, h⟩ := gi_s h
      refine xw_ast hx hb hW kl_17_0_0 (fun _ => rfl) rfl hi_4 dX5_write_36 (fun H locs hW => ?_)
      refine lv_aload_n hx hb dX5_write_37 rfl (lv_at hl 0 rfl) ?_
      refine lv_dup hx hb dX5_write_38 rfl ?_
      refine wo_get (C := RX5) (T := TX5) (N := 11) hx hb hts iX5_write_5 hown hW kl_17_50_0 cn_o rfl 9 (by decide) (hts _ mX5_write_l66) (fun _ h9 => h9) rfl dX5_write_39 ?_
      refine lv_iconst (v := 1) hx hb dX5_write_42 (by decide) ?_
      refine lv_iadd hx hb dX5_write_43 ?_
      refine xw_put (C := RX5) (T := TX5) (N := 11) hx hb hts iX5_write_5 tyX5 tyX5_ok nmX5 hown hW kl_17_50_0 cn_o rfl 9 (by decide) (hts _ mX5_write_l66) (fun _ h9 => h9) rfl (by decide +kernel) (Nat.le_of_ble_eq_true rfl) keysX_ok rfl (pn_9 _) dX5_write_44 (fun H locs hW => ?_)
      refine lv_aload_n hx hb dX5_write_47 rfl (lv_at hl 0 rfl) ?_
      refine wo_get (C := RX5) (T := TX5) (N := 11) hx hb hts iX5_write_5 hown hW kl_17_50_0 cn_o rfl 9 (by decide) (hts _ mX5_write_l66) (fun _ h9 => h9) rfl dX5_write_48 ?_
      exact xw_iret C rfl hW dX5_write_51 h
    have h := ite_n c_3 h
    refine lv_bipush (v := (-3)) hx hb dX5_write_24 (by decide) ?_
    exact xw_iret C rfl hW dX5_write_26 h
  have h := ite_n c_2 h
  refine lv_iconst (v := (-1)) hx hb dX5_write_12 (by decide) ?_
  exact xw_iret C rfl hW dX5_write_13 h
