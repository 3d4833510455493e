/-! WALKS, laid by program out of the bytecode -/
abbrev rX5_addDrawnPause : Room := { frames := 3, cells := 0, slots := 0, locals := 69 }
theorem mX5_addDrawnPause_l27 : Cond.fieldLink RX5 27 "NearlyBought" "laid" "LNearlyBought$Tale;" ∈ wsX5_addDrawnPause := by decide +kernel
theorem mX5_addDrawnPause_l175 : Cond.fieldLink RX5 175 "NearlyBought$Tale" "persons" "I" ∈ wsX5_addDrawnPause := by decide +kernel
theorem mX5_addDrawnPause_l78 : Cond.fieldLink RX5 78 "NearlyBought$Tale" "things" "I" ∈ wsX5_addDrawnPause := by decide +kernel
theorem mX5_addDrawnPause_l39 : Cond.fieldLink RX5 39 "NearlyBought" "trial" "LNearlyBought$Market;" ∈ wsX5_addDrawnPause := by decide +kernel
theorem iX5_addDrawnPause_4 : ∀ w ∈ wsX40, w ∈ wsX5_addDrawnPause := fun _ h => List.mem_cons_of_mem _ (List.mem_append_left _ (List.mem_append_right _ h))
theorem iX5_addDrawnPause_5 : ∀ w ∈ wsX50, w ∈ wsX5_addDrawnPause := fun _ h => List.mem_cons_of_mem _ (List.mem_append_left _ (List.mem_append_left _ (List.mem_append_right _ h)))
set_option maxHeartbeats 4000000 in
set_option maxRecDepth 100000 in
theorem kX5_addDrawnPause (l : Launch) (D : va_G) (g : G3) (ad : Ky → Nat) {v1 : Int32} {μ μ' : Mem} (h : X5_addDrawnPause v1 μ = some μ') : CtV l yX5_addDrawnPause wsX5_addDrawnPause rX5_addDrawnPause D (tysX g) keysX ad (cX g ad) [.ref (ad (17, 50, 0)), .int v1] μ μ' := by
  refine ctV_of (cc := cX5_addDrawnPause) (maxL := 2) (ret := none) keysX_nd (by decide) rfl (Nat.le_of_ble_eq_true rfl) (fun p e s m below meth c A ls C hW hl => ?_)
  have hl : lv_has ls 2 [(0, .ref (ad (17, 50, 0))), (1, .int v1)] := hl
  obtain ⟨hx, hb, hr, hts, hown, hlocks, hml, hA⟩ := id C
  refine lv_aload_n hx hb dX5_addDrawnPause_0 rfl (lv_at hl 0 rfl) ?_
  refine wo_get (C := RX5) (T := TX5) (N := 11) hx hb hts iX5_addDrawnPause_5 hown hW kl_17_50_0 cn_o rfl 3 (by decide) (hts _ mX5_addDrawnPause_l27) (fun _ h9 => h9) rfl dX5_addDrawnPause_1 ?_
  refine wo_get (C := RX4) (T := TX4) (N := 12) hx hb hts iX5_addDrawnPause_4 hown hW (kt_o 13 (by decide) (by decide)) (ct_o (by decide) (by decide)) rfl 0 (by decide) (hts _ mX5_addDrawnPause_l175) (fun _ h9 => h9) rfl dX5_addDrawnPause_4 ?_
  refine lv_if_le (tgt := 57) hx hb dX5_addDrawnPause_7 (by decide) (fun c_1 => ?_) (fun c_1 => ?_)
  · have h := ite_p c_1 h
    exact xw_vret C rfl hW dX5_addDrawnPause_57 h
  have h := ite_n c_1 h
  refine lv_aload_n hx hb dX5_addDrawnPause_10 rfl (lv_at hl 0 rfl) ?_
  refine wo_get (C := RX5) (T := TX5) (N := 11) hx hb hts iX5_addDrawnPause_5 hown hW kl_17_50_0 cn_o rfl 3 (by decide) (hts _ mX5_addDrawnPause_l27) (fun _ h9 => h9) rfl dX5_addDrawnPause_11 ?_
  refine wo_get (C := RX4) (T := TX4) (N := 12) hx hb hts iX5_addDrawnPause_4 hown hW (kt_o 13 (by decide) (by decide)) (ct_o (by decide) (by decide)) rfl 1 (by decide) (hts _ mX5_addDrawnPause_l78) (fun _ h9 => h9) rfl dX5_addDrawnPause_14 ?_
  refine lv_if_le (tgt := 57) hx hb dX5_addDrawnPause_17 (by decide) (fun c_2 => ?_) (fun c_2 => ?_)
  · have h := ite_p c_2 h
    exact xw_vret C rfl hW dX5_addDrawnPause_57 h
  have h := ite_n c_2 h
  refine lv_aload_n hx hb dX5_addDrawnPause_20 rfl (lv_at hl 0 rfl) ?_
  refine wo_get (C := RX5) (T := TX5) (N := 11) hx hb hts iX5_addDrawnPause_5 hown hW kl_17_50_0 cn_o rfl 5 (by decide) (hts _ mX5_addDrawnPause_l39) (fun _ h9 => h9) rfl dX5_addDrawnPause_21 ?_
  refine lv_iload_n hx hb dX5_addDrawnPause_24 rfl (lv_at hl 1 rfl) ?_
  refine lv_aload_n hx hb dX5_addDrawnPause_25 rfl (lv_at hl 0 rfl) ?_
  refine wo_get (C := RX5) (T := TX5) (N := 11) hx hb hts iX5_addDrawnPause_5 hown hW kl_17_50_0 cn_o rfl 3 (by decide) (hts _ mX5_addDrawnPause_l27) (fun _ h9 => h9) rfl dX5_addDrawnPause_26 ?_
  refine wo_get (C := RX4) (T := TX4) (N := 12) hx hb hts iX5_addDrawnPause_4 hown hW (kt_o 13 (by decide) (by decide)) (ct_o (by decide) (by decide)) rfl 0 (by decide) (hts _ mX5_addDrawnPause_l175) (fun _ h9 => h9) rfl dX5_addDrawnPause_29 ?_
  obtain ⟨hz_3, h⟩ := gz_s h
  refine lv_irem hx hb dX5_addDrawnPause_32 hz_3 ?_
  refine lv_iload_n hx hb dX5_addDrawnPause_33 rfl (lv_at hl 1 rfl) ?_
  refine lv_bipush (v := 8) hx hb dX5_addDrawnPause_34 (by decide) ?_
  refine lv_idiv hx hb dX5_addDrawnPause_36 (by decide) ?_
  refine lv_aload_n hx hb dX5_addDrawnPause_37 rfl (lv_at hl 0 rfl) ?_
  refine wo_get (C := RX5) (T := TX5) (N := 11) hx hb hts iX5_addDrawnPause_5 hown hW kl_17_50_0 cn_o rfl 3 (by decide) (hts _ mX5_addDrawnPause_l27) (fun _ h9 => h9) rfl dX5_addDrawnPause_38 ?_
  refine wo_get (C := RX4) (T := TX4) (N := 12) hx hb hts iX5_addDrawnPause_4 hown hW (kt_o 13 (by decide) (by decide)) (ct_o (by decide) (by decide)) rfl 1 (by decide) (hts _ mX5_addDrawnPause_l78) (fun _ h9 => h9) rfl dX5_addDrawnPause_41 ?_
  obtain ⟨hz_4, h⟩ := gz_s h
  refine lv_irem hx hb dX5_addDrawnPause_44 hz_4 ?_
  refine lv_iconst (v := 1) hx hb dX5_addDrawnPause_45 (by decide) ?_
  refine lv_iload_n hx hb dX5_addDrawnPause_46 rfl (lv_at hl 1 rfl) ?_
  refine lv_bipush (v := 64) hx hb dX5_addDrawnPause_47 (by decide) ?_
  refine lv_idiv hx hb dX5_addDrawnPause_49 (by decide) ?_
  refine lv_bipush (v := 12) hx hb dX5_addDrawnPause_50 (by decide) ?_
  refine lv_irem hx hb dX5_addDrawnPause_52 (by decide) ?_
  refine lv_iadd hx hb dX5_addDrawnPause_53 ?_
  obtain ⟨μ_6, hh_5, h⟩ := bdv_s h
  refine wo_Vv (rest := []) C hW (kX1_addPause l D g ad (q := 1) (by decide) hh_5) (cwV 3 hts gX5_addDrawnPause_X1_addPause rfl rfl rfl (by decide +kernel) ⟨Nat.le_of_ble_eq_true rfl, Nat.le_of_ble_eq_true rfl⟩) (km_o 1 (by decide)) (cm_o (by decide)) rfl rfl hl.1 rfl (Nat.le_of_ble_eq_true rfl) dX5_addDrawnPause_54 ⟨Nat.zero_le _, Nat.zero_le _⟩ (fun H locs hW => ?_)
  exact xw_vret C rfl hW dX5_addDrawnPause_57 h
abbrev rX5_back : Room := { frames := 2, cells := 0, slots := 0, locals := 48 }
theorem mX5_back_l201 : Cond.fieldLink RX5 201 "NearlyBought" "keptCount" "I" ∈ wsX5_back := by decide +kernel
theorem mX5_back_l35 : Cond.fieldLink RX5 35 "NearlyBought" "now" "LNearlyBought$Market;" ∈ wsX5_back := by decide +kernel
theorem mX5_back_l49 : Cond.fieldLink RX5 49 "NearlyBought" "kept" "[LNearlyBought$Market;" ∈ wsX5_back := by decide +kernel
theorem mX5_back_l45 : Cond.fieldLink RX5 45 "NearlyBought" "history" "LNearlyBought$History;" ∈ wsX5_back := by decide +kernel
theorem mX5_back_l145 : Cond.fieldLink RX5 145 "NearlyBought$History" "size" "I" ∈ wsX5_back := by decide +kernel
theorem iX5_back_0 : ∀ w ∈ wsX00, w ∈ wsX5_back := fun _ h => List.mem_cons_of_mem _ (List.mem_append_left _ (List.mem_append_right _ h))
theorem iX5_back_5 : ∀ w ∈ wsX50, w ∈ wsX5_back := fun _ h => List.mem_cons_of_mem _ (List.mem_append_left _ (List.mem_append_left _ (List.mem_append_right _ h)))
set_option maxHeartbeats 4000000 in
set_option maxRecDepth 100000 in
theorem kX5_back (l : Launch) (D : va_G) (g : G3) (ad : Ky → Nat) {μ μ' : Mem} {r : Int32} (h : X5_back μ = some (r, μ')) : CtI l yX5_back wsX5_back rX5_back D (tysX g) keysX ad (cX g ad) [.ref (ad (17, 50, 0))] μ r μ' := by
  refine ctI_of (cc := cX5_back) (maxL := 1) (ret := (some .int)) keysX_nd (by decide) rfl (Nat.le_of_ble_eq_true rfl) (fun p e s m below meth c A ls C hW hl => ?_)
  have hl : lv_has ls 1 [(0, .ref (ad (17, 50, 0)))] := hl
  obtain ⟨hx, hb, hr, hts, hown, hlocks, hml, hA⟩ := id C
  refine lv_aload_n hx hb dX5_back_0 rfl (lv_at hl 0 rfl) ?_
  refine wo_get (C := RX5) (T := TX5) (N := 11) hx hb hts iX5_back_5 hown hW kl_17_50_0 cn_o rfl 10 (by decide) (hts _ mX5_back_l201) (fun _ h9 => h9) rfl dX5_back_1 ?_
  refine lv_if_ne (tgt := 10) hx hb dX5_back_4 (by decide) (fun c_1 => ?_) (fun c_1 => ?_)
  · have h := ite_n c_1 h
    refine lv_aload_n hx hb dX5_back_10 rfl (lv_at hl 0 rfl) ?_
    refine lv_dup hx hb dX5_back_11 rfl ?_
    refine wo_get (C := RX5) (T := TX5) (N := 11) hx hb hts iX5_back_5 hown hW kl_17_50_0 cn_o rfl 10 (by decide) (hts _ mX5_back_l201) (fun _ h9 => h9) rfl dX5_back_12 ?_
    refine lv_iconst (v := 1) hx hb dX5_back_15 (by decide) ?_
    refine lv_isub hx hb dX5_back_16 ?_
    refine xw_put (C := RX5) (T := TX5) (N := 11) hx hb hts iX5_back_5 tyX5 tyX5_ok nmX5 hown hW kl_17_50_0 cn_o rfl 10 (by decide) (hts _ mX5_back_l201) (fun _ h9 => h9) rfl (by decide +kernel) (Nat.le_of_ble_eq_true rfl) keysX_ok rfl (pn_10 _) dX5_back_17 (fun H locs hW => ?_)
    refine lv_aload_n hx hb dX5_back_20 rfl (lv_at hl 0 rfl) ?_
    refine wo_get (C := RX5) (T := TX5) (N := 11) hx hb hts iX5_back_5 hown hW kl_17_50_0 cn_o rfl 4 (by decide) (hts _ mX5_back_l35) (fun _ h9 => h9) rfl dX5_back_21 ?_
    refine lv_aload_n hx hb dX5_back_24 rfl (lv_at hl 0 rfl) ?_
    refine wo_get (C := RX5) (T := TX5) (N := 11) hx hb hts iX5_back_5 hown hW kl_17_50_0 cn_o rfl 7 (by decide) (hts _ mX5_back_l49) (fun _ h9 => h9) rfl dX5_back_25 ?_
    refine lv_aload_n hx hb dX5_back_28 rfl (lv_at hl 0 rfl) ?_
    refine wo_get (C := RX5) (T := TX5) (N := 11) hx hb hts iX5_back_5 hown hW kl_17_50_0 cn_o rfl 10 (by decide) (hts _ mX5_back_l201) (fun _ h9 => h9) rfl dX5_back_29 ?_
    obtain ⟨hi_2, h⟩ := gi_s h
    refine wo_ldq hx hb hW kl_17_7_50 2 rfl (n := 2) (g := fun j => ad (10 + j, 50, 0)) rfl rfl hi_2 dX5_back_32 ?_
    obtain ⟨μ_4, hh_3, h⟩ := bdv_s h
    refine wo_Vv (rest := []) C hW (kX1_copyFrom l D g ad (q := 0) (q1 := (10 + ((xs μ 17 10 0 0 ((μ 17 10 0 0) - 1)) 17 10 0 0).toNatClampNeg)) (by decide) (by have := vp_lt hi_2; omega) hh_3) (cwV 1 hts gX5_back_X1_copyFrom rfl rfl rfl (by decide +kernel) ⟨Nat.le_of_ble_eq_true rfl, Nat.le_of_ble_eq_true rfl⟩) (km_o 0 (by decide)) (cm_o (by decide)) rfl rfl hl.1 rfl (Nat.le_of_ble_eq_true rfl) dX5_back_33 ⟨Nat.zero_le _, Nat.zero_le _⟩ (fun H locs hW => ?_)
    refine lv_aload_n hx hb dX5_back_36 rfl (lv_at hl 0 rfl) ?_
    refine wo_get (C := RX5) (T := TX5) (N := 11) hx hb hts iX5_back_5 hown hW kl_17_50_0 cn_o rfl 6 (by decide) (hts _ mX5_back_l45) (fun _ h9 => h9) rfl dX5_back_37 ?_
    refine lv_iconst (v := 0) hx hb dX5_back_40 (by decide) ?_
    refine xw_put (C := RX0) (T := TX0) (N := 3) hx hb hts iX5_back_0 tyX0 tyX0_ok nmX0 hown hW kl_15_50_0 ch_o rfl 2 (by decide) (hts _ mX5_back_l145) (fun _ h9 => h9) rfl (by decide +kernel) (Nat.le_of_ble_eq_true rfl) keysX_ok rfl (ph_2 _) dX5_back_41 (fun H locs hW => ?_)
    refine lv_aload_n hx hb dX5_back_44 rfl (lv_at hl 0 rfl) ?_
    refine wo_get (C := RX5) (T := TX5) (N := 11) hx hb hts iX5_back_5 hown hW kl_17_50_0 cn_o rfl 10 (by decide) (hts _ mX5_back_l201) (fun _ h9 => h9) rfl dX5_back_45 ?_
    exact xw_iret C rfl hW dX5_back_48 h
  have h := ite_p c_1 h
  refine lv_bipush (v := (-2)) hx hb dX5_back_7 (by decide) ?_
  exact xw_iret C rfl hW dX5_back_9 h
abbrev rX5_behind : Room := { frames := 6, cells := 0, slots := 0, locals := 134 }
theorem mX5_behind_l27 : Cond.fieldLink RX5 27 "NearlyBought" "laid" "LNearlyBought$Tale;" ∈ wsX5_behind := by decide +kernel
theorem mX5_behind_l39 : Cond.fieldLink RX5 39 "NearlyBought" "trial" "LNearlyBought$Market;" ∈ wsX5_behind := by decide +kernel
theorem mX5_behind_l35 : Cond.fieldLink RX5 35 "NearlyBought" "now" "LNearlyBought$Market;" ∈ wsX5_behind := by decide +kernel
theorem mX5_behind_l108 : Cond.fieldLink RX5 108 "NearlyBought$Market" "owner" "[I" ∈ wsX5_behind := by decide +kernel
theorem iX5_behind_1 : ∀ w ∈ wsX10, w ∈ wsX5_behind := fun _ h => List.mem_cons_of_mem _ (List.mem_append_left _ (List.mem_append_right _ h))
theorem iX5_behind_5 : ∀ w ∈ wsX50, w ∈ wsX5_behind := fun _ h => List.mem_cons_of_mem _ (List.mem_append_left _ (List.mem_append_left _ (List.mem_append_right _ h)))
set_option maxHeartbeats 4000000 in
set_option maxRecDepth 100000 in
theorem kX5_behind (l : Launch) (D : va_G) (g : G3) (ad : Ky → Nat) {v1 v2 : Int32} {μ μ' : Mem} {r : Int32} (h : X5_behind v1 v2 μ = some (r, μ')) : CtI l yX5_behind wsX5_behind rX5_behind D (tysX g) keysX ad (cX g ad) [.ref (ad (17, 50, 0)), .int v1, .int v2] μ r μ' := by
  refine ctI_of (cc := cX5_behind) (maxL := 3) (ret := (some .int)) keysX_nd (by decide) rfl (Nat.le_of_ble_eq_true rfl) (fun p e s m below meth c A ls C hW hl => ?_)
  have hl : lv_has ls 3 [(0, .ref (ad (17, 50, 0))), (1, .int v1), (2, .int v2)] := hl
  obtain ⟨hx, hb, hr, hts, hown, hlocks, hml, hA⟩ := id C
  refine lv_aload_n hx hb dX5_behind_0 rfl (lv_at hl 0 rfl) ?_
  refine wo_get (C := RX5) (T := TX5) (N := 11) hx hb hts iX5_behind_5 hown hW kl_17_50_0 cn_o rfl 3 (by decide) (hts _ mX5_behind_l27) (fun _ h9 => h9) rfl dX5_behind_1 ?_
  refine lv_iload_n hx hb dX5_behind_4 rfl (lv_at hl 1 rfl) ?_
  obtain ⟨r_3, μ_2, hh_1, h⟩ := bd_s h
  refine wo_Vi (rest := []) C hW (kX4_hasThing l D g ad (q := 13) (by decide) (by decide) hh_1) (cwV 1 hts gX5_behind_X4_hasThing rfl rfl rfl (by decide +kernel) ⟨Nat.le_of_ble_eq_true rfl, Nat.le_of_ble_eq_true rfl⟩) (kt_o 13 (by decide) (by decide)) (ct_o (by decide) (by decide)) rfl rfl hl.1 rfl (Nat.le_of_ble_eq_true rfl) dX5_behind_5 ⟨Nat.zero_le _, Nat.zero_le _⟩ (fun H locs hW => ?_)
  refine lv_if_eq (tgt := 21) hx hb dX5_behind_8 (by decide) (fun c_4 => ?_) (fun c_4 => ?_)
  · have h := ite_p c_4 h
    refine lv_iconst (v := (-1)) hx hb dX5_behind_21 (by decide) ?_
    exact xw_iret C rfl hW dX5_behind_22 h
  have h := ite_n c_4 h
  refine lv_iload_n hx hb dX5_behind_11 rfl (lv_at hl 2 rfl) ?_
  refine lv_if_lt (tgt := 21) hx hb dX5_behind_12 (by decide) (fun c_5 => ?_) (fun c_5 => ?_)
  · have h := ite_p c_5 h
    refine lv_iconst (v := (-1)) hx hb dX5_behind_21 (by decide) ?_
    exact xw_iret C rfl hW dX5_behind_22 h
  have h := ite_n c_5 h
  refine lv_iload_n hx hb dX5_behind_15 rfl (lv_at hl 2 rfl) ?_
  refine lv_bipush (v := 9) hx hb dX5_behind_16 (by decide) ?_
  refine lv_icmp_le (tgt := 23) hx hb dX5_behind_18 (by decide) (fun c_6 => ?_) (fun c_6 => ?_)
  · have h := ite_p c_6 h
    refine lv_aload_n hx hb dX5_behind_23 rfl (lv_at hl 0 rfl) ?_
    refine wo_get (C := RX5) (T := TX5) (N := 11) hx hb hts iX5_behind_5 hown hW kl_17_50_0 cn_o rfl 5 (by decide) (hts _ mX5_behind_l39) (fun _ h9 => h9) rfl dX5_behind_24 ?_
    refine lv_aload_n hx hb dX5_behind_27 rfl (lv_at hl 0 rfl) ?_
    refine wo_get (C := RX5) (T := TX5) (N := 11) hx hb hts iX5_behind_5 hown hW kl_17_50_0 cn_o rfl 4 (by decide) (hts _ mX5_behind_l35) (fun _ h9 => h9) rfl dX5_behind_28 ?_
    obtain ⟨μ_8, hh_7, h⟩ := bdv_s h
    refine wo_Vv (rest := []) C hW (kX1_copyFrom l D g ad (q := 1) (q1 := 0) (by decide) (by decide) hh_7) (cwV 1 hts gX5_behind_X1_copyFrom rfl rfl rfl (by decide +kernel) ⟨Nat.le_of_ble_eq_true rfl, Nat.le_of_ble_eq_true rfl⟩) (km_o 1 (by decide)) (cm_o (by decide)) rfl rfl hl.1 rfl (Nat.le_of_ble_eq_true rfl) dX5_behind_31 ⟨Nat.zero_le _, Nat.zero_le _⟩ (fun H locs hW => ?_)
    refine lv_aload_n hx hb dX5_behind_34 rfl (lv_at hl 0 rfl) ?_
    refine wo_get (C := RX5) (T := TX5) (N := 11) hx hb hts iX5_behind_5 hown hW kl_17_50_0 cn_o rfl 5 (by decide) (hts _ mX5_behind_l39) (fun _ h9 => h9) rfl dX5_behind_35 ?_
    refine lv_iload_n hx hb dX5_behind_38 rfl (lv_at hl 2 rfl) ?_
    obtain ⟨μ_10, hh_9, h⟩ := bdv_s h
    refine wo_Vv (rest := []) C hW (kX1_holdFairs l D g ad (q := 1) (by decide) hh_9) (cwV 1 hts gX5_behind_X1_holdFairs rfl rfl rfl (by decide +kernel) ⟨Nat.le_of_ble_eq_true rfl, Nat.le_of_ble_eq_true rfl⟩) (km_o 1 (by decide)) (cm_o (by decide)) rfl rfl hl.1 rfl (Nat.le_of_ble_eq_true rfl) dX5_behind_39 ⟨Nat.zero_le _, Nat.zero_le _⟩ (fun H locs hW => ?_)
    refine lv_aload_n hx hb dX5_behind_42 rfl (lv_at hl 0 rfl) ?_
    refine wo_get (C := RX5) (T := TX5) (N := 11) hx hb hts iX5_behind_5 hown hW kl_17_50_0 cn_o rfl 5 (by decide) (hts _ mX5_behind_l39) (fun _ h9 => h9) rfl dX5_behind_43 ?_
    refine wo_get (C := RX1) (T := TX1) (N := 10) hx hb hts iX5_behind_1 hown hW (km_o 1 (by decide)) (cm_o (by decide)) rfl 4 (by decide) (hts _ mX5_behind_l108) (fun _ h9 => h9) rfl dX5_behind_46 ?_
    refine lv_iload_n hx hb dX5_behind_49 rfl (lv_at hl 1 rfl) ?_
    obtain ⟨hi_11, h⟩ := gi_s h
    refine xw_ald hx hb hW (km_a 1 (by decide) 4 (by decide) (by decide)) (cm_a (by decide) (by decide)) hi_11 dX5_behind_50 ?_
    exact xw_iret C rfl hW dX5_behind_51 h
  have h := ite_n c_6 h
  refine lv_iconst (v := (-1)) hx hb dX5_behind_21 (by decide) ?_
  exact xw_iret C rfl hW dX5_behind_22 h
abbrev rX5_cheapest : Room := { frames := 1, cells := 0, slots := 0, locals := 21 }
theorem mX5_cheapest_l27 : Cond.fieldLink RX5 27 "NearlyBought" "laid" "LNearlyBought$Tale;" ∈ wsX5_cheapest := by decide +kernel
theorem mX5_cheapest_l175 : Cond.fieldLink RX5 175 "NearlyBought$Tale" "persons" "I" ∈ wsX5_cheapest := by decide +kernel
theorem mX5_cheapest_l35 : Cond.fieldLink RX5 35 "NearlyBought" "now" "LNearlyBought$Market;" ∈ wsX5_cheapest := by decide +kernel
theorem mX5_cheapest_l130 : Cond.fieldLink RX5 130 "NearlyBought$Market" "price" "[[I" ∈ wsX5_cheapest := by decide +kernel
theorem iX5_cheapest_1 : ∀ w ∈ wsX10, w ∈ wsX5_cheapest := fun _ h => List.mem_cons_of_mem _ (List.mem_append_right _ h)
theorem iX5_cheapest_4 : ∀ w ∈ wsX40, w ∈ wsX5_cheapest := fun _ h => List.mem_cons_of_mem _ (List.mem_append_left _ (List.mem_append_right _ h))
theorem iX5_cheapest_5 : ∀ w ∈ wsX50, w ∈ wsX5_cheapest := fun _ h => List.mem_cons_of_mem _ (List.mem_append_left _ (List.mem_append_left _ (List.mem_append_right _ h)))
set_option maxHeartbeats 4000000 in
set_option maxRecDepth 100000 in
theorem tX5_cheapest_b85 {p : Program} {l : Launch} {e : Env} {s : State} {m : MethodId} {args : Array Value} {below : List Frame} {meth : Method} {c : Code} {A : Nat → Prop} {D : va_G} {g : G3} {ad : Ky → Nat} (C : Cx p s m args meth c cX5_cheapest (some .int) 7 RX5 wsX5_cheapest A) {r0 : Int32} {μ0 : Mem} {v1 v2 v3 v4 v5 : Int32} {k32 : Int32 → Int32 → Int32 → Mem → Option (Int32 × Mem)} (h32 : ∀ (v3 v4 v5 : Int32) (μ : Mem) (H : Heap) (locs : List Loc) (ls : Array Slot), WX D g keysX ad A s s.heap μ H locs → lv_has ls 7 [(0, .ref (ad (17, 50, 0))), (1, .int v1), (2, .int v2), (3, .int v3), (4, .int v4), (5, .int v5)] → k32 v3 v4 v5 μ = some (r0, μ0) → TgI r0 p l e rX5_cheapest s m args below meth c D g keysX ad A μ0 H locs (F0 m 32 ls [])) {μ : Mem} {H : Heap} {locs : List Loc} {ls : Array Slot} (hW : WX D g keysX ad A s s.heap μ H locs) (hl : lv_has ls 7 [(0, .ref (ad (17, 50, 0))), (1, .int v1), (2, .int v2), (3, .int v3), (4, .int v4), (5, .int v5)]) (h : X5_cheapest_b85 k32 v1 v2 v3 v4 v5 μ = some (r0, μ0)) : TgI r0 p l e rX5_cheapest s m args below meth c D g keysX ad A μ0 H locs (F0 m 85 ls []) := by
  obtain ⟨hx, hb, hr, hts, hown, hlocks, hml, hA⟩ := id C
  refine lv_iinc (v := v5 + 1) (lv' := [(5, .int (v5 + 1)), (0, .ref (ad (17, 50, 0))), (1, .int v1), (2, .int v2), (3, .int v3), (4, .int v4)]) hx hb dX5_cheapest_85 hl (k := 5) rfl rfl (by decide) rfl (fun ls hl => ?_)
  refine lv_goto (tgt := 32) hx hb dX5_cheapest_88 (by decide) ?_
  exact h32 _ _ _ _ _ _ _ hW (lv_sub hl [1, 2, 3, 4, 5, 0] rfl) h
set_option maxHeartbeats 4000000 in
set_option maxRecDepth 100000 in
theorem tX5_cheapest_b78 {p : Program} {l : Launch} {e : Env} {s : State} {m : MethodId} {args : Array Value} {below : List Frame} {meth : Method} {c : Code} {A : Nat → Prop} {D : va_G} {g : G3} {ad : Ky → Nat} (C : Cx p s m args meth c cX5_cheapest (some .int) 7 RX5 wsX5_cheapest A) {r0 : Int32} {μ0 : Mem} {v1 v2 v5 v6 : Int32} {k32 : Int32 → Int32 → Int32 → Mem → Option (Int32 × Mem)} (h32 : ∀ (v3 v4 v5 : Int32) (μ : Mem) (H : Heap) (locs : List Loc) (ls : Array Slot), WX D g keysX ad A s s.heap μ H locs → lv_has ls 7 [(0, .ref (ad (17, 50, 0))), (1, .int v1), (2, .int v2), (3, .int v3), (4, .int v4), (5, .int v5)] → k32 v3 v4 v5 μ = some (r0, μ0) → TgI r0 p l e rX5_cheapest s m args below meth c D g keysX ad A μ0 H locs (F0 m 32 ls [])) {μ : Mem} {H : Heap} {locs : List Loc} {ls : Array Slot} (hW : WX D g keysX ad A s s.heap μ H locs) (hl : lv_has ls 7 [(0, .ref (ad (17, 50, 0))), (1, .int v1), (2, .int v2), (5, .int v5), (6, .int v6)]) (h : X5_cheapest_b78 k32 v1 v2 v5 v6 μ = some (r0, μ0)) : TgI r0 p l e rX5_cheapest s m args below meth c D g keysX ad A μ0 H locs (F0 m 78 ls []) := by
  obtain ⟨hx, hb, hr, hts, hown, hlocks, hml, hA⟩ := id C
  refine lv_iload hx hb dX5_cheapest_78 (lv_at hl 3 rfl) ?_
  refine lv_istore_n (lv' := [(3, .int v5), (0, .ref (ad (17, 50, 0))), (1, .int v1), (2, .int v2), (5, .int v5), (6, .int v6)]) hx hb dX5_cheapest_80 rfl hl (by decide) rfl (fun ls hl => ?_)
  refine lv_iload hx hb dX5_cheapest_81 (lv_at hl 5 rfl) ?_
  refine lv_istore (lv' := [(4, .int v6), (3, .int v5), (0, .ref (ad (17, 50, 0))), (1, .int v1), (2, .int v2), (5, .int v5), (6, .int v6)]) hx hb dX5_cheapest_83 hl (by decide) rfl (fun ls hl => ?_)
  exact tX5_cheapest_b85 C h32 hW (lv_sub hl [2, 3, 4, 1, 0, 5] rfl) h
set_option maxHeartbeats 4000000 in
set_option maxRecDepth 100000 in
theorem tX5_cheapest_b32 {p : Program} {l : Launch} {e : Env} {s : State} {m : MethodId} {args : Array Value} {below : List Frame} {meth : Method} {c : Code} {A : Nat → Prop} {D : va_G} {g : G3} {ad : Ky → Nat} (C : Cx p s m args meth c cX5_cheapest (some .int) 7 RX5 wsX5_cheapest A) {r0 : Int32} {μ0 : Mem} {v1 v2 : Int32} (n : Nat) : ∀ (v3 v4 v5 : Int32) (μ : Mem) (H : Heap) (locs : List Loc) (ls : Array Slot), WX D g keysX ad A s s.heap μ H locs → lv_has ls 7 [(0, .ref (ad (17, 50, 0))), (1, .int v1), (2, .int v2), (3, .int v3), (4, .int v4), (5, .int v5)] → lo3 (X5_cheapest_b32 v1 v2) n v3 v4 v5 μ = some (r0, μ0) → TgI r0 p l e rX5_cheapest s m args below meth c D g keysX ad A μ0 H locs (F0 m 32 ls []) := by
  obtain ⟨hx, hb, hr, hts, hown, hlocks, hml, hA⟩ := id C
  induction n with
  | zero =>
    intro v3 v4 v5 μ H locs ls hW hl h
    cases h
  | succ n h32 =>
    intro v3 v4 v5 μ H locs ls hW hl h
    have h : X5_cheapest_b32 v1 v2 (lo3 (X5_cheapest_b32 v1 v2) n) v3 v4 v5 μ = some (r0, μ0) := h
    refine lv_iload hx hb dX5_cheapest_32 (lv_at hl 5 rfl) ?_
    refine lv_aload_n hx hb dX5_cheapest_34 rfl (lv_at hl 0 rfl) ?_
    refine wo_get (C := RX5) (T := TX5) (N := 11) hx hb hts iX5_cheapest_5 hown hW kl_17_50_0 cn_o rfl 3 (by decide) (hts _ mX5_cheapest_l27) (fun _ h9 => h9) rfl dX5_cheapest_35 ?_
    refine wo_get (C := RX4) (T := TX4) (N := 12) hx hb hts iX5_cheapest_4 hown hW (kt_o 13 (by decide) (by decide)) (ct_o (by decide) (by decide)) rfl 0 (by decide) (hts _ mX5_cheapest_l175) (fun _ h9 => h9) rfl dX5_cheapest_38 ?_
    refine lv_icmp_ge (tgt := 91) hx hb dX5_cheapest_41 (by decide) (fun c_7 => ?_) (fun c_7 => ?_)
    · have h := ite_p c_7 h
      refine lv_iload_n hx hb dX5_cheapest_91 rfl (lv_at hl 2 rfl) ?_
      refine lv_if_ne (tgt := 99) hx hb dX5_cheapest_92 (by decide) (fun c_8 => ?_) (fun c_8 => ?_)
      · have h := ite_n c_8 h
        refine lv_iload hx hb dX5_cheapest_99 (lv_at hl 4 rfl) ?_
        exact xw_iret C rfl hW dX5_cheapest_101 h
      have h := ite_p c_8 h
      refine lv_iload_n hx hb dX5_cheapest_95 rfl (lv_at hl 3 rfl) ?_
      refine lv_goto (tgt := 101) hx hb dX5_cheapest_96 (by decide) ?_
      exact xw_iret C rfl hW dX5_cheapest_101 h
    have h := ite_n c_7 h
    refine lv_aload_n hx hb dX5_cheapest_44 rfl (lv_at hl 0 rfl) ?_
    refine wo_get (C := RX5) (T := TX5) (N := 11) hx hb hts iX5_cheapest_5 hown hW kl_17_50_0 cn_o rfl 4 (by decide) (hts _ mX5_cheapest_l35) (fun _ h9 => h9) rfl dX5_cheapest_45 ?_
    refine wo_get (C := RX1) (T := TX1) (N := 10) hx hb hts iX5_cheapest_1 hown hW (km_o 0 (by decide)) (cm_o (by decide)) rfl 9 (by decide) (hts _ mX5_cheapest_l130) (fun _ h9 => h9) rfl dX5_cheapest_48 ?_
    refine lv_iload hx hb dX5_cheapest_51 (lv_at hl 5 rfl) ?_
    obtain ⟨hi_9, h⟩ := gi_s h
    refine wo_ldq hx hb hW (km_q 0 (by decide) 9 (by decide) (by decide)) 1 rfl (cm_q (by decide) (by decide)) rfl hi_9 dX5_cheapest_53 ?_
    refine lv_iload_n hx hb dX5_cheapest_54 rfl (lv_at hl 1 rfl) ?_
    obtain ⟨hi_10, h⟩ := gi_s h
    refine xw_ald hx hb hW (km_r 0 (by decide) 9 (by decide) (by decide) _ (vp_lt hi_9)) (cm_r (by decide) (by decide) (vp_lt hi_9)) hi_10 dX5_cheapest_55 ?_
    refine lv_istore (lv' := [(6, .int (μ 0 9 v5.toNatClampNeg v1.toNatClampNeg)), (0, .ref (ad (17, 50, 0))), (1, .int v1), (2, .int v2), (3, .int v3), (4, .int v4), (5, .int v5)]) hx hb dX5_cheapest_56 hl (by decide) rfl (fun ls hl => ?_)
    refine lv_iload hx hb dX5_cheapest_58 (lv_at hl 0 rfl) ?_
    refine lv_bipush (v := (-4)) hx hb dX5_cheapest_60 (by decide) ?_
    refine lv_icmp_eq (tgt := 85) hx hb dX5_cheapest_62 (by decide) (fun c_11 => ?_) (fun c_11 => ?_)
    · have h := ite_p c_11 h
      exact tX5_cheapest_b85 C h32 hW (lv_sub hl [1, 2, 3, 4, 5, 6] rfl) h
    have h := ite_n c_11 h
    refine lv_iload_n hx hb dX5_cheapest_65 rfl (lv_at hl 4 rfl) ?_
    refine lv_bipush (v := (-4)) hx hb dX5_cheapest_66 (by decide) ?_
    refine lv_icmp_eq (tgt := 78) hx hb dX5_cheapest_68 (by decide) (fun c_12 => ?_) (fun c_12 => ?_)
    · have h := ite_p c_12 h
      exact tX5_cheapest_b78 C h32 hW (lv_sub hl [1, 2, 3, 6, 0] rfl) h
    have h := ite_n c_12 h
    refine lv_iload hx hb dX5_cheapest_71 (lv_at hl 0 rfl) ?_
    refine lv_iload hx hb dX5_cheapest_73 (lv_at hl 5 rfl) ?_
    refine lv_icmp_ge (tgt := 85) hx hb dX5_cheapest_75 (by decide) (fun c_13 => ?_) (fun c_13 => ?_)
    · have h := ite_p c_13 h
      exact tX5_cheapest_b85 C h32 hW (lv_sub hl [1, 2, 3, 4, 5, 6] rfl) h
    have h := ite_n c_13 h
    exact tX5_cheapest_b78 C h32 hW (lv_sub hl [1, 2, 3, 6, 0] rfl) h
set_option maxHeartbeats 4000000 in
set_option maxRecDepth 100000 in
theorem kX5_cheapest (l : Launch) (D : va_G) (g : G3) (ad : Ky → Nat) {v1 v2 : Int32} {μ μ' : Mem} {r : Int32} (h : X5_cheapest v1 v2 μ = some (r, μ')) : CtI l yX5_cheapest wsX5_cheapest rX5_cheapest D (tysX g) keysX ad (cX g ad) [.ref (ad (17, 50, 0)), .int v1, .int v2] μ r μ' := by
  refine ctI_of (cc := cX5_cheapest) (maxL := 7) (ret := (some .int)) keysX_nd (by decide) rfl (Nat.le_of_ble_eq_true rfl) (fun p e s m below meth c A ls C hW hl => ?_)
  have hl : lv_has ls 7 [(0, .ref (ad (17, 50, 0))), (1, .int v1), (2, .int v2)] := hl
  obtain ⟨hx, hb, hr, hts, hown, hlocks, hml, hA⟩ := id C
  refine lv_aload_n hx hb dX5_cheapest_0 rfl (lv_at hl 0 rfl) ?_
  refine wo_get (C := RX5) (T := TX5) (N := 11) hx hb hts iX5_cheapest_5 hown hW kl_17_50_0 cn_o rfl 3 (by decide) (hts _ mX5_cheapest_l27) (fun _ h9 => h9) rfl dX5_cheapest_1 ?_
  refine lv_iload_n hx hb dX5_cheapest_4 rfl (lv_at hl 1 rfl) ?_
  obtain ⟨r_3, μ_2, hh_1, h⟩ := bd_s h
  refine wo_Vi (rest := []) C hW (kX4_hasThing l D g ad (q := 13) (by decide) (by decide) hh_1) (cwV 1 hts gX5_cheapest_X4_hasThing rfl rfl rfl (by decide +kernel) ⟨Nat.le_of_ble_eq_true rfl, Nat.le_of_ble_eq_true rfl⟩) (kt_o 13 (by decide) (by decide)) (ct_o (by decide) (by decide)) rfl rfl hl.1 rfl (Nat.le_of_ble_eq_true rfl) dX5_cheapest_5 ⟨Nat.zero_le _, Nat.zero_le _⟩ (fun H locs hW => ?_)
  refine lv_if_eq (tgt := 20) hx hb dX5_cheapest_8 (by decide) (fun c_4 => ?_) (fun c_4 => ?_)
  · have h := ite_p c_4 h
    refine lv_iconst (v := (-1)) hx hb dX5_cheapest_20 (by decide) ?_
    exact xw_iret C rfl hW dX5_cheapest_21 h
  have h := ite_n c_4 h
  refine lv_iload_n hx hb dX5_cheapest_11 rfl (lv_at hl 2 rfl) ?_
  refine lv_if_lt (tgt := 20) hx hb dX5_cheapest_12 (by decide) (fun c_5 => ?_) (fun c_5 => ?_)
  · have h := ite_p c_5 h
    refine lv_iconst (v := (-1)) hx hb dX5_cheapest_20 (by decide) ?_
    exact xw_iret C rfl hW dX5_cheapest_21 h
  have h := ite_n c_5 h
  refine lv_iload_n hx hb dX5_cheapest_15 rfl (lv_at hl 2 rfl) ?_
  refine lv_iconst (v := 1) hx hb dX5_cheapest_16 (by decide) ?_
  refine lv_icmp_le (tgt := 22) hx hb dX5_cheapest_17 (by decide) (fun c_6 => ?_) (fun c_6 => ?_)
  · have h := ite_p c_6 h
    refine lv_bipush (v := (-4)) hx hb dX5_cheapest_22 (by decide) ?_
    refine lv_istore_n (lv' := [(3, .int (-4)), (0, .ref (ad (17, 50, 0))), (1, .int v1), (2, .int v2)]) hx hb dX5_cheapest_24 rfl hl (by decide) rfl (fun ls hl => ?_)
    refine lv_bipush (v := (-4)) hx hb dX5_cheapest_25 (by decide) ?_
    refine lv_istore (lv' := [(4, .int (-4)), (3, .int (-4)), (0, .ref (ad (17, 50, 0))), (1, .int v1), (2, .int v2)]) hx hb dX5_cheapest_27 hl (by decide) rfl (fun ls hl => ?_)
    refine lv_iconst (v := 0) hx hb dX5_cheapest_29 (by decide) ?_
    refine lv_istore (lv' := [(5, .int 0), (4, .int (-4)), (3, .int (-4)), (0, .ref (ad (17, 50, 0))), (1, .int v1), (2, .int v2)]) hx hb dX5_cheapest_30 hl (by decide) rfl (fun ls hl => ?_)
    exact tX5_cheapest_b32 C 1000 _ _ _ _ _ _ _ hW (lv_sub hl [3, 4, 5, 2, 1, 0] rfl) h
  have h := ite_n c_6 h
  refine lv_iconst (v := (-1)) hx hb dX5_cheapest_20 (by decide) ?_
  exact xw_iret C rfl hW dX5_cheapest_21 h
abbrev rX5_count : Room := { frames := 2, cells := 0, slots := 0, locals := 43 }
theorem mX5_count_l27 : Cond.fieldLink RX5 27 "NearlyBought" "laid" "LNearlyBought$Tale;" ∈ wsX5_count := by decide +kernel
theorem mX5_count_l175 : Cond.fieldLink RX5 175 "NearlyBought$Tale" "persons" "I" ∈ wsX5_count := by decide +kernel
theorem mX5_count_l78 : Cond.fieldLink RX5 78 "NearlyBought$Tale" "things" "I" ∈ wsX5_count := by decide +kernel
theorem mX5_count_l35 : Cond.fieldLink RX5 35 "NearlyBought" "now" "LNearlyBought$Market;" ∈ wsX5_count := by decide +kernel
theorem mX5_count_l101 : Cond.fieldLink RX5 101 "NearlyBought$Market" "year" "I" ∈ wsX5_count := by decide +kernel
theorem mX5_count_l56 : Cond.fieldLink RX5 56 "NearlyBought" "sights" "LNearlyBought$Sights;" ∈ wsX5_count := by decide +kernel
theorem mX5_count_l167 : Cond.fieldLink RX5 167 "NearlyBought$Sights" "size" "I" ∈ wsX5_count := by decide +kernel
theorem mX5_count_l45 : Cond.fieldLink RX5 45 "NearlyBought" "history" "LNearlyBought$History;" ∈ wsX5_count := by decide +kernel
theorem mX5_count_l145 : Cond.fieldLink RX5 145 "NearlyBought$History" "size" "I" ∈ wsX5_count := by decide +kernel
theorem mX5_count_l201 : Cond.fieldLink RX5 201 "NearlyBought" "keptCount" "I" ∈ wsX5_count := by decide +kernel
theorem mX5_count_l66 : Cond.fieldLink RX5 66 "NearlyBought" "textLength" "I" ∈ wsX5_count := by decide +kernel
theorem iX5_count_0 : ∀ w ∈ wsX00, w ∈ wsX5_count := fun _ h => List.mem_cons_of_mem _ (List.mem_append_right _ h)
theorem iX5_count_1 : ∀ w ∈ wsX10, w ∈ wsX5_count := fun _ h => List.mem_cons_of_mem _ (List.mem_append_left _ (List.mem_append_left _ (List.mem_append_right _ h)))
theorem iX5_count_3 : ∀ w ∈ wsX30, w ∈ wsX5_count := fun _ h => List.mem_cons_of_mem _ (List.mem_append_left _ (List.mem_append_right _ h))
theorem iX5_count_4 : ∀ w ∈ wsX40, w ∈ wsX5_count := fun _ h => List.mem_cons_of_mem _ (List.mem_append_left _ (List.mem_append_left _ (List.mem_append_left _ (List.mem_append_right _ h))))
theorem iX5_count_5 : ∀ w ∈ wsX50, w ∈ wsX5_count := fun _ h => List.mem_cons_of_mem _ (List.mem_append_left _ (List.mem_append_left _ (List.mem_append_left _ (List.mem_append_left _ (List.mem_append_right _ h)))))
set_option maxHeartbeats 4000000 in
set_option maxRecDepth 100000 in
theorem kX5_count (l : Launch) (D : va_G) (g : G3) (ad : Ky → Nat) {v1 : Int32} {μ μ' : Mem} {r : Int32} (h : X5_count v1 μ = some (r, μ')) : CtI l yX5_count wsX5_count rX5_count D (tysX g) keysX ad (cX g ad) [.ref (ad (17, 50, 0)), .int v1] μ r μ' := by
  refine ctI_of (cc := cX5_count) (maxL := 2) (ret := (some .int)) keysX_nd (by decide) rfl (Nat.le_of_ble_eq_true rfl) (fun p e s m below meth c A ls C hW hl => ?_)
  have hl : lv_has ls 2 [(0, .ref (ad (17, 50, 0))), (1, .int v1)] := hl
  obtain ⟨hx, hb, hr, hts, hown, hlocks, hml, hA⟩ := id C
  refine lv_iload_n hx hb dX5_count_0 rfl (lv_at hl 1 rfl) ?_
  by_cases c_1 : v1 = 0
  · have h := ite_p c_1 h
    refine lv_tableIn (off := 51) (tgt := 52) hx hb dX5_count_1 (by rw [c_1]; decide) (by rw [c_1]; decide) (by rw [c_1]; rfl) (by decide) ?_
    refine lv_aload_n hx hb dX5_count_52 rfl (lv_at hl 0 rfl) ?_
    refine wo_get (C := RX5) (T := TX5) (N := 11) hx hb hts iX5_count_5 hown hW kl_17_50_0 cn_o rfl 3 (by decide) (hts _ mX5_count_l27) (fun _ h9 => h9) rfl dX5_count_53 ?_
    refine wo_get (C := RX4) (T := TX4) (N := 12) hx hb hts iX5_count_4 hown hW (kt_o 13 (by decide) (by decide)) (ct_o (by decide) (by decide)) rfl 0 (by decide) (hts _ mX5_count_l175) (fun _ h9 => h9) rfl dX5_count_56 ?_
    exact xw_iret C rfl hW dX5_count_59 h
  have h := ite_n c_1 h
  by_cases c_2 : v1 = 1
  · have h := ite_p c_2 h
    refine lv_tableIn (off := 59) (tgt := 60) hx hb dX5_count_1 (by rw [c_2]; decide) (by rw [c_2]; decide) (by rw [c_2]; rfl) (by decide) ?_
    refine lv_aload_n hx hb dX5_count_60 rfl (lv_at hl 0 rfl) ?_
    refine wo_get (C := RX5) (T := TX5) (N := 11) hx hb hts iX5_count_5 hown hW kl_17_50_0 cn_o rfl 3 (by decide) (hts _ mX5_count_l27) (fun _ h9 => h9) rfl dX5_count_61 ?_
    refine wo_get (C := RX4) (T := TX4) (N := 12) hx hb hts iX5_count_4 hown hW (kt_o 13 (by decide) (by decide)) (ct_o (by decide) (by decide)) rfl 1 (by decide) (hts _ mX5_count_l78) (fun _ h9 => h9) rfl dX5_count_64 ?_
    exact xw_iret C rfl hW dX5_count_67 h
  have h := ite_n c_2 h
  by_cases c_3 : v1 = 2
  · have h := ite_p c_3 h
    refine lv_tableIn (off := 67) (tgt := 68) hx hb dX5_count_1 (by rw [c_3]; decide) (by rw [c_3]; decide) (by rw [c_3]; rfl) (by decide) ?_
    refine lv_aload_n hx hb dX5_count_68 rfl (lv_at hl 0 rfl) ?_
    refine wo_get (C := RX5) (T := TX5) (N := 11) hx hb hts iX5_count_5 hown hW kl_17_50_0 cn_o rfl 4 (by decide) (hts _ mX5_count_l35) (fun _ h9 => h9) rfl dX5_count_69 ?_
    refine wo_get (C := RX1) (T := TX1) (N := 10) hx hb hts iX5_count_1 hown hW (km_o 0 (by decide)) (cm_o (by decide)) rfl 1 (by decide) (hts _ mX5_count_l101) (fun _ h9 => h9) rfl dX5_count_72 ?_
    exact xw_iret C rfl hW dX5_count_75 h
  have h := ite_n c_3 h
  by_cases c_4 : v1 = 3
  · have h := ite_p c_4 h
    refine lv_tableIn (off := 75) (tgt := 76) hx hb dX5_count_1 (by rw [c_4]; decide) (by rw [c_4]; decide) (by rw [c_4]; rfl) (by decide) ?_
    refine lv_aload_n hx hb dX5_count_76 rfl (lv_at hl 0 rfl) ?_
    refine wo_get (C := RX5) (T := TX5) (N := 11) hx hb hts iX5_count_5 hown hW kl_17_50_0 cn_o rfl 4 (by decide) (hts _ mX5_count_l35) (fun _ h9 => h9) rfl dX5_count_77 ?_
    obtain ⟨r_7, μ_6, hh_5, h⟩ := bd_s h
    refine wo_Vi (rest := []) C hW (kX1_thingsGone l D g ad (q := 0) (by decide) hh_5) (cwV 0 hts gX5_count_X1_thingsGone rfl rfl rfl (by decide +kernel) ⟨Nat.le_of_ble_eq_true rfl, Nat.le_of_ble_eq_true rfl⟩) (km_o 0 (by decide)) (cm_o (by decide)) rfl rfl hl.1 rfl (Nat.le_of_ble_eq_true rfl) dX5_count_80 ⟨Nat.zero_le _, Nat.zero_le _⟩ (fun H locs hW => ?_)
    exact xw_iret C rfl hW dX5_count_83 h
  have h := ite_n c_4 h
  by_cases c_8 : v1 = 4
  · have h := ite_p c_8 h
    refine lv_tableIn (off := 83) (tgt := 84) hx hb dX5_count_1 (by rw [c_8]; decide) (by rw [c_8]; decide) (by rw [c_8]; rfl) (by decide) ?_
    refine lv_aload_n hx hb dX5_count_84 rfl (lv_at hl 0 rfl) ?_
    refine wo_get (C := RX5) (T := TX5) (N := 11) hx hb hts iX5_count_5 hown hW kl_17_50_0 cn_o rfl 4 (by decide) (hts _ mX5_count_l35) (fun _ h9 => h9) rfl dX5_count_85 ?_
    obtain ⟨r_11, μ_10, hh_9, h⟩ := bd_s h
    refine wo_Vi (rest := []) C hW (kX1_coinsOfAll l D g ad (q := 0) (by decide) hh_9) (cwV 0 hts gX5_count_X1_coinsOfAll rfl rfl rfl (by decide +kernel) ⟨Nat.le_of_ble_eq_true rfl, Nat.le_of_ble_eq_true rfl⟩) (km_o 0 (by decide)) (cm_o (by decide)) rfl rfl hl.1 rfl (Nat.le_of_ble_eq_true rfl) dX5_count_88 ⟨Nat.zero_le _, Nat.zero_le _⟩ (fun H locs hW => ?_)
    exact xw_iret C rfl hW dX5_count_91 h
  have h := ite_n c_8 h
  by_cases c_12 : v1 = 5
  · have h := ite_p c_12 h
    refine lv_tableIn (off := 91) (tgt := 92) hx hb dX5_count_1 (by rw [c_12]; decide) (by rw [c_12]; decide) (by rw [c_12]; rfl) (by decide) ?_
    refine lv_aload_n hx hb dX5_count_92 rfl (lv_at hl 0 rfl) ?_
    refine wo_get (C := RX5) (T := TX5) (N := 11) hx hb hts iX5_count_5 hown hW kl_17_50_0 cn_o rfl 8 (by decide) (hts _ mX5_count_l56) (fun _ h9 => h9) rfl dX5_count_93 ?_
    refine wo_get (C := RX3) (T := TX3) (N := 4) hx hb hts iX5_count_3 hown hW kl_16_50_0 cs_o rfl 3 (by decide) (hts _ mX5_count_l167) (fun _ h9 => h9) rfl dX5_count_96 ?_
    exact xw_iret C rfl hW dX5_count_99 h
  have h := ite_n c_12 h
  by_cases c_13 : v1 = 6
  · have h := ite_p c_13 h
    refine lv_tableIn (off := 99) (tgt := 100) hx hb dX5_count_1 (by rw [c_13]; decide) (by rw [c_13]; decide) (by rw [c_13]; rfl) (by decide) ?_
    refine lv_aload_n hx hb dX5_count_100 rfl (lv_at hl 0 rfl) ?_
    refine wo_get (C := RX5) (T := TX5) (N := 11) hx hb hts iX5_count_5 hown hW kl_17_50_0 cn_o rfl 6 (by decide) (hts _ mX5_count_l45) (fun _ h9 => h9) rfl dX5_count_101 ?_
    refine wo_get (C := RX0) (T := TX0) (N := 3) hx hb hts iX5_count_0 hown hW kl_15_50_0 ch_o rfl 2 (by decide) (hts _ mX5_count_l145) (fun _ h9 => h9) rfl dX5_count_104 ?_
    exact xw_iret C rfl hW dX5_count_107 h
  have h := ite_n c_13 h
  by_cases c_14 : v1 = 7
  · have h := ite_p c_14 h
    refine lv_tableIn (off := 107) (tgt := 108) hx hb dX5_count_1 (by rw [c_14]; decide) (by rw [c_14]; decide) (by rw [c_14]; rfl) (by decide) ?_
    refine lv_aload_n hx hb dX5_count_108 rfl (lv_at hl 0 rfl) ?_
    refine wo_get (C := RX5) (T := TX5) (N := 11) hx hb hts iX5_count_5 hown hW kl_17_50_0 cn_o rfl 10 (by decide) (hts _ mX5_count_l201) (fun _ h9 => h9) rfl dX5_count_109 ?_
    exact xw_iret C rfl hW dX5_count_112 h
  have h := ite_n c_14 h
  by_cases c_15 : v1 = 8
  · have h := ite_p c_15 h
    refine lv_tableIn (off := 112) (tgt := 113) hx hb dX5_count_1 (by rw [c_15]; decide) (by rw [c_15]; decide) (by rw [c_15]; rfl) (by decide) ?_
    refine lv_aload_n hx hb dX5_count_113 rfl (lv_at hl 0 rfl) ?_
    refine wo_get (C := RX5) (T := TX5) (N := 11) hx hb hts iX5_count_5 hown hW kl_17_50_0 cn_o rfl 9 (by decide) (hts _ mX5_count_l66) (fun _ h9 => h9) rfl dX5_count_114 ?_
    exact xw_iret C rfl hW dX5_count_117 h
  have h := ite_n c_15 h
  have t_16 := ne_ti (k := 0) rfl c_1
  have t_17 := ne_ti (k := 1) rfl c_2
  have t_18 := ne_ti (k := 2) rfl c_3
  have t_19 := ne_ti (k := 3) rfl c_4
  have t_20 := ne_ti (k := 4) rfl c_8
  have t_21 := ne_ti (k := 5) rfl c_12
  have t_22 := ne_ti (k := 6) rfl c_13
  have t_23 := ne_ti (k := 7) rfl c_14
  have t_24 := ne_ti (k := 8) rfl c_15
  refine lv_tableOut (tgt := 118) hx hb dX5_count_1 (by omega) (by decide) ?_
  refine lv_iconst (v := (-1)) hx hb dX5_count_118 (by decide) ?_
  exact xw_iret C rfl hW dX5_count_119 h
abbrev rX5_greatestDivisor : Room := { frames := 0, cells := 0, slots := 0, locals := 0 }
set_option maxHeartbeats 4000000 in
set_option maxRecDepth 100000 in
theorem tX5_greatestDivisor_b7 {p : Program} {l : Launch} {e : Env} {s : State} {m : MethodId} {args : Array Value} {below : List Frame} {meth : Method} {c : Code} {A : Nat → Prop} {D : va_G} {g : G3} {ad : Ky → Nat} (C : Cx p s m args meth c cX5_greatestDivisor (some .int) 6 RX5 wsX5_greatestDivisor A) {r0 : Int32} {μ0 : Mem} (n : Nat) : ∀ (v2 v3 v4 : Int32) (μ : Mem) (H : Heap) (locs : List Loc) (ls : Array Slot), WX D g keysX ad A s s.heap μ H locs → lv_has ls 6 [(2, .int v2), (3, .int v3), (4, .int v4)] → lo3 (X5_greatestDivisor_b7) n v2 v3 v4 μ = some (r0, μ0) → TgI r0 p l e rX5_greatestDivisor s m args below meth c D g keysX ad A μ0 H locs (F0 m 7 ls []) := by
  obtain ⟨hx, hb, hr, hts, hown, hlocks, hml, hA⟩ := id C
  induction n with
  | zero =>
    intro v2 v3 v4 μ H locs ls hW hl h
    cases h
  | succ n h7 =>
    intro v2 v3 v4 μ H locs ls hW hl h
    have h : X5_greatestDivisor_b7 (lo3 (X5_greatestDivisor_b7) n) v2 v3 v4 μ = some (r0, μ0) := h
    refine lv_iload hx hb dX5_greatestDivisor_7 (lv_at hl 2 rfl) ?_
    refine lv_bipush (v := 100) hx hb dX5_greatestDivisor_9 (by decide) ?_
    refine lv_icmp_ge (tgt := 34) hx hb dX5_greatestDivisor_11 (by decide) (fun c_1 => ?_) (fun c_1 => ?_)
    · have h := ite_p c_1 h
      refine lv_iload_n hx hb dX5_greatestDivisor_34 rfl (lv_at hl 0 rfl) ?_
      exact xw_iret C rfl hW dX5_greatestDivisor_35 h
    have h := ite_n c_1 h
    refine lv_iload_n hx hb dX5_greatestDivisor_14 rfl (lv_at hl 1 rfl) ?_
    refine lv_if_eq (tgt := 34) hx hb dX5_greatestDivisor_15 (by decide) (fun c_2 => ?_) (fun c_2 => ?_)
    · have h := ite_p c_2 h
      refine lv_iload_n hx hb dX5_greatestDivisor_34 rfl (lv_at hl 0 rfl) ?_
      exact xw_iret C rfl hW dX5_greatestDivisor_35 h
    have h := ite_n c_2 h
    refine lv_iload_n hx hb dX5_greatestDivisor_18 rfl (lv_at hl 0 rfl) ?_
    refine lv_iload_n hx hb dX5_greatestDivisor_19 rfl (lv_at hl 1 rfl) ?_
    obtain ⟨hz_3, h⟩ := gz_s h
    refine lv_irem hx hb dX5_greatestDivisor_20 hz_3 ?_
    refine lv_istore (lv' := [(5, .int (v2 - v2 / v3 * v3)), (2, .int v2), (3, .int v3), (4, .int v4)]) hx hb dX5_greatestDivisor_21 hl (by decide) rfl (fun ls hl => ?_)
    refine lv_iload_n hx hb dX5_greatestDivisor_23 rfl (lv_at hl 2 rfl) ?_
    refine lv_istore_n (lv' := [(2, .int v3), (5, .int (v2 - v2 / v3 * v3)), (3, .int v3), (4, .int v4)]) hx hb dX5_greatestDivisor_24 rfl hl (by decide) rfl (fun ls hl => ?_)
    refine lv_iload hx hb dX5_greatestDivisor_25 (lv_at hl 1 rfl) ?_
    refine lv_istore_n (lv' := [(3, .int (v2 - v2 / v3 * v3)), (2, .int v3), (5, .int (v2 - v2 / v3 * v3)), (4, .int v4)]) hx hb dX5_greatestDivisor_27 rfl hl (by decide) rfl (fun ls hl => ?_)
    refine lv_iinc (v := v4 + 1) (lv' := [(4, .int (v4 + 1)), (3, .int (v2 - v2 / v3 * v3)), (2, .int v3), (5, .int (v2 - v2 / v3 * v3))]) hx hb dX5_greatestDivisor_28 hl (k := 3) rfl rfl (by decide) rfl (fun ls hl => ?_)
    refine lv_goto (tgt := 7) hx hb dX5_greatestDivisor_31 (by decide) ?_
    exact h7 _ _ _ _ _ _ _ hW (lv_sub hl [2, 1, 0] rfl) h
set_option maxHeartbeats 4000000 in
set_option maxRecDepth 100000 in
theorem kX5_greatestDivisor (l : Launch) (D : va_G) (g : G3) (ad : Ky → Nat) {v0 v1 : Int32} {μ μ' : Mem} {r : Int32} (h : X5_greatestDivisor v0 v1 μ = some (r, μ')) : CtI l yX5_greatestDivisor wsX5_greatestDivisor rX5_greatestDivisor D (tysX g) keysX ad (cX g ad) [.int v0, .int v1] μ r μ' := by
  refine ctI_of (cc := cX5_greatestDivisor) (maxL := 6) (ret := (some .int)) keysX_nd (by decide) rfl (Nat.le_of_ble_eq_true rfl) (fun p e s m below meth c A ls C hW hl => ?_)
  have hl : lv_has ls 6 [(0, .int v0), (1, .int v1)] := hl
  obtain ⟨hx, hb, hr, hts, hown, hlocks, hml, hA⟩ := id C
  refine lv_iload_n hx hb dX5_greatestDivisor_0 rfl (lv_at hl 0 rfl) ?_
  refine lv_istore_n (lv' := [(2, .int v0), (0, .int v0), (1, .int v1)]) hx hb dX5_greatestDivisor_1 rfl hl (by decide) rfl (fun ls hl => ?_)
  refine lv_iload_n hx hb dX5_greatestDivisor_2 rfl (lv_at hl 2 rfl) ?_
  refine lv_istore_n (lv' := [(3, .int v1), (2, .int v0), (0, .int v0), (1, .int v1)]) hx hb dX5_greatestDivisor_3 rfl hl (by decide) rfl (fun ls hl => ?_)
  refine lv_iconst (v := 0) hx hb dX5_greatestDivisor_4 (by decide) ?_
  refine lv_istore (lv' := [(4, .int 0), (3, .int v1), (2, .int v0), (0, .int v0), (1, .int v1)]) hx hb dX5_greatestDivisor_5 hl (by decide) rfl (fun ls hl => ?_)
  exact tX5_greatestDivisor_b7 C 1000 _ _ _ _ _ _ _ hW (lv_sub hl [2, 1, 0] rfl) h
abbrev rX5_uncountedDraws : Room := { frames := 1, cells := 0, slots := 0, locals := 22 }
theorem mX5_uncountedDraws_l27 : Cond.fieldLink RX5 27 "NearlyBought" "laid" "LNearlyBought$Tale;" ∈ wsX5_uncountedDraws := by decide +kernel
theorem iX5_uncountedDraws_5 : ∀ w ∈ wsX50, w ∈ wsX5_uncountedDraws := fun _ h => List.mem_cons_of_mem _ (List.mem_append_left _ (List.mem_append_right _ h))
set_option maxHeartbeats 4000000 in
set_option maxRecDepth 100000 in
theorem tX5_uncountedDraws_b27 {p : Program} {l : Launch} {e : Env} {s : State} {m : MethodId} {args : Array Value} {below : List Frame} {meth : Method} {c : Code} {A : Nat → Prop} {D : va_G} {g : G3} {ad : Ky → Nat} (C : Cx p s m args meth c cX5_uncountedDraws (some .int) 4 RX5 wsX5_uncountedDraws A) {r0 : Int32} {μ0 : Mem} {v1 v2 v3 : Int32} {k4 : Int32 → Int32 → Mem → Option (Int32 × Mem)} (h4 : ∀ (v2 v3 : Int32) (μ : Mem) (H : Heap) (locs : List Loc) (ls : Array Slot), WX D g keysX ad A s s.heap μ H locs → lv_has ls 4 [(0, .ref (ad (17, 50, 0))), (1, .int v1), (2, .int v2), (3, .int v3)] → k4 v2 v3 μ = some (r0, μ0) → TgI r0 p l e rX5_uncountedDraws s m args below meth c D g keysX ad A μ0 H locs (F0 m 4 ls [])) {μ : Mem} {H : Heap} {locs : List Loc} {ls : Array Slot} (hW : WX D g keysX ad A s s.heap μ H locs) (hl : lv_has ls 4 [(0, .ref (ad (17, 50, 0))), (1, .int v1), (2, .int v2), (3, .int v3)]) (h : X5_uncountedDraws_b27 k4 v1 v2 v3 μ = some (r0, μ0)) : TgI r0 p l e rX5_uncountedDraws s m args below meth c D g keysX ad A μ0 H locs (F0 m 27 ls []) := by
  obtain ⟨hx, hb, hr, hts, hown, hlocks, hml, hA⟩ := id C
  refine lv_iinc (v := v3 + 1) (lv' := [(3, .int (v3 + 1)), (0, .ref (ad (17, 50, 0))), (1, .int v1), (2, .int v2)]) hx hb dX5_uncountedDraws_27 hl (k := 3) rfl rfl (by decide) rfl (fun ls hl => ?_)
  refine lv_goto (tgt := 4) hx hb dX5_uncountedDraws_30 (by decide) ?_
  exact h4 _ _ _ _ _ _ hW (lv_sub hl [1, 2, 3, 0] rfl) h
set_option maxHeartbeats 4000000 in
set_option maxRecDepth 100000 in
theorem tX5_uncountedDraws_b4 {p : Program} {l : Launch} {e : Env} {s : State} {m : MethodId} {args : Array Value} {below : List Frame} {meth : Method} {c : Code} {A : Nat → Prop} {D : va_G} {g : G3} {ad : Ky → Nat} (C : Cx p s m args meth c cX5_uncountedDraws (some .int) 4 RX5 wsX5_uncountedDraws A) {r0 : Int32} {μ0 : Mem} {v1 : Int32} (n : Nat) : ∀ (v2 v3 : Int32) (μ : Mem) (H : Heap) (locs : List Loc) (ls : Array Slot), WX D g keysX ad A s s.heap μ H locs → lv_has ls 4 [(0, .ref (ad (17, 50, 0))), (1, .int v1), (2, .int v2), (3, .int v3)] → lo2 (X5_uncountedDraws_b4 v1) n v2 v3 μ = some (r0, μ0) → TgI r0 p l e rX5_uncountedDraws s m args below meth c D g keysX ad A μ0 H locs (F0 m 4 ls []) := by
  obtain ⟨hx, hb, hr, hts, hown, hlocks, hml, hA⟩ := id C
  induction n with
  | zero =>
    intro v2 v3 μ H locs ls hW hl h
    cases h
  | succ n h4 =>
    intro v2 v3 μ H locs ls hW hl h
    have h : X5_uncountedDraws_b4 v1 (lo2 (X5_uncountedDraws_b4 v1) n) v2 v3 μ = some (r0, μ0) := h
    refine lv_iload_n hx hb dX5_uncountedDraws_4 rfl (lv_at hl 3 rfl) ?_
    refine lv_bipush (v := 12) hx hb dX5_uncountedDraws_5 (by decide) ?_
    refine lv_icmp_gt (tgt := 33) hx hb dX5_uncountedDraws_7 (by decide) (fun c_1 => ?_) (fun c_1 => ?_)
    · have h := ite_p c_1 h
      refine lv_iload_n hx hb dX5_uncountedDraws_33 rfl (lv_at hl 2 rfl) ?_
      exact xw_iret C rfl hW dX5_uncountedDraws_34 h
    have h := ite_n c_1 h
    refine lv_aload_n hx hb dX5_uncountedDraws_10 rfl (lv_at hl 0 rfl) ?_
    refine wo_get (C := RX5) (T := TX5) (N := 11) hx hb hts iX5_uncountedDraws_5 hown hW kl_17_50_0 cn_o rfl 3 (by decide) (hts _ mX5_uncountedDraws_l27) (fun _ h9 => h9) rfl dX5_uncountedDraws_11 ?_
    refine lv_iload_n hx hb dX5_uncountedDraws_14 rfl (lv_at hl 1 rfl) ?_
    refine lv_iload_n hx hb dX5_uncountedDraws_15 rfl (lv_at hl 3 rfl) ?_
    obtain ⟨r_4, μ_3, hh_2, h⟩ := bd_s h
    refine wo_Vi (rest := []) C hW (kX4_countedFor l D g ad (q := 13) (by decide) (by decide) hh_2) (cwV 2 hts gX5_uncountedDraws_X4_countedFor rfl rfl rfl (by decide +kernel) ⟨Nat.le_of_ble_eq_true rfl, Nat.le_of_ble_eq_true rfl⟩) (kt_o 13 (by decide) (by decide)) (ct_o (by decide) (by decide)) rfl rfl hl.1 rfl (Nat.le_of_ble_eq_true rfl) dX5_uncountedDraws_16 ⟨Nat.zero_le _, Nat.zero_le _⟩ (fun H locs hW => ?_)
    refine lv_bipush (v := 9) hx hb dX5_uncountedDraws_19 (by decide) ?_
    refine lv_icmp_ge (tgt := 27) hx hb dX5_uncountedDraws_21 (by decide) (fun c_5 => ?_) (fun c_5 => ?_)
    · have h := ite_p c_5 h
      exact tX5_uncountedDraws_b27 C h4 hW (lv_sub hl [0, 1, 2, 3] rfl) h
    have h := ite_n c_5 h
    refine lv_iinc (v := v2 + 1) (lv' := [(2, .int (v2 + 1)), (0, .ref (ad (17, 50, 0))), (1, .int v1), (3, .int v3)]) hx hb dX5_uncountedDraws_24 hl (k := 2) rfl rfl (by decide) rfl (fun ls hl => ?_)
    exact tX5_uncountedDraws_b27 C h4 hW (lv_sub hl [1, 2, 0, 3] rfl) h
set_option maxHeartbeats 4000000 in
set_option maxRecDepth 100000 in
theorem kX5_uncountedDraws (l : Launch) (D : va_G) (g : G3) (ad : Ky → Nat) {v1 : Int32} {μ μ' : Mem} {r : Int32} (h : X5_uncountedDraws v1 μ = some (r, μ')) : CtI l yX5_uncountedDraws wsX5_uncountedDraws rX5_uncountedDraws D (tysX g) keysX ad (cX g ad) [.ref (ad (17, 50, 0)), .int v1] μ r μ' := by
  refine ctI_of (cc := cX5_uncountedDraws) (maxL := 4) (ret := (some .int)) keysX_nd (by decide) rfl (Nat.le_of_ble_eq_true rfl) (fun p e s m below meth c A ls C hW hl => ?_)
  have hl : lv_has ls 4 [(0, .ref (ad (17, 50, 0))), (1, .int v1)] := hl
  obtain ⟨hx, hb, hr, hts, hown, hlocks, hml, hA⟩ := id C
  refine lv_iconst (v := 0) hx hb dX5_uncountedDraws_0 (by decide) ?_
  refine lv_istore_n (lv' := [(2, .int 0), (0, .ref (ad (17, 50, 0))), (1, .int v1)]) hx hb dX5_uncountedDraws_1 rfl hl (by decide) rfl (fun ls hl => ?_)
  refine lv_iconst (v := 1) hx hb dX5_uncountedDraws_2 (by decide) ?_
  refine lv_istore_n (lv' := [(3, .int 1), (2, .int 0), (0, .ref (ad (17, 50, 0))), (1, .int v1)]) hx hb dX5_uncountedDraws_3 rfl hl (by decide) rfl (fun ls hl => ?_)
  exact tX5_uncountedDraws_b4 C 1000 _ _ _ _ _ _ hW (lv_sub hl [2, 3, 1, 0] rfl) h
abbrev rX5_counts : Room := { frames := 2, cells := 0, slots := 0, locals := 45 }
theorem mX5_counts_l27 : Cond.fieldLink RX5 27 "NearlyBought" "laid" "LNearlyBought$Tale;" ∈ wsX5_counts := by decide +kernel
theorem mX5_counts_l184 : Cond.methodLink RX5 184 Lib.Math.max.name ∈ wsX5_counts := by decide +kernel
theorem mX5_counts_stmax : Cond.static Lib.Math.max.name ∈ wsX5_counts := by decide +kernel
theorem mX5_counts_inm : Cond.initialized "java/lang/Math" ∈ wsX5_counts := by decide +kernel
theorem mX5_counts_comax : Cond.code Lib.Math.max.name Lib.Math.max.code 2 (some .int) ∈ wsX5_counts := by decide +kernel
theorem iX5_counts_5 : ∀ w ∈ wsX50, w ∈ wsX5_counts := fun _ h => List.mem_cons_of_mem _ (List.mem_append_left _ (List.mem_append_right _ h))
set_option maxHeartbeats 4000000 in
set_option maxRecDepth 100000 in
theorem tX5_counts_b40 {p : Program} {l : Launch} {e : Env} {s : State} {m : MethodId} {args : Array Value} {below : List Frame} {meth : Method} {c : Code} {A : Nat → Prop} {D : va_G} {g : G3} {ad : Ky → Nat} (C : Cx p s m args meth c cX5_counts (some .int) 7 RX5 wsX5_counts A) {r0 : Int32} {μ0 : Mem} {v1 v2 v3 : Int32} (n : Nat) : ∀ (v4 v5 v6 : Int32) (μ : Mem) (H : Heap) (locs : List Loc) (ls : Array Slot), WX D g keysX ad A s s.heap μ H locs → lv_has ls 7 [(0, .ref (ad (17, 50, 0))), (1, .int v1), (2, .int v2), (3, .int v3), (4, .int v4), (5, .int v5), (6, .int v6)] → lo3 (X5_counts_b40 v1 v2 v3) n v4 v5 v6 μ = some (r0, μ0) → TgI r0 p l e rX5_counts s m args below meth c D g keysX ad A μ0 H locs (F0 m 40 ls []) := by
  obtain ⟨hx, hb, hr, hts, hown, hlocks, hml, hA⟩ := id C
  induction n with
  | zero =>
    intro v4 v5 v6 μ H locs ls hW hl h
    cases h
  | succ n h40 =>
    intro v4 v5 v6 μ H locs ls hW hl h
    have h : X5_counts_b40 v1 v2 v3 (lo3 (X5_counts_b40 v1 v2 v3) n) v4 v5 v6 μ = some (r0, μ0) := h
    refine lv_iload hx hb dX5_counts_40 (lv_at hl 6 rfl) ?_
    refine lv_iload_n hx hb dX5_counts_42 rfl (lv_at hl 2 rfl) ?_
    refine lv_icmp_ge (tgt := 69) hx hb dX5_counts_43 (by decide) (fun c_9 => ?_) (fun c_9 => ?_)
    · have h := ite_p c_9 h
      refine lv_iconst (v := 1) hx hb dX5_counts_69 (by decide) ?_
      refine lv_iload hx hb dX5_counts_70 (lv_at hl 4 rfl) ?_
      refine lv_iload hx hb dX5_counts_72 (lv_at hl 4 rfl) ?_
      refine lv_iload hx hb dX5_counts_74 (lv_at hl 5 rfl) ?_
      refine lv_isub hx hb dX5_counts_76 ?_
      obtain ⟨r_12, μ_11, hh_10, h⟩ := bd_s h
      refine wo_Si (rest := [.int 1]) C hW (kX5_greatestDivisor l D g ad  hh_10) (cwS 2 hts gX5_counts_X5_greatestDivisor rfl rfl rfl (by decide +kernel) ⟨Nat.le_of_ble_eq_true rfl, Nat.le_of_ble_eq_true rfl⟩) rfl hl.1 rfl (Nat.le_of_ble_eq_true rfl) dX5_counts_77 ⟨Nat.zero_le _, Nat.zero_le _⟩ (fun H locs hW => ?_)
      refine va_mmax (ls := ls) (rest := []) hx hb (hml.trans hl.1.symm) hown (hts _ mX5_counts_l184) (hts _ mX5_counts_stmax) (hts _ mX5_counts_inm) (hts _ mX5_counts_comax) (Nat.le_of_ble_eq_true rfl) (Nat.le_of_ble_eq_true rfl) (Nat.zero_le _) (Nat.zero_le _) dX5_counts_80 ?_
      refine lv_istore (lv' := [(6, .int (if 1 < r_12 then r_12 else 1)), (0, .ref (ad (17, 50, 0))), (1, .int v1), (2, .int v2), (3, .int v3), (4, .int v4), (5, .int v5)]) hx hb dX5_counts_83 hl (by decide) rfl (fun ls hl => ?_)
      refine lv_iload_n hx hb dX5_counts_85 rfl (lv_at hl 4 rfl) ?_
      refine lv_if_ne (tgt := 100) hx hb dX5_counts_86 (by decide) (fun c_13 => ?_) (fun c_13 => ?_)
      · have h := ite_n c_13 h
        refine lv_iload hx hb dX5_counts_100 (lv_at hl 5 rfl) ?_
        refine lv_iload hx hb dX5_counts_102 (lv_at hl 0 rfl) ?_
        obtain ⟨hz_14, h⟩ := gz_s h
        refine lv_idiv hx hb dX5_counts_104 hz_14 ?_
        exact xw_iret C rfl hW dX5_counts_105 h
      have h := ite_p c_13 h
      refine lv_iload hx hb dX5_counts_89 (lv_at hl 5 rfl) ?_
      refine lv_iload hx hb dX5_counts_91 (lv_at hl 6 rfl) ?_
      refine lv_isub hx hb dX5_counts_93 ?_
      refine lv_iload hx hb dX5_counts_94 (lv_at hl 0 rfl) ?_
      obtain ⟨hz_15, h⟩ := gz_s h
      refine lv_idiv hx hb dX5_counts_96 hz_15 ?_
      refine lv_goto (tgt := 105) hx hb dX5_counts_97 (by decide) ?_
      exact xw_iret C rfl hW dX5_counts_105 h
    have h := ite_n c_9 h
    refine lv_iload hx hb dX5_counts_46 (lv_at hl 4 rfl) ?_
    refine lv_bipush (v := 12) hx hb dX5_counts_48 (by decide) ?_
    refine lv_imul hx hb dX5_counts_50 ?_
    refine lv_istore (lv' := [(4, .int (v4 * 12)), (0, .ref (ad (17, 50, 0))), (1, .int v1), (2, .int v2), (3, .int v3), (5, .int v5), (6, .int v6)]) hx hb dX5_counts_51 hl (by decide) rfl (fun ls hl => ?_)
    refine lv_iload hx hb dX5_counts_53 (lv_at hl 5 rfl) ?_
    refine lv_aload_n hx hb dX5_counts_55 rfl (lv_at hl 1 rfl) ?_
    refine lv_iload_n hx hb dX5_counts_56 rfl (lv_at hl 2 rfl) ?_
    obtain ⟨r_18, μ_17, hh_16, h⟩ := bd_s h
    refine wo_Vi (rest := [.int v5]) C hW (kX5_uncountedDraws l D g ad  hh_16) (cwV 1 hts gX5_counts_X5_uncountedDraws rfl rfl rfl (by decide +kernel) ⟨Nat.le_of_ble_eq_true rfl, Nat.le_of_ble_eq_true rfl⟩) kl_17_50_0 cn_o rfl rfl hl.1 rfl (Nat.le_of_ble_eq_true rfl) dX5_counts_57 ⟨Nat.zero_le _, Nat.zero_le _⟩ (fun H locs hW => ?_)
    refine lv_imul hx hb dX5_counts_60 ?_
    refine lv_istore (lv' := [(5, .int (v5 * r_18)), (4, .int (v4 * 12)), (0, .ref (ad (17, 50, 0))), (1, .int v1), (2, .int v2), (3, .int v3), (6, .int v6)]) hx hb dX5_counts_61 hl (by decide) rfl (fun ls hl => ?_)
    refine lv_iinc (v := v6 + 1) (lv' := [(6, .int (v6 + 1)), (5, .int (v5 * r_18)), (4, .int (v4 * 12)), (0, .ref (ad (17, 50, 0))), (1, .int v1), (2, .int v2), (3, .int v3)]) hx hb dX5_counts_63 hl (k := 6) rfl rfl (by decide) rfl (fun ls hl => ?_)
    refine lv_goto (tgt := 40) hx hb dX5_counts_66 (by decide) ?_
    exact h40 _ _ _ _ _ _ _ hW (lv_sub hl [3, 4, 5, 6, 2, 1, 0] rfl) h
set_option maxHeartbeats 4000000 in
set_option maxRecDepth 100000 in
theorem kX5_counts (l : Launch) (D : va_G) (g : G3) (ad : Ky → Nat) {v1 v2 v3 : Int32} {μ μ' : Mem} {r : Int32} (h : X5_counts v1 v2 v3 μ = some (r, μ')) : CtI l yX5_counts wsX5_counts rX5_counts D (tysX g) keysX ad (cX g ad) [.ref (ad (17, 50, 0)), .int v1, .int v2, .int v3] μ r μ' := by
  refine ctI_of (cc := cX5_counts) (maxL := 7) (ret := (some .int)) keysX_nd (by decide) rfl (Nat.le_of_ble_eq_true rfl) (fun p e s m below meth c A ls C hW hl => ?_)
  have hl : lv_has ls 7 [(0, .ref (ad (17, 50, 0))), (1, .int v1), (2, .int v2), (3, .int v3)] := hl
  obtain ⟨hx, hb, hr, hts, hown, hlocks, hml, hA⟩ := id C
  refine lv_aload_n hx hb dX5_counts_0 rfl (lv_at hl 0 rfl) ?_
  refine wo_get (C := RX5) (T := TX5) (N := 11) hx hb hts iX5_counts_5 hown hW kl_17_50_0 cn_o rfl 3 (by decide) (hts _ mX5_counts_l27) (fun _ h9 => h9) rfl dX5_counts_1 ?_
  refine lv_iload_n hx hb dX5_counts_4 rfl (lv_at hl 1 rfl) ?_
  obtain ⟨r_3, μ_2, hh_1, h⟩ := bd_s h
  refine wo_Vi (rest := []) C hW (kX4_hasPerson l D g ad (q := 13) (by decide) (by decide) hh_1) (cwV 1 hts gX5_counts_X4_hasPerson rfl rfl rfl (by decide +kernel) ⟨Nat.le_of_ble_eq_true rfl, Nat.le_of_ble_eq_true rfl⟩) (kt_o 13 (by decide) (by decide)) (ct_o (by decide) (by decide)) rfl rfl hl.1 rfl (Nat.le_of_ble_eq_true rfl) dX5_counts_5 ⟨Nat.zero_le _, Nat.zero_le _⟩ (fun H locs hW => ?_)
  refine lv_if_eq (tgt := 29) hx hb dX5_counts_8 (by decide) (fun c_4 => ?_) (fun c_4 => ?_)
  · have h := ite_p c_4 h
    refine lv_iconst (v := (-1)) hx hb dX5_counts_29 (by decide) ?_
    exact xw_iret C rfl hW dX5_counts_30 h
  have h := ite_n c_4 h
  refine lv_iload_n hx hb dX5_counts_11 rfl (lv_at hl 2 rfl) ?_
  refine lv_if_lt (tgt := 29) hx hb dX5_counts_12 (by decide) (fun c_5 => ?_) (fun c_5 => ?_)
  · have h := ite_p c_5 h
    refine lv_iconst (v := (-1)) hx hb dX5_counts_29 (by decide) ?_
    exact xw_iret C rfl hW dX5_counts_30 h
  have h := ite_n c_5 h
  refine lv_iload_n hx hb dX5_counts_15 rfl (lv_at hl 2 rfl) ?_
  refine lv_iconst (v := 4) hx hb dX5_counts_16 (by decide) ?_
  refine lv_icmp_gt (tgt := 29) hx hb dX5_counts_17 (by decide) (fun c_6 => ?_) (fun c_6 => ?_)
  · have h := ite_p c_6 h
    refine lv_iconst (v := (-1)) hx hb dX5_counts_29 (by decide) ?_
    exact xw_iret C rfl hW dX5_counts_30 h
  have h := ite_n c_6 h
  refine lv_iload_n hx hb dX5_counts_20 rfl (lv_at hl 3 rfl) ?_
  refine lv_if_lt (tgt := 29) hx hb dX5_counts_21 (by decide) (fun c_7 => ?_) (fun c_7 => ?_)
  · have h := ite_p c_7 h
    refine lv_iconst (v := (-1)) hx hb dX5_counts_29 (by decide) ?_
    exact xw_iret C rfl hW dX5_counts_30 h
  have h := ite_n c_7 h
  refine lv_iload_n hx hb dX5_counts_24 rfl (lv_at hl 3 rfl) ?_
  refine lv_iconst (v := 1) hx hb dX5_counts_25 (by decide) ?_
  refine lv_icmp_le (tgt := 31) hx hb dX5_counts_26 (by decide) (fun c_8 => ?_) (fun c_8 => ?_)
  · have h := ite_p c_8 h
    refine lv_iconst (v := 1) hx hb dX5_counts_31 (by decide) ?_
    refine lv_istore (lv' := [(4, .int 1), (0, .ref (ad (17, 50, 0))), (1, .int v1), (2, .int v2), (3, .int v3)]) hx hb dX5_counts_32 hl (by decide) rfl (fun ls hl => ?_)
    refine lv_iconst (v := 1) hx hb dX5_counts_34 (by decide) ?_
    refine lv_istore (lv' := [(5, .int 1), (4, .int 1), (0, .ref (ad (17, 50, 0))), (1, .int v1), (2, .int v2), (3, .int v3)]) hx hb dX5_counts_35 hl (by decide) rfl (fun ls hl => ?_)
    refine lv_iconst (v := 0) hx hb dX5_counts_37 (by decide) ?_
    refine lv_istore (lv' := [(6, .int 0), (5, .int 1), (4, .int 1), (0, .ref (ad (17, 50, 0))), (1, .int v1), (2, .int v2), (3, .int v3)]) hx hb dX5_counts_38 hl (by decide) rfl (fun ls hl => ?_)
    exact tX5_counts_b40 C 1000 _ _ _ _ _ _ _ hW (lv_sub hl [3, 4, 5, 6, 2, 1, 0] rfl) h
  have h := ite_n c_8 h
  refine lv_iconst (v := (-1)) hx hb dX5_counts_29 (by decide) ?_
  exact xw_iret C rfl hW dX5_counts_30 h
abbrev rX5_draw : Room := { frames := 0, cells := 0, slots := 0, locals := 0 }
theorem mX5_draw_l224 : Cond.constantLong RX5 224 (7919) ∈ wsX5_draw := by decide +kernel
theorem mX5_draw_l226 : Cond.constantLong RX5 226 (6151) ∈ wsX5_draw := by decide +kernel
theorem mX5_draw_l228 : Cond.constantLong RX5 228 (65521) ∈ wsX5_draw := by decide +kernel
theorem mX5_draw_l230 : Cond.constantLong RX5 230 (4) ∈ wsX5_draw := by decide +kernel
set_option maxHeartbeats 4000000 in
set_option maxRecDepth 100000 in
theorem kX5_draw (l : Launch) (D : va_G) (g : G3) (ad : Ky → Nat) {v0 v1 : Int32} {μ μ' : Mem} {r : Int32} (h : X5_draw v0 v1 μ = some (r, μ')) : CtI l yX5_draw wsX5_draw rX5_draw D (tysX g) keysX ad (cX g ad) [.int v0, .int v1] μ r μ' := by
  refine ctI_of (cc := cX5_draw) (maxL := 4) (ret := (some .int)) keysX_nd (by decide) rfl (Nat.le_of_ble_eq_true rfl) (fun p e s m below meth c A ls C hW hl => ?_)
  have hl : lv_has ls 4 [(0, .int v0), (1, .int v1)] := hl
  obtain ⟨hx, hb, hr, hts, hown, hlocks, hml, hA⟩ := id C
  refine lv_ldc2 (v := 7919) hx hb hown (hts _ mX5_draw_l224) dX5_draw_0 ?_
  refine lv_iload_n hx hb dX5_draw_3 rfl (lv_at hl 0 rfl) ?_
  refine lv_i2l hx hb dX5_draw_4 rfl ?_
  refine lv_lmul hx hb dX5_draw_5 ?_
  refine lv_ldc2 (v := 6151) hx hb hown (hts _ mX5_draw_l226) dX5_draw_6 ?_
  refine lv_iload_n hx hb dX5_draw_9 rfl (lv_at hl 1 rfl) ?_
  refine lv_i2l hx hb dX5_draw_10 rfl ?_
  refine lv_lmul hx hb dX5_draw_11 ?_
  refine lv_ladd hx hb dX5_draw_12 ?_
  refine lv_lconst (v := 1) hx hb dX5_draw_13 rfl ?_
  refine lv_ladd hx hb dX5_draw_14 ?_
  refine lv_lstore_n (lv' := [(2, .long (((7919 * v0.toInt64) + (6151 * v1.toInt64)) + 1)), (0, .int v0), (1, .int v1)]) hx hb dX5_draw_15 rfl hl (by decide) rfl (fun ls hl => ?_)
  refine lv_lload_n hx hb dX5_draw_16 rfl (lv_at hl 0 rfl) ?_
  refine lv_lload_n hx hb dX5_draw_17 rfl (lv_at hl 0 rfl) ?_
  refine lv_lmul hx hb dX5_draw_18 ?_
  refine lv_ldc2 (v := 65521) hx hb hown (hts _ mX5_draw_l228) dX5_draw_19 ?_
  refine lv_lrem hx hb dX5_draw_22 (by decide) ?_
  refine lv_ldc2 (v := 4) hx hb hown (hts _ mX5_draw_l230) dX5_draw_23 ?_
  refine lv_ldiv hx hb dX5_draw_26 (by decide) ?_
  refine lv_l2i hx hb dX5_draw_27 rfl ?_
  exact xw_iret C rfl hW dX5_draw_28 h
abbrev rX5_fair : Room := { frames := 5, cells := 0, slots := 0, locals := 112 }
theorem mX5_fair_l35 : Cond.fieldLink RX5 35 "NearlyBought" "now" "LNearlyBought$Market;" ∈ wsX5_fair := by decide +kernel
theorem mX5_fair_l101 : Cond.fieldLink RX5 101 "NearlyBought$Market" "year" "I" ∈ wsX5_fair := by decide +kernel
theorem mX5_fair_l45 : Cond.fieldLink RX5 45 "NearlyBought" "history" "LNearlyBought$History;" ∈ wsX5_fair := by decide +kernel
theorem iX5_fair_1 : ∀ w ∈ wsX10, w ∈ wsX5_fair := fun _ h => List.mem_cons_of_mem _ (List.mem_append_left _ (List.mem_append_left _ (List.mem_append_right _ h)))
theorem iX5_fair_5 : ∀ w ∈ wsX50, w ∈ wsX5_fair := fun _ h => List.mem_cons_of_mem _ (List.mem_append_left _ (List.mem_append_left _ (List.mem_append_left _ (List.mem_append_right _ h))))
set_option maxHeartbeats 4000000 in
set_option maxRecDepth 100000 in
theorem kX5_fair (l : Launch) (D : va_G) (g : G3) (ad : Ky → Nat) {μ μ' : Mem} {r : Int32} (h : X5_fair μ = some (r, μ')) : CtI l yX5_fair wsX5_fair rX5_fair D (tysX g) keysX ad (cX g ad) [.ref (ad (17, 50, 0))] μ r μ' := by
  refine ctI_of (cc := cX5_fair) (maxL := 1) (ret := (some .int)) keysX_nd (by decide) rfl (Nat.le_of_ble_eq_true rfl) (fun p e s m below meth c A ls C hW hl => ?_)
  have hl : lv_has ls 1 [(0, .ref (ad (17, 50, 0)))] := hl
  obtain ⟨hx, hb, hr, hts, hown, hlocks, hml, hA⟩ := id C
  refine lv_aload_n hx hb dX5_fair_0 rfl (lv_at hl 0 rfl) ?_
  refine wo_get (C := RX5) (T := TX5) (N := 11) hx hb hts iX5_fair_5 hown hW kl_17_50_0 cn_o rfl 4 (by decide) (hts _ mX5_fair_l35) (fun _ h9 => h9) rfl dX5_fair_1 ?_
  refine wo_get (C := RX1) (T := TX1) (N := 10) hx hb hts iX5_fair_1 hown hW (km_o 0 (by decide)) (cm_o (by decide)) rfl 1 (by decide) (hts _ mX5_fair_l101) (fun _ h9 => h9) rfl dX5_fair_4 ?_
  refine lv_bipush (v := 99) hx hb dX5_fair_7 (by decide) ?_
  refine lv_icmp_lt (tgt := 15) hx hb dX5_fair_9 (by decide) (fun c_1 => ?_) (fun c_1 => ?_)
  · have h := ite_p c_1 h
    refine lv_aload_n hx hb dX5_fair_15 rfl (lv_at hl 0 rfl) ?_
    refine wo_get (C := RX5) (T := TX5) (N := 11) hx hb hts iX5_fair_5 hown hW kl_17_50_0 cn_o rfl 6 (by decide) (hts _ mX5_fair_l45) (fun _ h9 => h9) rfl dX5_fair_16 ?_
    refine lv_aload_n hx hb dX5_fair_19 rfl (lv_at hl 0 rfl) ?_
    refine wo_get (C := RX5) (T := TX5) (N := 11) hx hb hts iX5_fair_5 hown hW kl_17_50_0 cn_o rfl 4 (by decide) (hts _ mX5_fair_l35) (fun _ h9 => h9) rfl dX5_fair_20 ?_
    obtain ⟨μ_3, hh_2, h⟩ := bdv_s h
    refine wo_Vv (rest := []) C hW (kX0_remember l D g ad  hh_2) (cwV 1 hts gX5_fair_X0_remember rfl rfl rfl (by decide +kernel) ⟨Nat.le_of_ble_eq_true rfl, Nat.le_of_ble_eq_true rfl⟩) kl_15_50_0 ch_o rfl rfl hl.1 rfl (Nat.le_of_ble_eq_true rfl) dX5_fair_23 ⟨Nat.zero_le _, Nat.zero_le _⟩ (fun H locs hW => ?_)
    refine lv_aload_n hx hb dX5_fair_26 rfl (lv_at hl 0 rfl) ?_
    refine wo_get (C := RX5) (T := TX5) (N := 11) hx hb hts iX5_fair_5 hown hW kl_17_50_0 cn_o rfl 4 (by decide) (hts _ mX5_fair_l35) (fun _ h9 => h9) rfl dX5_fair_27 ?_
    obtain ⟨r_6, μ_5, hh_4, h⟩ := bd_s h
    refine wo_Vi (rest := []) C hW (kX1_holdFair l D g ad (q := 0) (by decide) hh_4) (cwV 0 hts gX5_fair_X1_holdFair rfl rfl rfl (by decide +kernel) ⟨Nat.le_of_ble_eq_true rfl, Nat.le_of_ble_eq_true rfl⟩) (km_o 0 (by decide)) (cm_o (by decide)) rfl rfl hl.1 rfl (Nat.le_of_ble_eq_true rfl) dX5_fair_30 ⟨Nat.zero_le _, Nat.zero_le _⟩ (fun H locs hW => ?_)
    exact xw_iret C rfl hW dX5_fair_33 h
  have h := ite_n c_1 h
  refine lv_bipush (v := (-2)) hx hb dX5_fair_12 (by decide) ?_
  exact xw_iret C rfl hW dX5_fair_14 h
abbrev rX5_fault : Room := { frames := 4, cells := 0, slots := 0, locals := 98 }
theorem mX5_fault_l16 : Cond.fieldLink RX5 16 "NearlyBought" "reader" "LNearlyBought$Reader;" ∈ wsX5_fault := by decide +kernel
theorem mX5_fault_l9 : Cond.fieldLink RX5 9 "NearlyBought" "text" "[I" ∈ wsX5_fault := by decide +kernel
theorem mX5_fault_l66 : Cond.fieldLink RX5 66 "NearlyBought" "textLength" "I" ∈ wsX5_fault := by decide +kernel
theorem mX5_fault_l23 : Cond.fieldLink RX5 23 "NearlyBought" "draft" "LNearlyBought$Tale;" ∈ wsX5_fault := by decide +kernel
theorem iX5_fault_5 : ∀ w ∈ wsX50, w ∈ wsX5_fault := fun _ h => List.mem_cons_of_mem _ (List.mem_append_left _ (List.mem_append_left _ (List.mem_append_right _ h)))
set_option maxHeartbeats 4000000 in
set_option maxRecDepth 100000 in
theorem kX5_fault (l : Launch) (D : va_G) (g : G3) (ad : Ky → Nat) {μ μ' : Mem} {r : Int32} (h : X5_fault μ = some (r, μ')) : CtI l yX5_fault wsX5_fault rX5_fault D (tysX g) keysX ad (cX g ad) [.ref (ad (17, 50, 0))] μ r μ' := by
  refine ctI_of (cc := cX5_fault) (maxL := 1) (ret := (some .int)) keysX_nd (by decide) rfl (Nat.le_of_ble_eq_true rfl) (fun p e s m below meth c A ls C hW hl => ?_)
  have hl : lv_has ls 1 [(0, .ref (ad (17, 50, 0)))] := hl
  obtain ⟨hx, hb, hr, hts, hown, hlocks, hml, hA⟩ := id C
  refine lv_aload_n hx hb dX5_fault_0 rfl (lv_at hl 0 rfl) ?_
  refine wo_get (C := RX5) (T := TX5) (N := 11) hx hb hts iX5_fault_5 hown hW kl_17_50_0 cn_o rfl 1 (by decide) (hts _ mX5_fault_l16) (fun _ h9 => h9) rfl dX5_fault_1 ?_
  refine lv_aload_n hx hb dX5_fault_4 rfl (lv_at hl 0 rfl) ?_
  refine wo_get (C := RX5) (T := TX5) (N := 11) hx hb hts iX5_fault_5 hown hW kl_17_50_0 cn_o rfl 0 (by decide) (hts _ mX5_fault_l9) (fun _ h9 => h9) rfl dX5_fault_5 ?_
  refine lv_aload_n hx hb dX5_fault_8 rfl (lv_at hl 0 rfl) ?_
  refine wo_get (C := RX5) (T := TX5) (N := 11) hx hb hts iX5_fault_5 hown hW kl_17_50_0 cn_o rfl 9 (by decide) (hts _ mX5_fault_l66) (fun _ h9 => h9) rfl dX5_fault_9 ?_
  refine lv_aload_n hx hb dX5_fault_12 rfl (lv_at hl 0 rfl) ?_
  refine wo_get (C := RX5) (T := TX5) (N := 11) hx hb hts iX5_fault_5 hown hW kl_17_50_0 cn_o rfl 2 (by decide) (hts _ mX5_fault_l23) (fun _ h9 => h9) rfl dX5_fault_13 ?_
  obtain ⟨r_3, μ_2, hh_1, h⟩ := bd_s h
  refine wo_Vi (rest := []) C hW (kX2_read l D g ad (q := 12) (by decide) (by decide) hh_1) (cwV 3 hts gX5_fault_X2_read rfl rfl rfl (by decide +kernel) ⟨Nat.le_of_ble_eq_true rfl, Nat.le_of_ble_eq_true rfl⟩) kl_14_50_0 cr_o rfl rfl hl.1 rfl (Nat.le_of_ble_eq_true rfl) dX5_fault_16 ⟨Nat.zero_le _, Nat.zero_le _⟩ (fun H locs hW => ?_)
  exact xw_iret C rfl hW dX5_fault_19 h
abbrev rX5_feigned : Room := { frames := 6, cells := 0, slots := 0, locals := 136 }
theorem mX5_feigned_l27 : Cond.fieldLink RX5 27 "NearlyBought" "laid" "LNearlyBought$Tale;" ∈ wsX5_feigned := by decide +kernel
theorem mX5_feigned_l175 : Cond.fieldLink RX5 175 "NearlyBought$Tale" "persons" "I" ∈ wsX5_feigned := by decide +kernel
theorem mX5_feigned_l56 : Cond.fieldLink RX5 56 "NearlyBought" "sights" "LNearlyBought$Sights;" ∈ wsX5_feigned := by decide +kernel
theorem mX5_feigned_l39 : Cond.fieldLink RX5 39 "NearlyBought" "trial" "LNearlyBought$Market;" ∈ wsX5_feigned := by decide +kernel
theorem iX5_feigned_4 : ∀ w ∈ wsX40, w ∈ wsX5_feigned := fun _ h => List.mem_cons_of_mem _ (List.mem_append_left _ (List.mem_append_left _ (List.mem_append_right _ h)))
theorem iX5_feigned_5 : ∀ w ∈ wsX50, w ∈ wsX5_feigned := fun _ h => List.mem_cons_of_mem _ (List.mem_append_left _ (List.mem_append_left _ (List.mem_append_left _ (List.mem_append_right _ h))))
set_option maxHeartbeats 4000000 in
set_option maxRecDepth 100000 in
theorem tX5_feigned_b74 {p : Program} {l : Launch} {e : Env} {s : State} {m : MethodId} {args : Array Value} {below : List Frame} {meth : Method} {c : Code} {A : Nat → Prop} {D : va_G} {g : G3} {ad : Ky → Nat} (C : Cx p s m args meth c cX5_feigned (some .int) 4 RX5 wsX5_feigned A) {r0 : Int32} {μ0 : Mem} {v2 v3 : Int32} {k42 : Int32 → Int32 → Mem → Option (Int32 × Mem)} (h42 : ∀ (v2 v3 : Int32) (μ : Mem) (H : Heap) (locs : List Loc) (ls : Array Slot), WX D g keysX ad A s s.heap μ H locs → lv_has ls 4 [(0, .ref (ad (17, 50, 0))), (2, .int v2), (3, .int v3)] → k42 v2 v3 μ = some (r0, μ0) → TgI r0 p l e rX5_feigned s m args below meth c D g keysX ad A μ0 H locs (F0 m 42 ls [])) {μ : Mem} {H : Heap} {locs : List Loc} {ls : Array Slot} (hW : WX D g keysX ad A s s.heap μ H locs) (hl : lv_has ls 4 [(0, .ref (ad (17, 50, 0))), (2, .int v2), (3, .int v3)]) (h : X5_feigned_b74 k42 v2 v3 μ = some (r0, μ0)) : TgI r0 p l e rX5_feigned s m args below meth c D g keysX ad A μ0 H locs (F0 m 74 ls []) := by
  obtain ⟨hx, hb, hr, hts, hown, hlocks, hml, hA⟩ := id C
  refine lv_iinc (v := v3 + 1) (lv' := [(3, .int (v3 + 1)), (0, .ref (ad (17, 50, 0))), (2, .int v2)]) hx hb dX5_feigned_74 hl (k := 2) rfl rfl (by decide) rfl (fun ls hl => ?_)
  refine lv_goto (tgt := 42) hx hb dX5_feigned_77 (by decide) ?_
  exact h42 _ _ _ _ _ _ hW (lv_sub hl [1, 2, 0] rfl) h
set_option maxHeartbeats 4000000 in
set_option maxRecDepth 100000 in
theorem tX5_feigned_b42 {p : Program} {l : Launch} {e : Env} {s : State} {m : MethodId} {args : Array Value} {below : List Frame} {meth : Method} {c : Code} {A : Nat → Prop} {D : va_G} {g : G3} {ad : Ky → Nat} (C : Cx p s m args meth c cX5_feigned (some .int) 4 RX5 wsX5_feigned A) {r0 : Int32} {μ0 : Mem} (n : Nat) : ∀ (v2 v3 : Int32) (μ : Mem) (H : Heap) (locs : List Loc) (ls : Array Slot), WX D g keysX ad A s s.heap μ H locs → lv_has ls 4 [(0, .ref (ad (17, 50, 0))), (2, .int v2), (3, .int v3)] → lo2 (X5_feigned_b42) n v2 v3 μ = some (r0, μ0) → TgI r0 p l e rX5_feigned s m args below meth c D g keysX ad A μ0 H locs (F0 m 42 ls []) := by
  obtain ⟨hx, hb, hr, hts, hown, hlocks, hml, hA⟩ := id C
  induction n with
  | zero =>
    intro v2 v3 μ H locs ls hW hl h
    cases h
  | succ n h42 =>
    intro v2 v3 μ H locs ls hW hl h
    have h : X5_feigned_b42 (lo2 (X5_feigned_b42) n) v2 v3 μ = some (r0, μ0) := h
    refine lv_iload_n hx hb dX5_feigned_42 rfl (lv_at hl 2 rfl) ?_
    refine lv_aload_n hx hb dX5_feigned_43 rfl (lv_at hl 0 rfl) ?_
    refine wo_get (C := RX5) (T := TX5) (N := 11) hx hb hts iX5_feigned_5 hown hW kl_17_50_0 cn_o rfl 3 (by decide) (hts _ mX5_feigned_l27) (fun _ h9 => h9) rfl dX5_feigned_44 ?_
    refine wo_get (C := RX4) (T := TX4) (N := 12) hx hb hts iX5_feigned_4 hown hW (kt_o 13 (by decide) (by decide)) (ct_o (by decide) (by decide)) rfl 0 (by decide) (hts _ mX5_feigned_l175) (fun _ h9 => h9) rfl dX5_feigned_47 ?_
    refine lv_icmp_ge (tgt := 80) hx hb dX5_feigned_50 (by decide) (fun c_4 => ?_) (fun c_4 => ?_)
    · have h := ite_p c_4 h
      refine lv_iload_n hx hb dX5_feigned_80 rfl (lv_at hl 1 rfl) ?_
      exact xw_iret C rfl hW dX5_feigned_81 h
    have h := ite_n c_4 h
    refine lv_aload_n hx hb dX5_feigned_53 rfl (lv_at hl 0 rfl) ?_
    refine wo_get (C := RX5) (T := TX5) (N := 11) hx hb hts iX5_feigned_5 hown hW kl_17_50_0 cn_o rfl 8 (by decide) (hts _ mX5_feigned_l56) (fun _ h9 => h9) rfl dX5_feigned_54 ?_
    refine lv_aload_n hx hb dX5_feigned_57 rfl (lv_at hl 0 rfl) ?_
    refine wo_get (C := RX5) (T := TX5) (N := 11) hx hb hts iX5_feigned_5 hown hW kl_17_50_0 cn_o rfl 5 (by decide) (hts _ mX5_feigned_l39) (fun _ h9 => h9) rfl dX5_feigned_58 ?_
    refine lv_iload_n hx hb dX5_feigned_61 rfl (lv_at hl 2 rfl) ?_
    obtain ⟨r_7, μ_6, hh_5, h⟩ := bd_s h
    refine wo_Vi (rest := []) C hW (kX3_allHoldIn l D g ad  hh_5) (cwV 2 hts gX5_feigned_X3_allHoldIn rfl rfl rfl (by decide +kernel) ⟨Nat.le_of_ble_eq_true rfl, Nat.le_of_ble_eq_true rfl⟩) kl_16_50_0 cs_o rfl rfl hl.1 rfl (Nat.le_of_ble_eq_true rfl) dX5_feigned_62 ⟨Nat.zero_le _, Nat.zero_le _⟩ (fun H locs hW => ?_)
    refine lv_if_eq (tgt := 74) hx hb dX5_feigned_65 (by decide) (fun c_8 => ?_) (fun c_8 => ?_)
    · have h := ite_p c_8 h
      exact tX5_feigned_b74 C h42 hW (lv_sub hl [0, 1, 2] rfl) h
    have h := ite_n c_8 h
    refine lv_iload_n hx hb dX5_feigned_68 rfl (lv_at hl 1 rfl) ?_
    refine lv_iconst (v := 1) hx hb dX5_feigned_69 (by decide) ?_
    refine lv_iload_n hx hb dX5_feigned_70 rfl (lv_at hl 2 rfl) ?_
    refine lv_ishl hx hb dX5_feigned_71 ?_
    refine lv_ior hx hb dX5_feigned_72 ?_
    refine lv_istore_n (lv' := [(2, .int (v2 ||| (1 <<< (v3 &&& 31)))), (0, .ref (ad (17, 50, 0))), (3, .int v3)]) hx hb dX5_feigned_73 rfl hl (by decide) rfl (fun ls hl => ?_)
    exact tX5_feigned_b74 C h42 hW (lv_sub hl [1, 0, 2] rfl) h
set_option maxHeartbeats 4000000 in
set_option maxRecDepth 100000 in
theorem kX5_feigned (l : Launch) (D : va_G) (g : G3) (ad : Ky → Nat) {v1 : Int32} {μ μ' : Mem} {r : Int32} (h : X5_feigned v1 μ = some (r, μ')) : CtI l yX5_feigned wsX5_feigned rX5_feigned D (tysX g) keysX ad (cX g ad) [.ref (ad (17, 50, 0)), .int v1] μ r μ' := by
  refine ctI_of (cc := cX5_feigned) (maxL := 4) (ret := (some .int)) keysX_nd (by decide) rfl (Nat.le_of_ble_eq_true rfl) (fun p e s m below meth c A ls C hW hl => ?_)
  have hl : lv_has ls 4 [(0, .ref (ad (17, 50, 0))), (1, .int v1)] := hl
  obtain ⟨hx, hb, hr, hts, hown, hlocks, hml, hA⟩ := id C
  refine lv_iload_n hx hb dX5_feigned_0 rfl (lv_at hl 1 rfl) ?_
  refine lv_if_lt (tgt := 9) hx hb dX5_feigned_1 (by decide) (fun c_1 => ?_) (fun c_1 => ?_)
  · have h := ite_p c_1 h
    refine lv_iconst (v := (-1)) hx hb dX5_feigned_9 (by decide) ?_
    exact xw_iret C rfl hW dX5_feigned_10 h
  have h := ite_n c_1 h
  refine lv_iload_n hx hb dX5_feigned_4 rfl (lv_at hl 1 rfl) ?_
  refine lv_iconst (v := 1) hx hb dX5_feigned_5 (by decide) ?_
  refine lv_icmp_le (tgt := 11) hx hb dX5_feigned_6 (by decide) (fun c_2 => ?_) (fun c_2 => ?_)
  · have h := ite_p c_2 h
    refine lv_iload_n hx hb dX5_feigned_11 rfl (lv_at hl 1 rfl) ?_
    refine lv_iconst (v := 1) hx hb dX5_feigned_12 (by decide) ?_
    refine lv_icmp_ne (tgt := 38) hx hb dX5_feigned_13 (by decide) (fun c_3 => ?_) (fun c_3 => ?_)
    · have h := ite_n c_3 h
      refine lv_iconst (v := 0) hx hb dX5_feigned_38 (by decide) ?_
      refine lv_istore_n (lv' := [(2, .int 0), (0, .ref (ad (17, 50, 0))), (1, .int v1)]) hx hb dX5_feigned_39 rfl hl (by decide) rfl (fun ls hl => ?_)
      refine lv_iconst (v := 0) hx hb dX5_feigned_40 (by decide) ?_
      refine lv_istore_n (lv' := [(3, .int 0), (2, .int 0), (0, .ref (ad (17, 50, 0))), (1, .int v1)]) hx hb dX5_feigned_41 rfl hl (by decide) rfl (fun ls hl => ?_)
      exact tX5_feigned_b42 C 1000 _ _ _ _ _ _ hW (lv_sub hl [2, 1, 0] rfl) h
    have h := ite_p c_3 h
    refine lv_aload_n hx hb dX5_feigned_16 rfl (lv_at hl 0 rfl) ?_
    refine wo_get (C := RX5) (T := TX5) (N := 11) hx hb hts iX5_feigned_5 hown hW kl_17_50_0 cn_o rfl 8 (by decide) (hts _ mX5_feigned_l56) (fun _ h9 => h9) rfl dX5_feigned_17 ?_
    refine lv_aload_n hx hb dX5_feigned_20 rfl (lv_at hl 0 rfl) ?_
    refine wo_get (C := RX5) (T := TX5) (N := 11) hx hb hts iX5_feigned_5 hown hW kl_17_50_0 cn_o rfl 5 (by decide) (hts _ mX5_feigned_l39) (fun _ h9 => h9) rfl dX5_feigned_21 ?_
    refine lv_bipush (v := (-4)) hx hb dX5_feigned_24 (by decide) ?_
    obtain ⟨r_11, μ_10, hh_9, h⟩ := bd_s h
    refine wo_Vi (rest := []) C hW (kX3_allHoldIn l D g ad  hh_9) (cwV 2 hts gX5_feigned_X3_allHoldIn rfl rfl rfl (by decide +kernel) ⟨Nat.le_of_ble_eq_true rfl, Nat.le_of_ble_eq_true rfl⟩) kl_16_50_0 cs_o rfl rfl hl.1 rfl (Nat.le_of_ble_eq_true rfl) dX5_feigned_26 ⟨Nat.zero_le _, Nat.zero_le _⟩ (fun H locs hW => ?_)
    refine lv_if_eq (tgt := 36) hx hb dX5_feigned_29 (by decide) (fun c_12 => ?_) (fun c_12 => ?_)
    · have h := ite_p c_12 h
      refine lv_iconst (v := 0) hx hb dX5_feigned_36 (by decide) ?_
      exact xw_iret C rfl hW dX5_feigned_37 h
    have h := ite_n c_12 h
    refine lv_iconst (v := 1) hx hb dX5_feigned_32 (by decide) ?_
    refine lv_goto (tgt := 37) hx hb dX5_feigned_33 (by decide) ?_
    exact xw_iret C rfl hW dX5_feigned_37 h
  have h := ite_n c_2 h
  refine lv_iconst (v := (-1)) hx hb dX5_feigned_9 (by decide) ?_
  exact xw_iret C rfl hW dX5_feigned_10 h
abbrev rX5_forget : Room := { frames := 0, cells := 0, slots := 0, locals := 0 }
theorem mX5_forget_l56 : Cond.fieldLink RX5 56 "NearlyBought" "sights" "LNearlyBought$Sights;" ∈ wsX5_forget := by decide +kernel
theorem mX5_forget_l167 : Cond.fieldLink RX5 167 "NearlyBought$Sights" "size" "I" ∈ wsX5_forget := by decide +kernel
theorem iX5_forget_3 : ∀ w ∈ wsX30, w ∈ wsX5_forget := fun _ h => List.mem_cons_of_mem _ (List.mem_append_right _ h)
theorem iX5_forget_5 : ∀ w ∈ wsX50, w ∈ wsX5_forget := fun _ h => List.mem_cons_of_mem _ (List.mem_append_left _ (List.mem_append_right _ h))
set_option maxHeartbeats 4000000 in
set_option maxRecDepth 100000 in
theorem kX5_forget (l : Launch) (D : va_G) (g : G3) (ad : Ky → Nat) {μ μ' : Mem} {r : Int32} (h : X5_forget μ = some (r, μ')) : CtI l yX5_forget wsX5_forget rX5_forget D (tysX g) keysX ad (cX g ad) [.ref (ad (17, 50, 0))] μ r μ' := by
  refine ctI_of (cc := cX5_forget) (maxL := 2) (ret := (some .int)) keysX_nd (by decide) rfl (Nat.le_of_ble_eq_true rfl) (fun p e s m below meth c A ls C hW hl => ?_)
  have hl : lv_has ls 2 [(0, .ref (ad (17, 50, 0)))] := hl
  obtain ⟨hx, hb, hr, hts, hown, hlocks, hml, hA⟩ := id C
  refine lv_aload_n hx hb dX5_forget_0 rfl (lv_at hl 0 rfl) ?_
  refine wo_get (C := RX5) (T := TX5) (N := 11) hx hb hts iX5_forget_5 hown hW kl_17_50_0 cn_o rfl 8 (by decide) (hts _ mX5_forget_l56) (fun _ h9 => h9) rfl dX5_forget_1 ?_
  refine wo_get (C := RX3) (T := TX3) (N := 4) hx hb hts iX5_forget_3 hown hW kl_16_50_0 cs_o rfl 3 (by decide) (hts _ mX5_forget_l167) (fun _ h9 => h9) rfl dX5_forget_4 ?_
  refine lv_istore_n (lv' := [(1, .int (μ 16 3 0 0)), (0, .ref (ad (17, 50, 0)))]) hx hb dX5_forget_7 rfl hl (by decide) rfl (fun ls hl => ?_)
  refine lv_aload_n hx hb dX5_forget_8 rfl (lv_at hl 1 rfl) ?_
  refine wo_get (C := RX5) (T := TX5) (N := 11) hx hb hts iX5_forget_5 hown hW kl_17_50_0 cn_o rfl 8 (by decide) (hts _ mX5_forget_l56) (fun _ h9 => h9) rfl dX5_forget_9 ?_
  refine lv_iconst (v := 0) hx hb dX5_forget_12 (by decide) ?_
  refine xw_put (C := RX3) (T := TX3) (N := 4) hx hb hts iX5_forget_3 tyX3 tyX3_ok nmX3 hown hW kl_16_50_0 cs_o rfl 3 (by decide) (hts _ mX5_forget_l167) (fun _ h9 => h9) rfl (by decide +kernel) (Nat.le_of_ble_eq_true rfl) keysX_ok rfl (ps_3 _) dX5_forget_13 (fun H locs hW => ?_)
  refine lv_iload_n hx hb dX5_forget_16 rfl (lv_at hl 0 rfl) ?_
  exact xw_iret C rfl hW dX5_forget_17 h
abbrev rX5_give : Room := { frames := 3, cells := 0, slots := 0, locals := 69 }
theorem mX5_give_l27 : Cond.fieldLink RX5 27 "NearlyBought" "laid" "LNearlyBought$Tale;" ∈ wsX5_give := by decide +kernel
theorem mX5_give_l35 : Cond.fieldLink RX5 35 "NearlyBought" "now" "LNearlyBought$Market;" ∈ wsX5_give := by decide +kernel
theorem mX5_give_l88 : Cond.fieldLink RX5 88 "NearlyBought$Market" "coins" "[I" ∈ wsX5_give := by decide +kernel
theorem mX5_give_l45 : Cond.fieldLink RX5 45 "NearlyBought" "history" "LNearlyBought$History;" ∈ wsX5_give := by decide +kernel
theorem iX5_give_1 : ∀ w ∈ wsX10, w ∈ wsX5_give := fun _ h => List.mem_cons_of_mem _ (List.mem_append_left _ (List.mem_append_left _ (List.mem_append_right _ h)))
theorem iX5_give_5 : ∀ w ∈ wsX50, w ∈ wsX5_give := fun _ h => List.mem_cons_of_mem _ (List.mem_append_left _ (List.mem_append_left _ (List.mem_append_left _ (List.mem_append_right _ h))))
set_option maxHeartbeats 4000000 in
set_option maxRecDepth 100000 in
theorem kX5_give (l : Launch) (D : va_G) (g : G3) (ad : Ky → Nat) {v1 v2 v3 : Int32} {μ μ' : Mem} {r : Int32} (h : X5_give v1 v2 v3 μ = some (r, μ')) : CtI l yX5_give wsX5_give rX5_give D (tysX g) keysX ad (cX g ad) [.ref (ad (17, 50, 0)), .int v1, .int v2, .int v3] μ r μ' := by
  refine ctI_of (cc := cX5_give) (maxL := 4) (ret := (some .int)) keysX_nd (by decide) rfl (Nat.le_of_ble_eq_true rfl) (fun p e s m below meth c A ls C hW hl => ?_)
  have hl : lv_has ls 4 [(0, .ref (ad (17, 50, 0))), (1, .int v1), (2, .int v2), (3, .int v3)] := hl
  obtain ⟨hx, hb, hr, hts, hown, hlocks, hml, hA⟩ := id C
  refine lv_aload_n hx hb dX5_give_0 rfl (lv_at hl 0 rfl) ?_
  refine wo_get (C := RX5) (T := TX5) (N := 11) hx hb hts iX5_give_5 hown hW kl_17_50_0 cn_o rfl 3 (by decide) (hts _ mX5_give_l27) (fun _ h9 => h9) rfl dX5_give_1 ?_
  refine lv_iload_n hx hb dX5_give_4 rfl (lv_at hl 1 rfl) ?_
  obtain ⟨r_3, μ_2, hh_1, h⟩ := bd_s h
  refine wo_Vi (rest := []) C hW (kX4_hasPerson l D g ad (q := 13) (by decide) (by decide) hh_1) (cwV 1 hts gX5_give_X4_hasPerson rfl rfl rfl (by decide +kernel) ⟨Nat.le_of_ble_eq_true rfl, Nat.le_of_ble_eq_true rfl⟩) (kt_o 13 (by decide) (by decide)) (ct_o (by decide) (by decide)) rfl rfl hl.1 rfl (Nat.le_of_ble_eq_true rfl) dX5_give_5 ⟨Nat.zero_le _, Nat.zero_le _⟩ (fun H locs hW => ?_)
  refine lv_if_eq (tgt := 38) hx hb dX5_give_8 (by decide) (fun c_4 => ?_) (fun c_4 => ?_)
  · have h := ite_p c_4 h
    refine lv_iconst (v := (-1)) hx hb dX5_give_38 (by decide) ?_
    exact xw_iret C rfl hW dX5_give_39 h
  have h := ite_n c_4 h
  refine lv_aload_n hx hb dX5_give_11 rfl (lv_at hl 0 rfl) ?_
  refine wo_get (C := RX5) (T := TX5) (N := 11) hx hb hts iX5_give_5 hown hW kl_17_50_0 cn_o rfl 3 (by decide) (hts _ mX5_give_l27) (fun _ h9 => h9) rfl dX5_give_12 ?_
  refine lv_iload_n hx hb dX5_give_15 rfl (lv_at hl 2 rfl) ?_
  obtain ⟨r_7, μ_6, hh_5, h⟩ := bd_s h
  refine wo_Vi (rest := []) C hW (kX4_hasPerson l D g ad (q := 13) (by decide) (by decide) hh_5) (cwV 1 hts gX5_give_X4_hasPerson rfl rfl rfl (by decide +kernel) ⟨Nat.le_of_ble_eq_true rfl, Nat.le_of_ble_eq_true rfl⟩) (kt_o 13 (by decide) (by decide)) (ct_o (by decide) (by decide)) rfl rfl hl.1 rfl (Nat.le_of_ble_eq_true rfl) dX5_give_16 ⟨Nat.zero_le _, Nat.zero_le _⟩ (fun H locs hW => ?_)
  refine lv_if_eq (tgt := 38) hx hb dX5_give_19 (by decide) (fun c_8 => ?_) (fun c_8 => ?_)
  · have h := ite_p c_8 h
    refine lv_iconst (v := (-1)) hx hb dX5_give_38 (by decide) ?_
    exact xw_iret C rfl hW dX5_give_39 h
  have h := ite_n c_8 h
  refine lv_iload_n hx hb dX5_give_22 rfl (lv_at hl 1 rfl) ?_
  refine lv_iload_n hx hb dX5_give_23 rfl (lv_at hl 2 rfl) ?_
  refine lv_icmp_eq (tgt := 38) hx hb dX5_give_24 (by decide) (fun c_9 => ?_) (fun c_9 => ?_)
  · have h := ite_p c_9 h
    refine lv_iconst (v := (-1)) hx hb dX5_give_38 (by decide) ?_
    exact xw_iret C rfl hW dX5_give_39 h
  have h := ite_n c_9 h
  refine lv_iload_n hx hb dX5_give_27 rfl (lv_at hl 3 rfl) ?_
  refine lv_iconst (v := 1) hx hb dX5_give_28 (by decide) ?_
  refine lv_icmp_lt (tgt := 38) hx hb dX5_give_29 (by decide) (fun c_10 => ?_) (fun c_10 => ?_)
  · have h := ite_p c_10 h
    refine lv_iconst (v := (-1)) hx hb dX5_give_38 (by decide) ?_
    exact xw_iret C rfl hW dX5_give_39 h
  have h := ite_n c_10 h
  refine lv_iload_n hx hb dX5_give_32 rfl (lv_at hl 3 rfl) ?_
  refine lv_bipush (v := 99) hx hb dX5_give_33 (by decide) ?_
  refine lv_icmp_le (tgt := 40) hx hb dX5_give_35 (by decide) (fun c_11 => ?_) (fun c_11 => ?_)
  · have h := ite_p c_11 h
    refine lv_aload_n hx hb dX5_give_40 rfl (lv_at hl 0 rfl) ?_
    refine wo_get (C := RX5) (T := TX5) (N := 11) hx hb hts iX5_give_5 hown hW kl_17_50_0 cn_o rfl 4 (by decide) (hts _ mX5_give_l35) (fun _ h9 => h9) rfl dX5_give_41 ?_
    refine wo_get (C := RX1) (T := TX1) (N := 10) hx hb hts iX5_give_1 hown hW (km_o 0 (by decide)) (cm_o (by decide)) rfl 3 (by decide) (hts _ mX5_give_l88) (fun _ h9 => h9) rfl dX5_give_44 ?_
    refine lv_iload_n hx hb dX5_give_47 rfl (lv_at hl 1 rfl) ?_
    obtain ⟨hi_12, h⟩ := gi_s h
    refine xw_ald hx hb hW (km_a 0 (by decide) 3 (by decide) (by decide)) (cm_a (by decide) (by decide)) hi_12 dX5_give_48 ?_
    refine lv_iload_n hx hb dX5_give_49 rfl (lv_at hl 3 rfl) ?_
    refine lv_icmp_ge (tgt := 56) hx hb dX5_give_50 (by decide) (fun c_13 => ?_) (fun c_13 => ?_)
    · have h := ite_p c_13 h
      refine lv_aload_n hx hb dX5_give_56 rfl (lv_at hl 0 rfl) ?_
      refine wo_get (C := RX5) (T := TX5) (N := 11) hx hb hts iX5_give_5 hown hW kl_17_50_0 cn_o rfl 4 (by decide) (hts _ mX5_give_l35) (fun _ h9 => h9) rfl dX5_give_57 ?_
      refine wo_get (C := RX1) (T := TX1) (N := 10) hx hb hts iX5_give_1 hown hW (km_o 0 (by decide)) (cm_o (by decide)) rfl 3 (by decide) (hts _ mX5_give_l88) (fun _ h9 => h9) rfl dX5_give_60 ?_
      refine lv_iload_n hx hb dX5_give_63 rfl (lv_at hl 2 rfl) ?_
      obtain ⟨hi_14, h⟩ := gi_s h
      refine xw_ald hx hb hW (km_a 0 (by decide) 3 (by decide) (by decide)) (cm_a (by decide) (by decide)) hi_14 dX5_give_64 ?_
      refine lv_iload_n hx hb dX5_give_65 rfl (lv_at hl 3 rfl) ?_
      refine lv_iadd hx hb dX5_give_66 ?_
      refine lv_sipush (v := 999) hx hb dX5_give_67 (by decide) ?_
      refine lv_icmp_le (tgt := 76) hx hb dX5_give_70 (by decide) (fun c_15 => ?_) (fun c_15 => ?_)
      · have h := ite_p c_15 h
        refine lv_aload_n hx hb dX5_give_76 rfl (lv_at hl 0 rfl) ?_
        refine wo_get (C := RX5) (T := TX5) (N := 11) hx hb hts iX5_give_5 hown hW kl_17_50_0 cn_o rfl 6 (by decide) (hts _ mX5_give_l45) (fun _ h9 => h9) rfl dX5_give_77 ?_
        refine lv_aload_n hx hb dX5_give_80 rfl (lv_at hl 0 rfl) ?_
        refine wo_get (C := RX5) (T := TX5) (N := 11) hx hb hts iX5_give_5 hown hW kl_17_50_0 cn_o rfl 4 (by decide) (hts _ mX5_give_l35) (fun _ h9 => h9) rfl dX5_give_81 ?_
        obtain ⟨μ_17, hh_16, h⟩ := bdv_s h
        refine wo_Vv (rest := []) C hW (kX0_remember l D g ad  hh_16) (cwV 1 hts gX5_give_X0_remember rfl rfl rfl (by decide +kernel) ⟨Nat.le_of_ble_eq_true rfl, Nat.le_of_ble_eq_true rfl⟩) kl_15_50_0 ch_o rfl rfl hl.1 rfl (Nat.le_of_ble_eq_true rfl) dX5_give_84 ⟨Nat.zero_le _, Nat.zero_le _⟩ (fun H locs hW => ?_)
        refine lv_aload_n hx hb dX5_give_87 rfl (lv_at hl 0 rfl) ?_
        refine wo_get (C := RX5) (T := TX5) (N := 11) hx hb hts iX5_give_5 hown hW kl_17_50_0 cn_o rfl 4 (by decide) (hts _ mX5_give_l35) (fun _ h9 => h9) rfl dX5_give_88 ?_
        refine wo_get (C := RX1) (T := TX1) (N := 10) hx hb hts iX5_give_1 hown hW (km_o 0 (by decide)) (cm_o (by decide)) rfl 3 (by decide) (hts _ mX5_give_l88) (fun _ h9 => h9) rfl dX5_give_91 ?_
        refine lv_iload_n hx hb dX5_give_94 rfl (lv_at hl 1 rfl) ?_
        refine lv_dup2_11 hx hb dX5_give_95 rfl rfl ?_
        obtain ⟨hi_18, h⟩ := gi_s h
        refine xw_ald hx hb hW (km_a 0 (by decide) 3 (by decide) (by decide)) (cm_a (by decide) (by decide)) hi_18 dX5_give_96 ?_
        refine lv_iload_n hx hb dX5_give_97 rfl (lv_at hl 3 rfl) ?_
        refine lv_isub hx hb dX5_give_98 ?_
        obtain ⟨hi_19, h⟩ := gi_s h
        refine xw_ast hx hb hW (km_a 0 (by decide) 3 (by decide) (by decide)) (fun _ => (cm_a (by decide) (by decide))) (am_a 0 (by decide) 3 (by decide) (by decide)) hi_19 dX5_give_99 (fun H locs hW => ?_)
        refine lv_aload_n hx hb dX5_give_100 rfl (lv_at hl 0 rfl) ?_
        refine wo_get (C := RX5) (T := TX5) (N := 11) hx hb hts iX5_give_5 hown hW kl_17_50_0 cn_o rfl 4 (by decide) (hts _ mX5_give_l35) (fun _ h9 => h9) rfl dX5_give_101 ?_
        refine wo_get (C := RX1) (T := TX1) (N := 10) hx hb hts iX5_give_1 hown hW (km_o 0 (by decide)) (cm_o (by decide)) rfl 3 (by decide) (hts _ mX5_give_l88) (fun _ h9 => h9) rfl dX5_give_104 ?_
        refine lv_iload_n hx hb dX5_give_107 rfl (lv_at hl 2 rfl) ?_
        refine lv_dup2_11 hx hb dX5_give_108 rfl rfl ?_
        obtain ⟨hi_20, h⟩ := gi_s h
        refine xw_ald hx hb hW (km_a 0 (by decide) 3 (by decide) (by decide)) (cm_a (by decide) (by decide)) hi_20 dX5_give_109 ?_
        refine lv_iload_n hx hb dX5_give_110 rfl (lv_at hl 3 rfl) ?_
        refine lv_iadd hx hb dX5_give_111 ?_
        obtain ⟨hi_21, h⟩ := gi_s h
        refine xw_ast hx hb hW (km_a 0 (by decide) 3 (by decide) (by decide)) (fun _ => (cm_a (by decide) (by decide))) (am_a 0 (by decide) 3 (by decide) (by decide)) hi_21 dX5_give_112 (fun H locs hW => ?_)
        refine lv_aload_n hx hb dX5_give_113 rfl (lv_at hl 0 rfl) ?_
        refine wo_get (C := RX5) (T := TX5) (N := 11) hx hb hts iX5_give_5 hown hW kl_17_50_0 cn_o rfl 4 (by decide) (hts _ mX5_give_l35) (fun _ h9 => h9) rfl dX5_give_114 ?_
        refine wo_get (C := RX1) (T := TX1) (N := 10) hx hb hts iX5_give_1 hown hW (km_o 0 (by decide)) (cm_o (by decide)) rfl 3 (by decide) (hts _ mX5_give_l88) (fun _ h9 => h9) rfl dX5_give_117 ?_
        refine lv_iload_n hx hb dX5_give_120 rfl (lv_at hl 1 rfl) ?_
        obtain ⟨hi_22, h⟩ := gi_s h
        refine xw_ald hx hb hW (km_a 0 (by decide) 3 (by decide) (by decide)) (cm_a (by decide) (by decide)) hi_22 dX5_give_121 ?_
        exact xw_iret C rfl hW dX5_give_122 h
      have h := ite_n c_15 h
      refine lv_bipush (v := (-3)) hx hb dX5_give_73 (by decide) ?_
      exact xw_iret C rfl hW dX5_give_75 h
    have h := ite_n c_13 h
    refine lv_bipush (v := (-2)) hx hb dX5_give_53 (by decide) ?_
    exact xw_iret C rfl hW dX5_give_55 h
  have h := ite_n c_11 h
  refine lv_iconst (v := (-1)) hx hb dX5_give_38 (by decide) ?_
  exact xw_iret C rfl hW dX5_give_39 h
abbrev rX5_goes : Room := { frames := 6, cells := 0, slots := 0, locals := 134 }
theorem mX5_goes_l27 : Cond.fieldLink RX5 27 "NearlyBought" "laid" "LNearlyBought$Tale;" ∈ wsX5_goes := by decide +kernel
theorem mX5_goes_l39 : Cond.fieldLink RX5 39 "NearlyBought" "trial" "LNearlyBought$Market;" ∈ wsX5_goes := by decide +kernel
theorem mX5_goes_l35 : Cond.fieldLink RX5 35 "NearlyBought" "now" "LNearlyBought$Market;" ∈ wsX5_goes := by decide +kernel
theorem iX5_goes_5 : ∀ w ∈ wsX50, w ∈ wsX5_goes := fun _ h => List.mem_cons_of_mem _ (List.mem_append_left _ (List.mem_append_left _ (List.mem_append_right _ h)))
set_option maxHeartbeats 4000000 in
set_option maxRecDepth 100000 in
theorem kX5_goes (l : Launch) (D : va_G) (g : G3) (ad : Ky → Nat) {v1 : Int32} {μ μ' : Mem} {r : Int32} (h : X5_goes v1 μ = some (r, μ')) : CtI l yX5_goes wsX5_goes rX5_goes D (tysX g) keysX ad (cX g ad) [.ref (ad (17, 50, 0)), .int v1] μ r μ' := by
  refine ctI_of (cc := cX5_goes) (maxL := 2) (ret := (some .int)) keysX_nd (by decide) rfl (Nat.le_of_ble_eq_true rfl) (fun p e s m below meth c A ls C hW hl => ?_)
  have hl : lv_has ls 2 [(0, .ref (ad (17, 50, 0))), (1, .int v1)] := hl
  obtain ⟨hx, hb, hr, hts, hown, hlocks, hml, hA⟩ := id C
  refine lv_aload_n hx hb dX5_goes_0 rfl (lv_at hl 0 rfl) ?_
  refine wo_get (C := RX5) (T := TX5) (N := 11) hx hb hts iX5_goes_5 hown hW kl_17_50_0 cn_o rfl 3 (by decide) (hts _ mX5_goes_l27) (fun _ h9 => h9) rfl dX5_goes_1 ?_
  refine lv_iload_n hx hb dX5_goes_4 rfl (lv_at hl 1 rfl) ?_
  obtain ⟨r_3, μ_2, hh_1, h⟩ := bd_s h
  refine wo_Vi (rest := []) C hW (kX4_hasThing l D g ad (q := 13) (by decide) (by decide) hh_1) (cwV 1 hts gX5_goes_X4_hasThing rfl rfl rfl (by decide +kernel) ⟨Nat.le_of_ble_eq_true rfl, Nat.le_of_ble_eq_true rfl⟩) (kt_o 13 (by decide) (by decide)) (ct_o (by decide) (by decide)) rfl rfl hl.1 rfl (Nat.le_of_ble_eq_true rfl) dX5_goes_5 ⟨Nat.zero_le _, Nat.zero_le _⟩ (fun H locs hW => ?_)
  refine lv_if_ne (tgt := 13) hx hb dX5_goes_8 (by decide) (fun c_4 => ?_) (fun c_4 => ?_)
  · have h := ite_n c_4 h
    refine lv_aload_n hx hb dX5_goes_13 rfl (lv_at hl 0 rfl) ?_
    refine wo_get (C := RX5) (T := TX5) (N := 11) hx hb hts iX5_goes_5 hown hW kl_17_50_0 cn_o rfl 5 (by decide) (hts _ mX5_goes_l39) (fun _ h9 => h9) rfl dX5_goes_14 ?_
    refine lv_aload_n hx hb dX5_goes_17 rfl (lv_at hl 0 rfl) ?_
    refine wo_get (C := RX5) (T := TX5) (N := 11) hx hb hts iX5_goes_5 hown hW kl_17_50_0 cn_o rfl 4 (by decide) (hts _ mX5_goes_l35) (fun _ h9 => h9) rfl dX5_goes_18 ?_
    obtain ⟨μ_6, hh_5, h⟩ := bdv_s h
    refine wo_Vv (rest := []) C hW (kX1_copyFrom l D g ad (q := 1) (q1 := 0) (by decide) (by decide) hh_5) (cwV 1 hts gX5_goes_X1_copyFrom rfl rfl rfl (by decide +kernel) ⟨Nat.le_of_ble_eq_true rfl, Nat.le_of_ble_eq_true rfl⟩) (km_o 1 (by decide)) (cm_o (by decide)) rfl rfl hl.1 rfl (Nat.le_of_ble_eq_true rfl) dX5_goes_21 ⟨Nat.zero_le _, Nat.zero_le _⟩ (fun H locs hW => ?_)
    refine lv_aload_n hx hb dX5_goes_24 rfl (lv_at hl 0 rfl) ?_
    refine wo_get (C := RX5) (T := TX5) (N := 11) hx hb hts iX5_goes_5 hown hW kl_17_50_0 cn_o rfl 5 (by decide) (hts _ mX5_goes_l39) (fun _ h9 => h9) rfl dX5_goes_25 ?_
    refine lv_iload_n hx hb dX5_goes_28 rfl (lv_at hl 1 rfl) ?_
    obtain ⟨r_9, μ_8, hh_7, h⟩ := bd_s h
    refine wo_Vi (rest := []) C hW (kX1_fairsTillGone l D g ad (q := 1) (by decide) hh_7) (cwV 1 hts gX5_goes_X1_fairsTillGone rfl rfl rfl (by decide +kernel) ⟨Nat.le_of_ble_eq_true rfl, Nat.le_of_ble_eq_true rfl⟩) (km_o 1 (by decide)) (cm_o (by decide)) rfl rfl hl.1 rfl (Nat.le_of_ble_eq_true rfl) dX5_goes_29 ⟨Nat.zero_le _, Nat.zero_le _⟩ (fun H locs hW => ?_)
    exact xw_iret C rfl hW dX5_goes_32 h
  have h := ite_p c_4 h
  refine lv_iconst (v := (-1)) hx hb dX5_goes_11 (by decide) ?_
  exact xw_iret C rfl hW dX5_goes_12 h
abbrev rX5_greens : Room := { frames := 5, cells := 0, slots := 0, locals := 112 }
theorem mX5_greens_l39 : Cond.fieldLink RX5 39 "NearlyBought" "trial" "LNearlyBought$Market;" ∈ wsX5_greens := by decide +kernel
theorem mX5_greens_l35 : Cond.fieldLink RX5 35 "NearlyBought" "now" "LNearlyBought$Market;" ∈ wsX5_greens := by decide +kernel
theorem iX5_greens_5 : ∀ w ∈ wsX50, w ∈ wsX5_greens := fun _ h => List.mem_cons_of_mem _ (List.mem_append_left _ (List.mem_append_left _ (List.mem_append_right _ h)))
set_option maxHeartbeats 4000000 in
set_option maxRecDepth 100000 in
theorem tX5_greens_b47 {p : Program} {l : Launch} {e : Env} {s : State} {m : MethodId} {args : Array Value} {below : List Frame} {meth : Method} {c : Code} {A : Nat → Prop} {D : va_G} {g : G3} {ad : Ky → Nat} (C : Cx p s m args meth c cX5_greens (some .int) 5 RX5 wsX5_greens A) {r0 : Int32} {μ0 : Mem} {v1 v2 v3 : Int32} (n : Nat) : ∀ (v4 : Int32) (μ : Mem) (H : Heap) (locs : List Loc) (ls : Array Slot), WX D g keysX ad A s s.heap μ H locs → lv_has ls 5 [(0, .ref (ad (17, 50, 0))), (1, .int v1), (2, .int v2), (3, .int v3), (4, .int v4)] → lo1 (X5_greens_b47 v1 v2 v3) n v4 μ = some (r0, μ0) → TgI r0 p l e rX5_greens s m args below meth c D g keysX ad A μ0 H locs (F0 m 47 ls []) := by
  obtain ⟨hx, hb, hr, hts, hown, hlocks, hml, hA⟩ := id C
  induction n with
  | zero =>
    intro v4 μ H locs ls hW hl h
    cases h
  | succ n h47 =>
    intro v4 μ H locs ls hW hl h
    have h : X5_greens_b47 v1 v2 v3 (lo1 (X5_greens_b47 v1 v2 v3) n) v4 μ = some (r0, μ0) := h
    refine lv_iload hx hb dX5_greens_47 (lv_at hl 4 rfl) ?_
    refine lv_iload_n hx hb dX5_greens_49 rfl (lv_at hl 2 rfl) ?_
    refine lv_icmp_ge (tgt := 77) hx hb dX5_greens_50 (by decide) (fun c_9 => ?_) (fun c_9 => ?_)
    · have h := ite_p c_9 h
      refine lv_iload_n hx hb dX5_greens_77 rfl (lv_at hl 3 rfl) ?_
      refine lv_if_ne (tgt := 91) hx hb dX5_greens_78 (by decide) (fun c_10 => ?_) (fun c_10 => ?_)
      · have h := ite_n c_10 h
        refine lv_aload_n hx hb dX5_greens_91 rfl (lv_at hl 0 rfl) ?_
        refine wo_get (C := RX5) (T := TX5) (N := 11) hx hb hts iX5_greens_5 hown hW kl_17_50_0 cn_o rfl 5 (by decide) (hts _ mX5_greens_l39) (fun _ h9 => h9) rfl dX5_greens_92 ?_
        obtain ⟨r_13, μ_12, hh_11, h⟩ := bd_s h
        refine wo_Vi (rest := []) C hW (kX1_coinsOfAll l D g ad (q := 1) (by decide) hh_11) (cwV 0 hts gX5_greens_X1_coinsOfAll rfl rfl rfl (by decide +kernel) ⟨Nat.le_of_ble_eq_true rfl, Nat.le_of_ble_eq_true rfl⟩) (km_o 1 (by decide)) (cm_o (by decide)) rfl rfl hl.1 rfl (Nat.le_of_ble_eq_true rfl) dX5_greens_95 ⟨Nat.zero_le _, Nat.zero_le _⟩ (fun H locs hW => ?_)
        exact xw_iret C rfl hW dX5_greens_98 h
      have h := ite_p c_10 h
      refine lv_aload_n hx hb dX5_greens_81 rfl (lv_at hl 0 rfl) ?_
      refine wo_get (C := RX5) (T := TX5) (N := 11) hx hb hts iX5_greens_5 hown hW kl_17_50_0 cn_o rfl 5 (by decide) (hts _ mX5_greens_l39) (fun _ h9 => h9) rfl dX5_greens_82 ?_
      obtain ⟨r_16, μ_15, hh_14, h⟩ := bd_s h
      refine wo_Vi (rest := []) C hW (kX1_thingsGone l D g ad (q := 1) (by decide) hh_14) (cwV 0 hts gX5_greens_X1_thingsGone rfl rfl rfl (by decide +kernel) ⟨Nat.le_of_ble_eq_true rfl, Nat.le_of_ble_eq_true rfl⟩) (km_o 1 (by decide)) (cm_o (by decide)) rfl rfl hl.1 rfl (Nat.le_of_ble_eq_true rfl) dX5_greens_85 ⟨Nat.zero_le _, Nat.zero_le _⟩ (fun H locs hW => ?_)
      refine lv_goto (tgt := 98) hx hb dX5_greens_88 (by decide) ?_
      exact xw_iret C rfl hW dX5_greens_98 h
    have h := ite_n c_9 h
    refine lv_aload_n hx hb dX5_greens_53 rfl (lv_at hl 0 rfl) ?_
    refine lv_iload_n hx hb dX5_greens_54 rfl (lv_at hl 1 rfl) ?_
    refine lv_iload hx hb dX5_greens_55 (lv_at hl 4 rfl) ?_
    obtain ⟨r_19, μ_18, hh_17, h⟩ := bd_s h
    refine wo_Si (rest := [.ref (ad (17, 50, 0))]) C hW (kX5_draw l D g ad  hh_17) (cwS 2 hts gX5_greens_X5_draw rfl rfl rfl (by decide +kernel) ⟨Nat.le_of_ble_eq_true rfl, Nat.le_of_ble_eq_true rfl⟩) rfl hl.1 rfl (Nat.le_of_ble_eq_true rfl) dX5_greens_57 ⟨Nat.zero_le _, Nat.zero_le _⟩ (fun H locs hW => ?_)
    obtain ⟨μ_21, hh_20, h⟩ := bdv_s h
    refine wo_Vv (rest := []) C hW (kX5_addDrawnPause l D g ad  hh_20) (cwV 1 hts gX5_greens_X5_addDrawnPause rfl rfl rfl (by decide +kernel) ⟨Nat.le_of_ble_eq_true rfl, Nat.le_of_ble_eq_true rfl⟩) kl_17_50_0 cn_o rfl rfl hl.1 rfl (Nat.le_of_ble_eq_true rfl) dX5_greens_60 ⟨Nat.zero_le _, Nat.zero_le _⟩ (fun H locs hW => ?_)
    refine lv_aload_n hx hb dX5_greens_63 rfl (lv_at hl 0 rfl) ?_
    refine wo_get (C := RX5) (T := TX5) (N := 11) hx hb hts iX5_greens_5 hown hW kl_17_50_0 cn_o rfl 5 (by decide) (hts _ mX5_greens_l39) (fun _ h9 => h9) rfl dX5_greens_64 ?_
    obtain ⟨r_24, μ_23, hh_22, h⟩ := bd_s h
    refine wo_Vi (rest := []) C hW (kX1_holdFair l D g ad (q := 1) (by decide) hh_22) (cwV 0 hts gX5_greens_X1_holdFair rfl rfl rfl (by decide +kernel) ⟨Nat.le_of_ble_eq_true rfl, Nat.le_of_ble_eq_true rfl⟩) (km_o 1 (by decide)) (cm_o (by decide)) rfl rfl hl.1 rfl (Nat.le_of_ble_eq_true rfl) dX5_greens_67 ⟨Nat.zero_le _, Nat.zero_le _⟩ (fun H locs hW => ?_)
    refine lv_pop hx hb dX5_greens_70 rfl ?_
    refine lv_iinc (v := v4 + 1) (lv' := [(4, .int (v4 + 1)), (0, .ref (ad (17, 50, 0))), (1, .int v1), (2, .int v2), (3, .int v3)]) hx hb dX5_greens_71 hl (k := 4) rfl rfl (by decide) rfl (fun ls hl => ?_)
    refine lv_goto (tgt := 47) hx hb dX5_greens_74 (by decide) ?_
    exact h47 _ _ _ _ _ hW (lv_sub hl [1, 2, 3, 4, 0] rfl) h
set_option maxHeartbeats 4000000 in
set_option maxRecDepth 100000 in
theorem kX5_greens (l : Launch) (D : va_G) (g : G3) (ad : Ky → Nat) {v1 v2 v3 : Int32} {μ μ' : Mem} {r : Int32} (h : X5_greens v1 v2 v3 μ = some (r, μ')) : CtI l yX5_greens wsX5_greens rX5_greens D (tysX g) keysX ad (cX g ad) [.ref (ad (17, 50, 0)), .int v1, .int v2, .int v3] μ r μ' := by
  refine ctI_of (cc := cX5_greens) (maxL := 5) (ret := (some .int)) keysX_nd (by decide) rfl (Nat.le_of_ble_eq_true rfl) (fun p e s m below meth c A ls C hW hl => ?_)
  have hl : lv_has ls 5 [(0, .ref (ad (17, 50, 0))), (1, .int v1), (2, .int v2), (3, .int v3)] := hl
  obtain ⟨hx, hb, hr, hts, hown, hlocks, hml, hA⟩ := id C
  refine lv_iload_n hx hb dX5_greens_0 rfl (lv_at hl 1 rfl) ?_
  refine lv_if_lt (tgt := 31) hx hb dX5_greens_1 (by decide) (fun c_1 => ?_) (fun c_1 => ?_)
  · have h := ite_p c_1 h
    refine lv_iconst (v := (-1)) hx hb dX5_greens_31 (by decide) ?_
    exact xw_iret C rfl hW dX5_greens_32 h
  have h := ite_n c_1 h
  refine lv_iload_n hx hb dX5_greens_4 rfl (lv_at hl 1 rfl) ?_
  refine lv_sipush (v := 9999) hx hb dX5_greens_5 (by decide) ?_
  refine lv_icmp_gt (tgt := 31) hx hb dX5_greens_8 (by decide) (fun c_2 => ?_) (fun c_2 => ?_)
  · have h := ite_p c_2 h
    refine lv_iconst (v := (-1)) hx hb dX5_greens_31 (by decide) ?_
    exact xw_iret C rfl hW dX5_greens_32 h
  have h := ite_n c_2 h
  refine lv_iload_n hx hb dX5_greens_11 rfl (lv_at hl 2 rfl) ?_
  refine lv_iconst (v := 1) hx hb dX5_greens_12 (by decide) ?_
  refine lv_icmp_lt (tgt := 31) hx hb dX5_greens_13 (by decide) (fun c_3 => ?_) (fun c_3 => ?_)
  · have h := ite_p c_3 h
    refine lv_iconst (v := (-1)) hx hb dX5_greens_31 (by decide) ?_
    exact xw_iret C rfl hW dX5_greens_32 h
  have h := ite_n c_3 h
  refine lv_iload_n hx hb dX5_greens_16 rfl (lv_at hl 2 rfl) ?_
  refine lv_bipush (v := 9) hx hb dX5_greens_17 (by decide) ?_
  refine lv_icmp_gt (tgt := 31) hx hb dX5_greens_19 (by decide) (fun c_4 => ?_) (fun c_4 => ?_)
  · have h := ite_p c_4 h
    refine lv_iconst (v := (-1)) hx hb dX5_greens_31 (by decide) ?_
    exact xw_iret C rfl hW dX5_greens_32 h
  have h := ite_n c_4 h
  refine lv_iload_n hx hb dX5_greens_22 rfl (lv_at hl 3 rfl) ?_
  refine lv_if_lt (tgt := 31) hx hb dX5_greens_23 (by decide) (fun c_5 => ?_) (fun c_5 => ?_)
  · have h := ite_p c_5 h
    refine lv_iconst (v := (-1)) hx hb dX5_greens_31 (by decide) ?_
    exact xw_iret C rfl hW dX5_greens_32 h
  have h := ite_n c_5 h
  refine lv_iload_n hx hb dX5_greens_26 rfl (lv_at hl 3 rfl) ?_
  refine lv_iconst (v := 1) hx hb dX5_greens_27 (by decide) ?_
  refine lv_icmp_le (tgt := 33) hx hb dX5_greens_28 (by decide) (fun c_6 => ?_) (fun c_6 => ?_)
  · have h := ite_p c_6 h
    refine lv_aload_n hx hb dX5_greens_33 rfl (lv_at hl 0 rfl) ?_
    refine wo_get (C := RX5) (T := TX5) (N := 11) hx hb hts iX5_greens_5 hown hW kl_17_50_0 cn_o rfl 5 (by decide) (hts _ mX5_greens_l39) (fun _ h9 => h9) rfl dX5_greens_34 ?_
    refine lv_aload_n hx hb dX5_greens_37 rfl (lv_at hl 0 rfl) ?_
    refine wo_get (C := RX5) (T := TX5) (N := 11) hx hb hts iX5_greens_5 hown hW kl_17_50_0 cn_o rfl 4 (by decide) (hts _ mX5_greens_l35) (fun _ h9 => h9) rfl dX5_greens_38 ?_
    obtain ⟨μ_8, hh_7, h⟩ := bdv_s h
    refine wo_Vv (rest := []) C hW (kX1_copyFrom l D g ad (q := 1) (q1 := 0) (by decide) (by decide) hh_7) (cwV 1 hts gX5_greens_X1_copyFrom rfl rfl rfl (by decide +kernel) ⟨Nat.le_of_ble_eq_true rfl, Nat.le_of_ble_eq_true rfl⟩) (km_o 1 (by decide)) (cm_o (by decide)) rfl rfl hl.1 rfl (Nat.le_of_ble_eq_true rfl) dX5_greens_41 ⟨Nat.zero_le _, Nat.zero_le _⟩ (fun H locs hW => ?_)
    refine lv_iconst (v := 0) hx hb dX5_greens_44 (by decide) ?_
    refine lv_istore (lv' := [(4, .int 0), (0, .ref (ad (17, 50, 0))), (1, .int v1), (2, .int v2), (3, .int v3)]) hx hb dX5_greens_45 hl (by decide) rfl (fun ls hl => ?_)
    exact tX5_greens_b47 C 1000 _ _ _ _ _ hW (lv_sub hl [1, 2, 3, 4, 0] rfl) h
  have h := ite_n c_6 h
  refine lv_iconst (v := (-1)) hx hb dX5_greens_31 (by decide) ?_
  exact xw_iret C rfl hW dX5_greens_32 h
