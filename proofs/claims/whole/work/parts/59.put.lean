/-! putFirstText: the class's own text, letter by letter -/
abbrev FTXT : String := "p0,20;p1,8;p2,35;p3,4;t30;t6;t14;t9;a0,0,12,0;a1,0,9,0;a2,2,3,0;a3,3,5,0;a0,1,10,1;a1,3,9,0;a2,1,2,1;e5;g2;"
def pfM (μ : Mem) (k : Nat) : Mem := xa (xs μ 17 9 0 0 107) 17 0 0 (fun j => if j < k then ftA j else μ 17 0 0 j)
theorem pfM_0 (μ : Mem) : pfM μ 0 = xs μ 17 9 0 0 107 := by
  funext q f i j
  unfold pfM xa
  by_cases h : q = 17 ∧ f = 0 ∧ i = 0
  · rw [if_pos h]
    dsimp only
    rw [if_neg (Nat.not_lt_zero j)]
    obtain ⟨rfl, rfl, rfl⟩ := h
    exact (xs_f μ (by decide)).symm
  · rw [if_neg h]
theorem pfM_s (μ : Mem) (k : Nat) : xs (pfM μ k) 17 0 0 k (ftA k) = pfM μ (k + 1) := by
  unfold pfM
  rw [xs_xa, xa_row, xa_xa]
  congr 1
  funext j
  unfold upd
  by_cases h : j = k
  · subst h
    rw [if_pos rfl, if_pos (Nat.lt_succ_self j)]
  · rw [if_neg h]
    dsimp only
    by_cases h2 : j < k
    · rw [if_pos h2, if_pos (by omega)]
    · rw [if_neg h2, if_neg (by omega)]
theorem pfM_9 (μ : Mem) (k : Nat) : pfM μ k 17 9 0 0 = 107 := by
  unfold pfM
  rw [xa_fr _ (by omega), xs_self]
theorem pfM_t (μ : Mem) (k : Nat) {j : Nat} (hj : j < k) : pfM μ k 17 0 0 j = ftA j := by
  unfold pfM
  rw [xa_row, if_pos hj]
theorem pfM_o (μ : Mem) (k : Nat) {q : Nat} (hq : q ≠ 17) : pfM μ k q = μ q := by
  funext f i
  unfold pfM
  rw [xa_fr _ (by omega), xs_fr _ (by omega)]
abbrev rX5_put : Room := { frames := 4, cells := 0, slots := 0, locals := 85 }
section PF
variable {p : Program} {l : Launch} {e : Env} {R : Room} {s : State} {m : MethodId} {args : Array Value} {below : List Frame} {meth : Method} {c : Code} {H : Heap} {locs : List Loc} {cells slots : Nat} {Q : State → Prop}
variable {pc : Nat} {ls : Array Slot} {rest st0 : List Value} {A : Nat → Prop} {q v : Nat} {z : Option Nat} {D : va_G} {g : G3} {ad : Ky → Nat} {tys : List (ClassId × FieldType)} {ks : List Ky} {ce : Ky → va_E} {H0 : Heap}
theorem wo_lt (hW : Wo D tys ks ad A s H0 ce H locs) {k : Ky} (hk : k ∈ ks) : ad k < H.size := by
  obtain ⟨i, -, hi⟩ := ky_at (ad := ad) (ce := ce) hk
  exact (hW.2.1 i _ hi).lt
theorem wo_still {H1 : Heap} {locs1 : List Loc} (hW : Wo D tys ks ad A s H0 ce H locs) (hk : ∀ x : Nat, x < H.size → H1[x]? = H[x]?) (hS : va_S A H0 H1 locs1) : Wo D tys ks ad A s H0 ce H1 locs1 :=
  wo2_keep hW (fun k h => hk _ (wo_lt hW h)) hS
set_option maxHeartbeats 4000000 in
set_option maxRecDepth 100000 in
theorem tPF_17 (C : Cx p s m args meth c cX5_putFirstText none 2 RX5 wsX5_putFirstText A) (hE : SC q v z A s s.heap) (hR : vk_R "NearlyBought" 204 FTXT q s) {μ : Mem} (n : Nat) : ∀ (k : Nat) (H : Heap) (locs : List Loc) (ls : Array Slot), k + n = 107 → WX D g keysX ad A s s.heap (pfM μ k) H locs → lv_has ls 2 [(0, .ref (ad (17, 50, 0))), (1, .int (nI k))] → TgV p l e rX5_put s m args below meth c D g keysX ad A (pfM μ 107) H locs (F0 m 17 ls []) := by
  obtain ⟨hx, hb, hr, hts, hown, hlocks, hml, hA⟩ := id C
  induction n with
  | zero =>
    intro k H locs ls hk hW hl
    have hk : k = 107 := by omega
    subst hk
    refine lv_iload_n hx hb dX5_putFirstText_17 rfl (lv_at hl 1 rfl) ?_
    refine lv_aload_n hx hb dX5_putFirstText_18 rfl (lv_at hl 0 rfl) ?_
    refine wo_get (C := RX5) (T := TX5) (N := 11) hx hb hts (by decide +kernel) hown hW kl_17_50_0 cn_o rfl 9 (by decide) (hts (.fieldLink RX5 66 "NearlyBought" "textLength" "I") (by decide +kernel)) (fun _ h9 => h9) rfl dX5_putFirstText_19 ?_
    rw [pfM_9]
    refine lv_icmp_ge (tgt := 43) hx hb dX5_putFirstText_22 (by decide) (fun _ => ?_) (fun c0 => absurd (by decide) c0)
    exact wo_vret C rfl hW dX5_putFirstText_43
  | succ n ih =>
    intro k H locs ls hk hW hl
    have hk7 : k < 107 := by omega
    refine lv_iload_n hx hb dX5_putFirstText_17 rfl (lv_at hl 1 rfl) ?_
    refine lv_aload_n hx hb dX5_putFirstText_18 rfl (lv_at hl 0 rfl) ?_
    refine wo_get (C := RX5) (T := TX5) (N := 11) hx hb hts (by decide +kernel) hown hW kl_17_50_0 cn_o rfl 9 (by decide) (hts (.fieldLink RX5 66 "NearlyBought" "textLength" "I") (by decide +kernel)) (fun _ h9 => h9) rfl dX5_putFirstText_19 ?_
    rw [pfM_9]
    refine lv_icmp_ge (tgt := 43) hx hb dX5_putFirstText_22 (by decide) (fun c0 => absurd c0 (nI_ge (a := k) (b := 107) hk7 (by omega))) (fun _ => ?_)
    refine lv_aload_n hx hb dX5_putFirstText_25 rfl (lv_at hl 0 rfl) ?_
    refine wo_get (C := RX5) (T := TX5) (N := 11) hx hb hts (by decide +kernel) hown hW kl_17_50_0 cn_o rfl 0 (by decide) (hts (.fieldLink RX5 9 "NearlyBought" "text" "[I") (by decide +kernel)) (fun _ h9 => h9) rfl dX5_putFirstText_26 ?_
    refine lv_iload_n hx hb dX5_putFirstText_29 rfl (lv_at hl 1 rfl) ?_
    refine va_ldcS hx hb hown hR dX5_putFirstText_30 ?_
    refine lv_iload_n hx hb dX5_putFirstText_32 rfl (lv_at hl 1 rfl) ?_
    refine sc_V (As := [.int (nI k)]) (rest := [.int (nI k), .ref (ad (17, 0, 0))]) C hE hW.2.2.2.1 (kJ_charAt l q v z hk7) (cwV 1 hts gX5_putFirstText_J0_charAt_5068e rfl rfl rfl (by decide +kernel) ⟨Nat.le_of_ble_eq_true rfl, Nat.le_of_ble_eq_true rfl⟩) rfl hl.1 rfl (Nat.le_of_ble_eq_true rfl) dX5_putFirstText_33 ⟨Nat.zero_le _, Nat.zero_le _⟩ (fun H locs _ hk9 hS => ?_)
    have hW := wo_still hW hk9 hS
    refine xw_ast hx hb hW kl_17_0_0 (fun _ => rfl) rfl (vp_in_nI (n := k) (N := 200) (by omega) (by omega)) dX5_putFirstText_36 (fun H locs hW => ?_)
    rw [nI_clamp (by omega), pfM_s] at hW
    refine lv_iinc (v := nI (k + 1)) (lv' := [(1, .int (nI (k + 1))), (0, .ref (ad (17, 50, 0)))]) hx hb dX5_putFirstText_37 hl (k := 1) rfl (by rw [nI_succ]; rfl) (by decide) rfl (fun ls hl => ?_)
    refine lv_goto (tgt := 17) hx hb dX5_putFirstText_40 (by decide) ?_
    exact ih (k + 1) _ _ _ (by omega) hW (lv_sub hl [1, 0] rfl)
end PF
def CtPF (l : Launch) (q v : Nat) (z : Option Nat) (D : va_G) (g : G3) (ad : Ky → Nat) (μ : Mem) : Prop := ∀ sz : Nat, Met l yX5_putFirstText wsX5_putFirstText rX5_put (va_Pc [.ref (ad (17, 50, 0))] (fun U => (U.heap.size = sz ∧ Wp D (tysX g) keysX ad (fun _ => True) (cX g ad μ) U) ∧ SC q v z (ky_fr keysX ad sz) U U.heap ∧ vk_R "NearlyBought" 204 FTXT q U)) (va_Qv (fun (u : Mem) => u = pfM μ 107) (fun u t => Wp D (tysX g) keysX ad (ky_fr keysX ad sz) (cX g ad u) t) (ky_fr keysX ad sz)) 0 0 (ky_fr keysX ad sz)
set_option maxHeartbeats 4000000 in
set_option maxRecDepth 100000 in
theorem kX5_put (l : Launch) (q v : Nat) (z : Option Nat) (D : va_G) (g : G3) (ad : Ky → Nat) (μ : Mem) : CtPF l q v z D g ad μ := by
  intro sz
  refine Met.ofW (cc := cX5_putFirstText) (maxL := 2) (ret := none) (by decide) rfl ?_
  intro p e s m args below meth c s₁ B hml hv
  obtain ⟨rfl, hv, hE, hR⟩ := hv
  obtain ⟨-, hsz, C, hW⟩ := wo_start B hml keysX_nd ⟨rfl, hv⟩
  rw [lg_entry_eq]
  have hl := lv_entry ([.ref (ad (17, 50, 0))]) (n := 2) (Nat.le_of_ble_eq_true rfl)
  generalize (lg_sl ([.ref (ad (17, 50, 0))]) ++ List.replicate (2 - (lg_sl ([.ref (ad (17, 50, 0))])).length) Slot.unset).toArray = ls at hl ⊢
  have hl : lv_has ls 2 [(0, .ref (ad (17, 50, 0)))] := hl
  generalize hAe : ky_fr keysX ad sz = A at C hW hE ⊢
  obtain ⟨hx, hb, hr, hts, hown, hlocks, hml, hA⟩ := id C
  refine lv_aload_n hx hb dX5_putFirstText_0 rfl (lv_at hl 0 rfl) ?_
  refine va_ldcS hx hb hown hR dX5_putFirstText_1 ?_
  refine sc_V (As := []) (rest := [.ref (ad (17, 50, 0))]) C hE hW.2.2.2.1 (kJ_length l q v z) (cwV 0 hts gX5_putFirstText_J0_length_8abf5 rfl rfl rfl (by decide +kernel) ⟨Nat.le_of_ble_eq_true rfl, Nat.le_of_ble_eq_true rfl⟩) rfl hl.1 rfl (Nat.le_of_ble_eq_true rfl) dX5_putFirstText_3 ⟨Nat.zero_le _, Nat.zero_le _⟩ (fun H locs _ hk9 hS => ?_)
  have hW := wo_still hW hk9 hS
  refine lv_sipush (v := 200) hx hb dX5_putFirstText_6 (by decide) ?_
  refine va_mmin (ls := ls) (rest := [.ref (ad (17, 50, 0))]) hx hb (hml.trans hl.1.symm) hown (hts _ (by decide +kernel)) (hts _ (by decide +kernel)) (hts _ (by decide +kernel)) (hts _ (by decide +kernel)) (Nat.le_of_ble_eq_true rfl) (Nat.le_of_ble_eq_true rfl) (Nat.zero_le _) (Nat.zero_le _) dX5_putFirstText_9 ?_
  rw [show (if (200 : Int32) < 107 then (200 : Int32) else 107) = 107 from by decide]
  refine xw_put (C := RX5) (T := TX5) (N := 11) hx hb hts (by decide +kernel) tyX5 tyX5_ok nmX5 hown hW kl_17_50_0 cn_o rfl 9 (by decide) (hts (.fieldLink RX5 66 "NearlyBought" "textLength" "I") (by decide +kernel)) (fun _ h9 => h9) rfl (by decide +kernel) (Nat.le_of_ble_eq_true rfl) keysX_ok rfl (pn_9 _) dX5_putFirstText_12 (fun H locs hW => ?_)
  rw [← pfM_0] at hW
  refine lv_iconst (v := 0) hx hb dX5_putFirstText_15 (by decide) ?_
  refine lv_istore_n (lv' := [(1, .int 0), (0, .ref (ad (17, 50, 0)))]) hx hb dX5_putFirstText_16 rfl hl (by decide) rfl (fun ls hl => ?_)
  exact tPF_17 C hE hR 107 0 _ _ _ rfl hW (lv_sub hl [1, 0] rfl)
