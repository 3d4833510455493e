/-! THE CLASS'S OWN TEXT, as the machine holds it, and the methods of String that read it -/
def SC (q v : Nat) (z : Option Nat) (A : Nat → Prop) (U : State) (H : Heap) : Prop := va_O "java/lang/String" q A U H ∧ va_OF "java/lang/String" "coder" "B" (.int 0) q A U H ∧ va_OF "java/lang/String" "value" "[B" (.ref v) q A U H ∧ va_T .byte v 107 (fun j => .int (ftA j)) A U H ∧ va_Z "java/lang/String" "COMPACT_STRINGS" "Z" (.int 1) A U H ∧ va_Z "jdk/internal/util/Preconditions" "SIOOBE_FORMATTER" "Ljava/util/function/BiFunction;" (va_rf z) A U H
theorem SC.moved {q v : Nat} {z : Option Nat} {A : Nat → Prop} {u U : State} {H : Heap} (hvm : u.vm.Alike U.vm) (h : SC q v z A u H) : SC q v z A U H :=
  ⟨va_O.moved hvm h.1, va_OF.moved hvm h.2.1, va_OF.moved hvm h.2.2.1, va_T.moved hvm h.2.2.2.1, va_Z.moved hvm h.2.2.2.2.1, va_Z.moved hvm h.2.2.2.2.2⟩
theorem SC.kept {q v : Nat} {z : Option Nat} {A : Nat → Prop} {U : State} {H H1 : Heap} (h : SC q v z A U H) (hq : ∀ a : Nat, a < H.size → ¬ A a → H1[a]? = H[a]?) : SC q v z A U H1 :=
  ⟨h.1.kept hq, h.2.1.kept hq, h.2.2.1.kept hq, h.2.2.2.1.kept hq, h.2.2.2.2.1.kept hq, h.2.2.2.2.2.kept hq⟩
theorem SC.narrow {q v : Nat} {z : Option Nat} {A B : Nat → Prop} {U : State} {H : Heap} (h : SC q v z A U H) (hAB : ∀ a, B a → A a) : SC q v z B U H :=
  ⟨h.1.narrow hAB, h.2.1.narrow hAB, h.2.2.1.narrow hAB, h.2.2.2.1.narrow hAB, h.2.2.2.2.1.narrow hAB, h.2.2.2.2.2.narrow hAB⟩
def nF : Nat → Prop := fun _ => False
def CtS (l : Launch) (y : MethodName) (ws : List Cond) (rm : Room) (q v : Nat) (z : Option Nat) (as : List Value) (r : Int32) : Prop := Met l y ws rm (va_Pc as (fun U => SC q v z nF U U.heap)) (va_Qi (fun (r1 : Int32) (_ : Unit) => r1 = r) (fun _ _ => True) nF) 0 0 nF
def CtSV (l : Launch) (y : MethodName) (ws : List Cond) (rm : Room) (q v : Nat) (z : Option Nat) (as : List Value) : Prop := Met l y ws rm (va_Pc as (fun U => SC q v z nF U U.heap)) (va_Qv (fun (_ : Unit) => True) (fun _ _ => True) nF) 0 0 nF
theorem sc_blind {q v : Nat} {z : Option Nat} {as : List Value} : FrameBlind (va_Pc as (fun U => SC q v z nF U U.heap)) := by
  intro a U g mk h
  obtain ⟨q0, h⟩ := h
  exact ⟨q0, SC.moved (u := U) (U := U.calling g mk a) (Vm.Alike.refl U.vm) h⟩
section SCW
variable {p : Program} {l : Launch} {e : Env} {R : Room} {s : State} {m : MethodId} {args : Array Value} {below : List Frame} {meth : Method} {c : Code} {H : Heap} {locs : List Loc} {cells slots : Nat} {Q : State → Prop}
variable {pc : Nat} {ls : Array Slot} {rest st0 : List Value} {A A' : Nat → Prop} {q v : Nat} {z : Option Nat}
variable {cc bytes : ByteArray} {ret rt : Option FieldType} {nL maxL index n : Nat} {own : String} {Ts ws : List Cond} {rm : Room} {y : MethodName} {As : List Value}
theorem sc_pre {as : List Value} (hE : SC q v z A s s.heap) (hS : va_S A s.heap H locs) : ∀ U : State, U.heap = H → s.WarmedH U.vm → va_Pc as (fun U => SC q v z nF U U.heap) as.toArray U :=
  fun U hU hW => ⟨rfl, by show SC q v z nF U U.heap; rw [hU]; exact ((hE.kept hS.2.1).narrow (fun _ h => h.elim)).moved hW.alike⟩
theorem sc_recv (hE : SC q v z A s s.heap) (hS : va_S A s.heap H locs) : ∃ cell : Cell, H[q]? = some cell ∧ cell.vm.isStatics = false ∧ s.vm.findClass "java/lang/String" = some cell.cls := by
  obtain ⟨cell, h1, h2, h3, -⟩ := hE.1.kept hS.2.1
  exact ⟨cell, h1, h2, h3⟩
theorem sc_V {r : Int32} (S : Cx p s m args meth c cc ret nL own Ts A') (hE : SC q v z A s s.heap) (hS : va_S A s.heap H locs) (hM : CtS l y ws rm q v z (.ref q :: As) r) (cw : CallW R s args own "java/lang/String" index y bytes maxL rt ws rm 0 0 n) (hn : As.length = n) (hsize : ls.size = nL) (hstack : st0 = As.reverse ++ .ref q :: rest) (hr8 : (rest.map fun v => v.category).sum ≤ 8) (hdg : decode cc pc = .ok (.invokevirtual index, 3)) (hcs : cells ≤ R.cells ∧ slots ≤ R.slots)
    (kk : ∀ (H1 : Heap) (locs1 : List Loc), H.size ≤ H1.size → (∀ x : Nat, x < H.size → H1[x]? = H[x]?) → va_S A s.heap H1 locs1 → W p l e R s m args below meth c H1 locs1 cells slots Q (F0 m (pc + 3) ls (.int r :: rest))) : W p l e R s m args below meth c H locs cells slots Q (F0 m pc ls st0) := by
  obtain ⟨hx, hb, -, hts, hown, -, hml, -⟩ := S
  refine va_calli (va_runV (C := "java/lang/String") ⟨hx, hb, hml, hown, hts⟩ hM cw ⟨sc_blind, sc_recv hE hS, sc_pre hE hS⟩ rfl hn hsize hstack (lv_room hr8) hdg hcs) hS (fun _ _ h => h.elim) (fun _ h => h.elim) (fun r1 u t H1 locs1 ht hvm hp hB hz hk hS1 => ?_)
  subst hp
  exact kk H1 locs1 hz (fun x hx => hk x hx (fun h => h)) hS1
theorem sc_S {r : Int32} (S : Cx p s m args meth c cc ret nL own Ts A') (hE : SC q v z A s s.heap) (hS : va_S A s.heap H locs) (hM : CtS l y ws rm q v z As r) (cw : CallB R s args own index y bytes maxL rt ws rm 0 0 n ∧ (Cond.static y).before args s = true) (hn : As.length = n) (hsize : ls.size = nL) (hstack : st0 = As.reverse ++ rest) (hr8 : (rest.map fun v => v.category).sum ≤ 8) (hdg : decode cc pc = .ok (.invokestatic index, 3)) (hcs : cells ≤ R.cells ∧ slots ≤ R.slots)
    (kk : ∀ (H1 : Heap) (locs1 : List Loc), va_S A s.heap H1 locs1 → W p l e R s m args below meth c H1 locs1 cells slots Q (F0 m (pc + 3) ls (.int r :: rest))) : W p l e R s m args below meth c H locs cells slots Q (F0 m pc ls st0) := by
  obtain ⟨hx, hb, -, hts, hown, -, hml, -⟩ := S
  refine va_calli (va_runS ⟨hx, hb, hml, hown, hts⟩ hM cw ⟨sc_blind, sc_pre hE hS⟩ rfl hn hsize hstack (lv_room hr8) hdg hcs) hS (fun _ _ h => h.elim) (fun _ h => h.elim) (fun r1 u t H1 locs1 ht hvm hp hB hz hk hS1 => ?_)
  subst hp
  exact kk H1 locs1 hS1
theorem sc_Sv (S : Cx p s m args meth c cc ret nL own Ts A') (hE : SC q v z A s s.heap) (hS : va_S A s.heap H locs) (hM : CtSV l y ws rm q v z As) (cw : CallB R s args own index y bytes maxL rt ws rm 0 0 n ∧ (Cond.static y).before args s = true) (hn : As.length = n) (hsize : ls.size = nL) (hstack : st0 = As.reverse ++ rest) (hr8 : (rest.map fun v => v.category).sum ≤ 8) (hdg : decode cc pc = .ok (.invokestatic index, 3)) (hcs : cells ≤ R.cells ∧ slots ≤ R.slots)
    (kk : ∀ (H1 : Heap) (locs1 : List Loc), va_S A s.heap H1 locs1 → W p l e R s m args below meth c H1 locs1 cells slots Q (F0 m (pc + 3) ls rest)) : W p l e R s m args below meth c H locs cells slots Q (F0 m pc ls st0) := by
  obtain ⟨hx, hb, -, hts, hown, -, hml, -⟩ := S
  exact va_callv (va_runS ⟨hx, hb, hml, hown, hts⟩ hM cw ⟨sc_blind, sc_pre hE hS⟩ rfl hn hsize hstack (lv_room hr8) hdg hcs) hS (fun _ _ h => h.elim) (fun _ h => h.elim) (fun u t H1 locs1 ht hvm hp hB hz hk hS1 => kk H1 locs1 hS1)
theorem sc_ret {r : Int32} {ty : FieldType} (S : Cx p s m args meth c cc ret nL own Ts A') (hr : ret = some ty) (hn : narrow ty (.int r) = .int r) (hS : va_S nF s.heap H locs) (hdg : decode cc pc = .ok (.ireturn, 1)) : W p l e R s m args below meth c H locs cells slots (MQ below (va_Qi (fun (r1 : Int32) (_ : Unit) => r1 = r) (fun _ _ => True) nF) args s cells slots nF) (F0 m pc ls [.int r]) := by
  obtain ⟨hx, hb, hr1, -, -, hlocks, -, -⟩ := S
  exact W.zret (v := r) hx hb (hr1.trans hr) hn (fun t ht _ => ⟨⟨r, (), rfl, rfl, trivial⟩, hS.F ht⟩) hS.2.2 hdg
end SCW
theorem ctS_of {l : Launch} {y : MethodName} {ws ws' : List Cond} {rm : Room} {q v : Nat} {z : Option Nat} {as : List Value} {r : Int32} {cc : ByteArray} {maxL : Nat} {ret : Option FieldType} (hy : plainName y.cls = true) (hw : ws = Cond.code y cc maxL ret :: ws') (hle : (lg_sl as).length ≤ maxL)
    (body : ∀ (p : Program) (e : Env) (s : State) (m : MethodId) (below : List Frame) (meth : Method) (c : Code) (ls : Array Slot), Cx p s m as.toArray meth c cc ret maxL y.cls ws (fun _ => True) → SC q v z nF s s.heap → va_S nF s.heap s.heap [] → lv_has ls maxL (lv_args 0 as) → W p l e rm s m as.toArray below meth c s.heap [] 0 0 (MQ below (va_Qi (fun (r1 : Int32) (_ : Unit) => r1 = r) (fun _ _ => True) nF) as.toArray s 0 0 nF) (F0 m 0 ls [])) : CtS l y ws rm q v z as r := by
  refine Met.ofW (cc := cc) (maxL := maxL) (ret := ret) hy hw ?_
  intro p e s m args below meth c s₁ B hml hv
  obtain ⟨rfl, hE⟩ := hv
  rw [lg_entry_eq]
  exact body p e s m below meth c _ ⟨B.exec, B.bytes, B.returns, atoms_spec (ws := ws) B.pre, findClass_of_methodNamed B.named, B.notSynchronized, hml, fun _ _ => trivial⟩ hE va_S.rf (lv_entry as hle)
theorem ctSV_of {l : Launch} {y : MethodName} {ws ws' : List Cond} {rm : Room} {q v : Nat} {z : Option Nat} {as : List Value} {cc : ByteArray} {maxL : Nat} {ret : Option FieldType} (hy : plainName y.cls = true) (hw : ws = Cond.code y cc maxL ret :: ws') (hle : (lg_sl as).length ≤ maxL)
    (body : ∀ (p : Program) (e : Env) (s : State) (m : MethodId) (below : List Frame) (meth : Method) (c : Code) (ls : Array Slot), Cx p s m as.toArray meth c cc ret maxL y.cls ws (fun _ => True) → SC q v z nF s s.heap → va_S nF s.heap s.heap [] → lv_has ls maxL (lv_args 0 as) → W p l e rm s m as.toArray below meth c s.heap [] 0 0 (MQ below (va_Qv (fun (_ : Unit) => True) (fun _ _ => True) nF) as.toArray s 0 0 nF) (F0 m 0 ls [])) : CtSV l y ws rm q v z as := by
  refine Met.ofW (cc := cc) (maxL := maxL) (ret := ret) hy hw ?_
  intro p e s m args below meth c s₁ B hml hv
  obtain ⟨rfl, hE⟩ := hv
  rw [lg_entry_eq]
  exact body p e s m below meth c _ ⟨B.exec, B.bytes, B.returns, atoms_spec (ws := ws) B.pre, findClass_of_methodNamed B.named, B.notSynchronized, hml, fun _ _ => trivial⟩ hE va_S.rf (lv_entry as hle)
theorem ft_c : ∀ k, k < 107 → ((ftA k &&& 255).toUInt32 % 65536).toInt32 = ftA k := by decide +kernel
theorem ft_n : ∀ k, k < 107 → narrow .char (.int (ftA k)) = .int (ftA k) := by decide +kernel
abbrev rJ_0 : Room := { frames := 0, cells := 0, slots := 0, locals := 0 }
abbrev rJ_1 : Room := { frames := 1, cells := 0, slots := 0, locals := 20 }
abbrev rJ_2 : Room := { frames := 1, cells := 0, slots := 0, locals := 22 }
abbrev rJ_3 : Room := { frames := 2, cells := 0, slots := 0, locals := 43 }
abbrev rJ_4 : Room := { frames := 3, cells := 0, slots := 0, locals := 64 }
theorem kJ_coder (l : Launch) (q v : Nat) (z : Option Nat) : CtS l yJ0_coder_7d493 wsJ0_coder_7d493 rJ_0 q v z [.ref q] 0 := by
  refine ctS_of (cc := cJ0_coder_7d493) (maxL := 1) (ret := some .byte) (by decide) rfl (Nat.le_of_ble_eq_true rfl) (fun p e s m below meth c ls C hE hS hl => ?_)
  have hl : lv_has ls 1 [(0, .ref q)] := hl
  obtain ⟨hx, hb, hr, hts, hown, hlocks, hml, -⟩ := id C
  refine va_gets hx hb hE.2.2.2.2.1 hS hown (hts (.fieldLink RJ0 38 "java/lang/String" "COMPACT_STRINGS" "Z") (by decide +kernel)) (fun _ h => h) dJ0_coder_7d493_0 ?_
  refine lv_if_eq (tgt := 13) hx hb dJ0_coder_7d493_3 (by decide) (fun c0 => absurd c0 (by decide)) (fun _ => ?_)
  refine lv_aload_n hx hb dJ0_coder_7d493_6 rfl (lv_at hl 0 rfl) ?_
  refine vk_getf hx hb hE.2.1 hS hown (hts (.fieldLink RJ0 15 "java/lang/String" "coder" "B") (by decide +kernel)) (fun _ h => h) dJ0_coder_7d493_7 ?_
  refine lv_goto (tgt := 14) hx hb dJ0_coder_7d493_10 (by decide) ?_
  exact sc_ret C rfl (by decide) hS dJ0_coder_7d493_14
theorem kJ_length (l : Launch) (q v : Nat) (z : Option Nat) : CtS l yJ0_length_8abf5 wsJ0_length_8abf5 rJ_1 q v z [.ref q] 107 := by
  refine ctS_of (cc := cJ0_length_8abf5) (maxL := 1) (ret := some .int) (by decide) rfl (Nat.le_of_ble_eq_true rfl) (fun p e s m below meth c ls C hE hS hl => ?_)
  have hl : lv_has ls 1 [(0, .ref q)] := hl
  obtain ⟨hx, hb, hr, hts, hown, hlocks, hml, -⟩ := id C
  refine lv_aload_n hx hb dJ0_length_8abf5_0 rfl (lv_at hl 0 rfl) ?_
  refine vk_getf hx hb hE.2.2.1 hS hown (hts (.fieldLink RJ0 9 "java/lang/String" "value" "[B") (by decide +kernel)) (fun _ h => h) dJ0_length_8abf5_1 ?_
  refine va_tlen (v := 107) hx hb hE.2.2.2.1 hS (by decide) dJ0_length_8abf5_4 ?_
  refine lv_aload_n hx hb dJ0_length_8abf5_5 rfl (lv_at hl 0 rfl) ?_
  refine sc_V (As := []) (rest := [.int 107]) C hE hS (kJ_coder l q v z) (cwV 0 hts gJ0_length_8abf5_J0_coder_7d493 rfl rfl rfl (by decide +kernel) ⟨Nat.le_of_ble_eq_true rfl, Nat.le_of_ble_eq_true rfl⟩) rfl hl.1 rfl (Nat.le_of_ble_eq_true rfl) dJ0_length_8abf5_6 ⟨Nat.zero_le _, Nat.zero_le _⟩ (fun H locs _ _ hS => ?_)
  refine lv_ishr hx hb dJ0_length_8abf5_9 ?_
  refine lv_topi (fun r er => ?_)
  have e : r = 107 := by rw [er]; decide
  subst e
  exact sc_ret C rfl rfl hS dJ0_length_8abf5_10
theorem kJ_isLatin1 (l : Launch) (q v : Nat) (z : Option Nat) : CtS l yJ0_isLatin1_aae02 wsJ0_isLatin1_aae02 rJ_0 q v z [.ref q] 1 := by
  refine ctS_of (cc := cJ0_isLatin1_aae02) (maxL := 1) (ret := some .boolean) (by decide) rfl (Nat.le_of_ble_eq_true rfl) (fun p e s m below meth c ls C hE hS hl => ?_)
  have hl : lv_has ls 1 [(0, .ref q)] := hl
  obtain ⟨hx, hb, hr, hts, hown, hlocks, hml, -⟩ := id C
  refine va_gets hx hb hE.2.2.2.2.1 hS hown (hts (.fieldLink RJ0 38 "java/lang/String" "COMPACT_STRINGS" "Z") (by decide +kernel)) (fun _ h => h) dJ0_isLatin1_aae02_0 ?_
  refine lv_if_eq (tgt := 17) hx hb dJ0_isLatin1_aae02_3 (by decide) (fun c0 => absurd c0 (by decide)) (fun _ => ?_)
  refine lv_aload_n hx hb dJ0_isLatin1_aae02_6 rfl (lv_at hl 0 rfl) ?_
  refine vk_getf hx hb hE.2.1 hS hown (hts (.fieldLink RJ0 15 "java/lang/String" "coder" "B") (by decide +kernel)) (fun _ h => h) dJ0_isLatin1_aae02_7 ?_
  refine lv_if_ne (tgt := 17) hx hb dJ0_isLatin1_aae02_10 (by decide) (fun c0 => absurd rfl c0) (fun _ => ?_)
  refine lv_iconst (v := 1) hx hb dJ0_isLatin1_aae02_13 (by decide) ?_
  refine lv_goto (tgt := 18) hx hb dJ0_isLatin1_aae02_14 (by decide) ?_
  exact sc_ret C rfl (by decide) hS dJ0_isLatin1_aae02_18
theorem kJ_check3 (l : Launch) (q v : Nat) (z : Option Nat) {k : Nat} (hk : k < 107) : CtS l yJ3_checkIndex_8e157 wsJ3_checkIndex_8e157 rJ_0 q v z [.int (nI k), .int 107, va_rf z] (nI k) := by
  cases z
  all_goals
    refine ctS_of (cc := cJ3_checkIndex_8e157) (maxL := 3) (ret := some .int) (by decide) rfl (Nat.le_of_ble_eq_true rfl) (fun p e s m below meth c ls C hE hS hl => ?_)
    have hl : lv_has ls 3 [(0, .int (nI k)), (1, .int 107)] := lv_sub hl [0, 1] rfl
    obtain ⟨hx, hb, hr, hts, hown, hlocks, hml, -⟩ := id C
    refine lv_iload_n hx hb dJ3_checkIndex_8e157_0 rfl (lv_at hl 0 rfl) ?_
    refine lv_if_lt (tgt := 9) hx hb dJ3_checkIndex_8e157_1 (by decide) (fun c0 => absurd c0 (nI_pos (by omega))) (fun _ => ?_)
    refine lv_iload_n hx hb dJ3_checkIndex_8e157_4 rfl (lv_at hl 0 rfl) ?_
    refine lv_iload_n hx hb dJ3_checkIndex_8e157_5 rfl (lv_at hl 1 rfl) ?_
    refine lv_icmp_lt (tgt := 16) hx hb dJ3_checkIndex_8e157_6 (by decide) (fun _ => ?_) (fun c0 => absurd (nI_lt (a := k) (b := 107) hk (by omega)) c0)
    refine lv_iload_n hx hb dJ3_checkIndex_8e157_16 rfl (lv_at hl 0 rfl) ?_
    exact sc_ret C rfl rfl hS dJ3_checkIndex_8e157_17
theorem kJ_check2 (l : Launch) (q v : Nat) (z : Option Nat) {k : Nat} (hk : k < 107) : CtSV l yJ0_checkIndex_df160 wsJ0_checkIndex_df160 rJ_2 q v z [.int (nI k), .int 107] := by
  refine ctSV_of (cc := cJ0_checkIndex_df160) (maxL := 2) (ret := none) (by decide) rfl (Nat.le_of_ble_eq_true rfl) (fun p e s m below meth c ls C hE hS hl => ?_)
  have hl : lv_has ls 2 [(0, .int (nI k)), (1, .int 107)] := hl
  obtain ⟨hx, hb, hr, hts, hown, hlocks, hml, -⟩ := id C
  refine lv_iload_n hx hb dJ0_checkIndex_df160_0 rfl (lv_at hl 0 rfl) ?_
  refine lv_iload_n hx hb dJ0_checkIndex_df160_1 rfl (lv_at hl 1 rfl) ?_
  refine va_gets hx hb hE.2.2.2.2.2 hS hown (hts (.fieldLink RJ0 1053 "jdk/internal/util/Preconditions" "SIOOBE_FORMATTER" "Ljava/util/function/BiFunction;") (by decide +kernel)) (fun _ h => h) dJ0_checkIndex_df160_2 ?_
  refine sc_S (As := [.int (nI k), .int 107, va_rf z]) (rest := []) C hE hS (kJ_check3 l q v z hk) (va_cwS 3 hts gJ0_checkIndex_df160_J3_checkIndex_8e157 rfl rfl rfl (by decide +kernel) ⟨Nat.le_of_ble_eq_true rfl, Nat.le_of_ble_eq_true rfl⟩) rfl hl.1 rfl (Nat.le_of_ble_eq_true rfl) dJ0_checkIndex_df160_5 ⟨Nat.zero_le _, Nat.zero_le _⟩ (fun H locs hS => ?_)
  refine lv_pop hx hb dJ0_checkIndex_df160_8 rfl ?_
  exact W.vret hx hb hr (fun t ht _ => ⟨⟨(), rfl, trivial, trivial⟩, hS.F ht⟩) hS.2.2 dJ0_checkIndex_df160_9
theorem kJ_latin (l : Launch) (q v : Nat) (z : Option Nat) {k : Nat} (hk : k < 107) : CtS l yJ1_charAt_3b067 wsJ1_charAt_3b067 rJ_3 q v z [.ref v, .int (nI k)] (ftA k) := by
  refine ctS_of (cc := cJ1_charAt_3b067) (maxL := 2) (ret := some .char) (by decide) rfl (Nat.le_of_ble_eq_true rfl) (fun p e s m below meth c ls C hE hS hl => ?_)
  have hl : lv_has ls 2 [(0, .ref v), (1, .int (nI k))] := hl
  obtain ⟨hx, hb, hr, hts, hown, hlocks, hml, -⟩ := id C
  refine lv_iload_n hx hb dJ1_charAt_3b067_0 rfl (lv_at hl 1 rfl) ?_
  refine lv_aload_n hx hb dJ1_charAt_3b067_1 rfl (lv_at hl 0 rfl) ?_
  refine va_tlen (v := 107) hx hb hE.2.2.2.1 hS (by decide) dJ1_charAt_3b067_2 ?_
  refine sc_Sv (As := [.int (nI k), .int 107]) (rest := []) C hE hS (kJ_check2 l q v z hk) (va_cwS 2 hts gJ1_charAt_3b067_J0_checkIndex_df160 rfl rfl rfl (by decide +kernel) ⟨Nat.le_of_ble_eq_true rfl, Nat.le_of_ble_eq_true rfl⟩) rfl hl.1 rfl (Nat.le_of_ble_eq_true rfl) dJ1_charAt_3b067_3 ⟨Nat.zero_le _, Nat.zero_le _⟩ (fun H locs hS => ?_)
  refine lv_aload_n hx hb dJ1_charAt_3b067_6 rfl (lv_at hl 0 rfl) ?_
  refine lv_iload_n hx hb dJ1_charAt_3b067_7 rfl (lv_at hl 1 rfl) ?_
  refine va_tb (v := .int (ftA k)) hx hb hE.2.2.2.1 hS (vp_in_nI hk (by omega)) (by rw [nI_clamp (by omega)]) dJ1_charAt_3b067_8 ?_
  refine lv_sipush (v := 255) hx hb dJ1_charAt_3b067_9 (by decide) ?_
  refine lv_iand hx hb dJ1_charAt_3b067_12 ?_
  refine lv_i2c (v := ftA k) hx hb dJ1_charAt_3b067_13 (ft_c k hk) ?_
  exact sc_ret C rfl (ft_n k hk) hS dJ1_charAt_3b067_14
theorem kJ_charAt (l : Launch) (q v : Nat) (z : Option Nat) {k : Nat} (hk : k < 107) : CtS l yJ0_charAt_5068e wsJ0_charAt_5068e rJ_4 q v z [.ref q, .int (nI k)] (ftA k) := by
  refine ctS_of (cc := cJ0_charAt_5068e) (maxL := 2) (ret := some .char) (by decide) rfl (Nat.le_of_ble_eq_true rfl) (fun p e s m below meth c ls C hE hS hl => ?_)
  have hl : lv_has ls 2 [(0, .ref q), (1, .int (nI k))] := hl
  obtain ⟨hx, hb, hr, hts, hown, hlocks, hml, -⟩ := id C
  refine lv_aload_n hx hb dJ0_charAt_5068e_0 rfl (lv_at hl 0 rfl) ?_
  refine sc_V (As := []) (rest := []) C hE hS (kJ_isLatin1 l q v z) (cwV 0 hts gJ0_charAt_5068e_J0_isLatin1_aae02 rfl rfl rfl (by decide +kernel) ⟨Nat.le_of_ble_eq_true rfl, Nat.le_of_ble_eq_true rfl⟩) rfl hl.1 rfl (Nat.le_of_ble_eq_true rfl) dJ0_charAt_5068e_1 ⟨Nat.zero_le _, Nat.zero_le _⟩ (fun H locs _ _ hS => ?_)
  refine lv_if_eq (tgt := 16) hx hb dJ0_charAt_5068e_4 (by decide) (fun c0 => absurd c0 (by decide)) (fun _ => ?_)
  refine lv_aload_n hx hb dJ0_charAt_5068e_7 rfl (lv_at hl 0 rfl) ?_
  refine vk_getf hx hb hE.2.2.1 hS hown (hts (.fieldLink RJ0 9 "java/lang/String" "value" "[B") (by decide +kernel)) (fun _ h => h) dJ0_charAt_5068e_8 ?_
  refine lv_iload_n hx hb dJ0_charAt_5068e_11 rfl (lv_at hl 1 rfl) ?_
  refine sc_S (As := [.ref v, .int (nI k)]) (rest := []) C hE hS (kJ_latin l q v z hk) (va_cwS 2 hts gJ0_charAt_5068e_J1_charAt_3b067 rfl rfl rfl (by decide +kernel) ⟨Nat.le_of_ble_eq_true rfl, Nat.le_of_ble_eq_true rfl⟩) rfl hl.1 rfl (Nat.le_of_ble_eq_true rfl) dJ0_charAt_5068e_12 ⟨Nat.zero_le _, Nat.zero_le _⟩ (fun H locs hS => ?_)
  exact sc_ret C rfl (ft_n k hk) hS dJ0_charAt_5068e_15
