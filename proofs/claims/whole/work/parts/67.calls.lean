/-! THE LAW'S CASES: the same call on both sides (laid by wip/whole/gen/law.py) -/
section TWOV
variable {p : Program} {l : Launch} {e : Env} {R : Room} {s : State} {m : MethodId} {args : Array Value} {below : List Frame} {meth : Method} {c : Code} {H : Heap} {locs : List Loc} {cells slots : Nat} {Q : State → Prop}
variable {cc bytes : ByteArray} {pc maxL index n nL : Nat} {ls : Array Slot} {rest st0 : List Value} {D : va_G} {A : Nat → Prop} {tys : List (ClassId × FieldType)} {ks ks2 : List Ky} {ad ad2 : Ky → Nat} {ce2 : Ky → va_E}
variable {M : Type} {cf : M → Ky → va_E} {μ μ' : M} {y : MethodName} {ws : List Cond} {rm : Room} {Ts : List Cond} {own : String} {As : List Value} {ret : Option FieldType}
theorem wo2_Vi {r : Int32} (S : Cx p s m args meth c cc ret nL own Ts A) (hW : Wo D tys ks ad A s s.heap (cf μ) H locs) (hW2 : Wo D tys ks2 ad2 A s s.heap ce2 H locs) (hdis : ∀ k2 ∈ ks2, ∀ k ∈ ks, ad2 k2 ≠ ad k) {rt : Option FieldType} {k : Ky} (hM : CtI l y ws rm D tys ks ad cf (.ref (ad k) :: As) μ r μ') {C : String} (cw : CallW R s args own C index y bytes maxL rt ws rm 0 0 n) (hk : k ∈ ks) {ci : Nat} {fs : List Value} (hce : cf μ k = .inr (ci, fs)) {T : u_T} {N : Nat} (hcl : vwCl[ci]? = some (C, T, N)) (hn : As.length = n) (hsize : ls.size = nL) (hstack : st0 = As.reverse ++ .ref (ad k) :: rest) (hr8 : (rest.map fun v => v.category).sum ≤ 8) (hdg : decode cc pc = .ok (.invokevirtual index, 3)) (hcs : cells ≤ R.cells ∧ slots ≤ R.slots)
    (kk : ∀ (H1 : Heap) (locs1 : List Loc), Wo D tys ks ad A s s.heap (cf μ') H1 locs1 → Wo D tys ks2 ad2 A s s.heap ce2 H1 locs1 → W p l e R s m args below meth c H1 locs1 cells slots Q (F0 m (pc + 3) ls (.int r :: rest))) : W p l e R s m args below meth c H locs cells slots Q (F0 m pc ls st0) := by
  obtain ⟨hx, hb, -, hts, hown, -, hml, hA⟩ := S
  obtain ⟨i, -, hi⟩ := ky_at (ad := ad) (ce := cf μ) hk
  rw [hce] at hi
  exact wo2_ci (va_runV (C := C) ⟨hx, hb, hml, hown, hts⟩ (hM H.size) cw ⟨wp_blind, va_recv hW.1 hW.2.1 hcl hi, wo_pre hW⟩ rfl hn hsize hstack (lv_room hr8) hdg hcs) hW hW2 hA (fun k2 h2 => wo_lt hW2 h2) hdis (fun H1 locs1 _ h1 h2 => kk H1 locs1 h1 h2)
end TWOV
def LwC (p : Program) (s : State) (m : MethodId) (meth : Method) (c : Code) (b L : Nat) (xs : Nat → Int32) : Prop := Cx p s m #[Value.ref b] meth c code ret 4 RL wsL_law (fun q => s.heap.size ≤ q) ∧ va_X b L xs s s.heap ∧ b < s.heap.size ∧ L ≤ 256
def LwW (D : va_G) (g : G3) (adx adm : Ky → Nat) (s : State) (x mm : Mem) (H : Heap) (locs : List Loc) : Prop := WX D g keysX adx (fun q => s.heap.size ≤ q) s s.heap x H locs ∧ WX D g keysM adm (fun q => s.heap.size ≤ q) s s.heap mm H locs ∧ RR x mm ∧ ∀ k2 ∈ keysM, ∀ k ∈ keysX, adm k2 ≠ adx k
section LWS
variable {p : Program} {l : Launch} {e : Env} {R : Room} {s : State} {m : MethodId} {below : List Frame} {meth : Method} {c : Code} {H : Heap} {locs : List Loc} {cells slots : Nat} {Q : State → Prop} {ls : Array Slot} {rest : List Value} {D : va_G} {g : G3} {adx adm : Ky → Nat} {x mm : Mem} {b L : Nat} {xs : Nat → Int32} {i : Nat}
theorem lw_arg {p0 j a1 a2 : Nat} {kq : Int} (C : LwC p s m meth c b L xs) (hS : va_S (fun q => s.heap.size ≤ q) s.heap H locs) (hi : 4 * i + 4 ≤ L) (hj : j < 4) (hv : Int32.ofInt kq = nI j) (hl : lv_has ls 4 [(0, .ref b), (1, .ref a1), (2, .ref a2), (3, .int (nI (4 * i)))]) (d0 : decode code p0 = .ok (.aload_n 0, 1)) (d1 : decode code (p0 + 1) = .ok (.iload_n 3, 1)) (d2 : decode code (p0 + 2) = .ok (.iconst kq, 1)) (d3 : decode code (p0 + 3) = .ok (.iadd, 1)) (d4 : decode code (p0 + 4) = .ok (.iaload, 1))
    (kk : W p l e R s m #[Value.ref b] below meth c H locs cells slots Q (F0 m (p0 + 5) ls (.int (xs (4 * i + j)) :: rest))) : W p l e R s m #[Value.ref b] below meth c H locs cells slots Q (F0 m p0 ls rest) := by
  obtain ⟨C, hX, hbl, hL⟩ := C
  obtain ⟨hx, hb, -, hts, hown, -, hml, hA⟩ := id C
  refine lv_aload_n hx hb d0 rfl (lv_at hl 0 rfl) ?_
  refine lv_iload_n hx hb d1 rfl (lv_at hl 3 rfl) ?_
  refine lv_iconst (v := nI j) hx hb d2 hv ?_
  refine lv_iadd hx hb d3 ?_
  rw [nI_add]
  refine va_sld hx hb hX hbl (Nat.not_le.mpr hbl) hS (vp_in_nI (n := 4 * i + j) (N := L) (by omega) (by omega)) d4 ?_
  rw [nI_clamp (by omega)]
  exact kk
set_option maxHeartbeats 4000000 in
set_option maxRecDepth 100000 in
theorem lwc_0 (C : LwC p s m meth c b L xs) (hW : LwW D g adx adm s x mm H locs) (hi : 4 * i + 4 ≤ L) (hl : lv_has ls 4 [(0, .ref b), (1, .ref (adx (17, 50, 0))), (2, .ref (adm (20, 50, 0))), (3, .int (nI (4 * i)))]) (K : ∀ (x9 m9 : Mem) (H : Heap) (locs : List Loc), LwW D g adx adm s x9 m9 H locs → W p l e room_1 s m #[Value.ref b] below meth c H locs 600000 7302250 Q (F0 m 850 ls [])) : W p l e room_1 s m #[Value.ref b] below meth c H locs 600000 7302250 Q (F0 m 152 ls []) := by
  obtain ⟨r, x9, m9, e1, e2, hR⟩ := op_write (xs (4 * i + 1)) x mm hW.2.2.1
  obtain ⟨hX, hM, -, hdis⟩ := hW
  obtain ⟨hx, hb, -, hts, hown, -, hml, hA⟩ := id C.1
  refine lv_aload_n hx hb dL_law_152 rfl (lv_at hl 1 rfl) ?_
  refine lw_arg (j := 1) C hX.2.2.2.1 hi (by decide) (by decide) hl dL_law_153 dL_law_154 dL_law_155 dL_law_156 dL_law_157 ?_
  refine wo2_Vi (As := [.int (xs (4 * i + 1))]) (rest := []) C.1 hX hM hdis (kX5_write l D g adx e1) (cwV 1 hts gL_law_X5_write rfl rfl rfl (by decide +kernel) ⟨Nat.le_of_ble_eq_true rfl, Nat.le_of_ble_eq_true rfl⟩) kl_17_50_0 cn_o rfl rfl hl.1 rfl (Nat.le_of_ble_eq_true rfl) dL_law_158 ⟨Nat.le_of_ble_eq_true rfl, Nat.le_of_ble_eq_true rfl⟩ (fun H locs hX hM => ?_)
  refine lv_aload_n hx hb dL_law_161 rfl (lv_at hl 2 rfl) ?_
  refine lw_arg (j := 1) C hM.2.2.2.1 hi (by decide) (by decide) hl dL_law_162 dL_law_163 dL_law_164 dL_law_165 dL_law_166 ?_
  refine wo2_Vi (As := [.int (xs (4 * i + 1))]) (rest := [.int r]) C.1 hM hX (fun k2 h2 k hk e9 => hdis k hk k2 h2 e9.symm) (kX6_write l D g adm e2) (cwV 1 hts gL_law_X6_write rfl rfl rfl (by decide +kernel) ⟨Nat.le_of_ble_eq_true rfl, Nat.le_of_ble_eq_true rfl⟩) kl_20_50_0 co_o rfl rfl hl.1 rfl (Nat.le_of_ble_eq_true rfl) dL_law_167 ⟨Nat.le_of_ble_eq_true rfl, Nat.le_of_ble_eq_true rfl⟩ (fun H locs hM hX => ?_)
  refine lv_icmp_eq (tgt := 850) hx hb dL_law_170 (by decide) (fun _ => ?_) (fun c0 => absurd rfl c0)
  exact K x9 m9 H locs ⟨hX, hM, hR, hdis⟩
set_option maxHeartbeats 4000000 in
set_option maxRecDepth 100000 in
theorem lwc_1 (C : LwC p s m meth c b L xs) (hW : LwW D g adx adm s x mm H locs) (hi : 4 * i + 4 ≤ L) (hl : lv_has ls 4 [(0, .ref b), (1, .ref (adx (17, 50, 0))), (2, .ref (adm (20, 50, 0))), (3, .int (nI (4 * i)))]) (K : ∀ (x9 m9 : Mem) (H : Heap) (locs : List Loc), LwW D g adx adm s x9 m9 H locs → W p l e room_1 s m #[Value.ref b] below meth c H locs 600000 7302250 Q (F0 m 850 ls [])) : W p l e room_1 s m #[Value.ref b] below meth c H locs 600000 7302250 Q (F0 m 175 ls []) := by
  obtain ⟨r, x9, m9, e1, e2, hR⟩ := op_wipe x mm hW.2.2.1
  obtain ⟨hX, hM, -, hdis⟩ := hW
  obtain ⟨hx, hb, -, hts, hown, -, hml, hA⟩ := id C.1
  refine lv_aload_n hx hb dL_law_175 rfl (lv_at hl 1 rfl) ?_
  refine wo2_Vi (As := []) (rest := []) C.1 hX hM hdis (kX5_wipe l D g adx e1) (cwV 0 hts gL_law_X5_wipe rfl rfl rfl (by decide +kernel) ⟨Nat.le_of_ble_eq_true rfl, Nat.le_of_ble_eq_true rfl⟩) kl_17_50_0 cn_o rfl rfl hl.1 rfl (Nat.le_of_ble_eq_true rfl) dL_law_176 ⟨Nat.le_of_ble_eq_true rfl, Nat.le_of_ble_eq_true rfl⟩ (fun H locs hX hM => ?_)
  refine lv_aload_n hx hb dL_law_179 rfl (lv_at hl 2 rfl) ?_
  refine wo2_Vi (As := []) (rest := [.int r]) C.1 hM hX (fun k2 h2 k hk e9 => hdis k hk k2 h2 e9.symm) (kX6_wipe l D g adm e2) (cwV 0 hts gL_law_X6_wipe rfl rfl rfl (by decide +kernel) ⟨Nat.le_of_ble_eq_true rfl, Nat.le_of_ble_eq_true rfl⟩) kl_20_50_0 co_o rfl rfl hl.1 rfl (Nat.le_of_ble_eq_true rfl) dL_law_180 ⟨Nat.le_of_ble_eq_true rfl, Nat.le_of_ble_eq_true rfl⟩ (fun H locs hM hX => ?_)
  refine lv_icmp_eq (tgt := 850) hx hb dL_law_183 (by decide) (fun _ => ?_) (fun c0 => absurd rfl c0)
  exact K x9 m9 H locs ⟨hX, hM, hR, hdis⟩
set_option maxHeartbeats 4000000 in
set_option maxRecDepth 100000 in
theorem lwc_2 (C : LwC p s m meth c b L xs) (hW : LwW D g adx adm s x mm H locs) (hi : 4 * i + 4 ≤ L) (hl : lv_has ls 4 [(0, .ref b), (1, .ref (adx (17, 50, 0))), (2, .ref (adm (20, 50, 0))), (3, .int (nI (4 * i)))]) (K : ∀ (x9 m9 : Mem) (H : Heap) (locs : List Loc), LwW D g adx adm s x9 m9 H locs → W p l e room_1 s m #[Value.ref b] below meth c H locs 600000 7302250 Q (F0 m 850 ls [])) : W p l e room_1 s m #[Value.ref b] below meth c H locs 600000 7302250 Q (F0 m 188 ls []) := by
  obtain ⟨r, x9, m9, e1, e2, hR⟩ := op_fault x mm hW.2.2.1
  obtain ⟨hX, hM, -, hdis⟩ := hW
  obtain ⟨hx, hb, -, hts, hown, -, hml, hA⟩ := id C.1
  refine lv_aload_n hx hb dL_law_188 rfl (lv_at hl 1 rfl) ?_
  refine wo2_Vi (As := []) (rest := []) C.1 hX hM hdis (kX5_fault l D g adx e1) (cwV 0 hts gL_law_X5_fault rfl rfl rfl (by decide +kernel) ⟨Nat.le_of_ble_eq_true rfl, Nat.le_of_ble_eq_true rfl⟩) kl_17_50_0 cn_o rfl rfl hl.1 rfl (Nat.le_of_ble_eq_true rfl) dL_law_189 ⟨Nat.le_of_ble_eq_true rfl, Nat.le_of_ble_eq_true rfl⟩ (fun H locs hX hM => ?_)
  refine lv_aload_n hx hb dL_law_192 rfl (lv_at hl 2 rfl) ?_
  refine wo2_Vi (As := []) (rest := [.int r]) C.1 hM hX (fun k2 h2 k hk e9 => hdis k hk k2 h2 e9.symm) (kX6_fault l D g adm e2) (cwV 0 hts gL_law_X6_fault rfl rfl rfl (by decide +kernel) ⟨Nat.le_of_ble_eq_true rfl, Nat.le_of_ble_eq_true rfl⟩) kl_20_50_0 co_o rfl rfl hl.1 rfl (Nat.le_of_ble_eq_true rfl) dL_law_193 ⟨Nat.le_of_ble_eq_true rfl, Nat.le_of_ble_eq_true rfl⟩ (fun H locs hM hX => ?_)
  refine lv_icmp_eq (tgt := 850) hx hb dL_law_196 (by decide) (fun _ => ?_) (fun c0 => absurd rfl c0)
  exact K x9 m9 H locs ⟨hX, hM, hR, hdis⟩
set_option maxHeartbeats 4000000 in
set_option maxRecDepth 100000 in
theorem lwc_3 (C : LwC p s m meth c b L xs) (hW : LwW D g adx adm s x mm H locs) (hi : 4 * i + 4 ≤ L) (hl : lv_has ls 4 [(0, .ref b), (1, .ref (adx (17, 50, 0))), (2, .ref (adm (20, 50, 0))), (3, .int (nI (4 * i)))]) (K : ∀ (x9 m9 : Mem) (H : Heap) (locs : List Loc), LwW D g adx adm s x9 m9 H locs → W p l e room_1 s m #[Value.ref b] below meth c H locs 600000 7302250 Q (F0 m 850 ls [])) : W p l e room_1 s m #[Value.ref b] below meth c H locs 600000 7302250 Q (F0 m 201 ls []) := by
  obtain ⟨r, x9, m9, e1, e2, hR⟩ := op_lay x mm hW.2.2.1
  obtain ⟨hX, hM, -, hdis⟩ := hW
  obtain ⟨hx, hb, -, hts, hown, -, hml, hA⟩ := id C.1
  refine lv_aload_n hx hb dL_law_201 rfl (lv_at hl 1 rfl) ?_
  refine wo2_Vi (As := []) (rest := []) C.1 hX hM hdis (kX5_lay l D g adx e1) (cwV 0 hts gL_law_X5_lay rfl rfl rfl (by decide +kernel) ⟨Nat.le_of_ble_eq_true rfl, Nat.le_of_ble_eq_true rfl⟩) kl_17_50_0 cn_o rfl rfl hl.1 rfl (Nat.le_of_ble_eq_true rfl) dL_law_202 ⟨Nat.le_of_ble_eq_true rfl, Nat.le_of_ble_eq_true rfl⟩ (fun H locs hX hM => ?_)
  refine lv_aload_n hx hb dL_law_205 rfl (lv_at hl 2 rfl) ?_
  refine wo2_Vi (As := []) (rest := [.int r]) C.1 hM hX (fun k2 h2 k hk e9 => hdis k hk k2 h2 e9.symm) (kX6_lay l D g adm e2) (cwV 0 hts gL_law_X6_lay rfl rfl rfl (by decide +kernel) ⟨Nat.le_of_ble_eq_true rfl, Nat.le_of_ble_eq_true rfl⟩) kl_20_50_0 co_o rfl rfl hl.1 rfl (Nat.le_of_ble_eq_true rfl) dL_law_206 ⟨Nat.le_of_ble_eq_true rfl, Nat.le_of_ble_eq_true rfl⟩ (fun H locs hM hX => ?_)
  refine lv_icmp_eq (tgt := 850) hx hb dL_law_209 (by decide) (fun _ => ?_) (fun c0 => absurd rfl c0)
  exact K x9 m9 H locs ⟨hX, hM, hR, hdis⟩
set_option maxHeartbeats 4000000 in
set_option maxRecDepth 100000 in
theorem lwc_4 (C : LwC p s m meth c b L xs) (hW : LwW D g adx adm s x mm H locs) (hi : 4 * i + 4 ≤ L) (hl : lv_has ls 4 [(0, .ref b), (1, .ref (adx (17, 50, 0))), (2, .ref (adm (20, 50, 0))), (3, .int (nI (4 * i)))]) (K : ∀ (x9 m9 : Mem) (H : Heap) (locs : List Loc), LwW D g adx adm s x9 m9 H locs → W p l e room_1 s m #[Value.ref b] below meth c H locs 600000 7302250 Q (F0 m 850 ls [])) : W p l e room_1 s m #[Value.ref b] below meth c H locs 600000 7302250 Q (F0 m 214 ls []) := by
  obtain ⟨r, x9, m9, e1, e2, hR⟩ := op_person (xs (4 * i + 1)) (xs (4 * i + 2)) x mm hW.2.2.1
  obtain ⟨hX, hM, -, hdis⟩ := hW
  obtain ⟨hx, hb, -, hts, hown, -, hml, hA⟩ := id C.1
  refine lv_aload_n hx hb dL_law_214 rfl (lv_at hl 1 rfl) ?_
  refine lw_arg (j := 1) C hX.2.2.2.1 hi (by decide) (by decide) hl dL_law_215 dL_law_216 dL_law_217 dL_law_218 dL_law_219 ?_
  refine lw_arg (j := 2) C hX.2.2.2.1 hi (by decide) (by decide) hl dL_law_220 dL_law_221 dL_law_222 dL_law_223 dL_law_224 ?_
  refine wo2_Vi (As := [.int (xs (4 * i + 1)), .int (xs (4 * i + 2))]) (rest := []) C.1 hX hM hdis (kX5_person l D g adx e1) (cwV 2 hts gL_law_X5_person rfl rfl rfl (by decide +kernel) ⟨Nat.le_of_ble_eq_true rfl, Nat.le_of_ble_eq_true rfl⟩) kl_17_50_0 cn_o rfl rfl hl.1 rfl (Nat.le_of_ble_eq_true rfl) dL_law_225 ⟨Nat.le_of_ble_eq_true rfl, Nat.le_of_ble_eq_true rfl⟩ (fun H locs hX hM => ?_)
  refine lv_aload_n hx hb dL_law_228 rfl (lv_at hl 2 rfl) ?_
  refine lw_arg (j := 1) C hM.2.2.2.1 hi (by decide) (by decide) hl dL_law_229 dL_law_230 dL_law_231 dL_law_232 dL_law_233 ?_
  refine lw_arg (j := 2) C hM.2.2.2.1 hi (by decide) (by decide) hl dL_law_234 dL_law_235 dL_law_236 dL_law_237 dL_law_238 ?_
  refine wo2_Vi (As := [.int (xs (4 * i + 1)), .int (xs (4 * i + 2))]) (rest := [.int r]) C.1 hM hX (fun k2 h2 k hk e9 => hdis k hk k2 h2 e9.symm) (kX6_person l D g adm e2) (cwV 2 hts gL_law_X6_person rfl rfl rfl (by decide +kernel) ⟨Nat.le_of_ble_eq_true rfl, Nat.le_of_ble_eq_true rfl⟩) kl_20_50_0 co_o rfl rfl hl.1 rfl (Nat.le_of_ble_eq_true rfl) dL_law_239 ⟨Nat.le_of_ble_eq_true rfl, Nat.le_of_ble_eq_true rfl⟩ (fun H locs hM hX => ?_)
  refine lv_icmp_eq (tgt := 850) hx hb dL_law_242 (by decide) (fun _ => ?_) (fun c0 => absurd rfl c0)
  exact K x9 m9 H locs ⟨hX, hM, hR, hdis⟩
set_option maxHeartbeats 4000000 in
set_option maxRecDepth 100000 in
theorem lwc_5 (C : LwC p s m meth c b L xs) (hW : LwW D g adx adm s x mm H locs) (hi : 4 * i + 4 ≤ L) (hl : lv_has ls 4 [(0, .ref b), (1, .ref (adx (17, 50, 0))), (2, .ref (adm (20, 50, 0))), (3, .int (nI (4 * i)))]) (K : ∀ (x9 m9 : Mem) (H : Heap) (locs : List Loc), LwW D g adx adm s x9 m9 H locs → W p l e room_1 s m #[Value.ref b] below meth c H locs 600000 7302250 Q (F0 m 850 ls [])) : W p l e room_1 s m #[Value.ref b] below meth c H locs 600000 7302250 Q (F0 m 247 ls []) := by
  obtain ⟨r, x9, m9, e1, e2, hR⟩ := op_thing (xs (4 * i + 1)) (xs (4 * i + 2)) x mm hW.2.2.1
  obtain ⟨hX, hM, -, hdis⟩ := hW
  obtain ⟨hx, hb, -, hts, hown, -, hml, hA⟩ := id C.1
  refine lv_aload_n hx hb dL_law_247 rfl (lv_at hl 1 rfl) ?_
  refine lw_arg (j := 1) C hX.2.2.2.1 hi (by decide) (by decide) hl dL_law_248 dL_law_249 dL_law_250 dL_law_251 dL_law_252 ?_
  refine lw_arg (j := 2) C hX.2.2.2.1 hi (by decide) (by decide) hl dL_law_253 dL_law_254 dL_law_255 dL_law_256 dL_law_257 ?_
  refine wo2_Vi (As := [.int (xs (4 * i + 1)), .int (xs (4 * i + 2))]) (rest := []) C.1 hX hM hdis (kX5_thing l D g adx e1) (cwV 2 hts gL_law_X5_thing rfl rfl rfl (by decide +kernel) ⟨Nat.le_of_ble_eq_true rfl, Nat.le_of_ble_eq_true rfl⟩) kl_17_50_0 cn_o rfl rfl hl.1 rfl (Nat.le_of_ble_eq_true rfl) dL_law_258 ⟨Nat.le_of_ble_eq_true rfl, Nat.le_of_ble_eq_true rfl⟩ (fun H locs hX hM => ?_)
  refine lv_aload_n hx hb dL_law_261 rfl (lv_at hl 2 rfl) ?_
  refine lw_arg (j := 1) C hM.2.2.2.1 hi (by decide) (by decide) hl dL_law_262 dL_law_263 dL_law_264 dL_law_265 dL_law_266 ?_
  refine lw_arg (j := 2) C hM.2.2.2.1 hi (by decide) (by decide) hl dL_law_267 dL_law_268 dL_law_269 dL_law_270 dL_law_271 ?_
  refine wo2_Vi (As := [.int (xs (4 * i + 1)), .int (xs (4 * i + 2))]) (rest := [.int r]) C.1 hM hX (fun k2 h2 k hk e9 => hdis k hk k2 h2 e9.symm) (kX6_thing l D g adm e2) (cwV 2 hts gL_law_X6_thing rfl rfl rfl (by decide +kernel) ⟨Nat.le_of_ble_eq_true rfl, Nat.le_of_ble_eq_true rfl⟩) kl_20_50_0 co_o rfl rfl hl.1 rfl (Nat.le_of_ble_eq_true rfl) dL_law_272 ⟨Nat.le_of_ble_eq_true rfl, Nat.le_of_ble_eq_true rfl⟩ (fun H locs hM hX => ?_)
  refine lv_icmp_eq (tgt := 850) hx hb dL_law_275 (by decide) (fun _ => ?_) (fun c0 => absurd rfl c0)
  exact K x9 m9 H locs ⟨hX, hM, hR, hdis⟩
set_option maxHeartbeats 4000000 in
set_option maxRecDepth 100000 in
theorem lwc_6 (C : LwC p s m meth c b L xs) (hW : LwW D g adx adm s x mm H locs) (hi : 4 * i + 4 ≤ L) (hl : lv_has ls 4 [(0, .ref b), (1, .ref (adx (17, 50, 0))), (2, .ref (adm (20, 50, 0))), (3, .int (nI (4 * i)))]) (K : ∀ (x9 m9 : Mem) (H : Heap) (locs : List Loc), LwW D g adx adm s x9 m9 H locs → W p l e room_1 s m #[Value.ref b] below meth c H locs 600000 7302250 Q (F0 m 850 ls [])) : W p l e room_1 s m #[Value.ref b] below meth c H locs 600000 7302250 Q (F0 m 280 ls []) := by
  obtain ⟨r, x9, m9, e1, e2, hR⟩ := op_nearly (xs (4 * i + 1)) (xs (4 * i + 2)) (xs (4 * i + 3)) x mm hW.2.2.1
  obtain ⟨hX, hM, -, hdis⟩ := hW
  obtain ⟨hx, hb, -, hts, hown, -, hml, hA⟩ := id C.1
  refine lv_aload_n hx hb dL_law_280 rfl (lv_at hl 1 rfl) ?_
  refine lw_arg (j := 1) C hX.2.2.2.1 hi (by decide) (by decide) hl dL_law_281 dL_law_282 dL_law_283 dL_law_284 dL_law_285 ?_
  refine lw_arg (j := 2) C hX.2.2.2.1 hi (by decide) (by decide) hl dL_law_286 dL_law_287 dL_law_288 dL_law_289 dL_law_290 ?_
  refine lw_arg (j := 3) C hX.2.2.2.1 hi (by decide) (by decide) hl dL_law_291 dL_law_292 dL_law_293 dL_law_294 dL_law_295 ?_
  refine wo2_Vi (As := [.int (xs (4 * i + 1)), .int (xs (4 * i + 2)), .int (xs (4 * i + 3))]) (rest := []) C.1 hX hM hdis (kX5_nearly l D g adx e1) (cwV 3 hts gL_law_X5_nearly rfl rfl rfl (by decide +kernel) ⟨Nat.le_of_ble_eq_true rfl, Nat.le_of_ble_eq_true rfl⟩) kl_17_50_0 cn_o rfl rfl hl.1 rfl (Nat.le_of_ble_eq_true rfl) dL_law_296 ⟨Nat.le_of_ble_eq_true rfl, Nat.le_of_ble_eq_true rfl⟩ (fun H locs hX hM => ?_)
  refine lv_aload_n hx hb dL_law_299 rfl (lv_at hl 2 rfl) ?_
  refine lw_arg (j := 1) C hM.2.2.2.1 hi (by decide) (by decide) hl dL_law_300 dL_law_301 dL_law_302 dL_law_303 dL_law_304 ?_
  refine lw_arg (j := 2) C hM.2.2.2.1 hi (by decide) (by decide) hl dL_law_305 dL_law_306 dL_law_307 dL_law_308 dL_law_309 ?_
  refine lw_arg (j := 3) C hM.2.2.2.1 hi (by decide) (by decide) hl dL_law_310 dL_law_311 dL_law_312 dL_law_313 dL_law_314 ?_
  refine wo2_Vi (As := [.int (xs (4 * i + 1)), .int (xs (4 * i + 2)), .int (xs (4 * i + 3))]) (rest := [.int r]) C.1 hM hX (fun k2 h2 k hk e9 => hdis k hk k2 h2 e9.symm) (kX6_nearly l D g adm e2) (cwV 3 hts gL_law_X6_nearly rfl rfl rfl (by decide +kernel) ⟨Nat.le_of_ble_eq_true rfl, Nat.le_of_ble_eq_true rfl⟩) kl_20_50_0 co_o rfl rfl hl.1 rfl (Nat.le_of_ble_eq_true rfl) dL_law_315 ⟨Nat.le_of_ble_eq_true rfl, Nat.le_of_ble_eq_true rfl⟩ (fun H locs hM hX => ?_)
  refine lv_icmp_eq (tgt := 850) hx hb dL_law_318 (by decide) (fun _ => ?_) (fun c0 => absurd rfl c0)
  exact K x9 m9 H locs ⟨hX, hM, hR, hdis⟩
set_option maxHeartbeats 4000000 in
set_option maxRecDepth 100000 in
theorem lwc_7 (C : LwC p s m meth c b L xs) (hW : LwW D g adx adm s x mm H locs) (hi : 4 * i + 4 ≤ L) (hl : lv_has ls 4 [(0, .ref b), (1, .ref (adx (17, 50, 0))), (2, .ref (adm (20, 50, 0))), (3, .int (nI (4 * i)))]) (K : ∀ (x9 m9 : Mem) (H : Heap) (locs : List Loc), LwW D g adx adm s x9 m9 H locs → W p l e room_1 s m #[Value.ref b] below meth c H locs 600000 7302250 Q (F0 m 850 ls [])) : W p l e room_1 s m #[Value.ref b] below meth c H locs 600000 7302250 Q (F0 m 323 ls []) := by
  obtain ⟨r, x9, m9, e1, e2, hR⟩ := op_pause (xs (4 * i + 1)) (xs (4 * i + 2)) (xs (4 * i + 3)) x mm hW.2.2.1
  obtain ⟨hX, hM, -, hdis⟩ := hW
  obtain ⟨hx, hb, -, hts, hown, -, hml, hA⟩ := id C.1
  refine lv_aload_n hx hb dL_law_323 rfl (lv_at hl 1 rfl) ?_
  refine lw_arg (j := 1) C hX.2.2.2.1 hi (by decide) (by decide) hl dL_law_324 dL_law_325 dL_law_326 dL_law_327 dL_law_328 ?_
  refine lw_arg (j := 2) C hX.2.2.2.1 hi (by decide) (by decide) hl dL_law_329 dL_law_330 dL_law_331 dL_law_332 dL_law_333 ?_
  refine lw_arg (j := 3) C hX.2.2.2.1 hi (by decide) (by decide) hl dL_law_334 dL_law_335 dL_law_336 dL_law_337 dL_law_338 ?_
  refine wo2_Vi (As := [.int (xs (4 * i + 1)), .int (xs (4 * i + 2)), .int (xs (4 * i + 3))]) (rest := []) C.1 hX hM hdis (kX5_pause l D g adx e1) (cwV 3 hts gL_law_X5_pause rfl rfl rfl (by decide +kernel) ⟨Nat.le_of_ble_eq_true rfl, Nat.le_of_ble_eq_true rfl⟩) kl_17_50_0 cn_o rfl rfl hl.1 rfl (Nat.le_of_ble_eq_true rfl) dL_law_339 ⟨Nat.le_of_ble_eq_true rfl, Nat.le_of_ble_eq_true rfl⟩ (fun H locs hX hM => ?_)
  refine lv_aload_n hx hb dL_law_342 rfl (lv_at hl 2 rfl) ?_
  refine lw_arg (j := 1) C hM.2.2.2.1 hi (by decide) (by decide) hl dL_law_343 dL_law_344 dL_law_345 dL_law_346 dL_law_347 ?_
  refine lw_arg (j := 2) C hM.2.2.2.1 hi (by decide) (by decide) hl dL_law_348 dL_law_349 dL_law_350 dL_law_351 dL_law_352 ?_
  refine lw_arg (j := 3) C hM.2.2.2.1 hi (by decide) (by decide) hl dL_law_353 dL_law_354 dL_law_355 dL_law_356 dL_law_357 ?_
  refine wo2_Vi (As := [.int (xs (4 * i + 1)), .int (xs (4 * i + 2)), .int (xs (4 * i + 3))]) (rest := [.int r]) C.1 hM hX (fun k2 h2 k hk e9 => hdis k hk k2 h2 e9.symm) (kX6_pause l D g adm e2) (cwV 3 hts gL_law_X6_pause rfl rfl rfl (by decide +kernel) ⟨Nat.le_of_ble_eq_true rfl, Nat.le_of_ble_eq_true rfl⟩) kl_20_50_0 co_o rfl rfl hl.1 rfl (Nat.le_of_ble_eq_true rfl) dL_law_358 ⟨Nat.le_of_ble_eq_true rfl, Nat.le_of_ble_eq_true rfl⟩ (fun H locs hM hX => ?_)
  refine lv_icmp_eq (tgt := 850) hx hb dL_law_361 (by decide) (fun _ => ?_) (fun c0 => absurd rfl c0)
  exact K x9 m9 H locs ⟨hX, hM, hR, hdis⟩
set_option maxHeartbeats 4000000 in
set_option maxRecDepth 100000 in
theorem lwc_8 (C : LwC p s m meth c b L xs) (hW : LwW D g adx adm s x mm H locs) (hi : 4 * i + 4 ≤ L) (hl : lv_has ls 4 [(0, .ref b), (1, .ref (adx (17, 50, 0))), (2, .ref (adm (20, 50, 0))), (3, .int (nI (4 * i)))]) (K : ∀ (x9 m9 : Mem) (H : Heap) (locs : List Loc), LwW D g adx adm s x9 m9 H locs → W p l e room_1 s m #[Value.ref b] below meth c H locs 600000 7302250 Q (F0 m 850 ls [])) : W p l e room_1 s m #[Value.ref b] below meth c H locs 600000 7302250 Q (F0 m 366 ls []) := by
  obtain ⟨r, x9, m9, e1, e2, hR⟩ := op_fair x mm hW.2.2.1
  obtain ⟨hX, hM, -, hdis⟩ := hW
  obtain ⟨hx, hb, -, hts, hown, -, hml, hA⟩ := id C.1
  refine lv_aload_n hx hb dL_law_366 rfl (lv_at hl 1 rfl) ?_
  refine wo2_Vi (As := []) (rest := []) C.1 hX hM hdis (kX5_fair l D g adx e1) (cwV 0 hts gL_law_X5_fair rfl rfl rfl (by decide +kernel) ⟨Nat.le_of_ble_eq_true rfl, Nat.le_of_ble_eq_true rfl⟩) kl_17_50_0 cn_o rfl rfl hl.1 rfl (Nat.le_of_ble_eq_true rfl) dL_law_367 ⟨Nat.le_of_ble_eq_true rfl, Nat.le_of_ble_eq_true rfl⟩ (fun H locs hX hM => ?_)
  refine lv_aload_n hx hb dL_law_370 rfl (lv_at hl 2 rfl) ?_
  refine wo2_Vi (As := []) (rest := [.int r]) C.1 hM hX (fun k2 h2 k hk e9 => hdis k hk k2 h2 e9.symm) (kX6_fair l D g adm e2) (cwV 0 hts gL_law_X6_fair rfl rfl rfl (by decide +kernel) ⟨Nat.le_of_ble_eq_true rfl, Nat.le_of_ble_eq_true rfl⟩) kl_20_50_0 co_o rfl rfl hl.1 rfl (Nat.le_of_ble_eq_true rfl) dL_law_371 ⟨Nat.le_of_ble_eq_true rfl, Nat.le_of_ble_eq_true rfl⟩ (fun H locs hM hX => ?_)
  refine lv_icmp_eq (tgt := 850) hx hb dL_law_374 (by decide) (fun _ => ?_) (fun c0 => absurd rfl c0)
  exact K x9 m9 H locs ⟨hX, hM, hR, hdis⟩
set_option maxHeartbeats 4000000 in
set_option maxRecDepth 100000 in
theorem lwc_9 (C : LwC p s m meth c b L xs) (hW : LwW D g adx adm s x mm H locs) (hi : 4 * i + 4 ≤ L) (hl : lv_has ls 4 [(0, .ref b), (1, .ref (adx (17, 50, 0))), (2, .ref (adm (20, 50, 0))), (3, .int (nI (4 * i)))]) (K : ∀ (x9 m9 : Mem) (H : Heap) (locs : List Loc), LwW D g adx adm s x9 m9 H locs → W p l e room_1 s m #[Value.ref b] below meth c H locs 600000 7302250 Q (F0 m 850 ls [])) : W p l e room_1 s m #[Value.ref b] below meth c H locs 600000 7302250 Q (F0 m 379 ls []) := by
  obtain ⟨r, x9, m9, e1, e2, hR⟩ := op_give (xs (4 * i + 1)) (xs (4 * i + 2)) (xs (4 * i + 3)) x mm hW.2.2.1
  obtain ⟨hX, hM, -, hdis⟩ := hW
  obtain ⟨hx, hb, -, hts, hown, -, hml, hA⟩ := id C.1
  refine lv_aload_n hx hb dL_law_379 rfl (lv_at hl 1 rfl) ?_
  refine lw_arg (j := 1) C hX.2.2.2.1 hi (by decide) (by decide) hl dL_law_380 dL_law_381 dL_law_382 dL_law_383 dL_law_384 ?_
  refine lw_arg (j := 2) C hX.2.2.2.1 hi (by decide) (by decide) hl dL_law_385 dL_law_386 dL_law_387 dL_law_388 dL_law_389 ?_
  refine lw_arg (j := 3) C hX.2.2.2.1 hi (by decide) (by decide) hl dL_law_390 dL_law_391 dL_law_392 dL_law_393 dL_law_394 ?_
  refine wo2_Vi (As := [.int (xs (4 * i + 1)), .int (xs (4 * i + 2)), .int (xs (4 * i + 3))]) (rest := []) C.1 hX hM hdis (kX5_give l D g adx e1) (cwV 3 hts gL_law_X5_give rfl rfl rfl (by decide +kernel) ⟨Nat.le_of_ble_eq_true rfl, Nat.le_of_ble_eq_true rfl⟩) kl_17_50_0 cn_o rfl rfl hl.1 rfl (Nat.le_of_ble_eq_true rfl) dL_law_395 ⟨Nat.le_of_ble_eq_true rfl, Nat.le_of_ble_eq_true rfl⟩ (fun H locs hX hM => ?_)
  refine lv_aload_n hx hb dL_law_398 rfl (lv_at hl 2 rfl) ?_
  refine lw_arg (j := 1) C hM.2.2.2.1 hi (by decide) (by decide) hl dL_law_399 dL_law_400 dL_law_401 dL_law_402 dL_law_403 ?_
  refine lw_arg (j := 2) C hM.2.2.2.1 hi (by decide) (by decide) hl dL_law_404 dL_law_405 dL_law_406 dL_law_407 dL_law_408 ?_
  refine lw_arg (j := 3) C hM.2.2.2.1 hi (by decide) (by decide) hl dL_law_409 dL_law_410 dL_law_411 dL_law_412 dL_law_413 ?_
  refine wo2_Vi (As := [.int (xs (4 * i + 1)), .int (xs (4 * i + 2)), .int (xs (4 * i + 3))]) (rest := [.int r]) C.1 hM hX (fun k2 h2 k hk e9 => hdis k hk k2 h2 e9.symm) (kX6_give l D g adm e2) (cwV 3 hts gL_law_X6_give rfl rfl rfl (by decide +kernel) ⟨Nat.le_of_ble_eq_true rfl, Nat.le_of_ble_eq_true rfl⟩) kl_20_50_0 co_o rfl rfl hl.1 rfl (Nat.le_of_ble_eq_true rfl) dL_law_414 ⟨Nat.le_of_ble_eq_true rfl, Nat.le_of_ble_eq_true rfl⟩ (fun H locs hM hX => ?_)
  refine lv_icmp_eq (tgt := 850) hx hb dL_law_417 (by decide) (fun _ => ?_) (fun c0 => absurd rfl c0)
  exact K x9 m9 H locs ⟨hX, hM, hR, hdis⟩
set_option maxHeartbeats 4000000 in
set_option maxRecDepth 100000 in
theorem lwc_10 (C : LwC p s m meth c b L xs) (hW : LwW D g adx adm s x mm H locs) (hi : 4 * i + 4 ≤ L) (hl : lv_has ls 4 [(0, .ref b), (1, .ref (adx (17, 50, 0))), (2, .ref (adm (20, 50, 0))), (3, .int (nI (4 * i)))]) (K : ∀ (x9 m9 : Mem) (H : Heap) (locs : List Loc), LwW D g adx adm s x9 m9 H locs → W p l e room_1 s m #[Value.ref b] below meth c H locs 600000 7302250 Q (F0 m 850 ls [])) : W p l e room_1 s m #[Value.ref b] below meth c H locs 600000 7302250 Q (F0 m 422 ls []) := by
  obtain ⟨r, x9, m9, e1, e2, hR⟩ := op_undo x mm hW.2.2.1
  obtain ⟨hX, hM, -, hdis⟩ := hW
  obtain ⟨hx, hb, -, hts, hown, -, hml, hA⟩ := id C.1
  refine lv_aload_n hx hb dL_law_422 rfl (lv_at hl 1 rfl) ?_
  refine wo2_Vi (As := []) (rest := []) C.1 hX hM hdis (kX5_undo l D g adx e1) (cwV 0 hts gL_law_X5_undo rfl rfl rfl (by decide +kernel) ⟨Nat.le_of_ble_eq_true rfl, Nat.le_of_ble_eq_true rfl⟩) kl_17_50_0 cn_o rfl rfl hl.1 rfl (Nat.le_of_ble_eq_true rfl) dL_law_423 ⟨Nat.le_of_ble_eq_true rfl, Nat.le_of_ble_eq_true rfl⟩ (fun H locs hX hM => ?_)
  refine lv_aload_n hx hb dL_law_426 rfl (lv_at hl 2 rfl) ?_
  refine wo2_Vi (As := []) (rest := [.int r]) C.1 hM hX (fun k2 h2 k hk e9 => hdis k hk k2 h2 e9.symm) (kX6_undo l D g adm e2) (cwV 0 hts gL_law_X6_undo rfl rfl rfl (by decide +kernel) ⟨Nat.le_of_ble_eq_true rfl, Nat.le_of_ble_eq_true rfl⟩) kl_20_50_0 co_o rfl rfl hl.1 rfl (Nat.le_of_ble_eq_true rfl) dL_law_427 ⟨Nat.le_of_ble_eq_true rfl, Nat.le_of_ble_eq_true rfl⟩ (fun H locs hM hX => ?_)
  refine lv_icmp_eq (tgt := 850) hx hb dL_law_430 (by decide) (fun _ => ?_) (fun c0 => absurd rfl c0)
  exact K x9 m9 H locs ⟨hX, hM, hR, hdis⟩
set_option maxHeartbeats 4000000 in
set_option maxRecDepth 100000 in
theorem lwc_11 (C : LwC p s m meth c b L xs) (hW : LwW D g adx adm s x mm H locs) (hi : 4 * i + 4 ≤ L) (hl : lv_has ls 4 [(0, .ref b), (1, .ref (adx (17, 50, 0))), (2, .ref (adm (20, 50, 0))), (3, .int (nI (4 * i)))]) (K : ∀ (x9 m9 : Mem) (H : Heap) (locs : List Loc), LwW D g adx adm s x9 m9 H locs → W p l e room_1 s m #[Value.ref b] below meth c H locs 600000 7302250 Q (F0 m 850 ls [])) : W p l e room_1 s m #[Value.ref b] below meth c H locs 600000 7302250 Q (F0 m 435 ls []) := by
  obtain ⟨r, x9, m9, e1, e2, hR⟩ := op_behind (xs (4 * i + 1)) (xs (4 * i + 2)) x mm hW.2.2.1
  obtain ⟨hX, hM, -, hdis⟩ := hW
  obtain ⟨hx, hb, -, hts, hown, -, hml, hA⟩ := id C.1
  refine lv_aload_n hx hb dL_law_435 rfl (lv_at hl 1 rfl) ?_
  refine lw_arg (j := 1) C hX.2.2.2.1 hi (by decide) (by decide) hl dL_law_436 dL_law_437 dL_law_438 dL_law_439 dL_law_440 ?_
  refine lw_arg (j := 2) C hX.2.2.2.1 hi (by decide) (by decide) hl dL_law_441 dL_law_442 dL_law_443 dL_law_444 dL_law_445 ?_
  refine wo2_Vi (As := [.int (xs (4 * i + 1)), .int (xs (4 * i + 2))]) (rest := []) C.1 hX hM hdis (kX5_behind l D g adx e1) (cwV 2 hts gL_law_X5_behind rfl rfl rfl (by decide +kernel) ⟨Nat.le_of_ble_eq_true rfl, Nat.le_of_ble_eq_true rfl⟩) kl_17_50_0 cn_o rfl rfl hl.1 rfl (Nat.le_of_ble_eq_true rfl) dL_law_446 ⟨Nat.le_of_ble_eq_true rfl, Nat.le_of_ble_eq_true rfl⟩ (fun H locs hX hM => ?_)
  refine lv_aload_n hx hb dL_law_449 rfl (lv_at hl 2 rfl) ?_
  refine lw_arg (j := 1) C hM.2.2.2.1 hi (by decide) (by decide) hl dL_law_450 dL_law_451 dL_law_452 dL_law_453 dL_law_454 ?_
  refine lw_arg (j := 2) C hM.2.2.2.1 hi (by decide) (by decide) hl dL_law_455 dL_law_456 dL_law_457 dL_law_458 dL_law_459 ?_
  refine wo2_Vi (As := [.int (xs (4 * i + 1)), .int (xs (4 * i + 2))]) (rest := [.int r]) C.1 hM hX (fun k2 h2 k hk e9 => hdis k hk k2 h2 e9.symm) (kX6_behind l D g adm e2) (cwV 2 hts gL_law_X6_behind rfl rfl rfl (by decide +kernel) ⟨Nat.le_of_ble_eq_true rfl, Nat.le_of_ble_eq_true rfl⟩) kl_20_50_0 co_o rfl rfl hl.1 rfl (Nat.le_of_ble_eq_true rfl) dL_law_460 ⟨Nat.le_of_ble_eq_true rfl, Nat.le_of_ble_eq_true rfl⟩ (fun H locs hM hX => ?_)
  refine lv_icmp_eq (tgt := 850) hx hb dL_law_463 (by decide) (fun _ => ?_) (fun c0 => absurd rfl c0)
  exact K x9 m9 H locs ⟨hX, hM, hR, hdis⟩
set_option maxHeartbeats 4000000 in
set_option maxRecDepth 100000 in
theorem lwc_12 (C : LwC p s m meth c b L xs) (hW : LwW D g adx adm s x mm H locs) (hi : 4 * i + 4 ≤ L) (hl : lv_has ls 4 [(0, .ref b), (1, .ref (adx (17, 50, 0))), (2, .ref (adm (20, 50, 0))), (3, .int (nI (4 * i)))]) (K : ∀ (x9 m9 : Mem) (H : Heap) (locs : List Loc), LwW D g adx adm s x9 m9 H locs → W p l e room_1 s m #[Value.ref b] below meth c H locs 600000 7302250 Q (F0 m 850 ls [])) : W p l e room_1 s m #[Value.ref b] below meth c H locs 600000 7302250 Q (F0 m 468 ls []) := by
  obtain ⟨r, x9, m9, e1, e2, hR⟩ := op_goes (xs (4 * i + 1)) x mm hW.2.2.1
  obtain ⟨hX, hM, -, hdis⟩ := hW
  obtain ⟨hx, hb, -, hts, hown, -, hml, hA⟩ := id C.1
  refine lv_aload_n hx hb dL_law_468 rfl (lv_at hl 1 rfl) ?_
  refine lw_arg (j := 1) C hX.2.2.2.1 hi (by decide) (by decide) hl dL_law_469 dL_law_470 dL_law_471 dL_law_472 dL_law_473 ?_
  refine wo2_Vi (As := [.int (xs (4 * i + 1))]) (rest := []) C.1 hX hM hdis (kX5_goes l D g adx e1) (cwV 1 hts gL_law_X5_goes rfl rfl rfl (by decide +kernel) ⟨Nat.le_of_ble_eq_true rfl, Nat.le_of_ble_eq_true rfl⟩) kl_17_50_0 cn_o rfl rfl hl.1 rfl (Nat.le_of_ble_eq_true rfl) dL_law_474 ⟨Nat.le_of_ble_eq_true rfl, Nat.le_of_ble_eq_true rfl⟩ (fun H locs hX hM => ?_)
  refine lv_aload_n hx hb dL_law_477 rfl (lv_at hl 2 rfl) ?_
  refine lw_arg (j := 1) C hM.2.2.2.1 hi (by decide) (by decide) hl dL_law_478 dL_law_479 dL_law_480 dL_law_481 dL_law_482 ?_
  refine wo2_Vi (As := [.int (xs (4 * i + 1))]) (rest := [.int r]) C.1 hM hX (fun k2 h2 k hk e9 => hdis k hk k2 h2 e9.symm) (kX6_goes l D g adm e2) (cwV 1 hts gL_law_X6_goes rfl rfl rfl (by decide +kernel) ⟨Nat.le_of_ble_eq_true rfl, Nat.le_of_ble_eq_true rfl⟩) kl_20_50_0 co_o rfl rfl hl.1 rfl (Nat.le_of_ble_eq_true rfl) dL_law_483 ⟨Nat.le_of_ble_eq_true rfl, Nat.le_of_ble_eq_true rfl⟩ (fun H locs hM hX => ?_)
  refine lv_icmp_eq (tgt := 850) hx hb dL_law_486 (by decide) (fun _ => ?_) (fun c0 => absurd rfl c0)
  exact K x9 m9 H locs ⟨hX, hM, hR, hdis⟩
set_option maxHeartbeats 4000000 in
set_option maxRecDepth 100000 in
theorem lwc_13 (C : LwC p s m meth c b L xs) (hW : LwW D g adx adm s x mm H locs) (hi : 4 * i + 4 ≤ L) (hl : lv_has ls 4 [(0, .ref b), (1, .ref (adx (17, 50, 0))), (2, .ref (adm (20, 50, 0))), (3, .int (nI (4 * i)))]) (K : ∀ (x9 m9 : Mem) (H : Heap) (locs : List Loc), LwW D g adx adm s x9 m9 H locs → W p l e room_1 s m #[Value.ref b] below meth c H locs 600000 7302250 Q (F0 m 850 ls [])) : W p l e room_1 s m #[Value.ref b] below meth c H locs 600000 7302250 Q (F0 m 491 ls []) := by
  obtain ⟨r, x9, m9, e1, e2, hR⟩ := op_never x mm hW.2.2.1
  obtain ⟨hX, hM, -, hdis⟩ := hW
  obtain ⟨hx, hb, -, hts, hown, -, hml, hA⟩ := id C.1
  refine lv_aload_n hx hb dL_law_491 rfl (lv_at hl 1 rfl) ?_
  refine wo2_Vi (As := []) (rest := []) C.1 hX hM hdis (kX5_never l D g adx e1) (cwV 0 hts gL_law_X5_never rfl rfl rfl (by decide +kernel) ⟨Nat.le_of_ble_eq_true rfl, Nat.le_of_ble_eq_true rfl⟩) kl_17_50_0 cn_o rfl rfl hl.1 rfl (Nat.le_of_ble_eq_true rfl) dL_law_492 ⟨Nat.le_of_ble_eq_true rfl, Nat.le_of_ble_eq_true rfl⟩ (fun H locs hX hM => ?_)
  refine lv_aload_n hx hb dL_law_495 rfl (lv_at hl 2 rfl) ?_
  refine wo2_Vi (As := []) (rest := [.int r]) C.1 hM hX (fun k2 h2 k hk e9 => hdis k hk k2 h2 e9.symm) (kX6_never l D g adm e2) (cwV 0 hts gL_law_X6_never rfl rfl rfl (by decide +kernel) ⟨Nat.le_of_ble_eq_true rfl, Nat.le_of_ble_eq_true rfl⟩) kl_20_50_0 co_o rfl rfl hl.1 rfl (Nat.le_of_ble_eq_true rfl) dL_law_496 ⟨Nat.le_of_ble_eq_true rfl, Nat.le_of_ble_eq_true rfl⟩ (fun H locs hM hX => ?_)
  refine lv_icmp_eq (tgt := 850) hx hb dL_law_499 (by decide) (fun _ => ?_) (fun c0 => absurd rfl c0)
  exact K x9 m9 H locs ⟨hX, hM, hR, hdis⟩
set_option maxHeartbeats 4000000 in
set_option maxRecDepth 100000 in
theorem lwc_14 (C : LwC p s m meth c b L xs) (hW : LwW D g adx adm s x mm H locs) (hi : 4 * i + 4 ≤ L) (hl : lv_has ls 4 [(0, .ref b), (1, .ref (adx (17, 50, 0))), (2, .ref (adm (20, 50, 0))), (3, .int (nI (4 * i)))]) (K : ∀ (x9 m9 : Mem) (H : Heap) (locs : List Loc), LwW D g adx adm s x9 m9 H locs → W p l e room_1 s m #[Value.ref b] below meth c H locs 600000 7302250 Q (F0 m 850 ls [])) : W p l e room_1 s m #[Value.ref b] below meth c H locs 600000 7302250 Q (F0 m 504 ls []) := by
  obtain ⟨r, x9, m9, e1, e2, hR⟩ := op_stop (xs (4 * i + 1)) (xs (4 * i + 2)) (xs (4 * i + 3)) x mm hW.2.2.1
  obtain ⟨hX, hM, -, hdis⟩ := hW
  obtain ⟨hx, hb, -, hts, hown, -, hml, hA⟩ := id C.1
  refine lv_aload_n hx hb dL_law_504 rfl (lv_at hl 1 rfl) ?_
  refine lw_arg (j := 1) C hX.2.2.2.1 hi (by decide) (by decide) hl dL_law_505 dL_law_506 dL_law_507 dL_law_508 dL_law_509 ?_
  refine lw_arg (j := 2) C hX.2.2.2.1 hi (by decide) (by decide) hl dL_law_510 dL_law_511 dL_law_512 dL_law_513 dL_law_514 ?_
  refine lw_arg (j := 3) C hX.2.2.2.1 hi (by decide) (by decide) hl dL_law_515 dL_law_516 dL_law_517 dL_law_518 dL_law_519 ?_
  refine wo2_Vi (As := [.int (xs (4 * i + 1)), .int (xs (4 * i + 2)), .int (xs (4 * i + 3))]) (rest := []) C.1 hX hM hdis (kX5_stop l D g adx e1) (cwV 3 hts gL_law_X5_stop rfl rfl rfl (by decide +kernel) ⟨Nat.le_of_ble_eq_true rfl, Nat.le_of_ble_eq_true rfl⟩) kl_17_50_0 cn_o rfl rfl hl.1 rfl (Nat.le_of_ble_eq_true rfl) dL_law_520 ⟨Nat.le_of_ble_eq_true rfl, Nat.le_of_ble_eq_true rfl⟩ (fun H locs hX hM => ?_)
  refine lv_aload_n hx hb dL_law_523 rfl (lv_at hl 2 rfl) ?_
  refine lw_arg (j := 1) C hM.2.2.2.1 hi (by decide) (by decide) hl dL_law_524 dL_law_525 dL_law_526 dL_law_527 dL_law_528 ?_
  refine lw_arg (j := 2) C hM.2.2.2.1 hi (by decide) (by decide) hl dL_law_529 dL_law_530 dL_law_531 dL_law_532 dL_law_533 ?_
  refine lw_arg (j := 3) C hM.2.2.2.1 hi (by decide) (by decide) hl dL_law_534 dL_law_535 dL_law_536 dL_law_537 dL_law_538 ?_
  refine wo2_Vi (As := [.int (xs (4 * i + 1)), .int (xs (4 * i + 2)), .int (xs (4 * i + 3))]) (rest := [.int r]) C.1 hM hX (fun k2 h2 k hk e9 => hdis k hk k2 h2 e9.symm) (kX6_stop l D g adm e2) (cwV 3 hts gL_law_X6_stop rfl rfl rfl (by decide +kernel) ⟨Nat.le_of_ble_eq_true rfl, Nat.le_of_ble_eq_true rfl⟩) kl_20_50_0 co_o rfl rfl hl.1 rfl (Nat.le_of_ble_eq_true rfl) dL_law_539 ⟨Nat.le_of_ble_eq_true rfl, Nat.le_of_ble_eq_true rfl⟩ (fun H locs hM hX => ?_)
  refine lv_icmp_eq (tgt := 850) hx hb dL_law_542 (by decide) (fun _ => ?_) (fun c0 => absurd rfl c0)
  exact K x9 m9 H locs ⟨hX, hM, hR, hdis⟩
set_option maxHeartbeats 4000000 in
set_option maxRecDepth 100000 in
theorem lwc_15 (C : LwC p s m meth c b L xs) (hW : LwW D g adx adm s x mm H locs) (hi : 4 * i + 4 ≤ L) (hl : lv_has ls 4 [(0, .ref b), (1, .ref (adx (17, 50, 0))), (2, .ref (adm (20, 50, 0))), (3, .int (nI (4 * i)))]) (K : ∀ (x9 m9 : Mem) (H : Heap) (locs : List Loc), LwW D g adx adm s x9 m9 H locs → W p l e room_1 s m #[Value.ref b] below meth c H locs 600000 7302250 Q (F0 m 850 ls [])) : W p l e room_1 s m #[Value.ref b] below meth c H locs 600000 7302250 Q (F0 m 547 ls []) := by
  obtain ⟨r, x9, m9, e1, e2, hR⟩ := op_rank (xs (4 * i + 1)) (xs (4 * i + 2)) x mm hW.2.2.1
  obtain ⟨hX, hM, -, hdis⟩ := hW
  obtain ⟨hx, hb, -, hts, hown, -, hml, hA⟩ := id C.1
  refine lv_aload_n hx hb dL_law_547 rfl (lv_at hl 1 rfl) ?_
  refine lw_arg (j := 1) C hX.2.2.2.1 hi (by decide) (by decide) hl dL_law_548 dL_law_549 dL_law_550 dL_law_551 dL_law_552 ?_
  refine lw_arg (j := 2) C hX.2.2.2.1 hi (by decide) (by decide) hl dL_law_553 dL_law_554 dL_law_555 dL_law_556 dL_law_557 ?_
  refine wo2_Vi (As := [.int (xs (4 * i + 1)), .int (xs (4 * i + 2))]) (rest := []) C.1 hX hM hdis (kX5_rank l D g adx e1) (cwV 2 hts gL_law_X5_rank rfl rfl rfl (by decide +kernel) ⟨Nat.le_of_ble_eq_true rfl, Nat.le_of_ble_eq_true rfl⟩) kl_17_50_0 cn_o rfl rfl hl.1 rfl (Nat.le_of_ble_eq_true rfl) dL_law_558 ⟨Nat.le_of_ble_eq_true rfl, Nat.le_of_ble_eq_true rfl⟩ (fun H locs hX hM => ?_)
  refine lv_aload_n hx hb dL_law_561 rfl (lv_at hl 2 rfl) ?_
  refine lw_arg (j := 1) C hM.2.2.2.1 hi (by decide) (by decide) hl dL_law_562 dL_law_563 dL_law_564 dL_law_565 dL_law_566 ?_
  refine lw_arg (j := 2) C hM.2.2.2.1 hi (by decide) (by decide) hl dL_law_567 dL_law_568 dL_law_569 dL_law_570 dL_law_571 ?_
  refine wo2_Vi (As := [.int (xs (4 * i + 1)), .int (xs (4 * i + 2))]) (rest := [.int r]) C.1 hM hX (fun k2 h2 k hk e9 => hdis k hk k2 h2 e9.symm) (kX6_rank l D g adm e2) (cwV 2 hts gL_law_X6_rank rfl rfl rfl (by decide +kernel) ⟨Nat.le_of_ble_eq_true rfl, Nat.le_of_ble_eq_true rfl⟩) kl_20_50_0 co_o rfl rfl hl.1 rfl (Nat.le_of_ble_eq_true rfl) dL_law_572 ⟨Nat.le_of_ble_eq_true rfl, Nat.le_of_ble_eq_true rfl⟩ (fun H locs hM hX => ?_)
  refine lv_icmp_eq (tgt := 850) hx hb dL_law_575 (by decide) (fun _ => ?_) (fun c0 => absurd rfl c0)
  exact K x9 m9 H locs ⟨hX, hM, hR, hdis⟩
set_option maxHeartbeats 4000000 in
set_option maxRecDepth 100000 in
theorem lwc_16 (C : LwC p s m meth c b L xs) (hW : LwW D g adx adm s x mm H locs) (hi : 4 * i + 4 ≤ L) (hl : lv_has ls 4 [(0, .ref b), (1, .ref (adx (17, 50, 0))), (2, .ref (adm (20, 50, 0))), (3, .int (nI (4 * i)))]) (K : ∀ (x9 m9 : Mem) (H : Heap) (locs : List Loc), LwW D g adx adm s x9 m9 H locs → W p l e room_1 s m #[Value.ref b] below meth c H locs 600000 7302250 Q (F0 m 850 ls [])) : W p l e room_1 s m #[Value.ref b] below meth c H locs 600000 7302250 Q (F0 m 580 ls []) := by
  obtain ⟨r, x9, m9, e1, e2, hR⟩ := op_wanted (xs (4 * i + 1)) x mm hW.2.2.1
  obtain ⟨hX, hM, -, hdis⟩ := hW
  obtain ⟨hx, hb, -, hts, hown, -, hml, hA⟩ := id C.1
  refine lv_aload_n hx hb dL_law_580 rfl (lv_at hl 1 rfl) ?_
  refine lw_arg (j := 1) C hX.2.2.2.1 hi (by decide) (by decide) hl dL_law_581 dL_law_582 dL_law_583 dL_law_584 dL_law_585 ?_
  refine wo2_Vi (As := [.int (xs (4 * i + 1))]) (rest := []) C.1 hX hM hdis (kX5_wanted l D g adx e1) (cwV 1 hts gL_law_X5_wanted rfl rfl rfl (by decide +kernel) ⟨Nat.le_of_ble_eq_true rfl, Nat.le_of_ble_eq_true rfl⟩) kl_17_50_0 cn_o rfl rfl hl.1 rfl (Nat.le_of_ble_eq_true rfl) dL_law_586 ⟨Nat.le_of_ble_eq_true rfl, Nat.le_of_ble_eq_true rfl⟩ (fun H locs hX hM => ?_)
  refine lv_aload_n hx hb dL_law_589 rfl (lv_at hl 2 rfl) ?_
  refine lw_arg (j := 1) C hM.2.2.2.1 hi (by decide) (by decide) hl dL_law_590 dL_law_591 dL_law_592 dL_law_593 dL_law_594 ?_
  refine wo2_Vi (As := [.int (xs (4 * i + 1))]) (rest := [.int r]) C.1 hM hX (fun k2 h2 k hk e9 => hdis k hk k2 h2 e9.symm) (kX6_wanted l D g adm e2) (cwV 1 hts gL_law_X6_wanted rfl rfl rfl (by decide +kernel) ⟨Nat.le_of_ble_eq_true rfl, Nat.le_of_ble_eq_true rfl⟩) kl_20_50_0 co_o rfl rfl hl.1 rfl (Nat.le_of_ble_eq_true rfl) dL_law_595 ⟨Nat.le_of_ble_eq_true rfl, Nat.le_of_ble_eq_true rfl⟩ (fun H locs hM hX => ?_)
  refine lv_icmp_eq (tgt := 850) hx hb dL_law_598 (by decide) (fun _ => ?_) (fun c0 => absurd rfl c0)
  exact K x9 m9 H locs ⟨hX, hM, hR, hdis⟩
set_option maxHeartbeats 4000000 in
set_option maxRecDepth 100000 in
theorem lwc_17 (C : LwC p s m meth c b L xs) (hW : LwW D g adx adm s x mm H locs) (hi : 4 * i + 4 ≤ L) (hl : lv_has ls 4 [(0, .ref b), (1, .ref (adx (17, 50, 0))), (2, .ref (adm (20, 50, 0))), (3, .int (nI (4 * i)))]) (K : ∀ (x9 m9 : Mem) (H : Heap) (locs : List Loc), LwW D g adx adm s x9 m9 H locs → W p l e room_1 s m #[Value.ref b] below meth c H locs 600000 7302250 Q (F0 m 850 ls [])) : W p l e room_1 s m #[Value.ref b] below meth c H locs 600000 7302250 Q (F0 m 603 ls []) := by
  obtain ⟨r, x9, m9, e1, e2, hR⟩ := op_seen (xs (4 * i + 1)) (xs (4 * i + 2)) (xs (4 * i + 3)) x mm hW.2.2.1
  obtain ⟨hX, hM, -, hdis⟩ := hW
  obtain ⟨hx, hb, -, hts, hown, -, hml, hA⟩ := id C.1
  refine lv_aload_n hx hb dL_law_603 rfl (lv_at hl 1 rfl) ?_
  refine lw_arg (j := 1) C hX.2.2.2.1 hi (by decide) (by decide) hl dL_law_604 dL_law_605 dL_law_606 dL_law_607 dL_law_608 ?_
  refine lw_arg (j := 2) C hX.2.2.2.1 hi (by decide) (by decide) hl dL_law_609 dL_law_610 dL_law_611 dL_law_612 dL_law_613 ?_
  refine lw_arg (j := 3) C hX.2.2.2.1 hi (by decide) (by decide) hl dL_law_614 dL_law_615 dL_law_616 dL_law_617 dL_law_618 ?_
  refine wo2_Vi (As := [.int (xs (4 * i + 1)), .int (xs (4 * i + 2)), .int (xs (4 * i + 3))]) (rest := []) C.1 hX hM hdis (kX5_seen l D g adx e1) (cwV 3 hts gL_law_X5_seen rfl rfl rfl (by decide +kernel) ⟨Nat.le_of_ble_eq_true rfl, Nat.le_of_ble_eq_true rfl⟩) kl_17_50_0 cn_o rfl rfl hl.1 rfl (Nat.le_of_ble_eq_true rfl) dL_law_619 ⟨Nat.le_of_ble_eq_true rfl, Nat.le_of_ble_eq_true rfl⟩ (fun H locs hX hM => ?_)
  refine lv_aload_n hx hb dL_law_622 rfl (lv_at hl 2 rfl) ?_
  refine lw_arg (j := 1) C hM.2.2.2.1 hi (by decide) (by decide) hl dL_law_623 dL_law_624 dL_law_625 dL_law_626 dL_law_627 ?_
  refine lw_arg (j := 2) C hM.2.2.2.1 hi (by decide) (by decide) hl dL_law_628 dL_law_629 dL_law_630 dL_law_631 dL_law_632 ?_
  refine lw_arg (j := 3) C hM.2.2.2.1 hi (by decide) (by decide) hl dL_law_633 dL_law_634 dL_law_635 dL_law_636 dL_law_637 ?_
  refine wo2_Vi (As := [.int (xs (4 * i + 1)), .int (xs (4 * i + 2)), .int (xs (4 * i + 3))]) (rest := [.int r]) C.1 hM hX (fun k2 h2 k hk e9 => hdis k hk k2 h2 e9.symm) (kX6_seen l D g adm e2) (cwV 3 hts gL_law_X6_seen rfl rfl rfl (by decide +kernel) ⟨Nat.le_of_ble_eq_true rfl, Nat.le_of_ble_eq_true rfl⟩) kl_20_50_0 co_o rfl rfl hl.1 rfl (Nat.le_of_ble_eq_true rfl) dL_law_638 ⟨Nat.le_of_ble_eq_true rfl, Nat.le_of_ble_eq_true rfl⟩ (fun H locs hM hX => ?_)
  refine lv_icmp_eq (tgt := 850) hx hb dL_law_641 (by decide) (fun _ => ?_) (fun c0 => absurd rfl c0)
  exact K x9 m9 H locs ⟨hX, hM, hR, hdis⟩
set_option maxHeartbeats 4000000 in
set_option maxRecDepth 100000 in
theorem lwc_18 (C : LwC p s m meth c b L xs) (hW : LwW D g adx adm s x mm H locs) (hi : 4 * i + 4 ≤ L) (hl : lv_has ls 4 [(0, .ref b), (1, .ref (adx (17, 50, 0))), (2, .ref (adm (20, 50, 0))), (3, .int (nI (4 * i)))]) (K : ∀ (x9 m9 : Mem) (H : Heap) (locs : List Loc), LwW D g adx adm s x9 m9 H locs → W p l e room_1 s m #[Value.ref b] below meth c H locs 600000 7302250 Q (F0 m 850 ls [])) : W p l e room_1 s m #[Value.ref b] below meth c H locs 600000 7302250 Q (F0 m 646 ls []) := by
  obtain ⟨r, x9, m9, e1, e2, hR⟩ := op_forget x mm hW.2.2.1
  obtain ⟨hX, hM, -, hdis⟩ := hW
  obtain ⟨hx, hb, -, hts, hown, -, hml, hA⟩ := id C.1
  refine lv_aload_n hx hb dL_law_646 rfl (lv_at hl 1 rfl) ?_
  refine wo2_Vi (As := []) (rest := []) C.1 hX hM hdis (kX5_forget l D g adx e1) (cwV 0 hts gL_law_X5_forget rfl rfl rfl (by decide +kernel) ⟨Nat.le_of_ble_eq_true rfl, Nat.le_of_ble_eq_true rfl⟩) kl_17_50_0 cn_o rfl rfl hl.1 rfl (Nat.le_of_ble_eq_true rfl) dL_law_647 ⟨Nat.le_of_ble_eq_true rfl, Nat.le_of_ble_eq_true rfl⟩ (fun H locs hX hM => ?_)
  refine lv_aload_n hx hb dL_law_650 rfl (lv_at hl 2 rfl) ?_
  refine wo2_Vi (As := []) (rest := [.int r]) C.1 hM hX (fun k2 h2 k hk e9 => hdis k hk k2 h2 e9.symm) (kX6_forget l D g adm e2) (cwV 0 hts gL_law_X6_forget rfl rfl rfl (by decide +kernel) ⟨Nat.le_of_ble_eq_true rfl, Nat.le_of_ble_eq_true rfl⟩) kl_20_50_0 co_o rfl rfl hl.1 rfl (Nat.le_of_ble_eq_true rfl) dL_law_651 ⟨Nat.le_of_ble_eq_true rfl, Nat.le_of_ble_eq_true rfl⟩ (fun H locs hM hX => ?_)
  refine lv_icmp_eq (tgt := 850) hx hb dL_law_654 (by decide) (fun _ => ?_) (fun c0 => absurd rfl c0)
  exact K x9 m9 H locs ⟨hX, hM, hR, hdis⟩
set_option maxHeartbeats 4000000 in
set_option maxRecDepth 100000 in
theorem lwc_19 (C : LwC p s m meth c b L xs) (hW : LwW D g adx adm s x mm H locs) (hi : 4 * i + 4 ≤ L) (hl : lv_has ls 4 [(0, .ref b), (1, .ref (adx (17, 50, 0))), (2, .ref (adm (20, 50, 0))), (3, .int (nI (4 * i)))]) (K : ∀ (x9 m9 : Mem) (H : Heap) (locs : List Loc), LwW D g adx adm s x9 m9 H locs → W p l e room_1 s m #[Value.ref b] below meth c H locs 600000 7302250 Q (F0 m 850 ls [])) : W p l e room_1 s m #[Value.ref b] below meth c H locs 600000 7302250 Q (F0 m 659 ls []) := by
  obtain ⟨r, x9, m9, e1, e2, hR⟩ := op_feigned (xs (4 * i + 1)) x mm hW.2.2.1
  obtain ⟨hX, hM, -, hdis⟩ := hW
  obtain ⟨hx, hb, -, hts, hown, -, hml, hA⟩ := id C.1
  refine lv_aload_n hx hb dL_law_659 rfl (lv_at hl 1 rfl) ?_
  refine lw_arg (j := 1) C hX.2.2.2.1 hi (by decide) (by decide) hl dL_law_660 dL_law_661 dL_law_662 dL_law_663 dL_law_664 ?_
  refine wo2_Vi (As := [.int (xs (4 * i + 1))]) (rest := []) C.1 hX hM hdis (kX5_feigned l D g adx e1) (cwV 1 hts gL_law_X5_feigned rfl rfl rfl (by decide +kernel) ⟨Nat.le_of_ble_eq_true rfl, Nat.le_of_ble_eq_true rfl⟩) kl_17_50_0 cn_o rfl rfl hl.1 rfl (Nat.le_of_ble_eq_true rfl) dL_law_665 ⟨Nat.le_of_ble_eq_true rfl, Nat.le_of_ble_eq_true rfl⟩ (fun H locs hX hM => ?_)
  refine lv_aload_n hx hb dL_law_668 rfl (lv_at hl 2 rfl) ?_
  refine lw_arg (j := 1) C hM.2.2.2.1 hi (by decide) (by decide) hl dL_law_669 dL_law_670 dL_law_671 dL_law_672 dL_law_673 ?_
  refine wo2_Vi (As := [.int (xs (4 * i + 1))]) (rest := [.int r]) C.1 hM hX (fun k2 h2 k hk e9 => hdis k hk k2 h2 e9.symm) (kX6_feigned l D g adm e2) (cwV 1 hts gL_law_X6_feigned rfl rfl rfl (by decide +kernel) ⟨Nat.le_of_ble_eq_true rfl, Nat.le_of_ble_eq_true rfl⟩) kl_20_50_0 co_o rfl rfl hl.1 rfl (Nat.le_of_ble_eq_true rfl) dL_law_674 ⟨Nat.le_of_ble_eq_true rfl, Nat.le_of_ble_eq_true rfl⟩ (fun H locs hM hX => ?_)
  refine lv_icmp_eq (tgt := 850) hx hb dL_law_677 (by decide) (fun _ => ?_) (fun c0 => absurd rfl c0)
  exact K x9 m9 H locs ⟨hX, hM, hR, hdis⟩
set_option maxHeartbeats 4000000 in
set_option maxRecDepth 100000 in
theorem lwc_20 (C : LwC p s m meth c b L xs) (hW : LwW D g adx adm s x mm H locs) (hi : 4 * i + 4 ≤ L) (hl : lv_has ls 4 [(0, .ref b), (1, .ref (adx (17, 50, 0))), (2, .ref (adm (20, 50, 0))), (3, .int (nI (4 * i)))]) (K : ∀ (x9 m9 : Mem) (H : Heap) (locs : List Loc), LwW D g adx adm s x9 m9 H locs → W p l e room_1 s m #[Value.ref b] below meth c H locs 600000 7302250 Q (F0 m 850 ls [])) : W p l e room_1 s m #[Value.ref b] below meth c H locs 600000 7302250 Q (F0 m 682 ls []) := by
  obtain ⟨r, x9, m9, e1, e2, hR⟩ := op_counts (xs (4 * i + 1)) (xs (4 * i + 2)) (xs (4 * i + 3)) x mm hW.2.2.1
  obtain ⟨hX, hM, -, hdis⟩ := hW
  obtain ⟨hx, hb, -, hts, hown, -, hml, hA⟩ := id C.1
  refine lv_aload_n hx hb dL_law_682 rfl (lv_at hl 1 rfl) ?_
  refine lw_arg (j := 1) C hX.2.2.2.1 hi (by decide) (by decide) hl dL_law_683 dL_law_684 dL_law_685 dL_law_686 dL_law_687 ?_
  refine lw_arg (j := 2) C hX.2.2.2.1 hi (by decide) (by decide) hl dL_law_688 dL_law_689 dL_law_690 dL_law_691 dL_law_692 ?_
  refine lw_arg (j := 3) C hX.2.2.2.1 hi (by decide) (by decide) hl dL_law_693 dL_law_694 dL_law_695 dL_law_696 dL_law_697 ?_
  refine wo2_Vi (As := [.int (xs (4 * i + 1)), .int (xs (4 * i + 2)), .int (xs (4 * i + 3))]) (rest := []) C.1 hX hM hdis (kX5_counts l D g adx e1) (cwV 3 hts gL_law_X5_counts rfl rfl rfl (by decide +kernel) ⟨Nat.le_of_ble_eq_true rfl, Nat.le_of_ble_eq_true rfl⟩) kl_17_50_0 cn_o rfl rfl hl.1 rfl (Nat.le_of_ble_eq_true rfl) dL_law_698 ⟨Nat.le_of_ble_eq_true rfl, Nat.le_of_ble_eq_true rfl⟩ (fun H locs hX hM => ?_)
  refine lv_aload_n hx hb dL_law_701 rfl (lv_at hl 2 rfl) ?_
  refine lw_arg (j := 1) C hM.2.2.2.1 hi (by decide) (by decide) hl dL_law_702 dL_law_703 dL_law_704 dL_law_705 dL_law_706 ?_
  refine lw_arg (j := 2) C hM.2.2.2.1 hi (by decide) (by decide) hl dL_law_707 dL_law_708 dL_law_709 dL_law_710 dL_law_711 ?_
  refine lw_arg (j := 3) C hM.2.2.2.1 hi (by decide) (by decide) hl dL_law_712 dL_law_713 dL_law_714 dL_law_715 dL_law_716 ?_
  refine wo2_Vi (As := [.int (xs (4 * i + 1)), .int (xs (4 * i + 2)), .int (xs (4 * i + 3))]) (rest := [.int r]) C.1 hM hX (fun k2 h2 k hk e9 => hdis k hk k2 h2 e9.symm) (kX6_counts l D g adm e2) (cwV 3 hts gL_law_X6_counts rfl rfl rfl (by decide +kernel) ⟨Nat.le_of_ble_eq_true rfl, Nat.le_of_ble_eq_true rfl⟩) kl_20_50_0 co_o rfl rfl hl.1 rfl (Nat.le_of_ble_eq_true rfl) dL_law_717 ⟨Nat.le_of_ble_eq_true rfl, Nat.le_of_ble_eq_true rfl⟩ (fun H locs hM hX => ?_)
  refine lv_icmp_eq (tgt := 850) hx hb dL_law_720 (by decide) (fun _ => ?_) (fun c0 => absurd rfl c0)
  exact K x9 m9 H locs ⟨hX, hM, hR, hdis⟩
set_option maxHeartbeats 4000000 in
set_option maxRecDepth 100000 in
theorem lwc_21 (C : LwC p s m meth c b L xs) (hW : LwW D g adx adm s x mm H locs) (hi : 4 * i + 4 ≤ L) (hl : lv_has ls 4 [(0, .ref b), (1, .ref (adx (17, 50, 0))), (2, .ref (adm (20, 50, 0))), (3, .int (nI (4 * i)))]) (K : ∀ (x9 m9 : Mem) (H : Heap) (locs : List Loc), LwW D g adx adm s x9 m9 H locs → W p l e room_1 s m #[Value.ref b] below meth c H locs 600000 7302250 Q (F0 m 850 ls [])) : W p l e room_1 s m #[Value.ref b] below meth c H locs 600000 7302250 Q (F0 m 725 ls []) := by
  obtain ⟨r, x9, m9, e1, e2, hR⟩ := op_cheapest (xs (4 * i + 1)) (xs (4 * i + 2)) x mm hW.2.2.1
  obtain ⟨hX, hM, -, hdis⟩ := hW
  obtain ⟨hx, hb, -, hts, hown, -, hml, hA⟩ := id C.1
  refine lv_aload_n hx hb dL_law_725 rfl (lv_at hl 1 rfl) ?_
  refine lw_arg (j := 1) C hX.2.2.2.1 hi (by decide) (by decide) hl dL_law_726 dL_law_727 dL_law_728 dL_law_729 dL_law_730 ?_
  refine lw_arg (j := 2) C hX.2.2.2.1 hi (by decide) (by decide) hl dL_law_731 dL_law_732 dL_law_733 dL_law_734 dL_law_735 ?_
  refine wo2_Vi (As := [.int (xs (4 * i + 1)), .int (xs (4 * i + 2))]) (rest := []) C.1 hX hM hdis (kX5_cheapest l D g adx e1) (cwV 2 hts gL_law_X5_cheapest rfl rfl rfl (by decide +kernel) ⟨Nat.le_of_ble_eq_true rfl, Nat.le_of_ble_eq_true rfl⟩) kl_17_50_0 cn_o rfl rfl hl.1 rfl (Nat.le_of_ble_eq_true rfl) dL_law_736 ⟨Nat.le_of_ble_eq_true rfl, Nat.le_of_ble_eq_true rfl⟩ (fun H locs hX hM => ?_)
  refine lv_aload_n hx hb dL_law_739 rfl (lv_at hl 2 rfl) ?_
  refine lw_arg (j := 1) C hM.2.2.2.1 hi (by decide) (by decide) hl dL_law_740 dL_law_741 dL_law_742 dL_law_743 dL_law_744 ?_
  refine lw_arg (j := 2) C hM.2.2.2.1 hi (by decide) (by decide) hl dL_law_745 dL_law_746 dL_law_747 dL_law_748 dL_law_749 ?_
  refine wo2_Vi (As := [.int (xs (4 * i + 1)), .int (xs (4 * i + 2))]) (rest := [.int r]) C.1 hM hX (fun k2 h2 k hk e9 => hdis k hk k2 h2 e9.symm) (kX6_cheapest l D g adm e2) (cwV 2 hts gL_law_X6_cheapest rfl rfl rfl (by decide +kernel) ⟨Nat.le_of_ble_eq_true rfl, Nat.le_of_ble_eq_true rfl⟩) kl_20_50_0 co_o rfl rfl hl.1 rfl (Nat.le_of_ble_eq_true rfl) dL_law_750 ⟨Nat.le_of_ble_eq_true rfl, Nat.le_of_ble_eq_true rfl⟩ (fun H locs hM hX => ?_)
  refine lv_icmp_eq (tgt := 850) hx hb dL_law_753 (by decide) (fun _ => ?_) (fun c0 => absurd rfl c0)
  exact K x9 m9 H locs ⟨hX, hM, hR, hdis⟩
set_option maxHeartbeats 4000000 in
set_option maxRecDepth 100000 in
theorem lwc_22 (C : LwC p s m meth c b L xs) (hW : LwW D g adx adm s x mm H locs) (hi : 4 * i + 4 ≤ L) (hl : lv_has ls 4 [(0, .ref b), (1, .ref (adx (17, 50, 0))), (2, .ref (adm (20, 50, 0))), (3, .int (nI (4 * i)))]) (K : ∀ (x9 m9 : Mem) (H : Heap) (locs : List Loc), LwW D g adx adm s x9 m9 H locs → W p l e room_1 s m #[Value.ref b] below meth c H locs 600000 7302250 Q (F0 m 850 ls [])) : W p l e room_1 s m #[Value.ref b] below meth c H locs 600000 7302250 Q (F0 m 758 ls []) := by
  obtain ⟨r, x9, m9, e1, e2, hR⟩ := op_greens (xs (4 * i + 1)) (xs (4 * i + 2)) (xs (4 * i + 3)) x mm hW.2.2.1
  obtain ⟨hX, hM, -, hdis⟩ := hW
  obtain ⟨hx, hb, -, hts, hown, -, hml, hA⟩ := id C.1
  refine lv_aload_n hx hb dL_law_758 rfl (lv_at hl 1 rfl) ?_
  refine lw_arg (j := 1) C hX.2.2.2.1 hi (by decide) (by decide) hl dL_law_759 dL_law_760 dL_law_761 dL_law_762 dL_law_763 ?_
  refine lw_arg (j := 2) C hX.2.2.2.1 hi (by decide) (by decide) hl dL_law_764 dL_law_765 dL_law_766 dL_law_767 dL_law_768 ?_
  refine lw_arg (j := 3) C hX.2.2.2.1 hi (by decide) (by decide) hl dL_law_769 dL_law_770 dL_law_771 dL_law_772 dL_law_773 ?_
  refine wo2_Vi (As := [.int (xs (4 * i + 1)), .int (xs (4 * i + 2)), .int (xs (4 * i + 3))]) (rest := []) C.1 hX hM hdis (kX5_greens l D g adx e1) (cwV 3 hts gL_law_X5_greens rfl rfl rfl (by decide +kernel) ⟨Nat.le_of_ble_eq_true rfl, Nat.le_of_ble_eq_true rfl⟩) kl_17_50_0 cn_o rfl rfl hl.1 rfl (Nat.le_of_ble_eq_true rfl) dL_law_774 ⟨Nat.le_of_ble_eq_true rfl, Nat.le_of_ble_eq_true rfl⟩ (fun H locs hX hM => ?_)
  refine lv_aload_n hx hb dL_law_777 rfl (lv_at hl 2 rfl) ?_
  refine lw_arg (j := 1) C hM.2.2.2.1 hi (by decide) (by decide) hl dL_law_778 dL_law_779 dL_law_780 dL_law_781 dL_law_782 ?_
  refine lw_arg (j := 2) C hM.2.2.2.1 hi (by decide) (by decide) hl dL_law_783 dL_law_784 dL_law_785 dL_law_786 dL_law_787 ?_
  refine lw_arg (j := 3) C hM.2.2.2.1 hi (by decide) (by decide) hl dL_law_788 dL_law_789 dL_law_790 dL_law_791 dL_law_792 ?_
  refine wo2_Vi (As := [.int (xs (4 * i + 1)), .int (xs (4 * i + 2)), .int (xs (4 * i + 3))]) (rest := [.int r]) C.1 hM hX (fun k2 h2 k hk e9 => hdis k hk k2 h2 e9.symm) (kX6_greens l D g adm e2) (cwV 3 hts gL_law_X6_greens rfl rfl rfl (by decide +kernel) ⟨Nat.le_of_ble_eq_true rfl, Nat.le_of_ble_eq_true rfl⟩) kl_20_50_0 co_o rfl rfl hl.1 rfl (Nat.le_of_ble_eq_true rfl) dL_law_793 ⟨Nat.le_of_ble_eq_true rfl, Nat.le_of_ble_eq_true rfl⟩ (fun H locs hM hX => ?_)
  refine lv_icmp_eq (tgt := 850) hx hb dL_law_796 (by decide) (fun _ => ?_) (fun c0 => absurd rfl c0)
  exact K x9 m9 H locs ⟨hX, hM, hR, hdis⟩
set_option maxHeartbeats 4000000 in
set_option maxRecDepth 100000 in
theorem lwc_23 (C : LwC p s m meth c b L xs) (hW : LwW D g adx adm s x mm H locs) (hi : 4 * i + 4 ≤ L) (hl : lv_has ls 4 [(0, .ref b), (1, .ref (adx (17, 50, 0))), (2, .ref (adm (20, 50, 0))), (3, .int (nI (4 * i)))]) (K : ∀ (x9 m9 : Mem) (H : Heap) (locs : List Loc), LwW D g adx adm s x9 m9 H locs → W p l e room_1 s m #[Value.ref b] below meth c H locs 600000 7302250 Q (F0 m 850 ls [])) : W p l e room_1 s m #[Value.ref b] below meth c H locs 600000 7302250 Q (F0 m 801 ls []) := by
  obtain ⟨r, x9, m9, e1, e2, hR⟩ := op_keep x mm hW.2.2.1
  obtain ⟨hX, hM, -, hdis⟩ := hW
  obtain ⟨hx, hb, -, hts, hown, -, hml, hA⟩ := id C.1
  refine lv_aload_n hx hb dL_law_801 rfl (lv_at hl 1 rfl) ?_
  refine wo2_Vi (As := []) (rest := []) C.1 hX hM hdis (kX5_keep l D g adx e1) (cwV 0 hts gL_law_X5_keep rfl rfl rfl (by decide +kernel) ⟨Nat.le_of_ble_eq_true rfl, Nat.le_of_ble_eq_true rfl⟩) kl_17_50_0 cn_o rfl rfl hl.1 rfl (Nat.le_of_ble_eq_true rfl) dL_law_802 ⟨Nat.le_of_ble_eq_true rfl, Nat.le_of_ble_eq_true rfl⟩ (fun H locs hX hM => ?_)
  refine lv_aload_n hx hb dL_law_805 rfl (lv_at hl 2 rfl) ?_
  refine wo2_Vi (As := []) (rest := [.int r]) C.1 hM hX (fun k2 h2 k hk e9 => hdis k hk k2 h2 e9.symm) (kX6_keep l D g adm e2) (cwV 0 hts gL_law_X6_keep rfl rfl rfl (by decide +kernel) ⟨Nat.le_of_ble_eq_true rfl, Nat.le_of_ble_eq_true rfl⟩) kl_20_50_0 co_o rfl rfl hl.1 rfl (Nat.le_of_ble_eq_true rfl) dL_law_806 ⟨Nat.le_of_ble_eq_true rfl, Nat.le_of_ble_eq_true rfl⟩ (fun H locs hM hX => ?_)
  refine lv_icmp_eq (tgt := 850) hx hb dL_law_809 (by decide) (fun _ => ?_) (fun c0 => absurd rfl c0)
  exact K x9 m9 H locs ⟨hX, hM, hR, hdis⟩
set_option maxHeartbeats 4000000 in
set_option maxRecDepth 100000 in
theorem lwc_24 (C : LwC p s m meth c b L xs) (hW : LwW D g adx adm s x mm H locs) (hi : 4 * i + 4 ≤ L) (hl : lv_has ls 4 [(0, .ref b), (1, .ref (adx (17, 50, 0))), (2, .ref (adm (20, 50, 0))), (3, .int (nI (4 * i)))]) (K : ∀ (x9 m9 : Mem) (H : Heap) (locs : List Loc), LwW D g adx adm s x9 m9 H locs → W p l e room_1 s m #[Value.ref b] below meth c H locs 600000 7302250 Q (F0 m 850 ls [])) : W p l e room_1 s m #[Value.ref b] below meth c H locs 600000 7302250 Q (F0 m 814 ls []) := by
  obtain ⟨r, x9, m9, e1, e2, hR⟩ := op_back x mm hW.2.2.1
  obtain ⟨hX, hM, -, hdis⟩ := hW
  obtain ⟨hx, hb, -, hts, hown, -, hml, hA⟩ := id C.1
  refine lv_aload_n hx hb dL_law_814 rfl (lv_at hl 1 rfl) ?_
  refine wo2_Vi (As := []) (rest := []) C.1 hX hM hdis (kX5_back l D g adx e1) (cwV 0 hts gL_law_X5_back rfl rfl rfl (by decide +kernel) ⟨Nat.le_of_ble_eq_true rfl, Nat.le_of_ble_eq_true rfl⟩) kl_17_50_0 cn_o rfl rfl hl.1 rfl (Nat.le_of_ble_eq_true rfl) dL_law_815 ⟨Nat.le_of_ble_eq_true rfl, Nat.le_of_ble_eq_true rfl⟩ (fun H locs hX hM => ?_)
  refine lv_aload_n hx hb dL_law_818 rfl (lv_at hl 2 rfl) ?_
  refine wo2_Vi (As := []) (rest := [.int r]) C.1 hM hX (fun k2 h2 k hk e9 => hdis k hk k2 h2 e9.symm) (kX6_back l D g adm e2) (cwV 0 hts gL_law_X6_back rfl rfl rfl (by decide +kernel) ⟨Nat.le_of_ble_eq_true rfl, Nat.le_of_ble_eq_true rfl⟩) kl_20_50_0 co_o rfl rfl hl.1 rfl (Nat.le_of_ble_eq_true rfl) dL_law_819 ⟨Nat.le_of_ble_eq_true rfl, Nat.le_of_ble_eq_true rfl⟩ (fun H locs hM hX => ?_)
  refine lv_icmp_eq (tgt := 850) hx hb dL_law_822 (by decide) (fun _ => ?_) (fun c0 => absurd rfl c0)
  exact K x9 m9 H locs ⟨hX, hM, hR, hdis⟩
set_option maxHeartbeats 4000000 in
set_option maxRecDepth 100000 in
theorem lwc_25 (C : LwC p s m meth c b L xs) (hW : LwW D g adx adm s x mm H locs) (hi : 4 * i + 4 ≤ L) (hl : lv_has ls 4 [(0, .ref b), (1, .ref (adx (17, 50, 0))), (2, .ref (adm (20, 50, 0))), (3, .int (nI (4 * i)))]) (K : ∀ (x9 m9 : Mem) (H : Heap) (locs : List Loc), LwW D g adx adm s x9 m9 H locs → W p l e room_1 s m #[Value.ref b] below meth c H locs 600000 7302250 Q (F0 m 850 ls [])) : W p l e room_1 s m #[Value.ref b] below meth c H locs 600000 7302250 Q (F0 m 827 ls []) := by
  obtain ⟨r, x9, m9, e1, e2, hR⟩ := op_count (xs (4 * i + 1)) x mm hW.2.2.1
  obtain ⟨hX, hM, -, hdis⟩ := hW
  obtain ⟨hx, hb, -, hts, hown, -, hml, hA⟩ := id C.1
  refine lv_aload_n hx hb dL_law_827 rfl (lv_at hl 1 rfl) ?_
  refine lw_arg (j := 1) C hX.2.2.2.1 hi (by decide) (by decide) hl dL_law_828 dL_law_829 dL_law_830 dL_law_831 dL_law_832 ?_
  refine wo2_Vi (As := [.int (xs (4 * i + 1))]) (rest := []) C.1 hX hM hdis (kX5_count l D g adx e1) (cwV 1 hts gL_law_X5_count rfl rfl rfl (by decide +kernel) ⟨Nat.le_of_ble_eq_true rfl, Nat.le_of_ble_eq_true rfl⟩) kl_17_50_0 cn_o rfl rfl hl.1 rfl (Nat.le_of_ble_eq_true rfl) dL_law_833 ⟨Nat.le_of_ble_eq_true rfl, Nat.le_of_ble_eq_true rfl⟩ (fun H locs hX hM => ?_)
  refine lv_aload_n hx hb dL_law_836 rfl (lv_at hl 2 rfl) ?_
  refine lw_arg (j := 1) C hM.2.2.2.1 hi (by decide) (by decide) hl dL_law_837 dL_law_838 dL_law_839 dL_law_840 dL_law_841 ?_
  refine wo2_Vi (As := [.int (xs (4 * i + 1))]) (rest := [.int r]) C.1 hM hX (fun k2 h2 k hk e9 => hdis k hk k2 h2 e9.symm) (kX6_count l D g adm e2) (cwV 1 hts gL_law_X6_count rfl rfl rfl (by decide +kernel) ⟨Nat.le_of_ble_eq_true rfl, Nat.le_of_ble_eq_true rfl⟩) kl_20_50_0 co_o rfl rfl hl.1 rfl (Nat.le_of_ble_eq_true rfl) dL_law_842 ⟨Nat.le_of_ble_eq_true rfl, Nat.le_of_ble_eq_true rfl⟩ (fun H locs hM hX => ?_)
  refine lv_icmp_eq (tgt := 850) hx hb dL_law_845 (by decide) (fun _ => ?_) (fun c0 => absurd rfl c0)
  exact K x9 m9 H locs ⟨hX, hM, hR, hdis⟩
end LWS
