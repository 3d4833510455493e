/-! THE CONTRACTS OF CONSTRUCTORS (laid by wip/whole/gen/make.py) -/
def CtN (l : Launch) (y : MethodName) (ws : List Cond) (rm : Room) (D : va_G) (g : G3) (as : List Value) (N cj : Nat) (fj : List Value) (n : Nat) (ce : Nat → va_E) (mc ms : Nat) : Prop :=
  Met l y ws rm (va_Pc as (fun U => Ev D g U ∧ U.heap.size = N + 1 ∧ va_at D vwCl (N, .inr (cj, fj)) U.heap)) (va_Qv (fun (_ : Unit) => True) (fun _ t => Bw D N n ce t.heap) (fun q => N ≤ q)) mc ms (fun q => N ≤ q)
theorem C0_end {ci : Nat} {fs : List Value} {ce : Nat → va_E} {n : Nat} (h0 : ce 0 = .inr (ci, fs)) : ∀ i, i < n → C0 ci fs ce i = ce i := fun i _ => by
  by_cases c0 : i = 0
  · subst c0
    rw [h0]
    rfl
  · exact C0_n c0
theorem bn_end {D : va_G} {N n : Nat} {ce : Nat → va_E} {t : State} {H : Heap} (ht : t.heap = H) (hB : Bw D N n ce H) : Bw D N n ce t.heap := by
  rw [ht]
  exact hB
theorem ctN_of {l : Launch} {y : MethodName} {ws ws' : List Cond} {rm : Room} {D : va_G} {g : G3} {as : List Value} {N cj : Nat} {fj : List Value} {n : Nat} {ce : Nat → va_E} {mc ms : Nat} {cc : ByteArray} {maxL : Nat} (hy : plainName y.cls = true) (hw : ws = Cond.code y cc maxL none :: ws') (hle : (lg_sl as).length ≤ maxL) (hi : y.name = "<init>")
    (body : ∀ (p : Program) (e : Env) (s : State) (m : MethodId) (below : List Frame) (meth : Method) (c : Code) (ls : Array Slot), Cx p s m as.toArray meth c cc none maxL y.cls ws (fun q => N ≤ q) → meth.name = "<init>" → Ev D g s → Bw D N 1 (fun _ => .inr (cj, fj)) s.heap → va_S (fun q => N ≤ q) s.heap s.heap [] → lv_has ls maxL (lv_args 0 as) → W p l e rm s m as.toArray below meth c s.heap [] 0 0 (MQ below (va_Qv (fun (_ : Unit) => True) (fun _ t => Bw D N n ce t.heap) (fun q => N ≤ q)) as.toArray s mc ms (fun q => N ≤ q)) (F0 m 0 ls [])) : CtN l y ws rm D g as N cj fj n ce mc ms := by
  refine Met.ofW (cc := cc) (maxL := maxL) (ret := none) hy hw ?_
  intro p e s m args below meth c s₁ B hml hv
  obtain ⟨rfl, hE, hsz, hat⟩ := hv
  rw [lg_entry_eq]
  exact body p e s m below meth c _ ⟨B.exec, B.bytes, B.returns, atoms_spec (ws := ws) B.pre, findClass_of_methodNamed B.named, B.notSynchronized, hml, fun q h => by rw [hsz] at h; omega⟩ ((name_of_methodNamed B.named B.method).1.trans hi) hE ⟨hsz, fun i hi => by rw [show i = 0 by omega]; exact hat⟩ va_S.rf (lv_entry as hle)
section CALLN
variable {p : Program} {l : Launch} {e : Env} {R : Room} {s : State} {m : MethodId} {args : Array Value} {below : List Frame} {meth : Method} {c : Code} {H : Heap} {locs : List Loc} {cells slots : Nat} {Q : State → Prop}
variable {cc : ByteArray} {pc : Nat} {ls : Array Slot} {rest st0 : List Value} {D : va_G} {A A' : Nat → Prop} {g : G3} {N n n2 mc ms cj : Nat} {fj : List Value} {ce ce' ce2 : Nat → va_E} {H0 : Heap} {aa : Array Value}
theorem bn_blind {as : List Value} : FrameBlind (va_Pc as (fun U => Ev D g U ∧ U.heap.size = N + 1 ∧ va_at D vwCl (N, .inr (cj, fj)) U.heap)) := by
  intro a U g mk q
  obtain ⟨q0, q1, q2, q3⟩ := q
  exact ⟨q0, Ev.moved (u := U) (U := U.calling g mk a) (Vm.Alike.refl U.vm) q1, q2, q3⟩
theorem bn_pre {as : List Value} (hE : Ev D g s) (hB : Bp D N n ce cj fj H) : ∀ U : State, U.heap = H → s.WarmedH U.vm → va_Pc as (fun U => Ev D g U ∧ U.heap.size = N + n + 1 ∧ va_at D vwCl (N + n, .inr (cj, fj)) U.heap) as.toArray U :=
  fun U hU hW => ⟨rfl, Ev.moved hW.alike hE, by rw [hU]; exact hB.1, by rw [hU]; exact hB.2.2⟩
theorem bw_back (hr : va_Run p l e R s m args below meth c H locs cells slots mc ms (F0 m pc ls st0) rest (va_Qv (fun (_ : Unit) => True) (fun _ t => Bw D (N + n) n2 ce2 t.heap) (fun q => N + n ≤ q) aa) (fun q => N + n ≤ q)) (hB : Bp D N n ce cj fj H) (hS : va_S A H0 H locs) (hA : ∀ q, N ≤ q → A q) (he : ∀ i, i < n → ce' i = ce i) (he2 : ∀ i, i < n2 → ce' (n + i) = ce2 i)
    (kk : ∀ (H1 : Heap) (locs1 : List Loc), Bw D N (n + n2) ce' H1 → va_S A H0 H1 locs1 → W p l e R s m args below meth c H1 locs1 (cells + mc) (slots + ms) Q (F0 m (pc + 3) ls rest)) : W p l e R s m args below meth c H locs cells slots Q (F0 m pc ls st0) := by
  refine va_callv hr hS (fun q _ h => hA q (by have h : N + n ≤ q := h; omega)) (fun q h => hA q (by have h : N + n ≤ q := h; omega)) (fun u t H1 locs1 ht hvm hp hb hz hk hS1 => ?_)
  rw [ht] at hb
  refine kk H1 locs1 ⟨by rw [hb.1]; omega, fun i hi => ?_⟩ hS1
  by_cases c0 : i < n
  · rw [he i c0]
    exact (hB.2.1 i c0).kept (hk (N + i) (by have := hB.1; omega) (fun h => by have h : N + n ≤ N + i := h; omega))
  · obtain ⟨j, rfl⟩ : ∃ j, i = n + j := ⟨i - n, by omega⟩
    rw [he2 j (by omega), show N + (n + j) = N + n + j by omega]
    exact hb.2 j (by omega)
variable {y : MethodName} {bytes : ByteArray} {maxL index n' nL : Nat} {ws : List Cond} {rm : Room} {Ts : List Cond} {own host : String} {As : List Value} {ret : Option FieldType}
theorem bw_I (S : Cx p s m args meth c cc ret nL own Ts A') (hE : Ev D g s) (hB : Bp D N n ce cj fj H) (hS : va_S A H0 H locs) (hA : ∀ q, N ≤ q → A q) (hM : CtN l y ws rm D g (.ref (N + n) :: As) (N + n) cj fj n2 ce2 mc ms) (cw : CallB R s args own index y bytes maxL none ws rm mc ms n' ∧ y.name = "<init>" ∧ (Cond.instanceMethod y).before args s = true) (hn : As.length = n') (hsize : ls.size = nL) (hstack : st0 = As.reverse ++ .ref (N + n) :: rest) (hr8 : (rest.map fun v => v.category).sum ≤ 8) (hdg : decode cc pc = .ok (.invokespecial index, 3)) (hcs : cells + mc ≤ R.cells ∧ slots + ms ≤ R.slots) (he : ∀ i, i < n → ce' i = ce i) (he2 : ∀ i, i < n2 → ce' (n + i) = ce2 i)
    (kk : ∀ (H1 : Heap) (locs1 : List Loc), Bw D N (n + n2) ce' H1 → va_S A H0 H1 locs1 → W p l e R s m args below meth c H1 locs1 (cells + mc) (slots + ms) Q (F0 m (pc + 3) ls rest)) : W p l e R s m args below meth c H locs cells slots Q (F0 m pc ls st0) := by
  obtain ⟨hx, hb, -, hts, hown, -, hml, -⟩ := S
  exact bw_back (va_runI ⟨hx, hb, hml, hown, hts⟩ hM cw ⟨bn_blind, bn_pre hE hB⟩ rfl hn hsize hstack (lv_room hr8) hdg hcs) hB hS hA he he2 kk
theorem bw_IN (S : Cx p s m args meth c cc ret nL own Ts A') (hE : Ev D g s) (hB : Bp D N n ce cj fj H) (hS : va_S A H0 H locs) (hA : ∀ q, N ≤ q → A q) (hM : CtN l y ws rm D g (.ref (N + n) :: As) (N + n) cj fj n2 ce2 mc ms) (cw : va_CN R s args own index y host bytes maxL none ws rm mc ms n' ∧ y.name = "<init>" ∧ (Cond.instanceMethod y).before args s = true) (hn : As.length = n') (hsize : ls.size = nL) (hstack : st0 = As.reverse ++ .ref (N + n) :: rest) (hr8 : (rest.map fun v => v.category).sum ≤ 8) (hdg : decode cc pc = .ok (.invokespecial index, 3)) (hcs : cells + mc ≤ R.cells ∧ slots + ms ≤ R.slots) (he : ∀ i, i < n → ce' i = ce i) (he2 : ∀ i, i < n2 → ce' (n + i) = ce2 i)
    (kk : ∀ (H1 : Heap) (locs1 : List Loc), Bw D N (n + n2) ce' H1 → va_S A H0 H1 locs1 → W p l e R s m args below meth c H1 locs1 (cells + mc) (slots + ms) Q (F0 m (pc + 3) ls rest)) : W p l e R s m args below meth c H locs cells slots Q (F0 m pc ls st0) := by
  obtain ⟨hx, hb, -, hts, hown, -, hml, -⟩ := S
  exact bw_back (va_runIN ⟨hx, hb, hml, hown, hts⟩ hM cw ⟨bn_blind, bn_pre hE hB⟩ rfl hn hsize hstack (lv_room hr8) hdg hcs) hB hS hA he he2 kk
end CALLN
abbrev rX2_init : Room := { frames := 1, cells := 1, slots := 4, locals := 12 }
set_option maxHeartbeats 4000000 in
set_option maxRecDepth 100000 in
/-- Reader() -/
theorem kX2_init (l : Launch) (D : va_G) (g : G3) (N : Nat) (ce : Nat → va_E) (e0 : ce 0 = .inr (2, [.ref (N + 1), .int 0])) (e1 : ce 1 = .inl (g.1, 4, .inl (fun _ => 0))) : CtN l yX2_init wsX2_init rX2_init D g [.ref N] N 2 [.null, .int 0] 2 ce 1 4 := by
  refine ctN_of (cc := cX2_init) (maxL := 1) (by decide) rfl (Nat.le_of_ble_eq_true rfl) rfl (fun p e s m below meth c ls C hin hE hB hS hl => ?_)
  have hl : lv_has ls 1 [(0, .ref N)] := hl
  obtain ⟨hx, hb, hr, hts, hown, hlocks, hml, hA⟩ := id C
  refine lv_aload_n hx hb dX2_init_0 rfl (lv_at hl 0 rfl) ?_
  refine W.objInit hx hb hown (hts (.methodLink RX2 3 objectInit) (by decide +kernel)) (hts (.instanceMethod objectInit) (by decide +kernel)) (hts _ (by decide +kernel)) rfl (by rw [hml]; exact hl.1) rfl dX2_init_1 (Nat.le_of_ble_eq_true rfl) (Nat.le_of_ble_eq_true rfl) ?_
  refine W.eq (g2 := F0 m 4 ls []) rfl ?_
  have hB : Bw D N 1 (C0 2 [.null, .int 0] ce) s.heap := hB.to (fun i hi => by rw [show i = 0 by omega]; rfl)
  refine lv_aload_n hx hb dX2_init_4 rfl (lv_at hl 0 rfl) ?_
  refine lv_iconst (v := 4) hx hb dX2_init_5 (by decide) ?_
  refine bw_newa (L := 4) hx hb (hts (.arrayClass .int) (by decide +kernel)) hE.1 hB hS (by decide) (by decide) (by decide) (Nat.le_of_ble_eq_true rfl) (Nat.le_of_ble_eq_true rfl) ((C0_n (by decide)).trans e1) dX2_init_6 (fun H hB hS => ?_)
  refine bw_put (ty := (.array .int)) (ce' := C0 2 [.ref (N + 1), .int 0] ce) (ci := 2) (C := RX2) (T := TX2) (N' := 2) hx hb hts (by decide +kernel) tyX2 tyX2_ok nmX2 hown hE.1 hB hS (fun _ h => h) (by decide) C0_0 rfl 0 (by decide) (hts (.fieldLink RX2 11 "NearlyBought$Reader" "numbers" "[I") (by decide +kernel)) (fun _ h9 => h9) (Or.inr ⟨rfl, hin, rfl⟩) (by decide +kernel) rfl rfl (Nat.le_of_ble_eq_true rfl) C0_0 (fun j hj => (C0_n hj).trans (C0_n hj).symm) dX2_init_8 (fun H locs hB hS => ?_)
  refine W.widen (k := 1) (n := 4) (Nat.le_of_ble_eq_true rfl) (Nat.le_of_ble_eq_true rfl) ?_
  exact W.vret hx hb hr (fun t ht _ => ⟨⟨(), rfl, trivial, bn_end ht (hB.to (C0_end e0))⟩, hS.F ht⟩) hS.2.2 dX2_init_11
abbrev rX3_init : Room := { frames := 1, cells := 3, slots := 18, locals := 12 }
set_option maxHeartbeats 4000000 in
set_option maxRecDepth 100000 in
/-- Sights() -/
theorem kX3_init (l : Launch) (D : va_G) (g : G3) (N : Nat) (ce : Nat → va_E) (e0 : ce 0 = .inr (3, [.ref (N + 1), .ref (N + 2), .ref (N + 3), .int 0])) (e1 : ce 1 = .inl (g.1, 6, .inl (fun _ => 0))) (e2 : ce 2 = .inl (g.1, 6, .inl (fun _ => 0))) (e3 : ce 3 = .inl (g.1, 6, .inl (fun _ => 0))) : CtN l yX3_init wsX3_init rX3_init D g [.ref N] N 3 [.null, .null, .null, .int 0] 4 ce 3 18 := by
  refine ctN_of (cc := cX3_init) (maxL := 1) (by decide) rfl (Nat.le_of_ble_eq_true rfl) rfl (fun p e s m below meth c ls C hin hE hB hS hl => ?_)
  have hl : lv_has ls 1 [(0, .ref N)] := hl
  obtain ⟨hx, hb, hr, hts, hown, hlocks, hml, hA⟩ := id C
  refine lv_aload_n hx hb dX3_init_0 rfl (lv_at hl 0 rfl) ?_
  refine W.objInit hx hb hown (hts (.methodLink RX3 3 objectInit) (by decide +kernel)) (hts (.instanceMethod objectInit) (by decide +kernel)) (hts _ (by decide +kernel)) rfl (by rw [hml]; exact hl.1) rfl dX3_init_1 (Nat.le_of_ble_eq_true rfl) (Nat.le_of_ble_eq_true rfl) ?_
  refine W.eq (g2 := F0 m 4 ls []) rfl ?_
  have hB : Bw D N 1 (C0 3 [.null, .null, .null, .int 0] ce) s.heap := hB.to (fun i hi => by rw [show i = 0 by omega]; rfl)
  refine lv_aload_n hx hb dX3_init_4 rfl (lv_at hl 0 rfl) ?_
  refine lv_bipush (v := 6) hx hb dX3_init_5 (by decide) ?_
  refine bw_newa (L := 6) hx hb (hts (.arrayClass .int) (by decide +kernel)) hE.1 hB hS (by decide) (by decide) (by decide) (Nat.le_of_ble_eq_true rfl) (Nat.le_of_ble_eq_true rfl) ((C0_n (by decide)).trans e1) dX3_init_7 (fun H hB hS => ?_)
  refine bw_put (ty := (.array .int)) (ce' := C0 3 [.ref (N + 1), .null, .null, .int 0] ce) (ci := 3) (C := RX3) (T := TX3) (N' := 4) hx hb hts (by decide +kernel) tyX3 tyX3_ok nmX3 hown hE.1 hB hS (fun _ h => h) (by decide) C0_0 rfl 0 (by decide) (hts (.fieldLink RX3 9 "NearlyBought$Sights" "things" "[I") (by decide +kernel)) (fun _ h9 => h9) (Or.inr ⟨rfl, hin, rfl⟩) (by decide +kernel) rfl rfl (Nat.le_of_ble_eq_true rfl) C0_0 (fun j hj => (C0_n hj).trans (C0_n hj).symm) dX3_init_9 (fun H locs hB hS => ?_)
  refine lv_aload_n hx hb dX3_init_12 rfl (lv_at hl 0 rfl) ?_
  refine lv_bipush (v := 6) hx hb dX3_init_13 (by decide) ?_
  refine bw_newa (L := 6) hx hb (hts (.arrayClass .int) (by decide +kernel)) hE.1 hB hS (by decide) (by decide) (by decide) (Nat.le_of_ble_eq_true rfl) (Nat.le_of_ble_eq_true rfl) ((C0_n (by decide)).trans e2) dX3_init_15 (fun H hB hS => ?_)
  refine bw_put (ty := (.array .int)) (ce' := C0 3 [.ref (N + 1), .ref (N + 2), .null, .int 0] ce) (ci := 3) (C := RX3) (T := TX3) (N' := 4) hx hb hts (by decide +kernel) tyX3 tyX3_ok nmX3 hown hE.1 hB hS (fun _ h => h) (by decide) C0_0 rfl 1 (by decide) (hts (.fieldLink RX3 15 "NearlyBought$Sights" "persons" "[I") (by decide +kernel)) (fun _ h9 => h9) (Or.inr ⟨rfl, hin, rfl⟩) (by decide +kernel) rfl rfl (Nat.le_of_ble_eq_true rfl) C0_0 (fun j hj => (C0_n hj).trans (C0_n hj).symm) dX3_init_17 (fun H locs hB hS => ?_)
  refine lv_aload_n hx hb dX3_init_20 rfl (lv_at hl 0 rfl) ?_
  refine lv_bipush (v := 6) hx hb dX3_init_21 (by decide) ?_
  refine bw_newa (L := 6) hx hb (hts (.arrayClass .int) (by decide +kernel)) hE.1 hB hS (by decide) (by decide) (by decide) (Nat.le_of_ble_eq_true rfl) (Nat.le_of_ble_eq_true rfl) ((C0_n (by decide)).trans e3) dX3_init_23 (fun H hB hS => ?_)
  refine bw_put (ty := (.array .int)) (ce' := C0 3 [.ref (N + 1), .ref (N + 2), .ref (N + 3), .int 0] ce) (ci := 3) (C := RX3) (T := TX3) (N' := 4) hx hb hts (by decide +kernel) tyX3 tyX3_ok nmX3 hown hE.1 hB hS (fun _ h => h) (by decide) C0_0 rfl 2 (by decide) (hts (.fieldLink RX3 18 "NearlyBought$Sights" "fairs" "[I") (by decide +kernel)) (fun _ h9 => h9) (Or.inr ⟨rfl, hin, rfl⟩) (by decide +kernel) rfl rfl (Nat.le_of_ble_eq_true rfl) C0_0 (fun j hj => (C0_n hj).trans (C0_n hj).symm) dX3_init_25 (fun H locs hB hS => ?_)
  refine W.widen (k := 3) (n := 18) (Nat.le_of_ble_eq_true rfl) (Nat.le_of_ble_eq_true rfl) ?_
  exact W.vret hx hb hr (fun t ht _ => ⟨⟨(), rfl, trivial, bn_end ht (hB.to (C0_end e0))⟩, hS.F ht⟩) hS.2.2 dX3_init_28
abbrev rX4_init : Room := { frames := 1, cells := 7, slots := 54, locals := 12 }
set_option maxHeartbeats 4000000 in
set_option maxRecDepth 100000 in
/-- Tale() -/
theorem kX4_init (l : Launch) (D : va_G) (g : G3) (N : Nat) (ce : Nat → va_E) (e0 : ce 0 = .inr (4, [.int 0, .int 0, .int 0, .int 0, .int 0, .ref (N + 1), .ref (N + 2), .ref (N + 3), .ref (N + 4), .ref (N + 5), .ref (N + 6), .ref (N + 7)])) (e1 : ce 1 = .inl (g.1, 6, .inl (fun _ => 0))) (e2 : ce 2 = .inl (g.1, 6, .inl (fun _ => 0))) (e3 : ce 3 = .inl (g.1, 6, .inl (fun _ => 0))) (e4 : ce 4 = .inl (g.1, 9, .inl (fun _ => 0))) (e5 : ce 5 = .inl (g.1, 9, .inl (fun _ => 0))) (e6 : ce 6 = .inl (g.1, 9, .inl (fun _ => 0))) (e7 : ce 7 = .inl (g.1, 9, .inl (fun _ => 0))) : CtN l yX4_init wsX4_init rX4_init D g [.ref N] N 4 [.int 0, .int 0, .int 0, .int 0, .int 0, .null, .null, .null, .null, .null, .null, .null] 8 ce 7 54 := by
  refine ctN_of (cc := cX4_init) (maxL := 1) (by decide) rfl (Nat.le_of_ble_eq_true rfl) rfl (fun p e s m below meth c ls C hin hE hB hS hl => ?_)
  have hl : lv_has ls 1 [(0, .ref N)] := hl
  obtain ⟨hx, hb, hr, hts, hown, hlocks, hml, hA⟩ := id C
  refine lv_aload_n hx hb dX4_init_0 rfl (lv_at hl 0 rfl) ?_
  refine W.objInit hx hb hown (hts (.methodLink RX4 3 objectInit) (by decide +kernel)) (hts (.instanceMethod objectInit) (by decide +kernel)) (hts _ (by decide +kernel)) rfl (by rw [hml]; exact hl.1) rfl dX4_init_1 (Nat.le_of_ble_eq_true rfl) (Nat.le_of_ble_eq_true rfl) ?_
  refine W.eq (g2 := F0 m 4 ls []) rfl ?_
  have hB : Bw D N 1 (C0 4 [.int 0, .int 0, .int 0, .int 0, .int 0, .null, .null, .null, .null, .null, .null, .null] ce) s.heap := hB.to (fun i hi => by rw [show i = 0 by omega]; rfl)
  refine lv_aload_n hx hb dX4_init_4 rfl (lv_at hl 0 rfl) ?_
  refine lv_bipush (v := 6) hx hb dX4_init_5 (by decide) ?_
  refine bw_newa (L := 6) hx hb (hts (.arrayClass .int) (by decide +kernel)) hE.1 hB hS (by decide) (by decide) (by decide) (Nat.le_of_ble_eq_true rfl) (Nat.le_of_ble_eq_true rfl) ((C0_n (by decide)).trans e1) dX4_init_7 (fun H hB hS => ?_)
  refine bw_put (ty := (.array .int)) (ce' := C0 4 [.int 0, .int 0, .int 0, .int 0, .int 0, .ref (N + 1), .null, .null, .null, .null, .null, .null] ce) (ci := 4) (C := RX4) (T := TX4) (N' := 12) hx hb hts (by decide +kernel) tyX4 tyX4_ok nmX4 hown hE.1 hB hS (fun _ h => h) (by decide) C0_0 rfl 5 (by decide) (hts (.fieldLink RX4 9 "NearlyBought$Tale" "kind" "[I") (by decide +kernel)) (fun _ h9 => h9) (Or.inr ⟨rfl, hin, rfl⟩) (by decide +kernel) rfl rfl (Nat.le_of_ble_eq_true rfl) C0_0 (fun j hj => (C0_n hj).trans (C0_n hj).symm) dX4_init_9 (fun H locs hB hS => ?_)
  refine lv_aload_n hx hb dX4_init_12 rfl (lv_at hl 0 rfl) ?_
  refine lv_bipush (v := 6) hx hb dX4_init_13 (by decide) ?_
  refine bw_newa (L := 6) hx hb (hts (.arrayClass .int) (by decide +kernel)) hE.1 hB hS (by decide) (by decide) (by decide) (Nat.le_of_ble_eq_true rfl) (Nat.le_of_ble_eq_true rfl) ((C0_n (by decide)).trans e2) dX4_init_15 (fun H hB hS => ?_)
  refine bw_put (ty := (.array .int)) (ce' := C0 4 [.int 0, .int 0, .int 0, .int 0, .int 0, .ref (N + 1), .ref (N + 2), .null, .null, .null, .null, .null] ce) (ci := 4) (C := RX4) (T := TX4) (N' := 12) hx hb hts (by decide +kernel) tyX4 tyX4_ok nmX4 hown hE.1 hB hS (fun _ h => h) (by decide) C0_0 rfl 6 (by decide) (hts (.fieldLink RX4 15 "NearlyBought$Tale" "firstCoins" "[I") (by decide +kernel)) (fun _ h9 => h9) (Or.inr ⟨rfl, hin, rfl⟩) (by decide +kernel) rfl rfl (Nat.le_of_ble_eq_true rfl) C0_0 (fun j hj => (C0_n hj).trans (C0_n hj).symm) dX4_init_17 (fun H locs hB hS => ?_)
  refine lv_aload_n hx hb dX4_init_20 rfl (lv_at hl 0 rfl) ?_
  refine lv_bipush (v := 6) hx hb dX4_init_21 (by decide) ?_
  refine bw_newa (L := 6) hx hb (hts (.arrayClass .int) (by decide +kernel)) hE.1 hB hS (by decide) (by decide) (by decide) (Nat.le_of_ble_eq_true rfl) (Nat.le_of_ble_eq_true rfl) ((C0_n (by decide)).trans e3) dX4_init_23 (fun H hB hS => ?_)
  refine bw_put (ty := (.array .int)) (ce' := C0 4 [.int 0, .int 0, .int 0, .int 0, .int 0, .ref (N + 1), .ref (N + 2), .ref (N + 3), .null, .null, .null, .null] ce) (ci := 4) (C := RX4) (T := TX4) (N' := 12) hx hb hts (by decide +kernel) tyX4 tyX4_ok nmX4 hown hE.1 hB hS (fun _ h => h) (by decide) C0_0 rfl 7 (by decide) (hts (.fieldLink RX4 18 "NearlyBought$Tale" "firstCost" "[I") (by decide +kernel)) (fun _ h9 => h9) (Or.inr ⟨rfl, hin, rfl⟩) (by decide +kernel) rfl rfl (Nat.le_of_ble_eq_true rfl) C0_0 (fun j hj => (C0_n hj).trans (C0_n hj).symm) dX4_init_25 (fun H locs hB hS => ?_)
  refine lv_aload_n hx hb dX4_init_28 rfl (lv_at hl 0 rfl) ?_
  refine lv_bipush (v := 9) hx hb dX4_init_29 (by decide) ?_
  refine bw_newa (L := 9) hx hb (hts (.arrayClass .int) (by decide +kernel)) hE.1 hB hS (by decide) (by decide) (by decide) (Nat.le_of_ble_eq_true rfl) (Nat.le_of_ble_eq_true rfl) ((C0_n (by decide)).trans e4) dX4_init_31 (fun H hB hS => ?_)
  refine bw_put (ty := (.array .int)) (ce' := C0 4 [.int 0, .int 0, .int 0, .int 0, .int 0, .ref (N + 1), .ref (N + 2), .ref (N + 3), .ref (N + 4), .null, .null, .null] ce) (ci := 4) (C := RX4) (T := TX4) (N' := 12) hx hb hts (by decide +kernel) tyX4 tyX4_ok nmX4 hown hE.1 hB hS (fun _ h => h) (by decide) C0_0 rfl 8 (by decide) (hts (.fieldLink RX4 21 "NearlyBought$Tale" "pauser" "[I") (by decide +kernel)) (fun _ h9 => h9) (Or.inr ⟨rfl, hin, rfl⟩) (by decide +kernel) rfl rfl (Nat.le_of_ble_eq_true rfl) C0_0 (fun j hj => (C0_n hj).trans (C0_n hj).symm) dX4_init_33 (fun H locs hB hS => ?_)
  refine lv_aload_n hx hb dX4_init_36 rfl (lv_at hl 0 rfl) ?_
  refine lv_bipush (v := 9) hx hb dX4_init_37 (by decide) ?_
  refine bw_newa (L := 9) hx hb (hts (.arrayClass .int) (by decide +kernel)) hE.1 hB hS (by decide) (by decide) (by decide) (Nat.le_of_ble_eq_true rfl) (Nat.le_of_ble_eq_true rfl) ((C0_n (by decide)).trans e5) dX4_init_39 (fun H hB hS => ?_)
  refine bw_put (ty := (.array .int)) (ce' := C0 4 [.int 0, .int 0, .int 0, .int 0, .int 0, .ref (N + 1), .ref (N + 2), .ref (N + 3), .ref (N + 4), .ref (N + 5), .null, .null] ce) (ci := 4) (C := RX4) (T := TX4) (N' := 12) hx hb hts (by decide +kernel) tyX4 tyX4_ok nmX4 hown hE.1 hB hS (fun _ h => h) (by decide) C0_0 rfl 9 (by decide) (hts (.fieldLink RX4 24 "NearlyBought$Tale" "pausedAt" "[I") (by decide +kernel)) (fun _ h9 => h9) (Or.inr ⟨rfl, hin, rfl⟩) (by decide +kernel) rfl rfl (Nat.le_of_ble_eq_true rfl) C0_0 (fun j hj => (C0_n hj).trans (C0_n hj).symm) dX4_init_41 (fun H locs hB hS => ?_)
  refine lv_aload_n hx hb dX4_init_44 rfl (lv_at hl 0 rfl) ?_
  refine lv_bipush (v := 9) hx hb dX4_init_45 (by decide) ?_
  refine bw_newa (L := 9) hx hb (hts (.arrayClass .int) (by decide +kernel)) hE.1 hB hS (by decide) (by decide) (by decide) (Nat.le_of_ble_eq_true rfl) (Nat.le_of_ble_eq_true rfl) ((C0_n (by decide)).trans e6) dX4_init_47 (fun H hB hS => ?_)
  refine bw_put (ty := (.array .int)) (ce' := C0 4 [.int 0, .int 0, .int 0, .int 0, .int 0, .ref (N + 1), .ref (N + 2), .ref (N + 3), .ref (N + 4), .ref (N + 5), .ref (N + 6), .null] ce) (ci := 4) (C := RX4) (T := TX4) (N' := 12) hx hb hts (by decide +kernel) tyX4 tyX4_ok nmX4 hown hE.1 hB hS (fun _ h => h) (by decide) C0_0 rfl 10 (by decide) (hts (.fieldLink RX4 27 "NearlyBought$Tale" "pauseBreaths" "[I") (by decide +kernel)) (fun _ h9 => h9) (Or.inr ⟨rfl, hin, rfl⟩) (by decide +kernel) rfl rfl (Nat.le_of_ble_eq_true rfl) C0_0 (fun j hj => (C0_n hj).trans (C0_n hj).symm) dX4_init_49 (fun H locs hB hS => ?_)
  refine lv_aload_n hx hb dX4_init_52 rfl (lv_at hl 0 rfl) ?_
  refine lv_bipush (v := 9) hx hb dX4_init_53 (by decide) ?_
  refine bw_newa (L := 9) hx hb (hts (.arrayClass .int) (by decide +kernel)) hE.1 hB hS (by decide) (by decide) (by decide) (Nat.le_of_ble_eq_true rfl) (Nat.le_of_ble_eq_true rfl) ((C0_n (by decide)).trans e7) dX4_init_55 (fun H hB hS => ?_)
  refine bw_put (ty := (.array .int)) (ce' := C0 4 [.int 0, .int 0, .int 0, .int 0, .int 0, .ref (N + 1), .ref (N + 2), .ref (N + 3), .ref (N + 4), .ref (N + 5), .ref (N + 6), .ref (N + 7)] ce) (ci := 4) (C := RX4) (T := TX4) (N' := 12) hx hb hts (by decide +kernel) tyX4 tyX4_ok nmX4 hown hE.1 hB hS (fun _ h => h) (by decide) C0_0 rfl 11 (by decide) (hts (.fieldLink RX4 30 "NearlyBought$Tale" "pauseYear" "[I") (by decide +kernel)) (fun _ h9 => h9) (Or.inr ⟨rfl, hin, rfl⟩) (by decide +kernel) rfl rfl (Nat.le_of_ble_eq_true rfl) C0_0 (fun j hj => (C0_n hj).trans (C0_n hj).symm) dX4_init_57 (fun H locs hB hS => ?_)
  refine W.widen (k := 7) (n := 54) (Nat.le_of_ble_eq_true rfl) (Nat.le_of_ble_eq_true rfl) ?_
  exact W.vret hx hb hr (fun t ht _ => ⟨⟨(), rfl, trivial, bn_end ht (hB.to (C0_end e0))⟩, hS.F ht⟩) hS.2.2 dX4_init_60
abbrev rX1_init : Room := { frames := 1, cells := 31, slots := 186, locals := 12 }
set_option maxHeartbeats 4000000 in
set_option maxRecDepth 100000 in
/-- Market(tale) -/
theorem kX1_init (l : Launch) (D : va_G) (g : G3) (N : Nat) (tl : Nat) (ce : Nat → va_E) (e0 : ce 0 = .inr (1, [.ref tl, .int 0, .int (-4), .ref (N + 1), .ref (N + 2), .ref (N + 3), .ref (N + 4), .ref (N + 11), .ref (N + 18), .ref (N + 25)])) (e1 : ce 1 = .inl (g.1, 6, .inl (fun _ => 0))) (e2 : ce 2 = .inl (g.1, 6, .inl (fun _ => 0))) (e3 : ce 3 = .inl (g.1, 6, .inl (fun _ => 0))) {h4 : Nat → Nat} (f4 : ∀ j, j < 6 → h4 j = N + 4 + 1 + j) (e4 : ce 4 = .inl (g.2.1, 6, rfX h4)) (r4 : ∀ j, j < 6 → ce (4 + 1 + j) = .inl (g.1, 6, .inl (fun _ => 0))) {h11 : Nat → Nat} (f11 : ∀ j, j < 6 → h11 j = N + 11 + 1 + j) (e11 : ce 11 = .inl (g.2.1, 6, rfX h11)) (r11 : ∀ j, j < 6 → ce (11 + 1 + j) = .inl (g.1, 6, .inl (fun _ => 0))) {h18 : Nat → Nat} (f18 : ∀ j, j < 6 → h18 j = N + 18 + 1 + j) (e18 : ce 18 = .inl (g.2.1, 6, rfX h18)) (r18 : ∀ j, j < 6 → ce (18 + 1 + j) = .inl (g.1, 6, .inl (fun _ => 0))) {h25 : Nat → Nat} (f25 : ∀ j, j < 6 → h25 j = N + 25 + 1 + j) (e25 : ce 25 = .inl (g.2.1, 6, rfX h25)) (r25 : ∀ j, j < 6 → ce (25 + 1 + j) = .inl (g.1, 6, .inl (fun _ => 0))) : CtN l yX1_init wsX1_init rX1_init D g [.ref N, .ref tl] N 1 [.null, .int 0, .int 0, .null, .null, .null, .null, .null, .null, .null] 32 ce 31 186 := by
  refine ctN_of (cc := cX1_init) (maxL := 2) (by decide) rfl (Nat.le_of_ble_eq_true rfl) rfl (fun p e s m below meth c ls C hin hE hB hS hl => ?_)
  have hl : lv_has ls 2 [(0, .ref N), (1, .ref tl)] := hl
  obtain ⟨hx, hb, hr, hts, hown, hlocks, hml, hA⟩ := id C
  refine lv_aload_n hx hb dX1_init_0 rfl (lv_at hl 0 rfl) ?_
  refine W.objInit hx hb hown (hts (.methodLink RX1 3 objectInit) (by decide +kernel)) (hts (.instanceMethod objectInit) (by decide +kernel)) (hts _ (by decide +kernel)) rfl (by rw [hml]; exact hl.1) rfl dX1_init_1 (Nat.le_of_ble_eq_true rfl) (Nat.le_of_ble_eq_true rfl) ?_
  refine W.eq (g2 := F0 m 4 ls []) rfl ?_
  have hB : Bw D N 1 (C0 1 [.null, .int 0, .int 0, .null, .null, .null, .null, .null, .null, .null] ce) s.heap := hB.to (fun i hi => by rw [show i = 0 by omega]; rfl)
  refine lv_aload_n hx hb dX1_init_4 rfl (lv_at hl 0 rfl) ?_
  refine lv_bipush (v := (-4)) hx hb dX1_init_5 (by decide) ?_
  refine bw_put (ty := .int) (ce' := C0 1 [.null, .int 0, .int (-4), .null, .null, .null, .null, .null, .null, .null] ce) (ci := 1) (C := RX1) (T := TX1) (N' := 10) hx hb hts (by decide +kernel) tyX1 tyX1_ok nmX1 hown hE.1 hB hS (fun _ h => h) (by decide) C0_0 rfl 2 (by decide) (hts (.fieldLink RX1 9 "NearlyBought$Market" "silent" "I") (by decide +kernel)) (fun _ h9 => h9) (Or.inl rfl) (by decide +kernel) rfl rfl (Nat.le_of_ble_eq_true rfl) C0_0 (fun j hj => (C0_n hj).trans (C0_n hj).symm) dX1_init_7 (fun H locs hB hS => ?_)
  refine lv_aload_n hx hb dX1_init_10 rfl (lv_at hl 0 rfl) ?_
  refine lv_bipush (v := 6) hx hb dX1_init_11 (by decide) ?_
  refine bw_newa (L := 6) hx hb (hts (.arrayClass .int) (by decide +kernel)) hE.1 hB hS (by decide) (by decide) (by decide) (Nat.le_of_ble_eq_true rfl) (Nat.le_of_ble_eq_true rfl) ((C0_n (by decide)).trans e1) dX1_init_13 (fun H hB hS => ?_)
  refine bw_put (ty := (.array .int)) (ce' := C0 1 [.null, .int 0, .int (-4), .ref (N + 1), .null, .null, .null, .null, .null, .null] ce) (ci := 1) (C := RX1) (T := TX1) (N' := 10) hx hb hts (by decide +kernel) tyX1 tyX1_ok nmX1 hown hE.1 hB hS (fun _ h => h) (by decide) C0_0 rfl 3 (by decide) (hts (.fieldLink RX1 15 "NearlyBought$Market" "coins" "[I") (by decide +kernel)) (fun _ h9 => h9) (Or.inr ⟨rfl, hin, rfl⟩) (by decide +kernel) rfl rfl (Nat.le_of_ble_eq_true rfl) C0_0 (fun j hj => (C0_n hj).trans (C0_n hj).symm) dX1_init_15 (fun H locs hB hS => ?_)
  refine lv_aload_n hx hb dX1_init_18 rfl (lv_at hl 0 rfl) ?_
  refine lv_bipush (v := 6) hx hb dX1_init_19 (by decide) ?_
  refine bw_newa (L := 6) hx hb (hts (.arrayClass .int) (by decide +kernel)) hE.1 hB hS (by decide) (by decide) (by decide) (Nat.le_of_ble_eq_true rfl) (Nat.le_of_ble_eq_true rfl) ((C0_n (by decide)).trans e2) dX1_init_21 (fun H hB hS => ?_)
  refine bw_put (ty := (.array .int)) (ce' := C0 1 [.null, .int 0, .int (-4), .ref (N + 1), .ref (N + 2), .null, .null, .null, .null, .null] ce) (ci := 1) (C := RX1) (T := TX1) (N' := 10) hx hb hts (by decide +kernel) tyX1 tyX1_ok nmX1 hown hE.1 hB hS (fun _ h => h) (by decide) C0_0 rfl 4 (by decide) (hts (.fieldLink RX1 19 "NearlyBought$Market" "owner" "[I") (by decide +kernel)) (fun _ h9 => h9) (Or.inr ⟨rfl, hin, rfl⟩) (by decide +kernel) rfl rfl (Nat.le_of_ble_eq_true rfl) C0_0 (fun j hj => (C0_n hj).trans (C0_n hj).symm) dX1_init_23 (fun H locs hB hS => ?_)
  refine lv_aload_n hx hb dX1_init_26 rfl (lv_at hl 0 rfl) ?_
  refine lv_bipush (v := 6) hx hb dX1_init_27 (by decide) ?_
  refine bw_newa (L := 6) hx hb (hts (.arrayClass .int) (by decide +kernel)) hE.1 hB hS (by decide) (by decide) (by decide) (Nat.le_of_ble_eq_true rfl) (Nat.le_of_ble_eq_true rfl) ((C0_n (by decide)).trans e3) dX1_init_29 (fun H hB hS => ?_)
  refine bw_put (ty := (.array .int)) (ce' := C0 1 [.null, .int 0, .int (-4), .ref (N + 1), .ref (N + 2), .ref (N + 3), .null, .null, .null, .null] ce) (ci := 1) (C := RX1) (T := TX1) (N' := 10) hx hb hts (by decide +kernel) tyX1 tyX1_ok nmX1 hown hE.1 hB hS (fun _ h => h) (by decide) C0_0 rfl 5 (by decide) (hts (.fieldLink RX1 22 "NearlyBought$Market" "missed" "[I") (by decide +kernel)) (fun _ h9 => h9) (Or.inr ⟨rfl, hin, rfl⟩) (by decide +kernel) rfl rfl (Nat.le_of_ble_eq_true rfl) C0_0 (fun j hj => (C0_n hj).trans (C0_n hj).symm) dX1_init_31 (fun H locs hB hS => ?_)
  refine lv_aload_n hx hb dX1_init_34 rfl (lv_at hl 0 rfl) ?_
  refine lv_bipush (v := 6) hx hb dX1_init_35 (by decide) ?_
  refine lv_bipush (v := 6) hx hb dX1_init_37 (by decide) ?_
  refine bw_mna hx hb hown (hts (.classLink RX1 25 "[[I") (by decide +kernel)) hE.2.1 (hts (.arrayClass .int) (by decide +kernel)) hE.1 hB hS (Nat.le_of_ble_eq_true rfl) (Nat.le_of_ble_eq_true rfl) f4 ((C0_n (by decide)).trans e4) (fun j hj => (C0_n (by omega)).trans (r4 j hj)) dX1_init_39 (fun H hB hS => ?_)
  refine bw_put (ty := (.array (.array .int))) (ce' := C0 1 [.null, .int 0, .int (-4), .ref (N + 1), .ref (N + 2), .ref (N + 3), .ref (N + 4), .null, .null, .null] ce) (ci := 1) (C := RX1) (T := TX1) (N' := 10) hx hb hts (by decide +kernel) tyX1 tyX1_ok nmX1 hown hE.1 hB hS (fun _ h => h) (by decide) C0_0 rfl 6 (by decide) (hts (.fieldLink RX1 27 "NearlyBought$Market" "breaths" "[[I") (by decide +kernel)) (fun _ h9 => h9) (Or.inr ⟨rfl, hin, rfl⟩) (by decide +kernel) rfl rfl (Nat.le_of_ble_eq_true rfl) C0_0 (fun j hj => (C0_n hj).trans (C0_n hj).symm) dX1_init_43 (fun H locs hB hS => ?_)
  refine lv_aload_n hx hb dX1_init_46 rfl (lv_at hl 0 rfl) ?_
  refine lv_bipush (v := 6) hx hb dX1_init_47 (by decide) ?_
  refine lv_bipush (v := 6) hx hb dX1_init_49 (by decide) ?_
  refine bw_mna hx hb hown (hts (.classLink RX1 25 "[[I") (by decide +kernel)) hE.2.1 (hts (.arrayClass .int) (by decide +kernel)) hE.1 hB hS (Nat.le_of_ble_eq_true rfl) (Nat.le_of_ble_eq_true rfl) f11 ((C0_n (by decide)).trans e11) (fun j hj => (C0_n (by omega)).trans (r11 j hj)) dX1_init_51 (fun H hB hS => ?_)
  refine bw_put (ty := (.array (.array .int))) (ce' := C0 1 [.null, .int 0, .int (-4), .ref (N + 1), .ref (N + 2), .ref (N + 3), .ref (N + 4), .ref (N + 11), .null, .null] ce) (ci := 1) (C := RX1) (T := TX1) (N' := 10) hx hb hts (by decide +kernel) tyX1 tyX1_ok nmX1 hown hE.1 hB hS (fun _ h => h) (by decide) C0_0 rfl 7 (by decide) (hts (.fieldLink RX1 30 "NearlyBought$Market" "since" "[[I") (by decide +kernel)) (fun _ h9 => h9) (Or.inr ⟨rfl, hin, rfl⟩) (by decide +kernel) rfl rfl (Nat.le_of_ble_eq_true rfl) C0_0 (fun j hj => (C0_n hj).trans (C0_n hj).symm) dX1_init_55 (fun H locs hB hS => ?_)
  refine lv_aload_n hx hb dX1_init_58 rfl (lv_at hl 0 rfl) ?_
  refine lv_bipush (v := 6) hx hb dX1_init_59 (by decide) ?_
  refine lv_bipush (v := 6) hx hb dX1_init_61 (by decide) ?_
  refine bw_mna hx hb hown (hts (.classLink RX1 25 "[[I") (by decide +kernel)) hE.2.1 (hts (.arrayClass .int) (by decide +kernel)) hE.1 hB hS (Nat.le_of_ble_eq_true rfl) (Nat.le_of_ble_eq_true rfl) f18 ((C0_n (by decide)).trans e18) (fun j hj => (C0_n (by omega)).trans (r18 j hj)) dX1_init_63 (fun H hB hS => ?_)
  refine bw_put (ty := (.array (.array .int))) (ce' := C0 1 [.null, .int 0, .int (-4), .ref (N + 1), .ref (N + 2), .ref (N + 3), .ref (N + 4), .ref (N + 11), .ref (N + 18), .null] ce) (ci := 1) (C := RX1) (T := TX1) (N' := 10) hx hb hts (by decide +kernel) tyX1 tyX1_ok nmX1 hown hE.1 hB hS (fun _ h => h) (by decide) C0_0 rfl 8 (by decide) (hts (.fieldLink RX1 33 "NearlyBought$Market" "counted" "[[I") (by decide +kernel)) (fun _ h9 => h9) (Or.inr ⟨rfl, hin, rfl⟩) (by decide +kernel) rfl rfl (Nat.le_of_ble_eq_true rfl) C0_0 (fun j hj => (C0_n hj).trans (C0_n hj).symm) dX1_init_67 (fun H locs hB hS => ?_)
  refine lv_aload_n hx hb dX1_init_70 rfl (lv_at hl 0 rfl) ?_
  refine lv_bipush (v := 6) hx hb dX1_init_71 (by decide) ?_
  refine lv_bipush (v := 6) hx hb dX1_init_73 (by decide) ?_
  refine bw_mna hx hb hown (hts (.classLink RX1 25 "[[I") (by decide +kernel)) hE.2.1 (hts (.arrayClass .int) (by decide +kernel)) hE.1 hB hS (Nat.le_of_ble_eq_true rfl) (Nat.le_of_ble_eq_true rfl) f25 ((C0_n (by decide)).trans e25) (fun j hj => (C0_n (by omega)).trans (r25 j hj)) dX1_init_75 (fun H hB hS => ?_)
  refine bw_put (ty := (.array (.array .int))) (ce' := C0 1 [.null, .int 0, .int (-4), .ref (N + 1), .ref (N + 2), .ref (N + 3), .ref (N + 4), .ref (N + 11), .ref (N + 18), .ref (N + 25)] ce) (ci := 1) (C := RX1) (T := TX1) (N' := 10) hx hb hts (by decide +kernel) tyX1 tyX1_ok nmX1 hown hE.1 hB hS (fun _ h => h) (by decide) C0_0 rfl 9 (by decide) (hts (.fieldLink RX1 36 "NearlyBought$Market" "price" "[[I") (by decide +kernel)) (fun _ h9 => h9) (Or.inr ⟨rfl, hin, rfl⟩) (by decide +kernel) rfl rfl (Nat.le_of_ble_eq_true rfl) C0_0 (fun j hj => (C0_n hj).trans (C0_n hj).symm) dX1_init_79 (fun H locs hB hS => ?_)
  refine lv_aload_n hx hb dX1_init_82 rfl (lv_at hl 0 rfl) ?_
  refine lv_aload_n hx hb dX1_init_83 rfl (lv_at hl 1 rfl) ?_
  refine bw_put (ty := (.object "NearlyBought$Tale")) (ce' := C0 1 [.ref tl, .int 0, .int (-4), .ref (N + 1), .ref (N + 2), .ref (N + 3), .ref (N + 4), .ref (N + 11), .ref (N + 18), .ref (N + 25)] ce) (ci := 1) (C := RX1) (T := TX1) (N' := 10) hx hb hts (by decide +kernel) tyX1 tyX1_ok nmX1 hown hE.1 hB hS (fun _ h => h) (by decide) C0_0 rfl 0 (by decide) (hts (.fieldLink RX1 39 "NearlyBought$Market" "tale" "LNearlyBought$Tale;") (by decide +kernel)) (fun _ h9 => h9) (Or.inr ⟨rfl, hin, rfl⟩) (by decide +kernel) rfl rfl (Nat.le_of_ble_eq_true rfl) C0_0 (fun j hj => (C0_n hj).trans (C0_n hj).symm) dX1_init_84 (fun H locs hB hS => ?_)
  refine W.widen (k := 31) (n := 186) (Nat.le_of_ble_eq_true rfl) (Nat.le_of_ble_eq_true rfl) ?_
  exact W.vret hx hb hr (fun t ht _ => ⟨⟨(), rfl, trivial, bn_end ht (hB.to (C0_end e0))⟩, hS.F ht⟩) hS.2.2 dX1_init_87
