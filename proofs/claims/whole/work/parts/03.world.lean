/-! THE WORLD: cells by keys (object, field, row). Objects 0..11 the Markets (0 now, 1 trial, 2..9 of the history, 10, 11 kept), 12 the draft Tale, 13 the laid Tale, 14 Reader, 15 History, 16 Sights, 17 NearlyBought; 20 the reference. An object's own cell has the key (q, 50, 0), an array of ints (q, f, i) (f the field's slot, i the row), an outer array (q, f, 50). All ints lie in one memory: object, field, row, place. -/
abbrev Ky : Type := Nat × Nat × Nat
abbrev Mem : Type := Nat → Nat → Nat → Nat → Int32
def ky_ws (ks : List Ky) (ad : Ky → Nat) (ce : Ky → va_E) : va_W := ks.map (fun k => (ad k, ce k))
theorem ky_at {ks : List Ky} {ad : Ky → Nat} {ce : Ky → va_E} {k : Ky} (h : k ∈ ks) : ∃ i : Nat, ks[i]? = some k ∧ (ky_ws ks ad ce)[i]? = some (ad k, ce k) := by
  obtain ⟨i, hi⟩ := List.getElem?_of_mem h
  exact ⟨i, hi, by rw [ky_ws, List.getElem?_map, hi]; rfl⟩
theorem ky_set {ks : List Ky} {ad : Ky → Nat} {ce ce' : Ky → va_E} (hn : ks.Nodup) {k : Ky} {i : Nat} (hi : ks[i]? = some k) (ho : ∀ k' ∈ ks, k' ≠ k → ce' k' = ce k') : (ky_ws ks ad ce).set i (ad k, ce' k) = ky_ws ks ad ce' := by
  have hlt := (List.getElem?_eq_some_iff.mp hi).1
  apply List.ext_getElem?
  intro j
  by_cases e : i = j
  · subst e
    rw [List.getElem?_set_self (by rw [ky_ws, List.length_map]; exact hlt), ky_ws, List.getElem?_map, hi]
    rfl
  · rw [List.getElem?_set_ne e, ky_ws, ky_ws, List.getElem?_map, List.getElem?_map]
    cases hj : ks[j]? with
    | none => rfl
    | some k' =>
      have hne : k' ≠ k := by
        intro h
        subst h
        exact e ((List.getElem?_inj hlt hn).mp (hi.trans hj.symm))
      show some (ad k', ce k') = some (ad k', ce' k')
      rw [ho k' (List.mem_of_getElem? hj) hne]
theorem ky_mem {ks : List Ky} {ad : Ky → Nat} {ce : Ky → va_E} {i : Nat} {x : Nat × va_E} (h : (ky_ws ks ad ce)[i]? = some x) : ∃ k ∈ ks, x = (ad k, ce k) := by
  rw [ky_ws, List.getElem?_map] at h
  cases hk : ks[i]? with
  | none => rw [hk] at h; cases h
  | some k =>
    rw [hk] at h
    exact ⟨k, List.mem_of_getElem? hk, (Option.some.inj h).symm⟩
def ky_fr (ks : List Ky) (ad : Ky → Nat) (sz : Nat) : Nat → Prop := fun q => (∃ k ∈ ks, q = ad k) ∨ sz ≤ q
/-- the world at a point of a walk -/
def Wo (D : va_G) (tys : List (ClassId × FieldType)) (ks : List Ky) (ad : Ky → Nat) (A : Nat → Prop) (s : State) (H0 : Heap) (ce : Ky → va_E) (H : Heap) (locs : List Loc) : Prop :=
  va_K D vwCl tys s ∧ va_P D vwCl (ky_ws ks ad ce) H ∧ va_D A (ky_ws ks ad ce) ∧ va_S A H0 H locs ∧ ks.Nodup
/-- the world before a call and behind it -/
def Wp (D : va_G) (tys : List (ClassId × FieldType)) (ks : List Ky) (ad : Ky → Nat) (A : Nat → Prop) (ce : Ky → va_E) (t : State) : Prop :=
  va_P D vwCl (ky_ws ks ad ce) t.heap ∧ va_K D vwCl tys t ∧ va_D A (ky_ws ks ad ce)
def CtI {M : Type} (l : Launch) (y : MethodName) (ws : List Cond) (rm : Room) (D : va_G) (tys : List (ClassId × FieldType)) (ks : List Ky) (ad : Ky → Nat) (ce : M → Ky → va_E) (as : List Value) (μ : M) (r : Int32) (μ' : M) : Prop :=
  ∀ sz : Nat, Met l y ws rm (va_Pc as (fun U => U.heap.size = sz ∧ Wp D tys ks ad (fun _ => True) (ce μ) U)) (va_Qi (fun (r1 : Int32) (u : M) => r1 = r ∧ u = μ') (fun u t => Wp D tys ks ad (ky_fr ks ad sz) (ce u) t) (ky_fr ks ad sz)) 0 0 (ky_fr ks ad sz)
def CtV {M : Type} (l : Launch) (y : MethodName) (ws : List Cond) (rm : Room) (D : va_G) (tys : List (ClassId × FieldType)) (ks : List Ky) (ad : Ky → Nat) (ce : M → Ky → va_E) (as : List Value) (μ : M) (μ' : M) : Prop :=
  ∀ sz : Nat, Met l y ws rm (va_Pc as (fun U => U.heap.size = sz ∧ Wp D tys ks ad (fun _ => True) (ce μ) U)) (va_Qv (fun (u : M) => u = μ') (fun u t => Wp D tys ks ad (ky_fr ks ad sz) (ce u) t) (ky_fr ks ad sz)) 0 0 (ky_fr ks ad sz)
/-- what stays the same over a method's walk -/
def Cx (p : Program) (s : State) (m : MethodId) (args : Array Value) (meth : Method) (c : Code) (cc : ByteArray) (ret : Option FieldType) (maxL : Nat) (own : String) (Ts : List Cond) (A : Nat → Prop) : Prop :=
  p.tables.exec = Jvm.exec ∧ c.code = cc ∧ meth.sig.returnType = ret ∧ (∀ w ∈ Ts, w.before args s = true) ∧ s.vm.findClass own = some m.cls ∧ meth.locks = false ∧ c.maxLocals = maxL ∧ (∀ q : Nat, s.heap.size ≤ q → A q)
section WO
variable {p : Program} {l : Launch} {e : Env} {R : Room} {s : State} {m : MethodId} {args : Array Value} {below : List Frame} {meth : Method} {c : Code} {H : Heap} {locs : List Loc} {cells slots : Nat} {Q : State → Prop}
variable {cc : ByteArray} {pc : Nat} {ls : Array Slot} {rest : List Value} {D : va_G} {A : Nat → Prop} {tys : List (ClassId × FieldType)} {H0 : Heap} {ks : List Ky} {ad : Ky → Nat} {ce ce' : Ky → va_E}
theorem wo_ald (hexec : p.tables.exec = Jvm.exec) (hb : c.code = cc) (hW : Wo D tys ks ad A s H0 ce H locs) {k : Ky} (hk : k ∈ ks) (t0 : Nat) {cA : ClassId} {n : Nat} {f : Nat → Int32} (hc : ce k = .inl (cA, n, .inl f)) (ht : tys[t0]? = some (cA, .int)) {i : Int32} (hin : vp_in i n) (hdg : decode cc pc = .ok (.iaload, 1))
    (kk : W p l e R s m args below meth c H locs cells slots Q (F0 m (pc + 1) ls (.int (f i.toNatClampNeg) :: rest))) : W p l e R s m args below meth c H locs cells slots Q (F0 m pc ls (.int i :: .ref (ad k) :: rest)) := by
  obtain ⟨j, -, hj⟩ := ky_at (ad := ad) (ce := ce) hk
  rw [hc] at hj
  exact va_iald hexec hb hW.1 hW.2.1 j t0 hj ht hin hdg kk
theorem wo_ast (hexec : p.tables.exec = Jvm.exec) (hb : c.code = cc) (hW : Wo D tys ks ad A s H0 ce H locs) {k : Ky} (hk : k ∈ ks) (t0 : Nat) {cA : ClassId} {n : Nat} {f : Nat → Int32} (hc : ce k = .inl (cA, n, .inl f)) (ht : tys[t0]? = some (cA, .int)) {i : Int32} {x : Int32} (hin : vp_in i n) (he : ce' k = .inl (cA, n, .inl (upd f i.toNatClampNeg x))) (ho : ∀ k' ∈ ks, k' ≠ k → ce' k' = ce k') (hdg : decode cc pc = .ok (.iastore, 1))
    (kk : ∀ (H1 : Heap) (locs1 : List Loc), Wo D tys ks ad A s H0 ce' H1 locs1 → W p l e R s m args below meth c H1 locs1 cells slots Q (F0 m (pc + 1) ls rest)) : W p l e R s m args below meth c H locs cells slots Q (F0 m pc ls (.int x :: .int i :: .ref (ad k) :: rest)) := by
  obtain ⟨hK, hP, hD, hS, hn⟩ := hW
  obtain ⟨j, hi, hj⟩ := ky_at (ad := ad) (ce := ce) hk
  have hset := ky_set (ad := ad) hn hi ho
  rw [he] at hset
  rw [hc] at hj
  refine va_iast hexec hb hK hP hD hS j t0 hj ht hin hdg (fun H1 locs1 hP1 hD1 hS1 => ?_)
  rw [hset] at hP1 hD1
  exact kk H1 locs1 ⟨hK, hP1, hD1, hS1, hn⟩
theorem wo_get (hexec : p.tables.exec = Jvm.exec) (hb : c.code = cc) {own ref C : String} {T : u_T} {N ci index : Nat} {Ts : List Cond} (hts : ∀ w ∈ Ts, w.before args s = true) (hin : ∀ w ∈ u_ws C T N, w ∈ Ts) (hown : s.vm.findClass own = some m.cls) (hW : Wo D tys ks ad A s H0 ce H locs) {k : Ky} (hk : k ∈ ks) {fs : List Value} (hce : ce k = .inr (ci, fs)) (hc : vwCl[ci]? = some (C, T, N)) (j : Nat) (hj : j < N) (hlink : (Cond.fieldLink own index ref (T j).2.1 (T j).2.2.1).before args s = true) (hsame : ∀ x, s.fieldFound? (T j).1 (T j).2.1 (T j).2.2.1 = some x → s.fieldFound? ref (T j).2.1 (T j).2.2.1 = some x) {v : Value} (hv : fs[j]? = some v) (hdg : decode cc pc = .ok (.getfield index, 3))
    (kk : W p l e R s m args below meth c H locs cells slots Q (F0 m (pc + 3) ls (v :: rest))) : W p l e R s m args below meth c H locs cells slots Q (F0 m pc ls (.ref (ad k) :: rest)) := by
  obtain ⟨i, -, hi⟩ := ky_at (ad := ad) (ce := ce) hk
  rw [hce] at hi
  exact va_get hexec hb hts hin hown hW.1 hW.2.1 i hi hc j hj hlink hsame hv hdg kk
theorem wo_put (hexec : p.tables.exec = Jvm.exec) (hb : c.code = cc) {own ref C : String} {T : u_T} {N ci index : Nat} {Ts : List Cond} (hts : ∀ w ∈ Ts, w.before args s = true) (hin : ∀ w ∈ u_ws C T N, w ∈ Ts) (ty0 : Nat → FieldType) (hty : ∀ k, k < N → parseFieldDescriptor (T k).2.2.1 = some (ty0 k)) (hnm : ∀ a, a < N → ∀ b, b < N → a ≠ b → (T a).2.1 ≠ (T b).2.1) (hown : s.vm.findClass own = some m.cls) (hW : Wo D tys ks ad A s H0 ce H locs) {k : Ky} (hk : k ∈ ks) {fs : List Value} (hce : ce k = .inr (ci, fs)) (hc : vwCl[ci]? = some (C, T, N)) (j : Nat) (hj : j < N) (hlink : (Cond.fieldLink own index ref (T j).2.1 (T j).2.2.1).before args s = true) (hsame : ∀ x, s.fieldFound? (T j).1 (T j).2.1 (T j).2.2.1 = some x → s.fieldFound? ref (T j).2.1 (T j).2.2.1 = some x) (hfin : (T j).2.2.2 = false) {v : Int32} (hd : parseFieldDescriptor (T j).2.2.1 = some .int) (hl : j < fs.length)
    (he : ce' k = .inr (ci, fs.set j (.int v))) (ho : ∀ k' ∈ ks, k' ≠ k → ce' k' = ce k') (hdg : decode cc pc = .ok (.putfield index, 3))
    (kk : ∀ (H1 : Heap) (locs1 : List Loc), Wo D tys ks ad A s H0 ce' H1 locs1 → W p l e R s m args below meth c H1 locs1 cells slots Q (F0 m (pc + 3) ls rest)) : W p l e R s m args below meth c H locs cells slots Q (F0 m pc ls (.int v :: .ref (ad k) :: rest)) := by
  obtain ⟨hK, hP, hD, hS, hn⟩ := hW
  obtain ⟨i, hi, hi2⟩ := ky_at (ad := ad) (ce := ce) hk
  have hset := ky_set (ad := ad) hn hi ho
  rw [he] at hset
  rw [hce] at hi2
  refine va_put hexec hb hts hin ty0 hty hnm hown hK hP hD hS i hi2 hc j hj hlink hsame hfin (ty := .int) (v := .int v) hd rfl rfl hl hdg (fun H1 locs1 hP1 hD1 hS1 => ?_)
  rw [hset] at hP1 hD1
  exact kk H1 locs1 ⟨hK, hP1, hD1, hS1, hn⟩
/-- an array of references, its component a class or an array of ints -/
theorem wo_ldq (hexec : p.tables.exec = Jvm.exec) (hb : c.code = cc) (hW : Wo D tys ks ad A s H0 ce H locs) {k : Ky} (hk : k ∈ ks) (t0 : Nat) {cA : ClassId} {ty : FieldType} (hty : ty.isReference = true) {n : Nat} {g : Nat → Nat} (hc : ce k = .inl (cA, n, .inr (.inr (.inr (.inr (fun j => some (g j))))))) (ht : tys[t0]? = some (cA, ty)) {i : Int32} (hin : vp_in i n) (hdg : decode cc pc = .ok (.aaload, 1))
    (kk : W p l e R s m args below meth c H locs cells slots Q (F0 m (pc + 1) ls (.ref (g i.toNatClampNeg) :: rest))) : W p l e R s m args below meth c H locs cells slots Q (F0 m pc ls (.int i :: .ref (ad k) :: rest)) := by
  obtain ⟨j, -, hj⟩ := ky_at (ad := ad) (ce := ce) hk
  rw [hc] at hj
  have hlt : i.toNatClampNeg < n := Nat.not_le.mp fun q => hin (Or.inr q)
  exact W.aald (v := .ref (g i.toNatClampNeg)) (ty := ty) hexec hb (hW.2.1 j _ hj) ((hW.1.2 t0 _ ht).1 n (fun j => va_rf (some (g j)))) hty (fun q => by cases q) (by show ¬ (i < 0 ∨ (arrV _ _ _).slots.size ≤ _); rw [arrV_size]; exact hin) (by show (arrV _ _ _).slots[_]? = _; rw [arrV_read _ _ hlt]; rfl) rfl rfl hdg kk
theorem wo_len (hexec : p.tables.exec = Jvm.exec) (hb : c.code = cc) (hW : Wo D tys ks ad A s H0 ce H locs) {k : Ky} (hk : k ∈ ks) (t0 : Nat) {cA : ClassId} {n : Nat} {f : Nat → Int32} (hc : ce k = .inl (cA, n, .inl f)) (ht : tys[t0]? = some (cA, .int)) {v : Int32} (hv : Int32.ofNat n = v) (hdg : decode cc pc = .ok (.arraylength, 1))
    (kk : W p l e R s m args below meth c H locs cells slots Q (F0 m (pc + 1) ls (.int v :: rest))) : W p l e R s m args below meth c H locs cells slots Q (F0 m pc ls (.ref (ad k) :: rest)) := by
  obtain ⟨j, -, hj⟩ := ky_at (ad := ad) (ce := ce) hk
  rw [hc] at hj
  exact va_alen hexec hb hW.1 hW.2.1 j t0 hj ht hv hdg kk
/-- System.arraycopy between two arrays of ints -/
theorem wo_cpy (hexec : p.tables.exec = Jvm.exec) (hb : c.code = cc) (hml : c.maxLocals = ls.size) {own : String} {index : Nat} (hown : s.vm.findClass own = some m.cls) (hlink : (Cond.methodLink own index arraycopyName).before args s = true) (hnat : (Cond.native arraycopyName).before args s = true) (hstat : (Cond.static arraycopyName).before args s = true) (hini : (Cond.initialized "java/lang/System").before args s = true)
    (hW : Wo D tys ks ad A s H0 ce H locs) {k0 k : Ky} (hk0 : k0 ∈ ks) (hk : k ∈ ks) (t0 : Nat) {cA : ClassId} {n0 n1 : Nat} {f g : Nat → Int32} (hc0 : ce k0 = .inl (cA, n0, .inl f)) (hc : ce k = .inl (cA, n1, .inl g)) (ht : tys[t0]? = some (cA, .int)) {n : Int32} {n' : Nat} (h3 : ¬ n < 0) (hn' : n.toNatClampNeg = n') (h4 : n' ≤ n0) (h5 : n' ≤ n1)
    (he : ce' k = .inl (cA, n1, .inl (va_cpy f g 0 0 n'))) (ho : ∀ k' ∈ ks, k' ≠ k → ce' k' = ce k')
    (hframes : 1 ≤ R.frames) (hlocals : (rest.map fun v => v.category).sum + (nativeFrameWords "java/lang/System" "arraycopy" 5 + 11) ≤ R.locals) (hdg : decode cc pc = .ok (.invokestatic index, 3))
    (kk : ∀ (H1 : Heap) (locs1 : List Loc), Wo D tys ks ad A s H0 ce' H1 locs1 → W p l e R s m args below meth c H1 locs1 cells slots Q (F0 m (pc + 3) ls rest)) : W p l e R s m args below meth c H locs cells slots Q (F0 m pc ls (.int n :: .int 0 :: .ref (ad k) :: .int 0 :: .ref (ad k0) :: rest)) := by
  obtain ⟨hK, hP, hD, hS, hn⟩ := hW
  subst hn'
  obtain ⟨i0, -, hi0⟩ := ky_at (ad := ad) (ce := ce) hk0
  obtain ⟨i, hi, hi2⟩ := ky_at (ad := ad) (ce := ce) hk
  have hset := ky_set (ad := ad) hn hi ho
  rw [he] at hset
  rw [hc0] at hi0
  rw [hc] at hi2
  have z0 : (0 : Int32).toNatClampNeg = 0 := rfl
  refine va_copyi hexec hb hml hown hlink hnat hstat hini hK hP hD hS i0 i t0 t0 hi0 hi2 ht ht rfl (by decide) (by decide) h3 (by rw [z0]; omega) (by rw [z0]; omega) (fun _ _ => rfl) hframes hlocals hdg (fun H1 locs1 hP1 hD1 hS1 => ?_)
  rw [z0, hset] at hP1 hD1
  exact kk H1 locs1 ⟨hK, hP1, hD1, hS1, hn⟩
theorem wo_frA {H' : Heap} (hW : Wo D tys ks ad A s H0 ce H locs) (hA : ∀ q : Nat, H0.size ≤ q → A q) : ∀ q, ky_fr ks ad H.size q → A q := by
  intro q h
  rcases h with ⟨k, hk, rfl⟩ | h
  · obtain ⟨i, -, hi⟩ := ky_at (ad := ad) (ce := ce) hk
    exact hW.2.2.1.2 i _ hi
  · exact hA q (Nat.le_trans hW.2.2.2.1.1 h)
section CALL
variable {M : Type} {cf : M → Ky → va_E} {μ μ' : M} {st0 : List Value} {aa : Array Value}
theorem wo_ci {r : Int32} (hr : va_Run p l e R s m args below meth c H locs cells slots 0 0 (F0 m pc ls st0) rest (va_Qi (fun (r1 : Int32) (u : M) => r1 = r ∧ u = μ') (fun u t => Wp D tys ks ad (ky_fr ks ad H.size) (cf u) t) (ky_fr ks ad H.size) aa) (ky_fr ks ad H.size)) (hW : Wo D tys ks ad A s H0 (cf μ) H locs) (hA : ∀ q : Nat, H0.size ≤ q → A q)
    (kk : ∀ (H1 : Heap) (locs1 : List Loc), Wo D tys ks ad A s H0 (cf μ') H1 locs1 → W p l e R s m args below meth c H1 locs1 cells slots Q (F0 m (pc + 3) ls (.int r :: rest))) : W p l e R s m args below meth c H locs cells slots Q (F0 m pc ls st0) := by
  have hf := wo_frA (H' := H) hW hA
  refine va_calli hr hW.2.2.2.1 (fun q _ h => hf q h) hf (fun r1 u t H1 locs1 ht hvm hp hB hz hk hS => ?_)
  obtain ⟨rfl, rfl⟩ := hp
  obtain ⟨hP1, hK1, hD1⟩ := hB
  rw [ht] at hP1
  exact kk H1 locs1 ⟨hW.1, hP1, ⟨hD1.1, fun k q h => hf _ (hD1.2 k q h)⟩, hS, hW.2.2.2.2⟩
theorem wo_cv (hr : va_Run p l e R s m args below meth c H locs cells slots 0 0 (F0 m pc ls st0) rest (va_Qv (fun (u : M) => u = μ') (fun u t => Wp D tys ks ad (ky_fr ks ad H.size) (cf u) t) (ky_fr ks ad H.size) aa) (ky_fr ks ad H.size)) (hW : Wo D tys ks ad A s H0 (cf μ) H locs) (hA : ∀ q : Nat, H0.size ≤ q → A q)
    (kk : ∀ (H1 : Heap) (locs1 : List Loc), Wo D tys ks ad A s H0 (cf μ') H1 locs1 → W p l e R s m args below meth c H1 locs1 cells slots Q (F0 m (pc + 3) ls rest)) : W p l e R s m args below meth c H locs cells slots Q (F0 m pc ls st0) := by
  have hf := wo_frA (H' := H) hW hA
  refine va_callv hr hW.2.2.2.1 (fun q _ h => hf q h) hf (fun u t H1 locs1 ht hvm hp hB hz hk hS => ?_)
  obtain rfl := hp
  obtain ⟨hP1, hK1, hD1⟩ := hB
  rw [ht] at hP1
  exact kk H1 locs1 ⟨hW.1, hP1, ⟨hD1.1, fun k q h => hf _ (hD1.2 k q h)⟩, hS, hW.2.2.2.2⟩
theorem wp_blind {as : List Value} {sz : Nat} {B : Nat → Prop} : FrameBlind (va_Pc as (fun U => U.heap.size = sz ∧ Wp D tys ks ad B ce U)) := by
  intro a U g mk q
  obtain ⟨q0, q1, qP, qK, qD⟩ := q
  exact ⟨q0, q1, qP, va_K.moved (u := U) (U := U.calling g mk a) (Vm.Alike.refl U.vm) qK, qD⟩
theorem wo_pre {as : List Value} (hW : Wo D tys ks ad A s H0 ce H locs) : ∀ U : State, U.heap = H → s.WarmedH U.vm → va_Pc as (fun U => U.heap.size = H.size ∧ Wp D tys ks ad (fun _ => True) ce U) as.toArray U :=
  fun U hU hWm => ⟨rfl, by rw [hU], by rw [hU]; exact hW.2.1, va_K.moved hWm.alike hW.1, hW.2.2.1.weaken (fun _ _ _ _ => trivial)⟩
section CC
variable {y : MethodName} {bytes : ByteArray} {maxL index n nL : Nat} {ws : List Cond} {rm : Room} {Ts : List Cond} {own : String} {As : List Value} {ret : Option FieldType}
theorem wo_Vi {r : Int32} (S : Cx p s m args meth c cc ret nL own Ts A) (hW : Wo D tys ks ad A s s.heap (cf μ) H locs) {rt : Option FieldType} {k : Ky} (hM : CtI l y ws rm D tys ks ad cf (.ref (ad k) :: As) μ r μ') {C : String} (cw : CallW R s args own C index y bytes maxL rt ws rm 0 0 n) (hk : k ∈ ks) {ci : Nat} {fs : List Value} (hce : cf μ k = .inr (ci, fs)) {T : u_T} {N : Nat} (hcl : vwCl[ci]? = some (C, T, N)) (hn : As.length = n) (hsize : ls.size = nL) (hstack : st0 = As.reverse ++ .ref (ad k) :: rest) (hr8 : (rest.map fun v => v.category).sum ≤ 8) (hdg : decode cc pc = .ok (.invokevirtual index, 3)) (hcs : cells ≤ R.cells ∧ slots ≤ R.slots)
    (kk : ∀ (H1 : Heap) (locs1 : List Loc), Wo D tys ks ad A s s.heap (cf μ') H1 locs1 → W p l e R s m args below meth c H1 locs1 cells slots Q (F0 m (pc + 3) ls (.int r :: rest))) : W p l e R s m args below meth c H locs cells slots Q (F0 m pc ls st0) := by
  obtain ⟨hx, hb, -, hts, hown, -, hml, hA⟩ := S
  obtain ⟨i, -, hi⟩ := ky_at (ad := ad) (ce := cf μ) hk
  rw [hce] at hi
  exact wo_ci (va_runV (C := C) ⟨hx, hb, hml, hown, hts⟩ (hM H.size) cw ⟨wp_blind, va_recv hW.1 hW.2.1 hcl hi, wo_pre hW⟩ rfl hn hsize hstack (lv_room hr8) hdg hcs) hW hA kk
theorem wo_Vv (S : Cx p s m args meth c cc ret nL own Ts A) (hW : Wo D tys ks ad A s s.heap (cf μ) H locs) {rt : Option FieldType} {k : Ky} (hM : CtV l y ws rm D tys ks ad cf (.ref (ad k) :: As) μ μ') {C : String} (cw : CallW R s args own C index y bytes maxL rt ws rm 0 0 n) (hk : k ∈ ks) {ci : Nat} {fs : List Value} (hce : cf μ k = .inr (ci, fs)) {T : u_T} {N : Nat} (hcl : vwCl[ci]? = some (C, T, N)) (hn : As.length = n) (hsize : ls.size = nL) (hstack : st0 = As.reverse ++ .ref (ad k) :: rest) (hr8 : (rest.map fun v => v.category).sum ≤ 8) (hdg : decode cc pc = .ok (.invokevirtual index, 3)) (hcs : cells ≤ R.cells ∧ slots ≤ R.slots)
    (kk : ∀ (H1 : Heap) (locs1 : List Loc), Wo D tys ks ad A s s.heap (cf μ') H1 locs1 → W p l e R s m args below meth c H1 locs1 cells slots Q (F0 m (pc + 3) ls rest)) : W p l e R s m args below meth c H locs cells slots Q (F0 m pc ls st0) := by
  obtain ⟨hx, hb, -, hts, hown, -, hml, hA⟩ := S
  obtain ⟨i, -, hi⟩ := ky_at (ad := ad) (ce := cf μ) hk
  rw [hce] at hi
  exact wo_cv (va_runV (C := C) ⟨hx, hb, hml, hown, hts⟩ (hM H.size) cw ⟨wp_blind, va_recv hW.1 hW.2.1 hcl hi, wo_pre hW⟩ rfl hn hsize hstack (lv_room hr8) hdg hcs) hW hA kk
theorem wo_Si {r : Int32} (S : Cx p s m args meth c cc ret nL own Ts A) (hW : Wo D tys ks ad A s s.heap (cf μ) H locs) {rt : Option FieldType} (hM : CtI l y ws rm D tys ks ad cf As μ r μ') (cw : CallB R s args own index y bytes maxL rt ws rm 0 0 n ∧ (Cond.static y).before args s = true) (hn : As.length = n) (hsize : ls.size = nL) (hstack : st0 = As.reverse ++ rest) (hr8 : (rest.map fun v => v.category).sum ≤ 8) (hdg : decode cc pc = .ok (.invokestatic index, 3)) (hcs : cells ≤ R.cells ∧ slots ≤ R.slots)
    (kk : ∀ (H1 : Heap) (locs1 : List Loc), Wo D tys ks ad A s s.heap (cf μ') H1 locs1 → W p l e R s m args below meth c H1 locs1 cells slots Q (F0 m (pc + 3) ls (.int r :: rest))) : W p l e R s m args below meth c H locs cells slots Q (F0 m pc ls st0) := by
  obtain ⟨hx, hb, -, hts, hown, -, hml, hA⟩ := S
  exact wo_ci (va_runS ⟨hx, hb, hml, hown, hts⟩ (hM H.size) cw ⟨wp_blind, wo_pre hW⟩ rfl hn hsize hstack (lv_room hr8) hdg hcs) hW hA kk
theorem wo_Sv (S : Cx p s m args meth c cc ret nL own Ts A) (hW : Wo D tys ks ad A s s.heap (cf μ) H locs) {rt : Option FieldType} (hM : CtV l y ws rm D tys ks ad cf As μ μ') (cw : CallB R s args own index y bytes maxL rt ws rm 0 0 n ∧ (Cond.static y).before args s = true) (hn : As.length = n) (hsize : ls.size = nL) (hstack : st0 = As.reverse ++ rest) (hr8 : (rest.map fun v => v.category).sum ≤ 8) (hdg : decode cc pc = .ok (.invokestatic index, 3)) (hcs : cells ≤ R.cells ∧ slots ≤ R.slots)
    (kk : ∀ (H1 : Heap) (locs1 : List Loc), Wo D tys ks ad A s s.heap (cf μ') H1 locs1 → W p l e R s m args below meth c H1 locs1 cells slots Q (F0 m (pc + 3) ls rest)) : W p l e R s m args below meth c H locs cells slots Q (F0 m pc ls st0) := by
  obtain ⟨hx, hb, -, hts, hown, -, hml, hA⟩ := S
  exact wo_cv (va_runS ⟨hx, hb, hml, hown, hts⟩ (hM H.size) cw ⟨wp_blind, wo_pre hW⟩ rfl hn hsize hstack (lv_room hr8) hdg hcs) hW hA kk
end CC
end CALL
section ENDS
variable {M : Type} {cf : M → Ky → va_E} {μ : M} {ret : Option FieldType} {nL : Nat} {own : String} {Ts : List Cond}
theorem wo_iret {r : Int32} (S : Cx p s m args meth c cc ret nL own Ts A) (hr : ret = some .int) (hW : Wo D tys ks ad A s s.heap (cf μ) H locs) (hdg : decode cc pc = .ok (.ireturn, 1)) : W p l e R s m args below meth c H locs cells slots (MQ below (va_Qi (fun (r1 : Int32) (u : M) => r1 = r ∧ u = μ) (fun u t => Wp D tys ks ad A (cf u) t) A) args s cells slots A) (F0 m pc ls [.int r]) := by
  obtain ⟨hx, hb, hr1, -, -, hlocks, -, -⟩ := S
  obtain ⟨hK, hP, hD, hS, hn⟩ := hW
  exact W.iret (v := r) hx hb (hr1.trans hr) (fun t ht hWm => ⟨⟨r, μ, rfl, ⟨rfl, rfl⟩, by rw [ht]; exact hP, va_K.moved hWm.alike hK, hD⟩, hS.F ht⟩) hS.2.2 hdg
theorem wo_zret {r : Int32} (S : Cx p s m args meth c cc ret nL own Ts A) (hr : ret = some .boolean) (hn : narrow .boolean (.int r) = .int r) (hW : Wo D tys ks ad A s s.heap (cf μ) H locs) (hdg : decode cc pc = .ok (.ireturn, 1)) : W p l e R s m args below meth c H locs cells slots (MQ below (va_Qi (fun (r1 : Int32) (u : M) => r1 = r ∧ u = μ) (fun u t => Wp D tys ks ad A (cf u) t) A) args s cells slots A) (F0 m pc ls [.int r]) := by
  obtain ⟨hx, hb, hr1, -, -, hlocks, -, -⟩ := S
  obtain ⟨hK, hP, hD, hS, -⟩ := hW
  exact W.zret (v := r) hx hb (hr1.trans hr) hn (fun t ht hWm => ⟨⟨r, μ, rfl, ⟨rfl, rfl⟩, by rw [ht]; exact hP, va_K.moved hWm.alike hK, hD⟩, hS.F ht⟩) hS.2.2 hdg
theorem wo_vret (S : Cx p s m args meth c cc ret nL own Ts A) (hr : ret = none) (hW : Wo D tys ks ad A s s.heap (cf μ) H locs) (hdg : decode cc pc = .ok (.return_, 1)) : W p l e R s m args below meth c H locs cells slots (MQ below (va_Qv (fun (u : M) => u = μ) (fun u t => Wp D tys ks ad A (cf u) t) A) args s cells slots A) (F0 m pc ls []) := by
  obtain ⟨hx, hb, hr1, -, -, hlocks, -, -⟩ := S
  obtain ⟨hK, hP, hD, hS, hn⟩ := hW
  exact W.vret hx hb (hr1.trans hr) (fun t ht hWm => ⟨⟨μ, rfl, rfl, by rw [ht]; exact hP, va_K.moved hWm.alike hK, hD⟩, hS.F ht⟩) hS.2.2 hdg
end ENDS
theorem wo_start {ws : List Cond} {rm : Room} {ret : Option FieldType} {maxL : Nat} {y : MethodName} {as : List Value} {sz : Nat} {s₁ : State} (B : BodyLoose p l y (headSpec ws rm) cc maxL ret e s m args below meth c s₁) (hml : c.maxLocals = maxL) (hn : ks.Nodup) (hv : va_Pc as (fun U => U.heap.size = sz ∧ Wp D tys ks ad (fun _ => True) ce U) args s) : args = as.toArray ∧ s.heap.size = sz ∧ Cx p s m args meth c cc ret maxL y.cls ws (ky_fr ks ad sz) ∧ Wo D tys ks ad (ky_fr ks ad sz) s s.heap ce s.heap [] := by
  obtain ⟨rfl, hsz, hP, hK, hD⟩ := hv
  refine ⟨rfl, hsz, ⟨B.exec, B.bytes, B.returns, atoms_spec (ws := ws) B.pre, findClass_of_methodNamed B.named, B.notSynchronized, hml, fun q h => Or.inr (hsz ▸ h)⟩, hK, hP, ⟨hD.1, fun k q h => ?_⟩, va_S.rf, hn⟩
  obtain ⟨k', hk', rfl⟩ := ky_mem h
  exact Or.inl ⟨k', hk', rfl⟩
end WO
theorem ctI_of {M : Type} {l : Launch} {y : MethodName} {ws ws' : List Cond} {rm : Room} {D : va_G} {tys : List (ClassId × FieldType)} {ks : List Ky} {ad : Ky → Nat} {cf : M → Ky → va_E} {as : List Value} {μ μ' : M} {r : Int32} {cc : ByteArray} {maxL : Nat} {ret : Option FieldType} (hn : ks.Nodup) (hy : plainName y.cls = true) (hw : ws = Cond.code y cc maxL ret :: ws') (hle : (lg_sl as).length ≤ maxL)
    (body : ∀ (p : Program) (e : Env) (s : State) (m : MethodId) (below : List Frame) (meth : Method) (c : Code) (A : Nat → Prop) (ls : Array Slot), Cx p s m as.toArray meth c cc ret maxL y.cls ws A → Wo D tys ks ad A s s.heap (cf μ) s.heap [] → lv_has ls maxL (lv_args 0 as) → W p l e rm s m as.toArray below meth c s.heap [] 0 0 (MQ below (va_Qi (fun (r1 : Int32) (u : M) => r1 = r ∧ u = μ') (fun u t => Wp D tys ks ad A (cf u) t) A) as.toArray s 0 0 A) (F0 m 0 ls [])) : CtI l y ws rm D tys ks ad cf as μ r μ' := by
  intro sz
  refine Met.ofW (cc := cc) (maxL := maxL) (ret := ret) hy hw ?_
  intro p e s m args below meth c s₁ B hml hv
  obtain ⟨rfl, hsz, hC, hW⟩ := wo_start B hml hn hv
  rw [lg_entry_eq]
  exact body p e s m below meth c _ _ hC hW (lv_entry as hle)
theorem ctV_of {M : Type} {l : Launch} {y : MethodName} {ws ws' : List Cond} {rm : Room} {D : va_G} {tys : List (ClassId × FieldType)} {ks : List Ky} {ad : Ky → Nat} {cf : M → Ky → va_E} {as : List Value} {μ μ' : M} {cc : ByteArray} {maxL : Nat} {ret : Option FieldType} (hn : ks.Nodup) (hy : plainName y.cls = true) (hw : ws = Cond.code y cc maxL ret :: ws') (hle : (lg_sl as).length ≤ maxL)
    (body : ∀ (p : Program) (e : Env) (s : State) (m : MethodId) (below : List Frame) (meth : Method) (c : Code) (A : Nat → Prop) (ls : Array Slot), Cx p s m as.toArray meth c cc ret maxL y.cls ws A → Wo D tys ks ad A s s.heap (cf μ) s.heap [] → lv_has ls maxL (lv_args 0 as) → W p l e rm s m as.toArray below meth c s.heap [] 0 0 (MQ below (va_Qv (fun (u : M) => u = μ') (fun u t => Wp D tys ks ad A (cf u) t) A) as.toArray s 0 0 A) (F0 m 0 ls [])) : CtV l y ws rm D tys ks ad cf as μ μ' := by
  intro sz
  refine Met.ofW (cc := cc) (maxL := maxL) (ret := ret) hy hw ?_
  intro p e s m args below meth c s₁ B hml hv
  obtain ⟨rfl, hsz, hC, hW⟩ := wo_start B hml hn hv
  rw [lg_entry_eq]
  exact body p e s m below meth c _ _ hC hW (lv_entry as hle)
