/-! MAKING: a constructor's cells lie side by side from N on, in the order of their making -/
theorem va_AOA.moved {t : FieldType} {u U : State} (hvm : u.vm.Alike U.vm) (h : va_AOA t u) : va_AOA t U := over_moved hvm h
def Ev (D : va_G) (g : G3) (U : State) : Prop := va_K D vwCl (tysX g) U ∧ va_AOA .int U ∧ va_AO "NearlyBought$Market" U
theorem Ev.moved {D : va_G} {g : G3} {u U : State} (hvm : u.vm.Alike U.vm) (h : Ev D g u) : Ev D g U := ⟨va_K.moved hvm h.1, va_AOA.moved hvm h.2.1, va_AO.moved hvm h.2.2⟩
def Bw (D : va_G) (N n : Nat) (ce : Nat → va_E) (H : Heap) : Prop := H.size = N + n ∧ ∀ i, i < n → va_at D vwCl (N + i, ce i) H
def Bp (D : va_G) (N n : Nat) (ce : Nat → va_E) (cj : Nat) (fj : List Value) (H : Heap) : Prop := H.size = N + n + 1 ∧ (∀ i, i < n → va_at D vwCl (N + i, ce i) H) ∧ va_at D vwCl (N + n, .inr (cj, fj)) H
/-- the cells, but the object at the head (its fields as they are by now) and one row of references at x -/
def C0 (ci : Nat) (fs : List Value) (ce : Nat → va_E) : Nat → va_E := fun i => if i = 0 then .inr (ci, fs) else ce i
def Cx2 (ci : Nat) (fs : List Value) (x : Nat) (ex : va_E) (ce : Nat → va_E) : Nat → va_E := fun i => if i = 0 then .inr (ci, fs) else if i = x then ex else ce i
theorem C0_0 {ci : Nat} {fs : List Value} {ce : Nat → va_E} : C0 ci fs ce 0 = .inr (ci, fs) := if_pos rfl
theorem C0_n {ci : Nat} {fs : List Value} {ce : Nat → va_E} {i : Nat} (h : i ≠ 0) : C0 ci fs ce i = ce i := if_neg h
theorem C2_0 {ci : Nat} {fs : List Value} {x : Nat} {ex : va_E} {ce : Nat → va_E} : Cx2 ci fs x ex ce 0 = .inr (ci, fs) := if_pos rfl
theorem C2_x {ci : Nat} {fs : List Value} {x : Nat} {ex : va_E} {ce : Nat → va_E} (h : x ≠ 0) : Cx2 ci fs x ex ce x = ex := by
  unfold Cx2
  rw [if_neg h, if_pos rfl]
theorem C2_n {ci : Nat} {fs : List Value} {x : Nat} {ex : va_E} {ce : Nat → va_E} {i : Nat} (h : i ≠ 0) (h2 : i ≠ x) : Cx2 ci fs x ex ce i = ce i := by
  unfold Cx2
  rw [if_neg h, if_neg h2]
theorem Bw.to {D : va_G} {N n : Nat} {ce ce' : Nat → va_E} {H : Heap} (h : Bw D N n ce H) (he : ∀ i, i < n → ce i = ce' i) : Bw D N n ce' H := ⟨h.1, fun i hi => by rw [← he i hi]; exact h.2 i hi⟩
theorem rf_at {D : va_G} {a n : Nat} {cA : ClassId} {f f' : Nat → Option Nat} {H : Heap} (hf : ∀ j, j < n → f j = f' j) (h : va_at D vwCl (a, .inl (cA, n, .inr (.inr (.inr (.inr f))))) H) : va_at D vwCl (a, .inl (cA, n, .inr (.inr (.inr (.inr f'))))) H := by
  have h0 : H[a]? = some (vp_cell cA (n, .inr (.inr (.inr (.inr f))))) := h
  show H[a]? = some (vp_cell cA (n, .inr (.inr (.inr (.inr f')))))
  rw [h0, vp_cell_q, vp_cell_q]
  unfold arrV
  congr 2
  congr 1
  funext j
  show va_rf (f j.val) = va_rf (f' j.val)
  rw [hf j.val j.isLt]
section MAKE
variable {p : Program} {l : Launch} {e : Env} {R : Room} {s : State} {m : MethodId} {args : Array Value} {below : List Frame} {meth : Method} {c : Code} {H : Heap} {locs : List Loc} {cells slots : Nat} {Q : State → Prop}
variable {cc : ByteArray} {pc : Nat} {ls : Array Slot} {rest : List Value} {D : va_G} {A : Nat → Prop} {g : G3} {N n : Nat} {ce ce' : Nat → va_E} {H0 : Heap}
theorem at_get (hexec : p.tables.exec = Jvm.exec) (hb : c.code = cc) {own ref C : String} {T : u_T} {N' ci index : Nat} {Ts : List Cond} (hts : ∀ w ∈ Ts, w.before args s = true) (hin : ∀ w ∈ u_ws C T N', w ∈ Ts) (hown : s.vm.findClass own = some m.cls) (hK : va_K D vwCl (tysX g) s) {a : Nat} {fs : List Value} (hat : va_at D vwCl (a, .inr (ci, fs)) H) (hc : vwCl[ci]? = some (C, T, N')) (k : Nat) (hk : k < N') (hlink : (Cond.fieldLink own index ref (T k).2.1 (T k).2.2.1).before args s = true) (hsame : ∀ x, s.fieldFound? (T k).1 (T k).2.1 (T k).2.2.1 = some x → s.fieldFound? ref (T k).2.1 (T k).2.2.1 = some x) {v : Value} (hv : fs[k]? = some v) (hdg : decode cc pc = .ok (.getfield index, 3))
    (kk : W p l e R s m args below meth c H locs cells slots Q (F0 m (pc + 3) ls (v :: rest))) : W p l e R s m args below meth c H locs cells slots Q (F0 m pc ls (.ref a :: rest)) :=
  va_get (ws := [(a, .inr (ci, fs))]) hexec hb hts hin hown hK (fun k9 q9 h9 => by
    have h0 : k9 < 1 := (List.getElem?_eq_some_iff.mp h9).1
    rw [show k9 = 0 by omega] at h9
    cases h9
    exact hat) 0 rfl hc k hk hlink hsame hv hdg kk
theorem bw_put (hexec : p.tables.exec = Jvm.exec) (hb : c.code = cc) {own ref C : String} {T : u_T} {N' ci index : Nat} {Ts : List Cond} (hts : ∀ w ∈ Ts, w.before args s = true) (hin : ∀ w ∈ u_ws C T N', w ∈ Ts) (ty0 : Nat → FieldType) (hty : ∀ k, k < N' → parseFieldDescriptor (T k).2.2.1 = some (ty0 k)) (hnm : ∀ a, a < N' → ∀ b, b < N' → a ≠ b → (T a).2.1 ≠ (T b).2.1) (hown : s.vm.findClass own = some m.cls) (hK : va_K D vwCl (tysX g) s) (hB : Bw D N n ce H) (hS0 : va_S A H0 H locs) (hA : ∀ q, N ≤ q → A q) {fs : List Value} (hn0 : 0 < n) (he : ce 0 = .inr (ci, fs)) (hc : vwCl[ci]? = some (C, T, N')) (k : Nat) (hk : k < N') (hlink : (Cond.fieldLink own index ref (T k).2.1 (T k).2.2.1).before args s = true) (hsame : ∀ x, s.fieldFound? (T k).1 (T k).2.1 (T k).2.2.1 = some x → s.fieldFound? ref (T k).2.1 (T k).2.2.1 = some x) (hfin : (T k).2.2.2 = false ∨ ((T k).2.2.2 = true ∧ meth.name = "<init>" ∧ (T k).1 = own)) {ty : FieldType} {v : Value} (hd : parseFieldDescriptor (T k).2.2.1 = some ty) (hn : narrow ty v = v) (hfit : fits ty v = true) (hl : k < fs.length) (he' : ce' 0 = .inr (ci, fs.set k v)) (ho : ∀ j, j ≠ 0 → ce' j = ce j)
    (hdg : decode cc pc = .ok (.putfield index, 3)) (kk : ∀ (H1 : Heap) (locs1 : List Loc), Bw D N n ce' H1 → va_S A H0 H1 locs1 → W p l e R s m args below meth c H1 locs1 cells slots Q (F0 m (pc + 3) ls rest)) : W p l e R s m args below meth c H locs cells slots Q (F0 m pc ls (v :: .ref N :: rest)) := by
  have hap := va_apart (own := own) hts hin ty0 hty hnm hK hc
  have hat := hB.2 0 hn0
  rw [he] at hat
  obtain ⟨r, h1, cell, q1, q2, q3, q4⟩ := hat
  have q1 : H[N]? = some cell := q1
  have hr : r = (C, T, N') := Option.some.inj (h1.symm.trans hc)
  subst hr
  obtain ⟨hS, hfc, kC, hkC, hkind⟩ := hK.1 ci _ hc
  obtain ⟨cf, kf, fi, f, hi, hsl⟩ := hS k hk
  have hlay := hts _ (hin _ (u_in_lay hk))
  unfold u_lay at hlay
  have hst := (u_facts hfc hkC (u_lays hts hin hk) hi).1
  have fin : ∀ (H' : Heap), H'[N]? = some (cell.setSlot f.slot v) → H'.size = H.size → (∀ q, q ≠ N → H'[q]? = H[q]?) → Bw D N n ce' H' := by
    intro H' e1 e2 e3
    rw [hsl] at e1
    refine ⟨by rw [e2]; exact hB.1, fun i hi9 => ?_⟩
    by_cases c0 : i = 0
    · subst c0
      rw [he']
      exact ⟨_, hc, t_OB.to (V := updV (vp_V fs) k v) ⟨_, e1, q2, q3, t_set q4 hap hk v⟩ (fun j _ => vp_updV_set hl v j)⟩
    · rw [ho i c0]
      exact (hB.2 i hi9).kept (e3 (N + i) (by omega))
  rcases hfin with hfin | ⟨hfin, hin2, hdecl⟩
  · rw [if_neg (by rw [hfin]; decide)] at hlay
    have h6 := u_store hfc hkC hkind hlay hi hd hn hfit
    refine W.putK hexec hb (f := f) ⟨hown, hlink, ⟨_, _, _, hsame _ hi⟩, hst⟩ (by rw [q2]; exact h6) q1 q3 (by rw [hsl]; exact k2_hasslot (q4 k hk)) rfl rfl hdg fun H' e1 e2 e3 => ?_
    exact kk H' _ (fin H' e1 e2 e3) (hS0.put e2 e3 (hA N (Nat.le_refl _)))
  · rw [if_pos hfin] at hlay
    have hcf : m.cls = cf := by
      obtain ⟨_, _, c', _, _, _, -, -, hf', -, -, -, hown2, -⟩ := Cond.laysFinal_spec hlay
      have e1 : c' = cf := by have := hi.symm.trans hf'; simp at this; exact this.1.symm
      rw [hdecl] at hown2
      rw [← e1]; exact Option.some.inj (hown.symm.trans hown2)
    have h6 := u_fits hfc hkC hkind (Or.inr hlay) hi hd hn hfit
    refine W.putFinK hexec hb hown hlink (hsame _ hi) hst hcf hin2 (by rw [q2]; exact h6) q1 q3 (by rw [hsl]; exact k2_hasslot (q4 k hk)) rfl rfl hdg fun H' e1 e2 e3 => ?_
    exact kk H' _ (fin H' e1 e2 e3) (hS0.put e2 e3 (hA N (Nat.le_refl _)))
theorem bw_newa (hexec : p.tables.exec = Jvm.exec) (hb : c.code = cc) (harr : (Cond.arrayClass .int).before args s = true) (hK : va_K D vwCl (tysX g) s) (hB : Bw D N n ce H) (hS : va_S A H0 H locs) {i : Int32} {L : Nat} (hn : ¬ i < 0) (hN : i.toNatClampNeg = L) (hbytes : L * componentBytes .int ≤ 536870912) (hcells : cells + 1 ≤ R.cells) (hslots : slots + L ≤ R.slots) (he : ce n = .inl (g.1, L, .inl (fun _ => 0))) (hdg : decode cc pc = .ok (.newarray .int, 2))
    (kk : ∀ (H1 : Heap), Bw D N (n + 1) ce H1 → va_S A H0 H1 locs → W p l e R s m args below meth c H1 locs (cells + 1) (slots + L) Q (F0 m (pc + 2) ls (.ref (N + n) :: rest))) : W p l e R s m args below meth c H locs cells slots Q (F0 m pc ls (.int i :: rest)) := by
  refine va_newaK (atype := .int) hexec hb harr rfl hdg rfl hn hN hbytes hcells hslots hB.1 fun H1 cA e1 z1 o1 hAr hNm => ?_
  have hg : cA = g.1 := by
    have h0 := (hK.2 0 _ rfl).2
    exact Option.some.inj (hNm.symm.trans h0)
  subst hg
  refine kk H1 ⟨by rw [z1]; omega, fun j hj => ?_⟩ ⟨by rw [z1, ← hB.1]; have := hS.1; omega, fun x h1 h2 => (o1 x (by rw [← hB.1]; exact Nat.lt_of_lt_of_le h1 hS.1)).trans (hS.2.1 x h1 h2), hS.2.2⟩
  by_cases c0 : j = n
  · subst c0
    rw [he]
    exact e1
  · exact (hB.2 j (by omega)).kept (o1 (N + j) (by omega))
theorem bw_newq (hexec : p.tables.exec = Jvm.exec) (hb : c.code = cc) {own : String} {index : Nat} (hown : s.vm.findClass own = some m.cls) (hclink : (Cond.classLink own index "NearlyBought$Market").before args s = true) (hover : va_AO "NearlyBought$Market" s) (hK : va_K D vwCl (tysX g) s) (hB : Bw D N n ce H) (hS : va_S A H0 H locs) {i : Int32} {L : Nat} (hn : ¬ i < 0) (hN : i.toNatClampNeg = L) (hbytes : L * 4 ≤ 536870912) (hcells : cells + 1 ≤ R.cells) (hslots : slots + L ≤ R.slots) (he : ce' n = .inl (g.2.2, L, .inr (.inr (.inr (.inr (fun _ => none)))))) (ho : ∀ j, j < n → ce' j = ce j) (hdg : decode cc pc = .ok (.anewarray index, 3))
    (kk : ∀ (H1 : Heap), Bw D N (n + 1) ce' H1 → va_S A H0 H1 locs → W p l e R s m args below meth c H1 locs (cells + 1) (slots + L) Q (F0 m (pc + 3) ls (.ref (N + n) :: rest))) : W p l e R s m args below meth c H locs cells slots Q (F0 m pc ls (.int i :: rest)) := by
  subst hN
  refine W.anew hexec hb hown hclink (va_AO.use hover) rfl hdg rfl hn hbytes hcells hslots fun cA kA comp f1 f2 f3 f4 => ?_
  have hg : cA = g.2.2 := by
    obtain ⟨_, _, _, _, _, h4⟩ := (hK.2 2 _ rfl).2
    exact Option.some.inj (f1.symm.trans h4)
  subst hg
  generalize hH1 : H.push ({ cls := g.2.2, slots := Array.replicate i.toNatClampNeg .null, vm := .none } : Cell) = H1
  have z1 : H1.size = H.size + 1 := by rw [← hH1, Array.size_push]
  have e1 : H1[H.size]? = some (arrV g.2.2 i.toNatClampNeg (fun _ => .null)) := by rw [← hH1, Array.getElem?_push_size, ← arrV_new]
  have o1 : ∀ q : Nat, q < H.size → H1[q]? = H[q]? := fun q hq => by rw [← hH1, Array.getElem?_push, if_neg (Nat.ne_of_lt hq)]
  have hz := hB.1
  rw [hz] at e1 o1 z1 ⊢
  refine kk H1 ⟨by rw [z1]; omega, fun j hj => ?_⟩ ⟨by rw [z1, ← hz]; have := hS.1; omega, fun x h1 h2 => (o1 x (by rw [← hz]; exact Nat.lt_of_lt_of_le h1 hS.1)).trans (hS.2.1 x h1 h2), hS.2.2⟩
  by_cases c0 : j = n
  · subst c0
    rw [he]
    exact e1
  · rw [ho j (by omega)]
    exact (hB.2 j (by omega)).kept (o1 (N + j) (by omega))
theorem bw_mna (hexec : p.tables.exec = Jvm.exec) (hb : c.code = cc) {own : String} {index : Nat} (hown : s.vm.findClass own = some m.cls) (hclink : (Cond.classLink own index "[[I").before args s = true) (hover : va_AOA .int s) (harr : (Cond.arrayClass .int).before args s = true) (hK : va_K D vwCl (tysX g) s) (hB : Bw D N n ce H) (hS : va_S A H0 H locs) (hcells : cells + 7 ≤ R.cells) (hslots : slots + 42 ≤ R.slots) {f : Nat → Nat} (hf : ∀ j, j < 6 → f j = N + n + 1 + j) (he : ce n = .inl (g.2.1, 6, rfX f)) (hr : ∀ j, j < 6 → ce (n + 1 + j) = .inl (g.1, 6, .inl (fun _ => 0))) (hdg : decode cc pc = .ok (.multianewarray index 2, 4))
    (kk : ∀ (H1 : Heap), Bw D N (n + 7) ce H1 → va_S A H0 H1 locs → W p l e R s m args below meth c H1 locs (cells + 7) (slots + 42) Q (F0 m (pc + 4) ls (.ref (N + n) :: rest))) : W p l e R s m args below meth c H locs cells slots Q (F0 m pc ls (.int 6 :: .int 6 :: rest)) := by
  intro T hT Xs
  obtain ⟨vm₁, cA, comp, -, fA, fC, hO, -, X', step⟩ := Xs.multianewarray2F hexec hown hclink (va_AOA.use hover) harr (g := F0 m pc ls (.int 6 :: .int 6 :: rest)) rfl (by rw [hb]; exact hdg) rfl (by decide) (by decide) (by decide) (by decide) (by decide) (by decide) (by decide) hcells hslots
  have h1 : cA = g.2.1 := Option.some.inj (fA.symm.trans (hK.2 1 _ rfl).2)
  have h2 : comp = g.1 := Option.some.inj (fC.symm.trans (hK.2 0 _ rfl).2)
  subst h1
  subst h2
  have e6 : (6 : Int32).toNatClampNeg = 6 := by decide
  rw [e6] at X' step
  generalize hF : Jvm.Free.Multi.fill (T.setVm vm₁) g.2.1 g.1 6 6 (defaultValue .int) 6 = F at X' step
  have hTh : (T.setVm vm₁).heap = H := hT
  obtain ⟨f1, f2, -, -⟩ := Jvm.Free.Multi.fill_facts (T.setVm vm₁) g.2.1 g.1 6 6 (defaultValue .int) 6
  rw [hF, hTh] at f1 f2
  have hold : ∀ x : Nat, x < H.size → F.heap[x]? = H[x]? := fun x hx => by
    have := Jvm.Free.Multi.fill_old (T.setVm vm₁) g.2.1 g.1 6 6 (defaultValue .int) (a := x) (by rw [hTh]; exact hx) 6
    rw [hF, hTh] at this
    exact this
  have hrow : ∀ j : Nat, j < 6 → F.heap[H.size + 1 + j]? = some (arrV g.1 6 (fun _ => .int 0)) := fun j hj => by
    have := Jvm.Free.Multi.fill_inner (T.setVm vm₁) g.2.1 g.1 6 6 (defaultValue .int) 6 j hj
    rw [hF, hTh] at this
    rw [this, ← arrV_new]
    rfl
  rw [vr_outer] at f2
  have hz := hB.1
  rw [hz] at f1 f2 hold hrow
  have hBk : Bw D N (n + 7) ce F.heap := by
    refine ⟨by rw [f1]; omega, fun i hi => ?_⟩
    by_cases c0 : i < n
    · exact (hB.2 i c0).kept (hold (N + i) (by omega))
    · by_cases c1 : i = n
      · subst c1
        rw [he]
        refine rf_at (f := fun j => if j < 6 then some (N + i + 1 + j) else none) (fun j hj => by rw [if_pos hj, hf j hj]) ?_
        exact f2
      · obtain ⟨j, rfl⟩ : ∃ j, i = n + 1 + j := ⟨i - (n + 1), by omega⟩
        rw [hr j (by omega)]
        show F.heap[N + (n + 1 + j)]? = some (arrV g.1 6 (fun _ => .int 0))
        rw [show N + (n + 1 + j) = N + n + 1 + j by omega]
        exact hrow j (by omega)
  obtain ⟨t, a1, b1⟩ := kk F.heap hBk ⟨by rw [f1, ← hz]; have := hS.1; omega, fun x h1 h2 => (hold x (by rw [← hz]; exact Nat.lt_of_lt_of_le h1 hS.1)).trans (hS.2.1 x h1 h2), hS.2.2⟩ F rfl X'
  refine ⟨t, step t ?_, b1⟩
  have e9 : T.heap.size = N + n := by rw [hT]; exact hz
  rw [e9]
  exact a1
theorem bw_new (hexec : p.tables.exec = Jvm.exec) (hb : c.code = cc) {own C : String} {T : u_T} {N' ci index : Nat} {Ts : List Cond} (hts : ∀ w ∈ Ts, w.before args s = true) (hin : ∀ w ∈ u_ws C T N', w ∈ Ts) (ty : Nat → FieldType) (hty : ∀ k, k < N' → parseFieldDescriptor (T k).2.2.1 = some (ty k)) (hown : s.vm.findClass own = some m.cls) (hcl : (Cond.classLink own index C).before args s = true) (hinst : (Cond.instantiable C N').before args s = true) (hini : (Cond.initialized C).before args s = true)
    (hK : va_K D vwCl (tysX g) s) (hB : Bw D N n ce H) (hS : va_S A H0 H locs) (hc : vwCl[ci]? = some (C, T, N')) {fs : List Value} (hfs : ∀ j, j < N' → defaultValue (ty j) = vp_V fs j) (hcells : cells + 1 ≤ R.cells) (hslots : slots + N' ≤ R.slots) (hdg : decode cc pc = .ok (.new index, 3))
    (kk : ∀ (H1 : Heap), Bp D N n ce ci fs H1 → va_S A H0 H1 locs → W p l e R s m args below meth c H1 locs (cells + 1) (slots + N') Q (F0 m (pc + 3) ls (.ref (N + n) :: rest))) : W p l e R s m args below meth c H locs cells slots Q (F0 m pc ls rest) := by
  have hKn := hK.1 ci _ hc
  refine W.newcK hexec hb hown hcl hinst hini rfl hdg hcells hslots hKn.2.1 hB.1 fun H1 kC hkC e1 z1 o1 => ?_
  refine kk H1 ⟨z1, fun i hi => (hB.2 i hi).kept (o1 (N + i) (by omega)), ⟨_, hc, (u_born ty hts hin hKn hkC e1 hty).to hfs⟩⟩ ⟨by rw [z1, ← hB.1]; have := hS.1; omega, fun x h1 h2 => (o1 x (by rw [← hB.1]; exact Nat.lt_of_lt_of_le h1 hS.1)).trans (hS.2.1 x h1 h2), hS.2.2⟩
theorem bw_astq (hexec : p.tables.exec = Jvm.exec) (hb : c.code = cc) (hK : va_K D vwCl (tysX g) s) (hB : Bw D N n ce H) (hS : va_S A H0 H locs) (hA : ∀ q, N ≤ q → A q) {x y : Nat} (hx : x < n) (hy : y < n) {L : Nat} {f : Nat → Option Nat} {vs : List Value} (he : ce x = .inl (g.2.2, L, .inr (.inr (.inr (.inr f))))) (hv : ce y = .inr (1, vs)) {i : Int32} (hin : vp_in i L) (he' : ce' x = .inl (g.2.2, L, .inr (.inr (.inr (.inr (va_up f i.toNatClampNeg (some (N + y)))))))) (ho : ∀ j, j ≠ x → ce' j = ce j) (hdg : decode cc pc = .ok (.aastore, 1))
    (kk : ∀ (H1 : Heap) (locs1 : List Loc), Bw D N n ce' H1 → va_S A H0 H1 locs1 → W p l e R s m args below meth c H1 locs1 cells slots Q (F0 m (pc + 1) ls rest)) : W p l e R s m args below meth c H locs cells slots Q (F0 m pc ls (.ref (N + y) :: .int i :: .ref (N + x) :: rest)) := by
  have hlt : i.toNatClampNeg < L := Nat.not_le.mp fun q => hin (Or.inr q)
  have h0 : ¬ i < 0 := fun q => hin (Or.inl q)
  have hax := hB.2 x hx
  have hay := hB.2 y hy
  rw [he] at hax
  rw [hv] at hay
  have hax : H[N + x]? = some (vp_cell g.2.2 (L, .inr (.inr (.inr (.inr f))))) := hax
  obtain ⟨r', hr', cellV, g1, g2, g3, -⟩ := hay
  have hcls := (hK.1 1 _ rfl).2
  obtain ⟨kA, comp, k1, k2, k3, -⟩ := (hK.2 2 _ rfl).2
  have hcomp : comp = D.1 1 := Option.some.inj (k3.symm.trans hcls.1)
  subst hcomp
  obtain ⟨kC, hkC, -⟩ := hcls.2
  refine W.aast hexec hb hax (fun q h => by cases h) (fun h => by cases h) k1 k2 rfl hkC ⟨h0, by show _ < (arrV _ _ _).slots.size; rw [arrV_size]; exact hlt⟩ g1 (fun q h => by rw [g3] at h; cases h) (by rw [g2]; exact hkC) (by rw [g2]; exact va_assign hcls) rfl rfl hdg fun H1 e1 z oq => ?_
  refine kk H1 _ ⟨by rw [z]; exact hB.1, fun j hj => ?_⟩ (hS.put z oq (hA _ (by omega)))
  by_cases c0 : j = x
  · subst c0
    rw [he']
    show H1[N + j]? = some (vp_cell _ _)
    rw [e1]
    rw [vp_cell_q, vp_cell_q, arrV_store]
    congr 2
    funext q
    by_cases hq : q = i.toNatClampNeg
    · subst hq
      simp [updV, va_up, va_rf]
    · simp [updV, va_up, hq]
  · rw [ho j c0]
    exact (hB.2 j hj).kept (oq (N + j) (fun e9 => c0 (Nat.add_left_cancel e9)))
end MAKE
