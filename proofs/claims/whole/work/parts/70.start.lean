/-! THE CLAIM OUT OF ONE WALK OF THE LAW'S BODY. Your part is whole_start (and what it stands on); all else here is the same for every law, but numbers. -/
def R_law : String := "NearlyBoughtLaw"
def lw_P (b : Addr) (xs : List Int32) (args : Array Value) (s : State) : Prop := args = #[.ref b] ∧ s.IntsAt b xs ∧ xs.length ≤ 256 ∧ (Jvm.Cond.and given_1 narrow_1).before args s = true
def lw_Q (_ : Array Value) (s : State) (o : Outcome) (t : State) : Prop := o = .returned (some (.int 1)) ∧ Framed s o t [] 600000 7302250
def lw_Z (below : List Frame) (a : Array Value) (s : State) : State → Prop := fun t => ∃ o, t.status = .running ∧ Ended t below o ∧ lw_Q a s o t
/-- the law's own end, with 1 on the stack, nothing written that was there before, its room as the claim has it -/
theorem lw_ret {p : Program} {l : Launch} {e : Env} {s : State} {m : MethodId} {below : List Frame} {meth : Method} {c : Code} {b : Nat} (hx : p.tables.exec = Jvm.exec) (hb : c.code = code) (hr : meth.sig.returnType = ret) (hlocks : meth.locks = false) {pc : Nat} {H : Heap} {ls : Array Slot} (hdg : decode code pc = .ok (.ireturn, 1)) : W p l e room_1 s m #[Value.ref b] below meth c H [] 600000 7302250 (lw_Z below #[Value.ref b] s) (F0 m pc ls [.int 1]) := by
  intro T hT X
  obtain ⟨fs, hret, hrun, hended, hW, hframe⟩ := X.leave (v := some (.int 1)) (hlocks := hlocks) (fun h => by rw [hr] at h; cases h)
  have hmeth' : T.vm.method? m = some meth := X.method'
  refine ⟨T.setFrames fs, ?_, .returned (some (.int 1)), hrun, hended, rfl, ⟨_, rfl⟩, hW, hframe⟩
  jvm_step X.here [X.here.top, hx, hb, hdg, hmeth', hr, ret, narrow_b1]
  (try refine ⟨rfl, ?_⟩); (try refine ⟨rfl, ?_⟩)
  first | (intro acts; rw [hret _ acts rfl rfl rfl]) | rw [hret _ _ rfl rfl rfl]
  exact Steps.refl _
/-- what holds at the law's entry: the machine, the code, the tables' words (any of lw_tbl by 'hts w (by decide +kernel)'), the script of L ints xs at the cell b, what the Statement gives of the start (any of its parts by flat_of_before) -/
def lw_At (p : Program) (s : State) (m : MethodId) (meth : Method) (c : Code) (b L : Nat) (xs : Nat → Int32) : Prop :=
  p.tables.exec = Jvm.exec ∧ c.code = code ∧ meth.sig.returnType = ret ∧ c.maxLocals = 4 ∧ s.vm.findClass R_law = some m.cls ∧ (∀ w ∈ lw_tbl, w.before #[Value.ref b] s = true) ∧ va_X b L xs s s.heap ∧ b < s.heap.size ∧ meth.locks = false ∧ (Jvm.Cond.and given_1 narrow_1).before #[Value.ref b] s = true
abbrev sRR (y : Mem) : Mem := xs y 17 9 0 0 0
theorem nb_blind {D : va_G} {g : G3} {q v : Nat} {z : Option Nat} {N : Nat} {as : List Value} : FrameBlind (va_Pc as (fun U => (Ev D g U ∧ U.heap.size = N + 1 ∧ va_at D vwCl (N, .inr (5, bl5)) U.heap) ∧ EN q v z N U)) := by
  intro a U g9 mk h
  obtain ⟨h0, ⟨h1, h2, h3⟩, h4⟩ := h
  exact ⟨h0, ⟨Ev.moved (u := U) (U := U.calling g9 mk a) (Vm.Alike.refl U.vm) h1, h2, h3⟩, EN.same (s := U) (U := U.calling g9 mk a) rfl rfl h4⟩
set_option maxHeartbeats 8000000 in
set_option maxRecDepth 100000 in
/-- from the entry, for every script of at most 256 ints, the law comes to its end with true -/
theorem whole_start {p : Program} {e : Env} {s : State} {m : MethodId} {below : List Frame} {meth : Method} {c : Code} (l : Launch) (hflags : l.flags = flags0) {b L : Nat} {xs : Nat → Int32} (hL : L ≤ 256) (C0 : lw_At p s m meth c b L xs) : W p l e room_1 s m #[Value.ref b] below meth c s.heap [] 0 0 (lw_Z below #[Value.ref b] s) (entryFrame m ([Value.ref b] : List Value).toArray 4) := by
  obtain ⟨hx, hb, hr, hml, hown, hts0, hX, hbl, hlocks, hgv⟩ := C0
  have hts : ∀ w ∈ wsL_law, w.before #[Value.ref b] s = true := fun w hw => hts0 w (wsL_law_in w hw)
  have hown : s.vm.findClass RL = some m.cls := hown
  have C : Cx p s m #[Value.ref b] meth c code ret 4 RL wsL_law (fun q => s.heap.size ≤ q) := ⟨hx, hb, hr, hts, hown, hlocks, hml, fun _ h => h⟩
  obtain ⟨D, hD⟩ := law_known hts
  have hAA : va_AOA .int s := va_AOA.of (hts0 (.arrayOver (.array .int)) (List.mem_of_getElem? (i := 149) (by decide +kernel)))
  have hAO : va_AO "NearlyBought$Market" s := va_AO.of (hts0 (.arrayOver (.object "NearlyBought$Market")) (List.mem_of_getElem? (i := 197) (by decide +kernel)))
  obtain ⟨g, hg⟩ := law_arrays (hts (.arrayClass .int) (by decide +kernel)) hAA hAO
  have hK : va_K D vwCl (tysX g) s := ⟨hD, hg⟩
  have hE : Ev D g s := ⟨hK, hAA, hAO⟩
  obtain ⟨q, v, z, hSC, hR⟩ := law_string hgv hts0
  have n2 : va_Nw wN2 s := va_Nw.of rfl (hts0 wN2 (List.mem_of_getElem? (i := 75) (by decide +kernel)))
  have n4 : va_Nw wN4 s := va_Nw.of rfl (hts0 wN4 (List.mem_of_getElem? (i := 89) (by decide +kernel)))
  have n3 : va_Nw wN3 s := va_Nw.of rfl (hts0 wN3 (List.mem_of_getElem? (i := 212) (by decide +kernel)))
  obtain ⟨μ, y, w, f1, f2, f3, hRR⟩ := start_RR
  have hS : va_S (fun q => s.heap.size ≤ q) s.heap s.heap [] := va_S.rf
  have hl := lv_entry ([.ref b]) (n := 4) (Nat.le_of_ble_eq_true rfl)
  rw [lg_entry_eq]
  generalize (lg_sl ([.ref b]) ++ List.replicate (4 - (lg_sl ([.ref b])).length) Slot.unset).toArray = ls at hl ⊢
  have hl : lv_has ls 4 [(0, .ref b)] := hl
  refine at_new (ci := 5) (fs := bl5) (C := RX5) (T := TX5) (N' := 11) hx hb hts iL_X5 tyX5 tyX5_ok hown (hts (.classLink RL 7 RX5) (by decide +kernel)) (hts (.instantiable RX5 11) (by decide +kernel)) (hts (.initialized RX5) (by decide +kernel)) hK hS rfl (by decide +kernel) (Nat.le_of_ble_eq_true rfl) (Nat.le_of_ble_eq_true rfl) dL_law_0 (fun H1 z1 a1 o1 hS => ?_)
  refine lv_dup hx hb dL_law_3 rfl ?_
  refine va_callv (va_runI (As := []) (rest := [.ref s.heap.size]) ⟨hx, hb, hml, hown, hts⟩ (kX5_init l D g q v z s.heap.size f2) (cwI 0 hts gL_law_X5_init rfl rfl rfl (hts (.initialized RX5) (by decide +kernel)) (hts (.methodLink RL 9 yX5_init) (by decide +kernel)) (hts (.instanceMethod yX5_init) (by decide +kernel)) rfl (by decide +kernel) ⟨Nat.le_of_ble_eq_true rfl, Nat.le_of_ble_eq_true rfl⟩) ⟨nb_blind, fun U hU hW => ⟨rfl, ⟨Ev.moved hW.alike hE, by rw [hU]; exact z1, by rw [hU]; exact a1⟩, ⟨by rw [hU]; exact (hSC.kept hS.2.1).moved hW.alike, vk_R.warm hW hR, va_Nw.warmM hW n2, va_Nw.warmM hW n4, va_Nw.warmM hW n3⟩⟩⟩ rfl rfl hl.1 rfl (lv_room (Nat.le_of_ble_eq_true rfl)) dL_law_4 ⟨Nat.le_of_ble_eq_true rfl, Nat.le_of_ble_eq_true rfl⟩) hS (fun _ _ h => h) (fun _ h => h) (fun u t H2 locs2 ht hvm hp hB hz hk hS => ?_)
  have hp : u = sRR y := hp
  obtain ⟨hP, -, hD2⟩ := hB
  rw [ht, hp] at hP
  rw [hp] at hD2
  have hWX : WX D g keysX (adX s.heap.size) (fun q => s.heap.size ≤ q) s s.heap (sRR y) H2 locs2 := ⟨hK, hP, hD2, hS, keysX_nd⟩
  have hlt : ∀ k ∈ keysX, adX s.heap.size k < H2.size := fun k hk => wo_lt hWX hk
  refine lv_astore_n (lv' := [(1, .ref s.heap.size), (0, .ref b)]) hx hb dL_law_7 rfl hl (by decide) rfl (fun ls hl => ?_)
  refine at_new (ci := 6) (fs := bl6) (C := RX6) (T := TX6) (N' := 14) hx hb hts iL_X6 tyX6 tyX6_ok hown (hts (.classLink RL 10 RX6) (by decide +kernel)) (hts (.instantiable RX6 14) (by decide +kernel)) (hts (.initialized RX6) (by decide +kernel)) hK hS rfl (by decide +kernel) (Nat.le_of_ble_eq_true rfl) (Nat.le_of_ble_eq_true rfl) dL_law_8 (fun H3 z3 a3 o3 hS3 => ?_)
  have hWX := wo2_keep hWX (fun k hk => o3 _ (hlt k hk)) hS3
  refine lv_dup hx hb dL_law_11 rfl ?_
  refine va_callv (va_runI (As := []) (rest := [.ref H2.size]) ⟨hx, hb, hml, hown, hts⟩ (kX6_init l D g H2.size f1 f3) (cwI 0 hts gL_law_X6_init rfl rfl rfl (hts (.initialized RX6) (by decide +kernel)) (hts (.methodLink RL 12 yX6_init) (by decide +kernel)) (hts (.instanceMethod yX6_init) (by decide +kernel)) rfl (by decide +kernel) ⟨Nat.le_of_ble_eq_true rfl, Nat.le_of_ble_eq_true rfl⟩) ⟨bn_blind, fun U hU hW => ⟨rfl, Ev.moved hW.alike hE, by rw [hU]; exact z3, by rw [hU]; exact a3⟩⟩ rfl rfl hl.1 rfl (lv_room (Nat.le_of_ble_eq_true rfl)) dL_law_12 ⟨Nat.le_of_ble_eq_true rfl, Nat.le_of_ble_eq_true rfl⟩) hS3 (fun _ _ h => Nat.le_trans hS.1 h) (fun _ h => Nat.le_trans hS.1 h) (fun u t H4 locs4 ht hvm hp hB hz hk hS4 => ?_)
  have hp : u = w := hp
  obtain ⟨hP4, -, hD4⟩ := hB
  rw [ht, hp] at hP4
  rw [hp] at hD4
  have hWX := wo2_keep hWX (fun k h1 => hk _ (wo_lt hWX h1) (fun h => absurd (hlt k h1) (Nat.not_lt.mpr h))) hS4
  have hWM : WX D g keysM (adZ H2.size) (fun q => s.heap.size ≤ q) s s.heap w H4 locs4 := ⟨hK, hP4, ⟨hD4.1, fun k q h => Nat.le_trans hS.1 (hD4.2 k q h)⟩, hS4, keysM_nd⟩
  have hdis : ∀ k2 ∈ keysM, ∀ k ∈ keysX, adZ H2.size k2 ≠ adX s.heap.size k := fun k2 _ k h1 e9 => by
    have h2 := hlt k h1
    have h3 : adZ H2.size k2 = H2.size + poM k2 := rfl
    omega
  refine lv_astore_n (lv' := [(2, .ref H2.size), (1, .ref s.heap.size), (0, .ref b)]) hx hb dL_law_15 rfl hl (by decide) rfl (fun ls hl => ?_)
  refine lv_iconst (v := 0) hx hb dL_law_16 (by decide) ?_
  refine lv_istore_n (lv' := [(3, .int 0), (2, .ref H2.size), (1, .ref s.heap.size), (0, .ref b)]) hx hb dL_law_17 rfl hl (by decide) rfl (fun ls hl => ?_)
  refine W.widen (k := 600000) (n := 7302250) (Nat.le_of_ble_eq_true rfl) (Nat.le_of_ble_eq_true rfl) ?_
  refine lw_loop (adx := adX s.heap.size) (adm := adZ H2.size) ⟨C, hX, hbl, hL⟩ (fun H locs ls hS => ?_) 66 0 (sRR y) w _ _ _ rfl ⟨hWX, hWM, hRR, hdis⟩ (lv_sub hl [3, 2, 1, 0] rfl)
  refine lv_iconst (v := 1) hx hb dL_law_856 (by decide) ?_
  refine va_forget (fun q h => hS.2.2 q h) ?_
  exact lw_ret hx hb hr hlocks dL_law_857
