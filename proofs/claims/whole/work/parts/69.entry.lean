/-! THE LAW'S ENTRY: what the tables and the premises give, and the start of both sides -/
theorem start_RR : ∃ μ y w, firstM mu0 = some μ ∧ X5_layTheText (pfM mu0 107) = some y ∧ X6_lays μ = some w ∧ RR (xs y 17 9 0 0 0) w := by
  obtain ⟨gg, hg, hfr⟩ := m_first mu0
  have h15 : pfM mu0 107 15 1 0 0 = nI 0 := by
    rw [pfM_o mu0 107 (by decide)]
    decide +kernel
  have h12 : xa mu0 20 3 0 gg 20 12 0 0 = -4 := by
    rw [xa_fr _ (by omega)]
    decide +kernel
  have h1 : xa mu0 20 3 0 gg 20 1 0 0 = 0 := by
    rw [xa_fr _ (by omega)]
    decide +kernel
  obtain ⟨y, w, e1, e2, hR⟩ := first_RR (x := pfM mu0 107) (μ := xa mu0 20 3 0 gg) (nx := 0) (by decide) h15 (pfM_9 mu0 107) (fun k hk => pfM_t mu0 107 hk) (fun j hj => by rw [xa_row]; exact hfr j hj) h12 h1
  exact ⟨_, y, w, hg, e1, e2, hR⟩
theorem iL_X0 : ∀ w ∈ u_ws RX0 TX0 3, w ∈ wsL_law := by decide +kernel
theorem iL_X1 : ∀ w ∈ u_ws RX1 TX1 10, w ∈ wsL_law := by decide +kernel
theorem iL_X2 : ∀ w ∈ u_ws RX2 TX2 2, w ∈ wsL_law := by decide +kernel
theorem iL_X3 : ∀ w ∈ u_ws RX3 TX3 4, w ∈ wsL_law := by decide +kernel
theorem iL_X4 : ∀ w ∈ u_ws RX4 TX4 12, w ∈ wsL_law := by decide +kernel
theorem iL_X5 : ∀ w ∈ u_ws RX5 TX5 11, w ∈ wsL_law := by decide +kernel
theorem iL_X6 : ∀ w ∈ u_ws RX6 TX6 14, w ∈ wsL_law := by decide +kernel
theorem law_known {s : State} {args : Array Value} (hts : ∀ w ∈ wsL_law, w.before args s = true) : ∃ D : va_G, ∀ (k : Nat) (q : vw_C), vwCl[k]? = some q → u_Kn s q.1 q.2.1 q.2.2 (D.1 k) (D.2 k) := by
  obtain ⟨c0, i0, h0⟩ := u_known (C := RX0) (T := TX0) (N := 3) (n := 3) hts iL_X0 (hts (.instantiable RX0 3) (by decide +kernel))
  obtain ⟨c1, i1, h1⟩ := u_known (C := RX1) (T := TX1) (N := 10) (n := 10) hts iL_X1 (hts (.instantiable RX1 10) (by decide +kernel))
  obtain ⟨c2, i2, h2⟩ := u_known (C := RX2) (T := TX2) (N := 2) (n := 2) hts iL_X2 (hts (.instantiable RX2 2) (by decide +kernel))
  obtain ⟨c3, i3, h3⟩ := u_known (C := RX3) (T := TX3) (N := 4) (n := 4) hts iL_X3 (hts (.instantiable RX3 4) (by decide +kernel))
  obtain ⟨c4, i4, h4⟩ := u_known (C := RX4) (T := TX4) (N := 12) (n := 12) hts iL_X4 (hts (.instantiable RX4 12) (by decide +kernel))
  obtain ⟨c5, i5, h5⟩ := u_known (C := RX5) (T := TX5) (N := 11) (n := 11) hts iL_X5 (hts (.instantiable RX5 11) (by decide +kernel))
  obtain ⟨c6, i6, h6⟩ := u_known (C := RX6) (T := TX6) (N := 14) (n := 14) hts iL_X6 (hts (.instantiable RX6 14) (by decide +kernel))
  refine ⟨(fun k => if k = 0 then c0 else if k = 1 then c1 else if k = 2 then c2 else if k = 3 then c3 else if k = 4 then c4 else if k = 5 then c5 else c6, fun k => if k = 0 then i0 else if k = 1 then i1 else if k = 2 then i2 else if k = 3 then i3 else if k = 4 then i4 else if k = 5 then i5 else i6), ?_⟩
  intro k q hq
  match k, hq with
  | 0, hq => cases hq; exact h0
  | 1, hq => cases hq; exact h1
  | 2, hq => cases hq; exact h2
  | 3, hq => cases hq; exact h3
  | 4, hq => cases hq; exact h4
  | 5, hq => cases hq; exact h5
  | 6, hq => cases hq; exact h6
  | k + 7, hq => simp [vwCl] at hq
theorem law_arrays {s : State} {args : Array Value} (h1 : (Cond.arrayClass .int).before args s = true) (h2 : va_AOA .int s) (h3 : va_AO "NearlyBought$Market" s) : ∃ g : G3, ∀ (k : Nat) (q : ClassId × FieldType), (tysX g)[k]? = some q → ArrOfT s q.1 q.2 ∧ va_RA s q.1 q.2 := by
  obtain ⟨a, ka, ca, a1, a2, a3⟩ := Cond.arrayClass_spec h1
  obtain ⟨cb, b, kb, b1, b2, b3, b4, b5⟩ := arrayOverA_spec h2
  obtain ⟨cd, d, kd, d1, d2, d3, d4, d5⟩ := Cond.arrayOver_spec h3
  refine ⟨(a, b, d), fun k q hq => ?_⟩
  match k, hq with
  | 0, hq => cases hq; exact ⟨fun n z => ⟨fun k h => (by cases h), ka, a2, ca, a3⟩, a1⟩
  | 1, hq => cases hq; exact ⟨fun n z => ⟨fun k h => (by cases h), kb, b3, cb, b4⟩, b5⟩
  | 2, hq => cases hq; exact ⟨fun n z => ⟨fun k h => (by cases h), kd, d3, cd, d4⟩, kd, cd, d3, d4, d1, d5⟩
  | k + 3, hq => simp [tysX] at hq
def bytF : List (List Int32) := [(List.range 107).map ftA]
abbrev tmF : Term := .string "NearlyBought" 204
theorem law_string {s : State} {args : Array Value} (hgv : (Jvm.Cond.and given_1 narrow_1).before args s = true) (hts : ∀ w ∈ lw_tbl, w.before args s = true) : ∃ (q v : Nat) (z : Option Nat), SC q v z (fun a => s.heap.size ≤ a) s s.heap ∧ vk_R "NearlyBought" 204 FTXT q s := by
  have hs := flat_of_before _ hgv
  have hA : ∀ a : Nat, a < s.heap.size → ¬ (fun a => s.heap.size ≤ a) a := fun a h => Nat.not_le.mpr h
  obtain ⟨adK, adV, hS, hev⟩ := vk_Sof (args := args) (s := s) (N := 1) (tm := fun _ => tmF) (len := [107]) (byt := bytF) (A := fun a => s.heap.size ≤ a)
    (fun i hi => by rw [show i = 0 by omega]; decide)
    (fun i hi => hs _ (by decide +kernel))
    (fun i hi => hs _ (by decide +kernel))
    (fun i hi => hs _ (by decide +kernel))
    (fun i hi => by rw [show i = 0 by omega]; exact hs _ (by decide +kernel))
    (fun i hi j hj => by
      have h0 : i = 0 := by omega
      subst h0
      have hm : ∀ j, j < 107 → (Cond.eq (.elem (.field tmF "java/lang/String" "value" "[B") (.int (Int32.ofNat j))) (.int ((bytF.getD 0 []).getD j 0))) ∈ flatC (Jvm.Cond.and given_1 narrow_1) := by decide +kernel
      exact hs _ (hm j hj))
    (fun i j hi hj hne => absurd (show i = j by omega) hne) hA
  obtain ⟨w1, w2, w3, w4⟩ := hS.1 0 (by decide)
  have w5 : va_T .byte (adV 0) 107 (fun j => .int (ftA j)) (fun a => s.heap.size ≤ a) s s.heap := by
    obtain ⟨cell, t1, t2, t3, t4, t5, t6, t7⟩ := w4
    have hb : ∀ j, j < 107 → (bytF.getD 0 []).getD j 0 = ftA j := by decide +kernel
    exact ⟨cell, t1, t2, t3, t4, t5, fun j hj => (t6 j hj).trans (congrArg (fun v => some (Value.int v)) (hb j hj)), t7⟩
  have w6 : va_Z "java/lang/String" "COMPACT_STRINGS" "Z" (.int 1) (fun a => s.heap.size ≤ a) s s.heap := va_Zof (hts (.laysStatic "java/lang/String" "COMPACT_STRINGS" "Z") (List.mem_of_getElem? (i := 244) (by decide +kernel))) (hts (.initialized "java/lang/String") (List.mem_of_getElem? (i := 57) (by decide +kernel))) (va_eqi (hs _ (by decide +kernel))) hA
  have w7 : va_Zq "jdk/internal/util/Preconditions" "SIOOBE_FORMATTER" "Ljava/util/function/BiFunction;" (fun a => s.heap.size ≤ a) s s.heap := va_Zqof (hts (.laysStatic "jdk/internal/util/Preconditions" "SIOOBE_FORMATTER" "Ljava/util/function/BiFunction;") (List.mem_of_getElem? (i := 263) (by decide +kernel))) (hts (.initialized "jdk/internal/util/Preconditions") (List.mem_of_getElem? (i := 60) (by decide +kernel))) (hs _ (by decide +kernel)) hA
  have w8 : vk_R "NearlyBought" 204 FTXT (adK 0) s := vk_R.of (A := args) (hts (.stringRef "NearlyBought" 204 FTXT) (List.mem_of_getElem? (i := 234) (by decide +kernel))) (hev 0 (by decide))
  rcases w7 with w7 | ⟨t, w7⟩
  · exact ⟨adK 0, adV 0, none, ⟨w1, w2, w3, w5, w6, w7⟩, w8⟩
  · exact ⟨adK 0, adV 0, some t, ⟨w1, w2, w3, w5, w6, w7⟩, w8⟩
section NEWF
variable {p : Program} {l : Launch} {e : Env} {R : Room} {s : State} {m : MethodId} {args : Array Value} {below : List Frame} {meth : Method} {c : Code} {H : Heap} {locs : List Loc} {cells slots : Nat} {Q : State → Prop}
variable {cc : ByteArray} {pc : Nat} {ls : Array Slot} {rest : List Value} {D : va_G} {A : Nat → Prop} {g : G3} {H0 : Heap}
theorem at_new (hexec : p.tables.exec = Jvm.exec) (hb : c.code = cc) {own C : String} {T : u_T} {N' ci index : Nat} {Ts : List Cond} (hts : ∀ w ∈ Ts, w.before args s = true) (hin : ∀ w ∈ u_ws C T N', w ∈ Ts) (ty : Nat → FieldType) (hty : ∀ k, k < N' → parseFieldDescriptor (T k).2.2.1 = some (ty k)) (hown : s.vm.findClass own = some m.cls) (hcl : (Cond.classLink own index C).before args s = true) (hinst : (Cond.instantiable C N').before args s = true) (hini : (Cond.initialized C).before args s = true)
    (hK : va_K D vwCl (tysX g) s) (hS : va_S A H0 H locs) (hc : vwCl[ci]? = some (C, T, N')) {fs : List Value} (hfs : ∀ j, j < N' → defaultValue (ty j) = vp_V fs j) (hcells : cells + 1 ≤ R.cells) (hslots : slots + N' ≤ R.slots) (hdg : decode cc pc = .ok (.new index, 3))
    (kk : ∀ (H1 : Heap), H1.size = H.size + 1 → va_at D vwCl (H.size, .inr (ci, fs)) H1 → (∀ q : Nat, q < H.size → H1[q]? = H[q]?) → va_S A H0 H1 locs → W p l e R s m args below meth c H1 locs (cells + 1) (slots + N') Q (F0 m (pc + 3) ls (.ref H.size :: rest))) : W p l e R s m args below meth c H locs cells slots Q (F0 m pc ls rest) := by
  have hKn := hK.1 ci _ hc
  refine W.newcK hexec hb hown hcl hinst hini rfl hdg hcells hslots hKn.2.1 rfl fun H1 kC hkC e1 z1 o1 => ?_
  exact kk H1 z1 ⟨_, hc, (u_born ty hts hin hKn hkC e1 hty).to hfs⟩ o1 ⟨by rw [z1]; have := hS.1; omega, fun x h1 h2 => (o1 x (Nat.lt_of_lt_of_le h1 hS.1)).trans (hS.2.1 x h1 h2), hS.2.2⟩
end NEWF
