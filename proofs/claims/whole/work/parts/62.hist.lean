/-! A Market's cells; the History with its eight Markets -/
abbrev z6 (g : G3) : va_E := .inl (g.1, 6, .inl (fun _ => 0))
def MkC (g : G3) (N tl : Nat) (ce : Nat → va_E) : Prop := ce 0 = .inr (1, [.ref tl, .int 0, .int (-4), .ref (N + 1), .ref (N + 2), .ref (N + 3), .ref (N + 4), .ref (N + 11), .ref (N + 18), .ref (N + 25)]) ∧ ce 1 = z6 g ∧ ce 2 = z6 g ∧ ce 3 = z6 g ∧ ∀ f, f < 4 → (∃ h : Nat → Nat, (∀ j, j < 6 → h j = N + (4 + 7 * f) + 1 + j) ∧ ce (4 + 7 * f) = .inl (g.2.1, 6, rfX h)) ∧ ∀ j, j < 6 → ce (4 + 7 * f + 1 + j) = z6 g
theorem kX1_mk (l : Launch) (D : va_G) (g : G3) (N tl : Nat) (ce : Nat → va_E) (hM : MkC g N tl ce) : CtN l yX1_init wsX1_init rX1_init D g [.ref N, .ref tl] N 1 [.null, .int 0, .int 0, .null, .null, .null, .null, .null, .null, .null] 32 ce 31 186 := by
  obtain ⟨e0, e1, e2, e3, hf⟩ := hM
  obtain ⟨⟨h4, f4, e4⟩, r4⟩ := hf 0 (by decide)
  obtain ⟨⟨h11, f11, e11⟩, r11⟩ := hf 1 (by decide)
  obtain ⟨⟨h18, f18, e18⟩, r18⟩ := hf 2 (by decide)
  obtain ⟨⟨h25, f25, e25⟩, r25⟩ := hf 3 (by decide)
  exact kX1_init l D g N tl ce e0 e1 e2 e3 f4 e4 r4 f11 e11 r11 f18 e18 r18 f25 e25 r25
theorem C2_o {ci : Nat} {fs : List Value} {x : Nat} {ex ex' : va_E} {ce : Nat → va_E} {i : Nat} (h : i ≠ x) : Cx2 ci fs x ex' ce i = Cx2 ci fs x ex ce i := by
  unfold Cx2
  by_cases c0 : i = 0
  · rw [if_pos c0, if_pos c0]
  · rw [if_neg c0, if_neg c0, if_neg h, if_neg h]
abbrev rX0_init : Room := { frames := 2, cells := 257, slots := 1576, locals := 33 }
def hs0 (N k : Nat) : Nat → Option Nat := fun j => if j < k then some (N + (2 + 32 * j)) else none
theorem hs0_s (N k : Nat) (hk : k < 100) : va_up (hs0 N k) (nI k).toNatClampNeg (some (N + (2 + 32 * k))) = hs0 N (k + 1) := by
  rw [nI_clamp (by omega)]
  funext j
  unfold va_up hs0
  by_cases c0 : j = k
  · subst c0
    simp
  · by_cases c1 : j < k
    · simp [c0, c1, Nat.lt_succ_of_lt c1]
    · simp [c0, c1, show ¬ j < k + 1 by omega]
def ceH (g : G3) (N k : Nat) (ce : Nat → va_E) : Nat → va_E := Cx2 0 [.ref (N + 1), .int 0, .int 0] 1 (.inl (g.2.2, 8, .inr (.inr (.inr (.inr (hs0 N k)))))) ce
section HIST
variable {p : Program} {l : Launch} {e : Env} {s : State} {m : MethodId} {args : Array Value} {below : List Frame} {meth : Method} {c : Code} {D : va_G} {g : G3} {N tl : Nat} {ce : Nat → va_E}
set_option maxHeartbeats 4000000 in
set_option maxRecDepth 100000 in
theorem tX0_init_15 (C : Cx p s m args meth c cX0_init none 3 RX0 wsX0_init (fun q => N ≤ q)) (hE : Ev D g s) (e0 : ce 0 = .inr (0, [.ref (N + 1), .int 0, .int 0])) {h1 : Nat → Nat} (f1 : ∀ j, j < 8 → h1 j = N + (2 + 32 * j)) (e1 : ce 1 = .inl (g.2.2, 8, rfX h1)) (hM : ∀ j, j < 8 → MkC g (N + (2 + 32 * j)) tl (fun i => ce (2 + 32 * j + i))) (n : Nat) : ∀ (k : Nat) (H : Heap) (locs : List Loc) (ls : Array Slot), k + n = 8 → Bw D N (2 + 32 * k) (ceH g N k ce) H → va_S (fun q => N ≤ q) s.heap H locs → lv_has ls 3 [(0, .ref N), (1, .ref tl), (2, .int (nI k))] → W p l e rX0_init s m args below meth c H locs (1 + 32 * k) (8 + 196 * k) (MQ below (va_Qv (fun (_ : Unit) => True) (fun _ t => Bw D N 258 ce t.heap) (fun q => N ≤ q)) args s 257 1576 (fun q => N ≤ q)) (F0 m 15 ls []) := by
  obtain ⟨hx, hb, hr, hts, hown, hlocks, hml, hA⟩ := id C
  induction n with
  | zero =>
    intro k H locs ls hk hB hS hl
    have hk : k = 8 := by omega
    subst hk
    refine lv_iload_n hx hb dX0_init_15 rfl (lv_at hl 2 rfl) ?_
    refine lv_bipush (v := 8) hx hb dX0_init_16 (by decide) ?_
    refine lv_icmp_ge (tgt := 41) hx hb dX0_init_18 (by decide) (fun _ => ?_) (fun c0 => absurd (by decide) c0)
    have hB9 : Bw D N 258 ce H := ⟨hB.1, fun i hi => by
      have h9 := hB.2 i hi
      by_cases c0 : i = 0
      · subst c0
        rw [e0]
        exact h9
      · by_cases c1 : i = 1
        · subst c1
          rw [e1]
          have h9 : va_at D vwCl (N + 1, .inl (g.2.2, 8, .inr (.inr (.inr (.inr (hs0 N 8)))))) H := h9
          refine rf_at (fun j hj => ?_) h9
          rw [f1 j hj]
          exact if_pos hj
        · unfold ceH at h9
          rw [C2_n c0 c1] at h9
          exact h9⟩
    exact W.vret hx hb hr (fun t ht _ => ⟨⟨(), rfl, trivial, bn_end ht hB9⟩, hS.F ht⟩) hS.2.2 dX0_init_41
  | succ n ih =>
    intro k H locs ls hk hB hS hl
    have hk8 : k < 8 := by omega
    refine lv_iload_n hx hb dX0_init_15 rfl (lv_at hl 2 rfl) ?_
    refine lv_bipush (v := 8) hx hb dX0_init_16 (by decide) ?_
    refine lv_icmp_ge (tgt := 41) hx hb dX0_init_18 (by decide) (fun c0 => absurd c0 (nI_ge (a := k) (b := 8) hk8 (by omega))) (fun _ => ?_)
    refine lv_aload_n hx hb dX0_init_21 rfl (lv_at hl 0 rfl) ?_
    refine at_get (C := RX0) (T := TX0) (N' := 3) hx hb hts (by decide +kernel) hown hE.1 (hB.2 0 (by omega)) rfl 0 (by decide) (hts (.fieldLink RX0 11 "NearlyBought$History" "before" "[LNearlyBought$Market;") (by decide +kernel)) (fun _ h9 => h9) rfl dX0_init_22 ?_
    refine lv_iload_n hx hb dX0_init_25 rfl (lv_at hl 2 rfl) ?_
    refine bw_new (ci := 1) (fs := [.null, .int 0, .int 0, .null, .null, .null, .null, .null, .null, .null]) (C := RX1) (T := TX1) (N' := 10) hx hb hts (by decide +kernel) tyX1 tyX1_ok hown (hts (.classLink RX0 9 RX1) (by decide +kernel)) (hts (.instantiable RX1 10) (by decide +kernel)) (hts (.initialized RX1) (by decide +kernel)) hE.1 hB hS rfl (by decide +kernel) (by show 1 + 32 * k + 1 ≤ 257; omega) (by show 8 + 196 * k + 10 ≤ 1576; omega) dX0_init_26 (fun H hB hS => ?_)
    refine lv_dup hx hb dX0_init_29 rfl ?_
    refine lv_aload_n hx hb dX0_init_30 rfl (lv_at hl 1 rfl) ?_
    refine bw_I (ce' := ceH g N k ce) (ce2 := fun i => ce (2 + 32 * k + i)) (As := [.ref tl]) (rest := [.ref (N + (2 + 32 * k)), .int (nI k), .ref (N + 1)]) C hE hB hS (fun _ h => h) (kX1_mk l D g (N + (2 + 32 * k)) tl _ (hM k hk8)) (cwI 1 hts gX0_init_X1_init rfl rfl rfl (hts (.initialized RX1) (by decide +kernel)) (hts (.methodLink RX0 17 yX1_init) (by decide +kernel)) (hts (.instanceMethod yX1_init) (by decide +kernel)) rfl (by decide +kernel) ⟨Nat.le_of_ble_eq_true rfl, Nat.le_of_ble_eq_true rfl⟩) rfl hl.1 rfl (Nat.le_of_ble_eq_true rfl) dX0_init_31 ⟨by show 1 + 32 * k + 1 + 31 ≤ 257; omega, by show 8 + 196 * k + 10 + 186 ≤ 1576; omega⟩ (fun i hi => rfl) (fun i hi => C2_n (by omega) (by omega)) (fun H locs hB hS => ?_)
    refine bw_astq (x := 1) (y := 2 + 32 * k) (L := 8) (f := hs0 N k) (ce' := ceH g N (k + 1) ce) hx hb hE.1 hB hS (fun _ h => h) (by omega) (by omega) rfl ((C2_n (by omega) (by omega)).trans (hM k hk8).1) (vp_in_nI hk8 (by omega)) (by rw [hs0_s N k (by omega)]; rfl) (fun j hj => C2_o hj) dX0_init_34 (fun H locs hB hS => ?_)
    refine lv_iinc (v := nI (k + 1)) (lv' := [(2, .int (nI (k + 1))), (0, .ref N), (1, .ref tl)]) hx hb dX0_init_35 hl (k := 2) rfl (by rw [nI_succ]; rfl) (by decide) rfl (fun ls hl => ?_)
    refine lv_goto (tgt := 15) hx hb dX0_init_38 (by decide) ?_
    refine W.widen (k := 1 + 32 * (k + 1)) (n := 8 + 196 * (k + 1)) (by omega) (by omega) ?_
    exact ih (k + 1) _ _ _ (by omega) (by rw [show 2 + 32 * (k + 1) = 2 + 32 * k + 32 by omega]; exact hB) hS (lv_sub hl [1, 2, 0] rfl)
end HIST
set_option maxHeartbeats 4000000 in
set_option maxRecDepth 100000 in
/-- History(tale) -/
theorem kX0_init (l : Launch) (D : va_G) (g : G3) (N tl : Nat) (ce : Nat → va_E) (e0 : ce 0 = .inr (0, [.ref (N + 1), .int 0, .int 0])) {h1 : Nat → Nat} (f1 : ∀ j, j < 8 → h1 j = N + (2 + 32 * j)) (e1 : ce 1 = .inl (g.2.2, 8, rfX h1)) (hM : ∀ j, j < 8 → MkC g (N + (2 + 32 * j)) tl (fun i => ce (2 + 32 * j + i))) : CtN l yX0_init wsX0_init rX0_init D g [.ref N, .ref tl] N 0 [.null, .int 0, .int 0] 258 ce 257 1576 := by
  refine ctN_of (cc := cX0_init) (maxL := 3) (by decide) rfl (Nat.le_of_ble_eq_true rfl) rfl (fun p e s m below meth c ls C hin hE hB hS hl => ?_)
  have hl : lv_has ls 3 [(0, .ref N), (1, .ref tl)] := hl
  obtain ⟨hx, hb, hr, hts, hown, hlocks, hml, hA⟩ := id C
  refine lv_aload_n hx hb dX0_init_0 rfl (lv_at hl 0 rfl) ?_
  refine W.objInit hx hb hown (hts (.methodLink RX0 3 objectInit) (by decide +kernel)) (hts (.instanceMethod objectInit) (by decide +kernel)) (hts _ (by decide +kernel)) rfl (by rw [hml]; exact hl.1) rfl dX0_init_1 (Nat.le_of_ble_eq_true rfl) (Nat.le_of_ble_eq_true rfl) ?_
  refine W.eq (g2 := F0 m 4 ls []) rfl ?_
  refine lv_aload_n hx hb dX0_init_4 rfl (lv_at hl 0 rfl) ?_
  refine lv_bipush (v := 8) hx hb dX0_init_5 (by decide) ?_
  refine bw_newq (L := 8) (ce' := Cx2 0 [.null, .int 0, .int 0] 1 (.inl (g.2.2, 8, .inr (.inr (.inr (.inr (hs0 N 0)))))) ce) hx hb hown (hts (.classLink RX0 9 RX1) (by decide +kernel)) hE.2.2 hE.1 hB hS (by decide) (by decide) (by decide) (Nat.le_of_ble_eq_true rfl) (Nat.le_of_ble_eq_true rfl) ((C2_x (by decide)).trans (by unfold hs0; simp)) (fun j hj => by rw [show j = 0 by omega]; rfl) dX0_init_7 (fun H hB hS => ?_)
  refine bw_put (ty := .array (.object "NearlyBought$Market")) (ce' := ceH g N 0 ce) (ci := 0) (C := RX0) (T := TX0) (N' := 3) hx hb hts (by decide +kernel) tyX0 tyX0_ok nmX0 hown hE.1 hB hS (fun _ h => h) (by decide) C2_0 rfl 0 (by decide) (hts (.fieldLink RX0 11 "NearlyBought$History" "before" "[LNearlyBought$Market;") (by decide +kernel)) (fun _ h9 => h9) (Or.inr ⟨rfl, hin, rfl⟩) (by decide +kernel) rfl rfl (Nat.le_of_ble_eq_true rfl) C2_0 (fun j hj => by unfold ceH Cx2; rw [if_neg hj, if_neg hj]) dX0_init_10 (fun H locs hB hS => ?_)
  refine lv_iconst (v := 0) hx hb dX0_init_13 (by decide) ?_
  refine lv_istore_n (lv' := [(2, .int 0), (0, .ref N), (1, .ref tl)]) hx hb dX0_init_14 rfl hl (by decide) rfl (fun ls hl => ?_)
  refine W.widen (k := 1) (n := 8) (Nat.le_of_ble_eq_true rfl) (Nat.le_of_ble_eq_true rfl) ?_
  exact tX0_init_15 C hE e0 f1 e1 hM 8 0 _ _ _ rfl hB hS (lv_sub hl [1, 2, 0] rfl)
