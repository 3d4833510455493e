/-! NearlyBought(), whole: its cells made, its own text put, read and laid -/
theorem EN.warm {q v : Nat} {z : Option Nat} {N : Nat} {s U : State} (hW : s.WarmedH U.vm) (hh : U.heap = s.heap) (h : EN q v z N s) : EN q v z N U := by
  obtain ⟨h1, h2, h3, h4, h5⟩ := h
  exact ⟨by rw [hh]; exact h1.moved hW.alike, vk_R.warm hW h2, va_Nw.warmM hW h3, va_Nw.warmM hW h4, va_Nw.warmM hW h5⟩
theorem EN.same {q v : Nat} {z : Option Nat} {N : Nat} {s U : State} (hv : s.vm = U.vm) (hh : U.heap = s.heap) (h : EN q v z N s) : EN q v z N U := by
  obtain ⟨h1, h2, h3, h4, h5⟩ := h
  refine ⟨?_, vk_R.same hv.symm h2, va_Nw.same rfl hv h3, va_Nw.same rfl hv h4, va_Nw.same rfl hv h5⟩
  rw [hh]
  exact SC.moved (by rw [hv]; exact Vm.Alike.refl U.vm) h1
abbrev bl5 : List Value := [.null, .null, .null, .null, .null, .null, .null, .null, .null, .int 0, .int 0]
def CtNB (l : Launch) (D : va_G) (g : G3) (q v : Nat) (z : Option Nat) (N : Nat) (μf : Mem) : Prop := Met l yX5_init wsX5_init rX5_init (va_Pc [.ref N] (fun U => (Ev D g U ∧ U.heap.size = N + 1 ∧ va_at D vwCl (N, .inr (5, bl5)) U.heap) ∧ EN q v z N U)) (va_Qv (fun (u : Mem) => u = μf) (fun u t => Wp D (tysX g) keysX (adX N) (fun a => N ≤ a) (cX g (adX N) u) t) (fun a => N ≤ a)) 410 2725 (fun a => N ≤ a)
section BORN
variable {p : Program} {l : Launch} {e : Env} {s : State} {m : MethodId} {args : Array Value} {below : List Frame} {meth : Method} {c : Code} {D : va_G} {g : G3} {N q v : Nat} {z : Option Nat} {H : Heap} {locs : List Loc} {ls : Array Slot}
theorem pf_blind {sz : Nat} {ad : Ky → Nat} {μ : Mem} {A : Nat → Prop} {as : List Value} : FrameBlind (va_Pc as (fun U => (U.heap.size = sz ∧ Wp D (tysX g) keysX ad (fun _ => True) (cX g ad μ) U) ∧ SC q v z A U U.heap ∧ vk_R "NearlyBought" 204 FTXT q U)) := by
  intro a U g9 mk h
  obtain ⟨h0, ⟨h1, hP, hK, hD⟩, h4, h5⟩ := h
  exact ⟨h0, ⟨h1, hP, va_K.moved (u := U) (U := U.calling g9 mk a) (Vm.Alike.refl U.vm) hK, hD⟩, SC.moved (u := U) (U := U.calling g9 mk a) (Vm.Alike.refl U.vm) h4, vk_R.same (u := U) (U := U.calling g9 mk a) rfl h5⟩
set_option maxHeartbeats 4000000 in
set_option maxRecDepth 100000 in
theorem tX5_init_140 (C : Cx p s m args meth c cX5_init none 2 RX5 wsX5_init (fun q => N ≤ q)) (hN : EN q v z N s) {y : Mem} (h : X5_layTheText (pfM mu0 107) = some y) (hW : Wo D (tysX g) keysX (adX N) (fun q => N ≤ q) s s.heap (cX g (adX N) mu0) H locs) (hl : lv_has ls 2 [(0, .ref N)]) : W p l e rX5_init s m args below meth c H locs 410 2725 (MQ below (va_Qv (fun (u : Mem) => u = xs y 17 9 0 0 0) (fun u t => Wp D (tysX g) keysX (adX N) (fun a => N ≤ a) (cX g (adX N) u) t) (fun a => N ≤ a)) args s 410 2725 (fun a => N ≤ a)) (F0 m 140 ls []) := by
  obtain ⟨hx, hb, hr, hts, hown, hlocks, hml, hA⟩ := id C
  have e17 : adX N (17, 50, 0) = N := rfl
  rw [← e17] at hl
  refine lv_aload_n hx hb dX5_init_140 rfl (lv_at hl 0 rfl) ?_
  obtain ⟨i, -, hi⟩ := ky_at (ad := adX N) (ce := cX g (adX N) mu0) kl_17_50_0
  rw [cn_o] at hi
  have hf := wo_frA (H' := H) hW hA
  refine wo_cv (va_runV (C := RX5) (As := []) (rest := []) ⟨hx, hb, hml, hown, hts⟩ (kX5_put l q v z D g (adX N) mu0 H.size) (cwV 0 hts gX5_init_X5_putFirstText rfl rfl rfl (by decide +kernel) ⟨Nat.le_of_ble_eq_true rfl, Nat.le_of_ble_eq_true rfl⟩) ⟨pf_blind, va_recv (ci := 5) (q := (RX5, TX5, 11)) hW.1 hW.2.1 rfl hi, fun U hU hWm => ⟨rfl, ⟨by rw [hU], by rw [hU]; exact hW.2.1, va_K.moved hWm.alike hW.1, hW.2.2.1.weaken (fun _ _ _ _ => trivial)⟩, by rw [hU]; exact ((hN.1.kept hW.2.2.2.1.2.1).narrow hf).moved hWm.alike, vk_R.warm hWm hN.2.1⟩⟩ rfl rfl hl.1 rfl (lv_room (Nat.le_of_ble_eq_true rfl)) dX5_init_141 ⟨Nat.le_of_ble_eq_true rfl, Nat.le_of_ble_eq_true rfl⟩) hW hA (fun H locs hW => ?_)
  refine lv_aload_n hx hb dX5_init_144 rfl (lv_at hl 0 rfl) ?_
  refine wo_Vv (rest := []) C hW (kX5_layTheText l D g (adX N) h) (cwV 0 hts gX5_init_X5_layTheText rfl rfl rfl (by decide +kernel) ⟨Nat.le_of_ble_eq_true rfl, Nat.le_of_ble_eq_true rfl⟩) kl_17_50_0 cn_o rfl rfl hl.1 rfl (Nat.le_of_ble_eq_true rfl) dX5_init_145 ⟨Nat.le_of_ble_eq_true rfl, Nat.le_of_ble_eq_true rfl⟩ (fun H locs hW => ?_)
  refine lv_aload_n hx hb dX5_init_148 rfl (lv_at hl 0 rfl) ?_
  refine lv_iconst (v := 0) hx hb dX5_init_149 (by decide) ?_
  refine xw_put (C := RX5) (T := TX5) (N := 11) hx hb hts iW5 tyX5 tyX5_ok nmX5 hown hW kl_17_50_0 cn_o rfl 9 (by decide) (hts (.fieldLink RX5 66 "NearlyBought" "textLength" "I") (by decide +kernel)) (fun _ h9 => h9) rfl (by decide +kernel) (Nat.le_of_ble_eq_true rfl) keysX_ok rfl (pn_9 _) dX5_init_150 (fun H locs hW => ?_)
  exact wo_vret C rfl hW dX5_init_153
end BORN
set_option maxHeartbeats 4000000 in
set_option maxRecDepth 100000 in
theorem kX5_init (l : Launch) (D : va_G) (g : G3) (q v : Nat) (z : Option Nat) (N : Nat) {y : Mem} (h : X5_layTheText (pfM mu0 107) = some y) : CtNB l D g q v z N (xs y 17 9 0 0 0) := by
  refine Met.ofW (cc := cX5_init) (maxL := 2) (ret := none) (by decide) rfl ?_
  intro p e s m args below meth c s₁ B hml hv
  obtain ⟨rfl, ⟨hE, hsz, hat⟩, hN⟩ := hv
  rw [lg_entry_eq]
  have hl := lv_entry ([.ref N]) (n := 2) (Nat.le_of_ble_eq_true rfl)
  generalize (lg_sl ([.ref N]) ++ List.replicate (2 - (lg_sl ([.ref N])).length) Slot.unset).toArray = ls at hl ⊢
  have hl : lv_has ls 2 [(0, .ref N)] := hl
  have C : Cx p s m ([.ref N] : List Value).toArray meth c cX5_init none 2 RX5 wsX5_init (fun q => N ≤ q) := ⟨B.exec, B.bytes, B.returns, atoms_spec (ws := wsX5_init) B.pre, findClass_of_methodNamed B.named, B.notSynchronized, hml, fun q h => by show N ≤ q; rw [hsz] at h; omega⟩
  have hin : meth.name = "<init>" := (name_of_methodNamed B.named B.method).1
  obtain ⟨hx, hb, hr, hts, hown, hlocks, hml, hA⟩ := id C
  refine lv_aload_n hx hb dX5_init_0 rfl (lv_at hl 0 rfl) ?_
  refine W.objInit hx hb hown (hts (.methodLink RX5 3 objectInit) (by decide +kernel)) (hts (.instanceMethod objectInit) (by decide +kernel)) (hts _ (by decide +kernel)) rfl (by rw [hml]; exact hl.1) rfl dX5_init_1 (Nat.le_of_ble_eq_true rfl) (Nat.le_of_ble_eq_true rfl) ?_
  refine W.eq (g2 := F0 m 4 ls []) rfl ?_
  refine tX5_init_4 l C hin hE hN (fun H locs ls hW hl => tX5_init_140 C hN h hW hl) ⟨hsz, fun i hi => by rw [show i = 0 by omega]; exact hat⟩ va_S.rf hl
