/-! ===== BEGIN words of one list among another's, by their places ===== -/
theorem goodIn_r {big : List Cond} (ws : List Cond) (ps : List Nat) (hp : ws = ps.filterMap (fun i => big[i]?)) (h : ws.all goodWord = true) : GoodIn big ws := by
  intro w hw
  have h1 := List.all_eq_true.mp h w hw
  rw [hp] at hw
  obtain ⟨i, -, hi⟩ := List.mem_filterMap.mp hw
  have hm : w ∈ big := by first | exact List.mem_of_getElem? hi | exact List.getElem?_mem hi
  exact ⟨hm, good_of_word h1⟩
theorem goodIn_app {big a b : List Cond} (ha : GoodIn big a) (hb : GoodIn big b) : GoodIn big (a ++ b) := fun w h => (List.mem_append.mp h).elim (ha w) (hb w)
theorem goodIn_ca {big a b : List Cond} {c : Cond} (ha : GoodIn big (c :: a)) (hb : GoodIn big b) : GoodIn big (c :: (a ++ b)) := fun w h => (List.mem_cons.mp h).elim (fun e => ha w (List.mem_cons.mpr (Or.inl e))) (fun h => (List.mem_append.mp h).elim (fun h => ha w (List.mem_cons.mpr (Or.inr h))) (hb w))
theorem goodIn_sub {big ws : List Cond} (hm : ∀ w ∈ ws, w ∈ big) (h : ws.all goodWord = true) : GoodIn big ws := fun w hw => ⟨hm w hw, good_of_word (List.all_eq_true.mp h w hw)⟩
/-! ===== END ===== -/

/-! ===== BEGIN new T[n][m]: the outer array a place, the inner ones among the pooled ===== -/
/-- f, but v at every address of l -/
def vr_up {α : Type} (f : Nat → α) (l : List Nat) (v : α) : Nat → α := fun a => if a ∈ l then v else f a
theorem vr_up_in {α : Type} {f : Nat → α} {l : List Nat} {v : α} {a : Nat} (h : a ∈ l) : vr_up f l v a = v := if_pos h
theorem vr_up_ne {α : Type} {f : Nat → α} {l : List Nat} {v : α} {a : Nat} (h : a ∉ l) : vr_up f l v a = f a := if_neg h
theorem vr_rows {L l : List Nat} {f : Nat → va_E} {e : va_E} (h : ∀ a, a ∈ l → a ∉ L) : va_pl L f ++ l.map (fun a => (a, e)) = va_pl (L ++ l) (vr_up f l e) := by
  unfold va_pl
  rw [List.map_append]
  congr 1
  · apply List.map_congr_left
    intro a ha
    rw [vr_up_ne (fun q => h a q ha)]
  · apply List.map_congr_left
    intro a ha
    rw [vr_up_in ha]
theorem vr_lay {X rows : va_W} {x : Nat × va_E} {pl : va_W} {D : va_G} {cl : List vw_C} {H : Heap} (hP : va_P D cl (((X ++ pl) ++ [x]) ++ rows) H) : va_P D cl ((X ++ [x]) ++ (pl ++ rows)) H := by
  rw [List.append_assoc (X ++ pl)] at hP
  have h := va_P.swap hP
  rw [← List.append_assoc X] at h
  have h2 := va_P.swap h
  rw [List.append_assoc (X ++ [x])] at h2
  exact h2
theorem vr_layD {X rows : va_W} {x : Nat × va_E} {pl : va_W} {A : Nat → Prop} (hD : va_D A (((X ++ pl) ++ [x]) ++ rows)) : va_D A ((X ++ [x]) ++ (pl ++ rows)) := by
  rw [List.append_assoc (X ++ pl)] at hD
  have h := va_D.swap hD
  rw [← List.append_assoc X] at h
  have h2 := va_D.swap h
  rw [List.append_assoc (X ++ [x])] at h2
  exact h2
theorem vr_outer (c : ClassId) (N h0 : Nat) : ∀ i : Nat, Jvm.Free.Multi.outerC c N h0 i = arrV c N (fun j => va_rf (if j < i then some (h0 + 1 + j) else none))
  | 0 => by
    show ({ cls := c, slots := Array.replicate N .null, vm := .none } : Cell) = _
    rw [arrV_new]
    refine congrArg (arrV c N) (funext fun j => ?_)
    simp [va_rf]
  | i + 1 => by
    show (Jvm.Free.Multi.outerC c N h0 i).setSlot i (.ref (h0 + 1 + i)) = _
    rw [vr_outer c N h0 i, arrV_store]
    refine congrArg (arrV c N) (funext fun j => ?_)
    by_cases e : j = i
    · subst e
      simp [updV, va_rf]
    · by_cases h : j < i
      · simp [updV, e, h, Nat.lt_succ_of_lt h]
      · simp [updV, e, h, show ¬ j < i + 1 by omega]
/-- the printed rows name it, and no kit row says it: an array class whose component is an array class is known -/
def va_AOA (t : FieldType) (U : State) : Prop := (Cond.arrayOver (.array t)).before #[] U = true
theorem va_AOA.use {t : FieldType} {A : Array Value} {U : State} (h : va_AOA t U) : (Cond.arrayOver (.array t)).before A U = true := h
theorem va_AOA.of {t : FieldType} {A : Array Value} {U : State} (h : (Cond.arrayOver (.array t)).before A U = true) : va_AOA t U := h
section VGM
variable {p : Program} {l : Launch} {e : Env} {R : Room} {s : State} {m : MethodId} {args : Array Value} {below : List Frame} {meth : Method} {c : Code} {H : Heap} {locs : List Loc} {cells slots : Nat} {Q : State → Prop}
variable {cc : ByteArray} {pc : Nat} {ls : Array Slot} {rest : List Value} {D : va_G} {cl : List vw_C} {A : Nat → Prop} {a : Nat} {tys : List (ClassId × FieldType)} {ws : va_W} {H0 : Heap}
theorem va_mna {X : va_W} {L : List Nat} {f : Nat → va_E} {cc : ByteArray} (hexec : p.tables.exec = Jvm.exec) (hb : c.code = cc) {own : String} {index : Nat} {ty : FieldType} {cy : ClassId} (hown : s.vm.findClass own = some m.cls) (hclink : (Cond.classLink own index ("[" ++ (FieldType.array ty).toString)).before args s = true) (hover : va_AOA ty s) (harr : (Cond.arrayClass ty).before args s = true) (hcy : s.vm.findClass (FieldType.array ty).toString = some cy)
    (hK : va_K D cl tys s) (hP : va_P D cl (X ++ va_pl L f) H) (hD : va_D A (X ++ va_pl L f)) (hS : va_S A H0 H locs) (hA : ∀ q, H0.size ≤ q → A q) {n k : Int32} {N' K' : Nat} {z : vp_A} (hn : ¬ n < 0) (hk : ¬ k < 0) (hN : n.toNatClampNeg = N') (hM : k.toNatClampNeg = K')
    (hb1 : N' * 4 ≤ 536870912) (hb2 : K' * componentBytes ty ≤ 536870912) (hb3 : K' ≤ 536870912) (hdf : fits ty (defaultValue ty) = true) (hdd : (defaultValue ty).isDefault = true) (hcells : cells + (1 + N') ≤ R.cells) (hslots : slots + (N' + N' * K') ≤ R.slots) (hz : ∀ c : ClassId, Jvm.Free.Multi.innerC c K' (defaultValue ty) = vp_cell c z) (hdg : decode cc pc = .ok (.multianewarray index 2, 4))
    (kk : ∀ (q : Nat) (r : Nat → Nat) (cA : ClassId) (H1 : Heap), (∀ i j : Nat, i < N' → j < N' → r i = r j → i = j) → (∀ i : Nat, i < N' → r i ∉ L) → va_K D cl (tys ++ [(cA, .array ty)]) s →
      va_P D cl ((X ++ [(q, .inl (cA, N', .inr (.inr (.inr (.inr (fun i => if i < N' then some (r i) else none))))))]) ++ va_pl (L ++ (List.range N').map r) (vr_up f ((List.range N').map r) (.inl (cy, z)))) H1 → va_D A ((X ++ [(q, .inl (cA, N', .inr (.inr (.inr (.inr (fun i => if i < N' then some (r i) else none))))))]) ++ va_pl (L ++ (List.range N').map r) (vr_up f ((List.range N').map r) (.inl (cy, z)))) → va_S A H0 H1 locs →
      W p l e R s m args below meth c H1 locs (cells + 1 + N') (slots + N' + N' * K') Q (F0 m (pc + 4) ls (.ref q :: rest))) : W p l e R s m args below meth c H locs cells slots Q (F0 m pc ls (.int k :: .int n :: rest)) := by
  subst hN
  subst hM
  intro T hT Xs
  obtain ⟨vm₁, cA, comp, -, fA, fC, hO, -, X', step⟩ := Xs.multianewarray2F hexec hown hclink (va_AOA.use hover) harr (g := F0 m pc ls (.int k :: .int n :: rest)) rfl (by rw [hb]; exact hdg) rfl hn hk hb1 hb2 hb3 hdf hdd hcells hslots
  have ec : some cy = some comp := hcy.symm.trans fC
  cases ec
  generalize hF : Jvm.Free.Multi.fill (T.setVm vm₁) cA cy n.toNatClampNeg k.toNatClampNeg (defaultValue ty) n.toNatClampNeg = F at X' step
  have hTh : (T.setVm vm₁).heap = H := hT
  obtain ⟨f1, f2, -, -⟩ := Jvm.Free.Multi.fill_facts (T.setVm vm₁) cA cy n.toNatClampNeg k.toNatClampNeg (defaultValue ty) n.toNatClampNeg
  rw [hF, hTh] at f1 f2
  have hold : ∀ x : Nat, x < H.size → F.heap[x]? = H[x]? := fun x hx => by
    have := Jvm.Free.Multi.fill_old (T.setVm vm₁) cA cy n.toNatClampNeg k.toNatClampNeg (defaultValue ty) (a := x) (by rw [hTh]; exact hx) n.toNatClampNeg
    rw [hF, hTh] at this
    exact this
  have hrow : ∀ j : Nat, j < n.toNatClampNeg → F.heap[H.size + 1 + j]? = some (vp_cell cy z) := fun j hj => by
    have := Jvm.Free.Multi.fill_inner (T.setVm vm₁) cA cy n.toNatClampNeg k.toNatClampNeg (defaultValue ty) n.toNatClampNeg j hj
    rw [hF, hTh, hz] at this
    exact this
  have hout : Jvm.Free.Multi.outerC cA n.toNatClampNeg H.size n.toNatClampNeg = vp_cell cA (n.toNatClampNeg, .inr (.inr (.inr (.inr (fun i => if i < n.toNatClampNeg then some (H.size + 1 + i) else none))))) := by
    rw [vp_cell_q]
    exact vr_outer cA n.toNatClampNeg H.size n.toNatClampNeg
  rw [hout] at f2
  have hlt : ∀ a, a ∈ L → a < H.size := fun a ha => by
    obtain ⟨k9, hk9⟩ := va_pl_get (X := X) (f := f) ha
    exact (hP k9 _ hk9).lt
  have hnl : ∀ i : Nat, i < n.toNatClampNeg → H.size + 1 + i ∉ L := fun i _ h => by
    have := hlt _ h
    omega
  have hnm : ∀ a, a ∈ (List.range n.toNatClampNeg).map (fun i => H.size + 1 + i) → a ∉ L := fun a ha h => by
    obtain ⟨i, -, rfl⟩ := List.mem_map.mp ha
    have := hlt _ h
    omega
  have hP0 : va_P D cl (X ++ va_pl L f) F.heap := hP.kept (fun k9 x hx => hold x.1 ((hP k9 x hx).lt))
  have hP1 : va_P D cl ((X ++ va_pl L f) ++ [(H.size, .inl (cA, n.toNatClampNeg, .inr (.inr (.inr (.inr (fun i => if i < n.toNatClampNeg then some (H.size + 1 + i) else none))))))]) F.heap := hP0.app (fun k9 x hx => by
    have h0 : k9 < 1 := (List.getElem?_eq_some_iff.mp hx).1
    rw [show k9 = 0 by omega] at hx
    cases hx
    exact f2)
  have hP2 : va_P D cl (((X ++ va_pl L f) ++ [(H.size, .inl (cA, n.toNatClampNeg, .inr (.inr (.inr (.inr (fun i => if i < n.toNatClampNeg then some (H.size + 1 + i) else none))))))]) ++ ((List.range n.toNatClampNeg).map (fun i => H.size + 1 + i)).map (fun a => (a, .inl (cy, z)))) F.heap := hP1.app (fun k9 x hx => by
    obtain ⟨a, ha, rfl⟩ := List.mem_map.mp (List.mem_of_getElem? hx)
    obtain ⟨i, hi, rfl⟩ := List.mem_map.mp ha
    exact hrow i (List.mem_range.mp hi))
  have hD2 : va_D A (((X ++ va_pl L f) ++ [(H.size, .inl (cA, n.toNatClampNeg, .inr (.inr (.inr (.inr (fun i => if i < n.toNatClampNeg then some (H.size + 1 + i) else none))))))]) ++ ((List.range n.toNatClampNeg).map (fun i => H.size + 1 + i)).map (fun a => (a, .inl (cy, z)))) := by
    have hD1 := hD.push (e := .inl (cA, n.toNatClampNeg, .inr (.inr (.inr (.inr (fun i => if i < n.toNatClampNeg then some (H.size + 1 + i) else none)))))) hP rfl (hA _ hS.1)
    generalize hW1 : (X ++ va_pl L f) ++ [(H.size, .inl (cA, n.toNatClampNeg, .inr (.inr (.inr (.inr (fun i => if i < n.toNatClampNeg then some (H.size + 1 + i) else none))))))] = W1 at hD1 hP1 ⊢
    have hle : ∀ (k9 : Nat) (x : Nat × va_E), W1[k9]? = some x → x.1 ≤ H.size := fun k9 x hx => by
      rw [← hW1] at hx
      by_cases hl : k9 < (X ++ va_pl L f).length
      · rw [List.getElem?_append_left hl] at hx
        exact Nat.le_of_lt ((hP k9 x hx).lt)
      · rw [List.getElem?_append_right (by omega)] at hx
        have h0 : k9 - (X ++ va_pl L f).length < 1 := (List.getElem?_eq_some_iff.mp hx).1
        rw [show k9 - (X ++ va_pl L f).length = 0 by omega] at hx
        cases hx
        exact Nat.le_refl _
    have hr : ∀ (k9 : Nat) (x : Nat × va_E), (((List.range n.toNatClampNeg).map (fun i => H.size + 1 + i)).map (fun a => ((a, .inl (cy, z)) : Nat × va_E)))[k9]? = some x → x.1 = H.size + 1 + k9 := fun k9 x hx => by
      rw [List.getElem?_map, List.getElem?_map] at hx
      by_cases h9 : k9 < n.toNatClampNeg
      · rw [List.getElem?_range h9] at hx
        cases hx
        rfl
      · have hn0 : (List.range n.toNatClampNeg)[k9]? = none := List.getElem?_eq_none (by rw [List.length_range]; omega)
        rw [hn0] at hx
        cases hx
    refine ⟨fun i j x y hi hj hxy => ?_, fun k9 x hx => ?_⟩
    · by_cases h1 : i < W1.length <;> by_cases h2 : j < W1.length
      · rw [List.getElem?_append_left h1] at hi
        rw [List.getElem?_append_left h2] at hj
        exact hD1.1 i j x y hi hj hxy
      · rw [List.getElem?_append_left h1] at hi
        rw [List.getElem?_append_right (by omega)] at hj
        have := hle _ _ hi
        have := hr _ _ hj
        omega
      · rw [List.getElem?_append_right (by omega)] at hi
        rw [List.getElem?_append_left h2] at hj
        have := hle _ _ hj
        have := hr _ _ hi
        omega
      · rw [List.getElem?_append_right (by omega)] at hi hj
        have := hr _ _ hi
        have := hr _ _ hj
        omega
    · by_cases h1 : k9 < W1.length
      · rw [List.getElem?_append_left h1] at hx
        exact hD1.2 k9 x hx
      · rw [List.getElem?_append_right (by omega)] at hx
        have := hr _ _ hx
        exact hA _ (by have := hS.1; omega)
  have hAr : ArrOfT s cA (.array ty) := fun N9 z9 => by
    obtain ⟨-, k9, hk9, cm9, hkk9⟩ := (hO 0 0 0).1
    exact ⟨(fun q hq => by cases hq), k9, hk9, cm9, hkk9⟩
  have hK2 : va_K D cl (tys ++ [(cA, .array ty)]) s := ⟨hK.1, fun k9 x hx => by
    by_cases hl : k9 < tys.length
    · rw [List.getElem?_append_left hl] at hx
      exact hK.2 k9 x hx
    · rw [List.getElem?_append_right (by omega)] at hx
      have h0 : k9 - tys.length < 1 := (List.getElem?_eq_some_iff.mp hx).1
      rw [show k9 - tys.length = 0 by omega] at hx
      cases hx
      exact ⟨hAr, fA⟩⟩
  obtain ⟨t, a1, b1⟩ := kk H.size (fun i => H.size + 1 + i) cA F.heap (fun i j _ _ h => by have h9 : H.size + 1 + i = H.size + 1 + j := h; omega) hnl hK2 (by rw [← vr_rows hnm]; exact vr_lay hP2) (by rw [← vr_rows hnm]; exact vr_layD hD2) ⟨by rw [f1]; have := hS.1; omega, fun x h1 h2 => (hold x (Nat.lt_of_lt_of_le h1 hS.1)).trans (hS.2.1 x h1 h2), hS.2.2⟩ F rfl X'
  refine ⟨t, step t ?_, b1⟩
  have e : T.heap.size = H.size := by rw [hT]
  rw [e]
  exact a1
end VGM
/-! ===== END ===== -/

/-! ===== BEGIN printed: names, fields, word lists, decode rows ===== -/
def RX0 : String := "NearlyBought$History"
def TX0 : u_T := fun k => match k with
  | 0 => ("NearlyBought$History", "before", "[LNearlyBought$Market;", true)
  | 1 => ("NearlyBought$History", "next", "I", false)
  | _ => ("NearlyBought$History", "size", "I", false)
def tyX0 : Nat → FieldType := fun k => match k with
  | 0 => .array (.object "NearlyBought$Market")
  | 1 => .int
  | _ => .int
abbrev wsX00 : List Cond := u_ws RX0 TX0 3
theorem nmX0 : ∀ a, a < 3 → ∀ b, b < 3 → a ≠ b → (TX0 a).2.1 ≠ (TX0 b).2.1 := by decide +kernel
theorem tyX0_ok : ∀ k, k < 3 → parseFieldDescriptor (TX0 k).2.2.1 = some (tyX0 k) := by decide +kernel
abbrev cX0_init : ByteArray := prog_2_method_1_code
def yX0_init : MethodName := ⟨RX0, "<init>", "(LNearlyBought$Tale;)V"⟩
abbrev cX0_remember : ByteArray := prog_2_method_2_code
def yX0_remember : MethodName := ⟨RX0, "remember", "(LNearlyBought$Market;)V"⟩
abbrev cX0_restore : ByteArray := prog_2_method_3_code
def yX0_restore : MethodName := ⟨RX0, "restore", "(LNearlyBought$Market;)V"⟩
def RX1 : String := "NearlyBought$Market"
def TX1 : u_T := fun k => match k with
  | 0 => ("NearlyBought$Market", "tale", "LNearlyBought$Tale;", true)
  | 1 => ("NearlyBought$Market", "year", "I", false)
  | 2 => ("NearlyBought$Market", "silent", "I", false)
  | 3 => ("NearlyBought$Market", "coins", "[I", true)
  | 4 => ("NearlyBought$Market", "owner", "[I", true)
  | 5 => ("NearlyBought$Market", "missed", "[I", true)
  | 6 => ("NearlyBought$Market", "breaths", "[[I", true)
  | 7 => ("NearlyBought$Market", "since", "[[I", true)
  | 8 => ("NearlyBought$Market", "counted", "[[I", true)
  | _ => ("NearlyBought$Market", "price", "[[I", true)
def tyX1 : Nat → FieldType := fun k => match k with
  | 0 => .object "NearlyBought$Tale"
  | 1 => .int
  | 2 => .int
  | 3 => .array .int
  | 4 => .array .int
  | 5 => .array .int
  | 6 => .array (.array .int)
  | 7 => .array (.array .int)
  | 8 => .array (.array .int)
  | _ => .array (.array .int)
abbrev wsX10 : List Cond := u_ws RX1 TX1 10
theorem nmX1 : ∀ a, a < 10 → ∀ b, b < 10 → a ≠ b → (TX1 a).2.1 ≠ (TX1 b).2.1 := by decide +kernel
theorem tyX1_ok : ∀ k, k < 10 → parseFieldDescriptor (TX1 k).2.2.1 = some (tyX1 k) := by decide +kernel
abbrev cX1_init : ByteArray := prog_3_method_1_code
def yX1_init : MethodName := ⟨RX1, "<init>", "(LNearlyBought$Tale;)V"⟩
abbrev cX1_begin : ByteArray := prog_3_method_2_code
def yX1_begin : MethodName := ⟨RX1, "begin", "(I)V"⟩
abbrev cX1_copyFrom : ByteArray := prog_3_method_3_code
def yX1_copyFrom : MethodName := ⟨RX1, "copyFrom", "(LNearlyBought$Market;)V"⟩
abbrev cX1_addPause : ByteArray := prog_3_method_4_code
def yX1_addPause : MethodName := ⟨RX1, "addPause", "(III)V"⟩
abbrev cX1_addToldPauses : ByteArray := prog_3_method_5_code
def yX1_addToldPauses : MethodName := ⟨RX1, "addToldPauses", "()V"⟩
abbrev cX1_isFree : ByteArray := prog_3_method_6_code
def yX1_isFree : MethodName := ⟨RX1, "isFree", "(I)Z"⟩
abbrev cX1_claimantOf : ByteArray := prog_3_method_7_code
def yX1_claimantOf : MethodName := ⟨RX1, "claimantOf", "(I)I"⟩
abbrev cX1_holdFair : ByteArray := prog_3_method_8_code
def yX1_holdFair : MethodName := ⟨RX1, "holdFair", "()I"⟩
abbrev cX1_holdFairs : ByteArray := prog_3_method_9_code
def yX1_holdFairs : MethodName := ⟨RX1, "holdFairs", "(I)V"⟩
abbrev cX1_fairsTillGone : ByteArray := prog_3_method_10_code
def yX1_fairsTillGone : MethodName := ⟨RX1, "fairsTillGone", "(I)I"⟩
abbrev cX1_sell : ByteArray := prog_3_method_11_code
def yX1_sell : MethodName := ⟨RX1, "sell", "(I)Z"⟩
abbrev cX1_buyerInsteadOf : ByteArray := prog_3_method_12_code
def yX1_buyerInsteadOf : MethodName := ⟨RX1, "buyerInsteadOf", "(II)I"⟩
abbrev cX1_dearestOf : ByteArray := prog_3_method_13_code
def yX1_dearestOf : MethodName := ⟨RX1, "dearestOf", "(I)I"⟩
abbrev cX1_dearerTo : ByteArray := prog_3_method_14_code
def yX1_dearerTo : MethodName := ⟨RX1, "dearerTo", "(II)I"⟩
abbrev cX1_wantersOf : ByteArray := prog_3_method_15_code
def yX1_wantersOf : MethodName := ⟨RX1, "wantersOf", "(I)I"⟩
abbrev cX1_thingsOf : ByteArray := prog_3_method_16_code
def yX1_thingsOf : MethodName := ⟨RX1, "thingsOf", "(I)I"⟩
abbrev cX1_worthOf : ByteArray := prog_3_method_17_code
def yX1_worthOf : MethodName := ⟨RX1, "worthOf", "(I)I"⟩
abbrev cX1_thingsGone : ByteArray := prog_3_method_18_code
def yX1_thingsGone : MethodName := ⟨RX1, "thingsGone", "()I"⟩
abbrev cX1_coinsOfAll : ByteArray := prog_3_method_19_code
def yX1_coinsOfAll : MethodName := ⟨RX1, "coinsOfAll", "()I"⟩
def RX2 : String := "NearlyBought$Reader"
def TX2 : u_T := fun k => match k with
  | 0 => ("NearlyBought$Reader", "numbers", "[I", true)
  | _ => ("NearlyBought$Reader", "at", "I", false)
def tyX2 : Nat → FieldType := fun k => match k with
  | 0 => .array .int
  | _ => .int
abbrev wsX20 : List Cond := u_ws RX2 TX2 2
theorem nmX2 : ∀ a, a < 2 → ∀ b, b < 2 → a ≠ b → (TX2 a).2.1 ≠ (TX2 b).2.1 := by decide +kernel
theorem tyX2_ok : ∀ k, k < 2 → parseFieldDescriptor (TX2 k).2.2.1 = some (tyX2 k) := by decide +kernel
abbrev cX2_init : ByteArray := prog_4_method_1_code
def yX2_init : MethodName := ⟨RX2, "<init>", "()V"⟩
abbrev cX2_read : ByteArray := prog_4_method_2_code
def yX2_read : MethodName := ⟨RX2, "read", "([IILNearlyBought$Tale;)I"⟩
abbrev cX2_readItem : ByteArray := prog_4_method_3_code
def yX2_readItem : MethodName := ⟨RX2, "readItem", "([II)Z"⟩
abbrev cX2_numbersDue : ByteArray := prog_4_method_4_code
def yX2_numbersDue : MethodName := ⟨RX2, "numbersDue", "(I)I"⟩
abbrev cX2_readNumber : ByteArray := prog_4_method_5_code
def yX2_readNumber : MethodName := ⟨RX2, "readNumber", "([II)I"⟩
abbrev cX2_letterAt : ByteArray := prog_4_method_6_code
def yX2_letterAt : MethodName := ⟨RX2, "letterAt", "([II)I"⟩
def RX3 : String := "NearlyBought$Sights"
def TX3 : u_T := fun k => match k with
  | 0 => ("NearlyBought$Sights", "things", "[I", true)
  | 1 => ("NearlyBought$Sights", "persons", "[I", true)
  | 2 => ("NearlyBought$Sights", "fairs", "[I", true)
  | _ => ("NearlyBought$Sights", "size", "I", false)
def tyX3 : Nat → FieldType := fun k => match k with
  | 0 => .array .int
  | 1 => .array .int
  | 2 => .array .int
  | _ => .int
abbrev wsX30 : List Cond := u_ws RX3 TX3 4
theorem nmX3 : ∀ a, a < 4 → ∀ b, b < 4 → a ≠ b → (TX3 a).2.1 ≠ (TX3 b).2.1 := by decide +kernel
theorem tyX3_ok : ∀ k, k < 4 → parseFieldDescriptor (TX3 k).2.2.1 = some (tyX3 k) := by decide +kernel
abbrev cX3_init : ByteArray := prog_5_method_1_code
def yX3_init : MethodName := ⟨RX3, "<init>", "()V"⟩
abbrev cX3_add : ByteArray := prog_5_method_2_code
def yX3_add : MethodName := ⟨RX3, "add", "(III)V"⟩
abbrev cX3_allHoldIn : ByteArray := prog_5_method_3_code
def yX3_allHoldIn : MethodName := ⟨RX3, "allHoldIn", "(LNearlyBought$Market;I)Z"⟩
def RX4 : String := "NearlyBought$Tale"
def TX4 : u_T := fun k => match k with
  | 0 => ("NearlyBought$Tale", "persons", "I", false)
  | 1 => ("NearlyBought$Tale", "things", "I", false)
  | 2 => ("NearlyBought$Tale", "pauses", "I", false)
  | 3 => ("NearlyBought$Tale", "earned", "I", false)
  | 4 => ("NearlyBought$Tale", "dearer", "I", false)
  | 5 => ("NearlyBought$Tale", "kind", "[I", true)
  | 6 => ("NearlyBought$Tale", "firstCoins", "[I", true)
  | 7 => ("NearlyBought$Tale", "firstCost", "[I", true)
  | 8 => ("NearlyBought$Tale", "pauser", "[I", true)
  | 9 => ("NearlyBought$Tale", "pausedAt", "[I", true)
  | 10 => ("NearlyBought$Tale", "pauseBreaths", "[I", true)
  | _ => ("NearlyBought$Tale", "pauseYear", "[I", true)
def tyX4 : Nat → FieldType := fun k => match k with
  | 0 => .int
  | 1 => .int
  | 2 => .int
  | 3 => .int
  | 4 => .int
  | 5 => .array .int
  | 6 => .array .int
  | 7 => .array .int
  | 8 => .array .int
  | 9 => .array .int
  | 10 => .array .int
  | _ => .array .int
abbrev wsX40 : List Cond := u_ws RX4 TX4 12
theorem nmX4 : ∀ a, a < 12 → ∀ b, b < 12 → a ≠ b → (TX4 a).2.1 ≠ (TX4 b).2.1 := by decide +kernel
theorem tyX4_ok : ∀ k, k < 12 → parseFieldDescriptor (TX4 k).2.2.1 = some (tyX4 k) := by decide +kernel
abbrev cX4_init : ByteArray := prog_6_method_1_code
def yX4_init : MethodName := ⟨RX4, "<init>", "()V"⟩
abbrev cX4_clear : ByteArray := prog_6_method_2_code
def yX4_clear : MethodName := ⟨RX4, "clear", "()V"⟩
abbrev cX4_hasPerson : ByteArray := prog_6_method_3_code
def yX4_hasPerson : MethodName := ⟨RX4, "hasPerson", "(I)Z"⟩
abbrev cX4_hasThing : ByteArray := prog_6_method_4_code
def yX4_hasThing : MethodName := ⟨RX4, "hasThing", "(I)Z"⟩
abbrev cX4_canBeLaid : ByteArray := prog_6_method_5_code
def yX4_canBeLaid : MethodName := ⟨RX4, "canBeLaid", "()Z"⟩
abbrev cX4_takeItem : ByteArray := prog_6_method_6_code
def yX4_takeItem : MethodName := ⟨RX4, "takeItem", "(I[I)Z"⟩
abbrev cX4_takePerson : ByteArray := prog_6_method_7_code
def yX4_takePerson : MethodName := ⟨RX4, "takePerson", "(II)Z"⟩
abbrev cX4_takeThing : ByteArray := prog_6_method_8_code
def yX4_takeThing : MethodName := ⟨RX4, "takeThing", "(I)Z"⟩
abbrev cX4_takePause : ByteArray := prog_6_method_9_code
def yX4_takePause : MethodName := ⟨RX4, "takePause", "([I)Z"⟩
abbrev cX4_takeEarned : ByteArray := prog_6_method_10_code
def yX4_takeEarned : MethodName := ⟨RX4, "takeEarned", "(I)Z"⟩
abbrev cX4_takeDearer : ByteArray := prog_6_method_11_code
def yX4_takeDearer : MethodName := ⟨RX4, "takeDearer", "(I)Z"⟩
abbrev cX4_costIn : ByteArray := prog_6_method_12_code
def yX4_costIn : MethodName := ⟨RX4, "costIn", "(II)I"⟩
abbrev cX4_priceFor : ByteArray := prog_6_method_13_code
def yX4_priceFor : MethodName := ⟨RX4, "priceFor", "(III)I"⟩
abbrev cX4_countedFor : ByteArray := prog_6_method_14_code
def yX4_countedFor : MethodName := ⟨RX4, "countedFor", "(II)I"⟩
def RX5 : String := "NearlyBought"
def TX5 : u_T := fun k => match k with
  | 0 => ("NearlyBought", "text", "[I", true)
  | 1 => ("NearlyBought", "reader", "LNearlyBought$Reader;", true)
  | 2 => ("NearlyBought", "draft", "LNearlyBought$Tale;", true)
  | 3 => ("NearlyBought", "laid", "LNearlyBought$Tale;", true)
  | 4 => ("NearlyBought", "now", "LNearlyBought$Market;", true)
  | 5 => ("NearlyBought", "trial", "LNearlyBought$Market;", true)
  | 6 => ("NearlyBought", "history", "LNearlyBought$History;", true)
  | 7 => ("NearlyBought", "kept", "[LNearlyBought$Market;", true)
  | 8 => ("NearlyBought", "sights", "LNearlyBought$Sights;", true)
  | 9 => ("NearlyBought", "textLength", "I", false)
  | _ => ("NearlyBought", "keptCount", "I", false)
def tyX5 : Nat → FieldType := fun k => match k with
  | 0 => .array .int
  | 1 => .object "NearlyBought$Reader"
  | 2 => .object "NearlyBought$Tale"
  | 3 => .object "NearlyBought$Tale"
  | 4 => .object "NearlyBought$Market"
  | 5 => .object "NearlyBought$Market"
  | 6 => .object "NearlyBought$History"
  | 7 => .array (.object "NearlyBought$Market")
  | 8 => .object "NearlyBought$Sights"
  | 9 => .int
  | _ => .int
abbrev wsX50 : List Cond := u_ws RX5 TX5 11
theorem nmX5 : ∀ a, a < 11 → ∀ b, b < 11 → a ≠ b → (TX5 a).2.1 ≠ (TX5 b).2.1 := by decide +kernel
theorem tyX5_ok : ∀ k, k < 11 → parseFieldDescriptor (TX5 k).2.2.1 = some (tyX5 k) := by decide +kernel
abbrev cX5_init : ByteArray := prog_1_method_1_code
def yX5_init : MethodName := ⟨RX5, "<init>", "()V"⟩
abbrev cX5_write : ByteArray := prog_1_method_2_code
def yX5_write : MethodName := ⟨RX5, "write", "(I)I"⟩
abbrev cX5_wipe : ByteArray := prog_1_method_3_code
def yX5_wipe : MethodName := ⟨RX5, "wipe", "()I"⟩
abbrev cX5_fault : ByteArray := prog_1_method_4_code
def yX5_fault : MethodName := ⟨RX5, "fault", "()I"⟩
abbrev cX5_lay : ByteArray := prog_1_method_5_code
def yX5_lay : MethodName := ⟨RX5, "lay", "()I"⟩
abbrev cX5_person : ByteArray := prog_1_method_6_code
def yX5_person : MethodName := ⟨RX5, "person", "(II)I"⟩
abbrev cX5_thing : ByteArray := prog_1_method_7_code
def yX5_thing : MethodName := ⟨RX5, "thing", "(II)I"⟩
abbrev cX5_nearly : ByteArray := prog_1_method_8_code
def yX5_nearly : MethodName := ⟨RX5, "nearly", "(III)I"⟩
abbrev cX5_pause : ByteArray := prog_1_method_9_code
def yX5_pause : MethodName := ⟨RX5, "pause", "(III)I"⟩
abbrev cX5_fair : ByteArray := prog_1_method_10_code
def yX5_fair : MethodName := ⟨RX5, "fair", "()I"⟩
abbrev cX5_give : ByteArray := prog_1_method_11_code
def yX5_give : MethodName := ⟨RX5, "give", "(III)I"⟩
abbrev cX5_undo : ByteArray := prog_1_method_12_code
def yX5_undo : MethodName := ⟨RX5, "undo", "()I"⟩
abbrev cX5_behind : ByteArray := prog_1_method_13_code
def yX5_behind : MethodName := ⟨RX5, "behind", "(II)I"⟩
abbrev cX5_goes : ByteArray := prog_1_method_14_code
def yX5_goes : MethodName := ⟨RX5, "goes", "(I)I"⟩
abbrev cX5_never : ByteArray := prog_1_method_15_code
def yX5_never : MethodName := ⟨RX5, "never", "()I"⟩
abbrev cX5_stop : ByteArray := prog_1_method_16_code
def yX5_stop : MethodName := ⟨RX5, "stop", "(III)I"⟩
abbrev cX5_rank : ByteArray := prog_1_method_17_code
def yX5_rank : MethodName := ⟨RX5, "rank", "(II)I"⟩
abbrev cX5_wanted : ByteArray := prog_1_method_18_code
def yX5_wanted : MethodName := ⟨RX5, "wanted", "(I)I"⟩
abbrev cX5_seen : ByteArray := prog_1_method_19_code
def yX5_seen : MethodName := ⟨RX5, "seen", "(III)I"⟩
abbrev cX5_forget : ByteArray := prog_1_method_20_code
def yX5_forget : MethodName := ⟨RX5, "forget", "()I"⟩
abbrev cX5_feigned : ByteArray := prog_1_method_21_code
def yX5_feigned : MethodName := ⟨RX5, "feigned", "(I)I"⟩
abbrev cX5_counts : ByteArray := prog_1_method_22_code
def yX5_counts : MethodName := ⟨RX5, "counts", "(III)I"⟩
abbrev cX5_cheapest : ByteArray := prog_1_method_23_code
def yX5_cheapest : MethodName := ⟨RX5, "cheapest", "(II)I"⟩
abbrev cX5_greens : ByteArray := prog_1_method_24_code
def yX5_greens : MethodName := ⟨RX5, "greens", "(III)I"⟩
abbrev cX5_keep : ByteArray := prog_1_method_25_code
def yX5_keep : MethodName := ⟨RX5, "keep", "()I"⟩
abbrev cX5_back : ByteArray := prog_1_method_26_code
def yX5_back : MethodName := ⟨RX5, "back", "()I"⟩
abbrev cX5_count : ByteArray := prog_1_method_27_code
def yX5_count : MethodName := ⟨RX5, "count", "(I)I"⟩
abbrev cX5_putFirstText : ByteArray := prog_1_method_28_code
def yX5_putFirstText : MethodName := ⟨RX5, "putFirstText", "()V"⟩
abbrev cX5_layTheText : ByteArray := prog_1_method_29_code
def yX5_layTheText : MethodName := ⟨RX5, "layTheText", "()V"⟩
abbrev cX5_uncountedDraws : ByteArray := prog_1_method_30_code
def yX5_uncountedDraws : MethodName := ⟨RX5, "uncountedDraws", "(I)I"⟩
abbrev cX5_greatestDivisor : ByteArray := prog_1_method_31_code
def yX5_greatestDivisor : MethodName := ⟨RX5, "greatestDivisor", "(II)I"⟩
abbrev cX5_draw : ByteArray := prog_1_method_32_code
def yX5_draw : MethodName := ⟨RX5, "draw", "(II)I"⟩
abbrev cX5_addDrawnPause : ByteArray := prog_1_method_33_code
def yX5_addDrawnPause : MethodName := ⟨RX5, "addDrawnPause", "(I)V"⟩
def RX6 : String := "NearlyBoughtModel"
def TX6 : u_T := fun k => match k with
  | 0 => ("NearlyBoughtModel", "text", "[I", true)
  | 1 => ("NearlyBoughtModel", "typed", "I", false)
  | 2 => ("NearlyBoughtModel", "told", "[I", true)
  | 3 => ("NearlyBoughtModel", "draft", "[I", true)
  | 4 => ("NearlyBoughtModel", "s", "[I", true)
  | 5 => ("NearlyBoughtModel", "past", "[I", true)
  | 6 => ("NearlyBoughtModel", "known", "I", false)
  | 7 => ("NearlyBoughtModel", "images", "[I", true)
  | 8 => ("NearlyBoughtModel", "kept", "I", false)
  | 9 => ("NearlyBoughtModel", "notes", "[I", true)
  | 10 => ("NearlyBoughtModel", "noted", "I", false)
  | 11 => ("NearlyBoughtModel", "at", "I", false)
  | 12 => ("NearlyBoughtModel", "feign", "I", false)
  | _ => ("NearlyBoughtModel", "held", "[I", true)
def tyX6 : Nat → FieldType := fun k => match k with
  | 0 => .array .int
  | 1 => .int
  | 2 => .array .int
  | 3 => .array .int
  | 4 => .array .int
  | 5 => .array .int
  | 6 => .int
  | 7 => .array .int
  | 8 => .int
  | 9 => .array .int
  | 10 => .int
  | 11 => .int
  | 12 => .int
  | _ => .array .int
abbrev wsX60 : List Cond := u_ws RX6 TX6 14
theorem nmX6 : ∀ a, a < 14 → ∀ b, b < 14 → a ≠ b → (TX6 a).2.1 ≠ (TX6 b).2.1 := by decide +kernel
theorem tyX6_ok : ∀ k, k < 14 → parseFieldDescriptor (TX6 k).2.2.1 = some (tyX6 k) := by decide +kernel
abbrev cX6_init : ByteArray := prog_8_method_1_code
def yX6_init : MethodName := ⟨RX6, "<init>", "()V"⟩
abbrev cX6_in : ByteArray := prog_8_method_3_code
def yX6_in : MethodName := ⟨RX6, "in", "(III)Z"⟩
abbrev cX6_isPerson : ByteArray := prog_8_method_4_code
def yX6_isPerson : MethodName := ⟨RX6, "isPerson", "(I)Z"⟩
abbrev cX6_isThing : ByteArray := prog_8_method_5_code
def yX6_isThing : MethodName := ⟨RX6, "isThing", "(I)Z"⟩
abbrev cX6_write : ByteArray := prog_8_method_6_code
def yX6_write : MethodName := ⟨RX6, "write", "(I)I"⟩
abbrev cX6_wipe : ByteArray := prog_8_method_7_code
def yX6_wipe : MethodName := ⟨RX6, "wipe", "()I"⟩
abbrev cX6_letterAt : ByteArray := prog_8_method_8_code
def yX6_letterAt : MethodName := ⟨RX6, "letterAt", "(I)I"⟩
abbrev cX6_isFigure : ByteArray := prog_8_method_9_code
def yX6_isFigure : MethodName := ⟨RX6, "isFigure", "(I)Z"⟩
abbrev cX6_number : ByteArray := prog_8_method_10_code
def yX6_number : MethodName := ⟨RX6, "number", "(III)I"⟩
abbrev cX6_begins : ByteArray := prog_8_method_11_code
def yX6_begins : MethodName := ⟨RX6, "begins", "()V"⟩
abbrev cX6_personOf : ByteArray := prog_8_method_12_code
def yX6_personOf : MethodName := ⟨RX6, "personOf", "(II)V"⟩
abbrev cX6_thingOf : ByteArray := prog_8_method_13_code
def yX6_thingOf : MethodName := ⟨RX6, "thingOf", "(I)V"⟩
abbrev cX6_pauseOf : ByteArray := prog_8_method_14_code
def yX6_pauseOf : MethodName := ⟨RX6, "pauseOf", "(IIII)V"⟩
abbrev cX6_readsItem : ByteArray := prog_8_method_15_code
def yX6_readsItem : MethodName := ⟨RX6, "readsItem", "(I)Z"⟩
abbrev cX6_readsAll : ByteArray := prog_8_method_16_code
def yX6_readsAll : MethodName := ⟨RX6, "readsAll", "()I"⟩
abbrev cX6_fault : ByteArray := prog_8_method_17_code
def yX6_fault : MethodName := ⟨RX6, "fault", "()I"⟩
abbrev cX6_starts : ByteArray := prog_8_method_18_code
def yX6_starts : MethodName := ⟨RX6, "starts", "()V"⟩
abbrev cX6_lays : ByteArray := prog_8_method_19_code
def yX6_lays : MethodName := ⟨RX6, "lays", "()V"⟩
abbrev cX6_lay : ByteArray := prog_8_method_20_code
def yX6_lay : MethodName := ⟨RX6, "lay", "()I"⟩
abbrev cX6_countedOf : ByteArray := prog_8_method_21_code
def yX6_countedOf : MethodName := ⟨RX6, "countedOf", "(II)I"⟩
abbrev cX6_better : ByteArray := prog_8_method_22_code
def yX6_better : MethodName := ⟨RX6, "better", "(II)I"⟩
abbrev cX6_pauseNow : ByteArray := prog_8_method_23_code
def yX6_pauseNow : MethodName := ⟨RX6, "pauseNow", "(II)I"⟩
abbrev cX6_countedNow : ByteArray := prog_8_method_24_code
def yX6_countedNow : MethodName := ⟨RX6, "countedNow", "(II)I"⟩
abbrev cX6_isNearly : ByteArray := prog_8_method_25_code
def yX6_isNearly : MethodName := ⟨RX6, "isNearly", "(II)Z"⟩
abbrev cX6_costs : ByteArray := prog_8_method_26_code
def yX6_costs : MethodName := ⟨RX6, "costs", "(II)I"⟩
abbrev cX6_priceOf : ByteArray := prog_8_method_27_code
def yX6_priceOf : MethodName := ⟨RX6, "priceOf", "(II)I"⟩
abbrev cX6_claim : ByteArray := prog_8_method_28_code
def yX6_claim : MethodName := ⟨RX6, "claim", "(I)I"⟩
abbrev cX6_thingsOf : ByteArray := prog_8_method_29_code
def yX6_thingsOf : MethodName := ⟨RX6, "thingsOf", "(I)I"⟩
abbrev cX6_person : ByteArray := prog_8_method_30_code
def yX6_person : MethodName := ⟨RX6, "person", "(II)I"⟩
abbrev cX6_thing : ByteArray := prog_8_method_31_code
def yX6_thing : MethodName := ⟨RX6, "thing", "(II)I"⟩
abbrev cX6_nearly : ByteArray := prog_8_method_32_code
def yX6_nearly : MethodName := ⟨RX6, "nearly", "(III)I"⟩
abbrev cX6_keeps : ByteArray := prog_8_method_33_code
def yX6_keeps : MethodName := ⟨RX6, "keeps", "()V"⟩
abbrev cX6_pauses : ByteArray := prog_8_method_34_code
def yX6_pauses : MethodName := ⟨RX6, "pauses", "(III)V"⟩
abbrev cX6_pause : ByteArray := prog_8_method_35_code
def yX6_pause : MethodName := ⟨RX6, "pause", "(III)I"⟩
abbrev cX6_sells : ByteArray := prog_8_method_36_code
def yX6_sells : MethodName := ⟨RX6, "sells", "(III)V"⟩
abbrev cX6_dearest : ByteArray := prog_8_method_37_code
def yX6_dearest : MethodName := ⟨RX6, "dearest", "(I)I"⟩
abbrev cX6_offers : ByteArray := prog_8_method_38_code
def yX6_offers : MethodName := ⟨RX6, "offers", "(II)V"⟩
abbrev cX6_holds : ByteArray := prog_8_method_39_code
def yX6_holds : MethodName := ⟨RX6, "holds", "()I"⟩
abbrev cX6_fair : ByteArray := prog_8_method_40_code
def yX6_fair : MethodName := ⟨RX6, "fair", "()I"⟩
abbrev cX6_give : ByteArray := prog_8_method_41_code
def yX6_give : MethodName := ⟨RX6, "give", "(III)I"⟩
abbrev cX6_undo : ByteArray := prog_8_method_42_code
def yX6_undo : MethodName := ⟨RX6, "undo", "()I"⟩
abbrev cX6_remembers : ByteArray := prog_8_method_43_code
def yX6_remembers : MethodName := ⟨RX6, "remembers", "()V"⟩
abbrev cX6_lets : ByteArray := prog_8_method_44_code
def yX6_lets : MethodName := ⟨RX6, "lets", "()V"⟩
abbrev cX6_whoseBehind : ByteArray := prog_8_method_45_code
def yX6_whoseBehind : MethodName := ⟨RX6, "whoseBehind", "(II)I"⟩
abbrev cX6_goesBehind : ByteArray := prog_8_method_46_code
def yX6_goesBehind : MethodName := ⟨RX6, "goesBehind", "(I)I"⟩
abbrev cX6_behind : ByteArray := prog_8_method_47_code
def yX6_behind : MethodName := ⟨RX6, "behind", "(II)I"⟩
abbrev cX6_goes : ByteArray := prog_8_method_48_code
def yX6_goes : MethodName := ⟨RX6, "goes", "(I)I"⟩
abbrev cX6_never : ByteArray := prog_8_method_49_code
def yX6_never : MethodName := ⟨RX6, "never", "()I"⟩
abbrev cX6_stop : ByteArray := prog_8_method_50_code
def yX6_stop : MethodName := ⟨RX6, "stop", "(III)I"⟩
abbrev cX6_rank : ByteArray := prog_8_method_51_code
def yX6_rank : MethodName := ⟨RX6, "rank", "(II)I"⟩
abbrev cX6_wants : ByteArray := prog_8_method_52_code
def yX6_wants : MethodName := ⟨RX6, "wants", "(I)I"⟩
abbrev cX6_wanted : ByteArray := prog_8_method_53_code
def yX6_wanted : MethodName := ⟨RX6, "wanted", "(I)I"⟩
abbrev cX6_seen : ByteArray := prog_8_method_54_code
def yX6_seen : MethodName := ⟨RX6, "seen", "(III)I"⟩
abbrev cX6_forget : ByteArray := prog_8_method_55_code
def yX6_forget : MethodName := ⟨RX6, "forget", "()I"⟩
abbrev cX6_isSo : ByteArray := prog_8_method_56_code
def yX6_isSo : MethodName := ⟨RX6, "isSo", "(I)Z"⟩
abbrev cX6_feigned : ByteArray := prog_8_method_57_code
def yX6_feigned : MethodName := ⟨RX6, "feigned", "(I)I"⟩
abbrev cX6_counts : ByteArray := prog_8_method_58_code
def yX6_counts : MethodName := ⟨RX6, "counts", "(III)I"⟩
abbrev cX6_cheapest : ByteArray := prog_8_method_59_code
def yX6_cheapest : MethodName := ⟨RX6, "cheapest", "(II)I"⟩
abbrev cX6_allCoins : ByteArray := prog_8_method_60_code
def yX6_allCoins : MethodName := ⟨RX6, "allCoins", "()I"⟩
abbrev cX6_taken : ByteArray := prog_8_method_61_code
def yX6_taken : MethodName := ⟨RX6, "taken", "()I"⟩
abbrev cX6_greens : ByteArray := prog_8_method_62_code
def yX6_greens : MethodName := ⟨RX6, "greens", "(III)I"⟩
abbrev cX6_keep : ByteArray := prog_8_method_63_code
def yX6_keep : MethodName := ⟨RX6, "keep", "()I"⟩
abbrev cX6_back : ByteArray := prog_8_method_64_code
def yX6_back : MethodName := ⟨RX6, "back", "()I"⟩
abbrev cX6_count : ByteArray := prog_8_method_65_code
def yX6_count : MethodName := ⟨RX6, "count", "(I)I"⟩
def RJx145de : String := "java/io/Serializable"
def TJx145de : u_T := fun k => match k with
  | _ => ("", "", "", false)
def tyJx145de : Nat → FieldType := fun k => match k with
  | _ => .int
abbrev wsJx145de0 : List Cond := u_ws RJx145de TJx145de 0
theorem nmJx145de : ∀ a, a < 0 → ∀ b, b < 0 → a ≠ b → (TJx145de a).2.1 ≠ (TJx145de b).2.1 := by decide +kernel
theorem tyJx145de_ok : ∀ k, k < 0 → parseFieldDescriptor (TJx145de k).2.2.1 = some (tyJx145de k) := by decide +kernel
def RJx9f9b0 : String := "java/lang/CharSequence"
def TJx9f9b0 : u_T := fun k => match k with
  | _ => ("", "", "", false)
def tyJx9f9b0 : Nat → FieldType := fun k => match k with
  | _ => .int
abbrev wsJx9f9b00 : List Cond := u_ws RJx9f9b0 TJx9f9b0 0
theorem nmJx9f9b0 : ∀ a, a < 0 → ∀ b, b < 0 → a ≠ b → (TJx9f9b0 a).2.1 ≠ (TJx9f9b0 b).2.1 := by decide +kernel
theorem tyJx9f9b0_ok : ∀ k, k < 0 → parseFieldDescriptor (TJx9f9b0 k).2.2.1 = some (tyJx9f9b0 k) := by decide +kernel
def RJxb160c : String := "java/lang/Comparable"
def TJxb160c : u_T := fun k => match k with
  | _ => ("", "", "", false)
def tyJxb160c : Nat → FieldType := fun k => match k with
  | _ => .int
abbrev wsJxb160c0 : List Cond := u_ws RJxb160c TJxb160c 0
theorem nmJxb160c : ∀ a, a < 0 → ∀ b, b < 0 → a ≠ b → (TJxb160c a).2.1 ≠ (TJxb160c b).2.1 := by decide +kernel
theorem tyJxb160c_ok : ∀ k, k < 0 → parseFieldDescriptor (TJxb160c k).2.2.1 = some (tyJxb160c k) := by decide +kernel
def RJ9 : String := "java/lang/Math"
def TJ9 : u_T := fun k => match k with
  | _ => ("", "", "", false)
def tyJ9 : Nat → FieldType := fun k => match k with
  | _ => .int
abbrev wsJ90 : List Cond := u_ws RJ9 TJ9 0
theorem nmJ9 : ∀ a, a < 0 → ∀ b, b < 0 → a ≠ b → (TJ9 a).2.1 ≠ (TJ9 b).2.1 := by decide +kernel
theorem tyJ9_ok : ∀ k, k < 0 → parseFieldDescriptor (TJ9 k).2.2.1 = some (tyJ9 k) := by decide +kernel
abbrev cJ9_max_7cf53 : ByteArray := prog_9_method_65_code
def yJ9_max_7cf53 : MethodName := ⟨RJ9, "max", "(II)I"⟩
abbrev cJ9_min_7cf53 : ByteArray := prog_9_method_69_code
def yJ9_min_7cf53 : MethodName := ⟨RJ9, "min", "(II)I"⟩
def RJ0 : String := "java/lang/String"
def TJ0 : u_T := fun k => match k with
  | _ => ("", "", "", false)
def tyJ0 : Nat → FieldType := fun k => match k with
  | _ => .int
abbrev wsJ00 : List Cond := u_ws RJ0 TJ0 0
theorem nmJ0 : ∀ a, a < 0 → ∀ b, b < 0 → a ≠ b → (TJ0 a).2.1 ≠ (TJ0 b).2.1 := by decide +kernel
theorem tyJ0_ok : ∀ k, k < 0 → parseFieldDescriptor (TJ0 k).2.2.1 = some (tyJ0 k) := by decide +kernel
abbrev cJ0_length_8abf5 : ByteArray := prog_10_method_54_code
def yJ0_length_8abf5 : MethodName := ⟨RJ0, "length", "()I"⟩
abbrev cJ0_charAt_5068e : ByteArray := prog_10_method_56_code
def yJ0_charAt_5068e : MethodName := ⟨RJ0, "charAt", "(I)C"⟩
abbrev cJ0_coder_7d493 : ByteArray := prog_10_method_152_code
def yJ0_coder_7d493 : MethodName := ⟨RJ0, "coder", "()B"⟩
abbrev cJ0_isLatin1_aae02 : ByteArray := prog_10_method_154_code
def yJ0_isLatin1_aae02 : MethodName := ⟨RJ0, "isLatin1", "()Z"⟩
abbrev cJ0_checkIndex_df160 : ByteArray := prog_10_method_155_code
def yJ0_checkIndex_df160 : MethodName := ⟨RJ0, "checkIndex", "(II)V"⟩
def RJ1 : String := "java/lang/StringLatin1"
def TJ1 : u_T := fun k => match k with
  | _ => ("", "", "", false)
def tyJ1 : Nat → FieldType := fun k => match k with
  | _ => .int
abbrev wsJ10 : List Cond := u_ws RJ1 TJ1 0
theorem nmJ1 : ∀ a, a < 0 → ∀ b, b < 0 → a ≠ b → (TJ1 a).2.1 ≠ (TJ1 b).2.1 := by decide +kernel
theorem tyJ1_ok : ∀ k, k < 0 → parseFieldDescriptor (TJ1 k).2.2.1 = some (tyJ1 k) := by decide +kernel
abbrev cJ1_charAt_3b067 : ByteArray := prog_11_method_2_code
def yJ1_charAt_3b067 : MethodName := ⟨RJ1, "charAt", "([BI)C"⟩
def RJ2 : String := "java/lang/StringUTF16"
def TJ2 : u_T := fun k => match k with
  | _ => ("", "", "", false)
def tyJ2 : Nat → FieldType := fun k => match k with
  | _ => .int
abbrev wsJ20 : List Cond := u_ws RJ2 TJ2 0
theorem nmJ2 : ∀ a, a < 0 → ∀ b, b < 0 → a ≠ b → (TJ2 a).2.1 ≠ (TJ2 b).2.1 := by decide +kernel
theorem tyJ2_ok : ∀ k, k < 0 → parseFieldDescriptor (TJ2 k).2.2.1 = some (tyJ2 k) := by decide +kernel
abbrev cJ2_getChar_3b067 : ByteArray := prog_12_method_5_code
def yJ2_getChar_3b067 : MethodName := ⟨RJ2, "getChar", "([BI)C"⟩
abbrev cJ2_length_9d52b : ByteArray := prog_12_method_6_code
def yJ2_length_9d52b : MethodName := ⟨RJ2, "length", "([B)I"⟩
abbrev cJ2_charAt_3b067 : ByteArray := prog_12_method_83_code
def yJ2_charAt_3b067 : MethodName := ⟨RJ2, "charAt", "([BI)C"⟩
abbrev cJ2_checkIndex_2214a : ByteArray := prog_12_method_91_code
def yJ2_checkIndex_2214a : MethodName := ⟨RJ2, "checkIndex", "(I[B)V"⟩
def RJ10 : String := "java/lang/System"
def TJ10 : u_T := fun k => match k with
  | _ => ("", "", "", false)
def tyJ10 : Nat → FieldType := fun k => match k with
  | _ => .int
abbrev wsJ100 : List Cond := u_ws RJ10 TJ10 0
theorem nmJ10 : ∀ a, a < 0 → ∀ b, b < 0 → a ≠ b → (TJ10 a).2.1 ≠ (TJ10 b).2.1 := by decide +kernel
theorem tyJ10_ok : ∀ k, k < 0 → parseFieldDescriptor (TJ10 k).2.2.1 = some (tyJ10 k) := by decide +kernel
def RJxfd54e : String := "java/lang/constant/Constable"
def TJxfd54e : u_T := fun k => match k with
  | _ => ("", "", "", false)
def tyJxfd54e : Nat → FieldType := fun k => match k with
  | _ => .int
abbrev wsJxfd54e0 : List Cond := u_ws RJxfd54e TJxfd54e 0
theorem nmJxfd54e : ∀ a, a < 0 → ∀ b, b < 0 → a ≠ b → (TJxfd54e a).2.1 ≠ (TJxfd54e b).2.1 := by decide +kernel
theorem tyJxfd54e_ok : ∀ k, k < 0 → parseFieldDescriptor (TJxfd54e k).2.2.1 = some (tyJxfd54e k) := by decide +kernel
def RJx3cf43 : String := "java/lang/constant/ConstantDesc"
def TJx3cf43 : u_T := fun k => match k with
  | _ => ("", "", "", false)
def tyJx3cf43 : Nat → FieldType := fun k => match k with
  | _ => .int
abbrev wsJx3cf430 : List Cond := u_ws RJx3cf43 TJx3cf43 0
theorem nmJx3cf43 : ∀ a, a < 0 → ∀ b, b < 0 → a ≠ b → (TJx3cf43 a).2.1 ≠ (TJx3cf43 b).2.1 := by decide +kernel
theorem tyJx3cf43_ok : ∀ k, k < 0 → parseFieldDescriptor (TJx3cf43 k).2.2.1 = some (tyJx3cf43 k) := by decide +kernel
def RJ7 : String := "java/util/Arrays"
def TJ7 : u_T := fun k => match k with
  | _ => ("", "", "", false)
def tyJ7 : Nat → FieldType := fun k => match k with
  | _ => .int
abbrev wsJ70 : List Cond := u_ws RJ7 TJ7 0
theorem nmJ7 : ∀ a, a < 0 → ∀ b, b < 0 → a ≠ b → (TJ7 a).2.1 ≠ (TJ7 b).2.1 := by decide +kernel
theorem tyJ7_ok : ∀ k, k < 0 → parseFieldDescriptor (TJ7 k).2.2.1 = some (tyJ7 k) := by decide +kernel
abbrev cJ7_fill_53178 : ByteArray := prog_14_method_103_code
def yJ7_fill_53178 : MethodName := ⟨RJ7, "fill", "([II)V"⟩
def RJ3 : String := "jdk/internal/util/Preconditions"
def TJ3 : u_T := fun k => match k with
  | _ => ("", "", "", false)
def tyJ3 : Nat → FieldType := fun k => match k with
  | _ => .int
abbrev wsJ30 : List Cond := u_ws RJ3 TJ3 0
theorem nmJ3 : ∀ a, a < 0 → ∀ b, b < 0 → a ≠ b → (TJ3 a).2.1 ≠ (TJ3 b).2.1 := by decide +kernel
theorem tyJ3_ok : ∀ k, k < 0 → parseFieldDescriptor (TJ3 k).2.2.1 = some (tyJ3 k) := by decide +kernel
abbrev cJ3_checkIndex_8e157 : ByteArray := prog_15_method_11_code
def yJ3_checkIndex_8e157 : MethodName := ⟨RJ3, "checkIndex", "(IILjava/util/function/BiFunction;)I"⟩
def RL : String := "NearlyBoughtLaw"
abbrev cL_law : ByteArray := code
def yL_law : MethodName := ⟨RL, "law", "([I)Z"⟩
