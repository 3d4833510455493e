/-! THE LAW'S LOOP (laid by wip/whole/gen/law.py) -/
theorem lw_gt {L i : Nat} (hL : L ≤ 256) (hi : i ≤ 70) (h : ¬ nI L - 4 < nI (4 * i)) : 4 * i + 4 ≤ L := by
  rcases Nat.lt_or_ge L 4 with c0 | c0
  · have h4 : nI L - 4 < 0 := by
      have hh : ∀ k, k < 4 → nI k - 4 < 0 := by decide +kernel
      exact hh L c0
    exact absurd (Int32.lt_of_lt_of_le h4 (show (0 : Int32) ≤ nI (4 * i) from nI_le (Nat.zero_le _) (by omega))) h
  · have e4 : nI L - 4 = nI (L - 4) := by rw [show (4 : Int32) = nI 4 from rfl, pk_sub c0]
    rw [e4, nI_ltI (by omega) (by omega)] at h
    omega
section LWL
variable {p : Program} {l : Launch} {e : Env} {R : Room} {s : State} {m : MethodId} {below : List Frame} {meth : Method} {c : Code} {Q : State → Prop} {D : va_G} {g : G3} {adx adm : Ky → Nat} {b L : Nat} {xs : Nat → Int32}
set_option maxHeartbeats 4000000 in
set_option maxRecDepth 100000 in
theorem lw_sw {i : Nat} {x mm : Mem} {H : Heap} {locs : List Loc} {ls : Array Slot} (C : LwC p s m meth c b L xs) (hW : LwW D g adx adm s x mm H locs) (hi : 4 * i + 4 ≤ L) (hl : lv_has ls 4 [(0, .ref b), (1, .ref (adx (17, 50, 0))), (2, .ref (adm (20, 50, 0))), (3, .int (nI (4 * i)))]) (K : ∀ (x9 m9 : Mem) (H : Heap) (locs : List Loc), LwW D g adx adm s x9 m9 H locs → W p l e room_1 s m #[Value.ref b] below meth c H locs 600000 7302250 Q (F0 m 850 ls [])) (j : Nat) (hj : j < 32) : W p l e room_1 s m #[Value.ref b] below meth c H locs 600000 7302250 Q (F0 m 32 ls [.int (nI j)]) := by
  obtain ⟨hx, hb, -⟩ := id C.1
  have h32 : j = 0 ∨ j = 1 ∨ j = 2 ∨ j = 3 ∨ j = 4 ∨ j = 5 ∨ j = 6 ∨ j = 7 ∨ j = 8 ∨ j = 9 ∨ j = 10 ∨ j = 11 ∨ j = 12 ∨ j = 13 ∨ j = 14 ∨ j = 15 ∨ j = 16 ∨ j = 17 ∨ j = 18 ∨ j = 19 ∨ j = 20 ∨ j = 21 ∨ j = 22 ∨ j = 23 ∨ j = 24 ∨ j = 25 ∨ j = 26 ∨ j = 27 ∨ j = 28 ∨ j = 29 ∨ j = 30 ∨ j = 31 := by omega
  rcases h32 with rfl | rfl | rfl | rfl | rfl | rfl | rfl | rfl | rfl | rfl | rfl | rfl | rfl | rfl | rfl | rfl | rfl | rfl | rfl | rfl | rfl | rfl | rfl | rfl | rfl | rfl | rfl | rfl | rfl | rfl | rfl | rfl
  · exact lv_tableIn (off := 120) (tgt := 152) hx hb dL_law_32 (by decide) (by decide) (by decide +kernel) (by decide) (lwc_0 C hW hi hl K)
  · exact lv_tableIn (off := 143) (tgt := 175) hx hb dL_law_32 (by decide) (by decide) (by decide +kernel) (by decide) (lwc_1 C hW hi hl K)
  · exact lv_tableIn (off := 156) (tgt := 188) hx hb dL_law_32 (by decide) (by decide) (by decide +kernel) (by decide) (lwc_2 C hW hi hl K)
  · exact lv_tableIn (off := 169) (tgt := 201) hx hb dL_law_32 (by decide) (by decide) (by decide +kernel) (by decide) (lwc_3 C hW hi hl K)
  · exact lv_tableIn (off := 182) (tgt := 214) hx hb dL_law_32 (by decide) (by decide) (by decide +kernel) (by decide) (lwc_4 C hW hi hl K)
  · exact lv_tableIn (off := 215) (tgt := 247) hx hb dL_law_32 (by decide) (by decide) (by decide +kernel) (by decide) (lwc_5 C hW hi hl K)
  · exact lv_tableIn (off := 248) (tgt := 280) hx hb dL_law_32 (by decide) (by decide) (by decide +kernel) (by decide) (lwc_6 C hW hi hl K)
  · exact lv_tableIn (off := 291) (tgt := 323) hx hb dL_law_32 (by decide) (by decide) (by decide +kernel) (by decide) (lwc_7 C hW hi hl K)
  · exact lv_tableIn (off := 334) (tgt := 366) hx hb dL_law_32 (by decide) (by decide) (by decide +kernel) (by decide) (lwc_8 C hW hi hl K)
  · exact lv_tableIn (off := 347) (tgt := 379) hx hb dL_law_32 (by decide) (by decide) (by decide +kernel) (by decide) (lwc_9 C hW hi hl K)
  · exact lv_tableIn (off := 390) (tgt := 422) hx hb dL_law_32 (by decide) (by decide) (by decide +kernel) (by decide) (lwc_10 C hW hi hl K)
  · exact lv_tableIn (off := 403) (tgt := 435) hx hb dL_law_32 (by decide) (by decide) (by decide +kernel) (by decide) (lwc_11 C hW hi hl K)
  · exact lv_tableIn (off := 436) (tgt := 468) hx hb dL_law_32 (by decide) (by decide) (by decide +kernel) (by decide) (lwc_12 C hW hi hl K)
  · exact lv_tableIn (off := 459) (tgt := 491) hx hb dL_law_32 (by decide) (by decide) (by decide +kernel) (by decide) (lwc_13 C hW hi hl K)
  · exact lv_tableIn (off := 472) (tgt := 504) hx hb dL_law_32 (by decide) (by decide) (by decide +kernel) (by decide) (lwc_14 C hW hi hl K)
  · exact lv_tableIn (off := 515) (tgt := 547) hx hb dL_law_32 (by decide) (by decide) (by decide +kernel) (by decide) (lwc_15 C hW hi hl K)
  · exact lv_tableIn (off := 548) (tgt := 580) hx hb dL_law_32 (by decide) (by decide) (by decide +kernel) (by decide) (lwc_16 C hW hi hl K)
  · exact lv_tableIn (off := 571) (tgt := 603) hx hb dL_law_32 (by decide) (by decide) (by decide +kernel) (by decide) (lwc_17 C hW hi hl K)
  · exact lv_tableIn (off := 614) (tgt := 646) hx hb dL_law_32 (by decide) (by decide) (by decide +kernel) (by decide) (lwc_18 C hW hi hl K)
  · exact lv_tableIn (off := 627) (tgt := 659) hx hb dL_law_32 (by decide) (by decide) (by decide +kernel) (by decide) (lwc_19 C hW hi hl K)
  · exact lv_tableIn (off := 650) (tgt := 682) hx hb dL_law_32 (by decide) (by decide) (by decide +kernel) (by decide) (lwc_20 C hW hi hl K)
  · exact lv_tableIn (off := 693) (tgt := 725) hx hb dL_law_32 (by decide) (by decide) (by decide +kernel) (by decide) (lwc_21 C hW hi hl K)
  · exact lv_tableIn (off := 726) (tgt := 758) hx hb dL_law_32 (by decide) (by decide) (by decide +kernel) (by decide) (lwc_22 C hW hi hl K)
  · exact lv_tableIn (off := 769) (tgt := 801) hx hb dL_law_32 (by decide) (by decide) (by decide +kernel) (by decide) (lwc_23 C hW hi hl K)
  · exact lv_tableIn (off := 782) (tgt := 814) hx hb dL_law_32 (by decide) (by decide) (by decide +kernel) (by decide) (lwc_24 C hW hi hl K)
  · exact lv_tableIn (off := 795) (tgt := 827) hx hb dL_law_32 (by decide) (by decide) (by decide +kernel) (by decide) (lwc_25 C hW hi hl K)
  · exact lv_tableOut (tgt := 850) hx hb dL_law_32 (by decide) (by decide) (K _ _ _ _ hW)
  · exact lv_tableOut (tgt := 850) hx hb dL_law_32 (by decide) (by decide) (K _ _ _ _ hW)
  · exact lv_tableOut (tgt := 850) hx hb dL_law_32 (by decide) (by decide) (K _ _ _ _ hW)
  · exact lv_tableOut (tgt := 850) hx hb dL_law_32 (by decide) (by decide) (K _ _ _ _ hW)
  · exact lv_tableOut (tgt := 850) hx hb dL_law_32 (by decide) (by decide) (K _ _ _ _ hW)
  · exact lv_tableOut (tgt := 850) hx hb dL_law_32 (by decide) (by decide) (K _ _ _ _ hW)
set_option maxHeartbeats 4000000 in
set_option maxRecDepth 100000 in
theorem lw_loop (C : LwC p s m meth c b L xs) (K : ∀ (H : Heap) (locs : List Loc) (ls : Array Slot), va_S (fun q => s.heap.size ≤ q) s.heap H locs → W p l e room_1 s m #[Value.ref b] below meth c H locs 600000 7302250 Q (F0 m 856 ls [])) (n : Nat) : ∀ (i : Nat) (x mm : Mem) (H : Heap) (locs : List Loc) (ls : Array Slot), i + n = 66 → LwW D g adx adm s x mm H locs → lv_has ls 4 [(0, .ref b), (1, .ref (adx (17, 50, 0))), (2, .ref (adm (20, 50, 0))), (3, .int (nI (4 * i)))] → W p l e room_1 s m #[Value.ref b] below meth c H locs 600000 7302250 Q (F0 m 18 ls []) := by
  obtain ⟨C0, hX, hbl, hL⟩ := id C
  obtain ⟨hx, hb, -, hts, hown, -, hml, hA⟩ := id C0
  have hbA : ¬ (fun q : Nat => s.heap.size ≤ q) b := Nat.not_le.mpr hbl
  induction n with
  | zero =>
    intro i x mm H locs ls hn hW hl
    have hS := hW.1.2.2.2.1
    refine lv_iload_n hx hb dL_law_18 rfl (lv_at hl 3 rfl) ?_
    refine lv_aload_n hx hb dL_law_19 rfl (lv_at hl 0 rfl) ?_
    refine va_slen hx hb hX hbl hbA hS dL_law_20 ?_
    refine lv_iconst (v := 4) hx hb dL_law_21 (by decide) ?_
    refine lv_isub hx hb dL_law_22 ?_
    refine lv_icmp_gt (tgt := 856) hx hb dL_law_23 (by decide) (fun _ => K _ _ _ hS) (fun c0 => ?_)
    have := lw_gt hL (by omega) c0
    omega
  | succ n ih =>
    intro i x mm H locs ls hn hW hl
    have hS := hW.1.2.2.2.1
    refine lv_iload_n hx hb dL_law_18 rfl (lv_at hl 3 rfl) ?_
    refine lv_aload_n hx hb dL_law_19 rfl (lv_at hl 0 rfl) ?_
    refine va_slen hx hb hX hbl hbA hS dL_law_20 ?_
    refine lv_iconst (v := 4) hx hb dL_law_21 (by decide) ?_
    refine lv_isub hx hb dL_law_22 ?_
    refine lv_icmp_gt (tgt := 856) hx hb dL_law_23 (by decide) (fun _ => K _ _ _ hS) (fun c0 => ?_)
    have hi : 4 * i + 4 ≤ L := lw_gt hL (by omega) c0
    refine lv_aload_n hx hb dL_law_26 rfl (lv_at hl 0 rfl) ?_
    refine lv_iload_n hx hb dL_law_27 rfl (lv_at hl 3 rfl) ?_
    refine va_sld hx hb hX hbl hbA hS (vp_in_nI (n := 4 * i) (N := L) (by omega) (by omega)) dL_law_28 ?_
    refine lv_bipush (v := 31) hx hb dL_law_29 (by decide) ?_
    refine lv_iand hx hb dL_law_31 ?_
    obtain ⟨j, hj, ej⟩ := pk_andE (xs (nI (4 * i)).toNatClampNeg) (m := 31) 5 (by decide)
    rw [ej]
    refine lw_sw C hW hi hl (fun x9 m9 H locs hW => ?_) j (by omega)
    refine lv_iinc (v := nI (4 * (i + 1))) (lv' := [(3, .int (nI (4 * (i + 1)))), (0, .ref b), (1, .ref (adx (17, 50, 0))), (2, .ref (adm (20, 50, 0)))]) hx hb dL_law_850 hl (k := 3) rfl (by rw [show Int32.ofInt 4 = nI 4 from rfl, nI_add]; rfl) (by decide) rfl (fun ls hl => ?_)
    refine lv_goto (tgt := 18) hx hb dL_law_853 (by decide) ?_
    exact ih (i + 1) x9 m9 H locs ls (by omega) hW (lv_sub hl [1, 2, 3, 0] rfl)
end LWL
