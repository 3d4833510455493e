section
-- ===== PART A: goes FIRST, ahead of the names: the tables' words, and 'selects' of the private methods out of them =====
/-- a private method of a class that the tables say can be made, by its rows of tables_1 -/
def lw_okq (q : MethodName × Nat) : Prop := (q.1.cls ≠ "java/lang/invoke/MethodHandle" ∧ q.1.cls ≠ "java/lang/invoke/VarHandle") ∧ Cond.instantiable q.1.cls q.2 ∈ tables_1 ∧ Cond.privateMethod q.1 ∈ tables_1 ∧ Cond.instanceMethod q.1 ∈ tables_1
theorem lw_p0 : lw_okq (⟨"NearlyBought", "putFirstText", "()V"⟩, 11) := ⟨⟨by decide +kernel, by decide +kernel⟩, List.mem_of_getElem? (i := 16) (by decide +kernel), List.mem_of_getElem? (i := 181) (by decide +kernel), List.mem_of_getElem? (i := 182) (by decide +kernel)⟩
theorem lw_p1 : lw_okq (⟨"NearlyBought", "layTheText", "()V"⟩, 11) := ⟨⟨by decide +kernel, by decide +kernel⟩, List.mem_of_getElem? (i := 16) (by decide +kernel), List.mem_of_getElem? (i := 237) (by decide +kernel), List.mem_of_getElem? (i := 238) (by decide +kernel)⟩
theorem lw_p2 : lw_okq (⟨"NearlyBought$Reader", "readItem", "([II)Z"⟩, 2) := ⟨⟨by decide +kernel, by decide +kernel⟩, List.mem_of_getElem? (i := 24) (by decide +kernel), List.mem_of_getElem? (i := 249) (by decide +kernel), List.mem_of_getElem? (i := 250) (by decide +kernel)⟩
theorem lw_p3 : lw_okq (⟨"NearlyBought$Reader", "letterAt", "([II)I"⟩, 2) := ⟨⟨by decide +kernel, by decide +kernel⟩, List.mem_of_getElem? (i := 24) (by decide +kernel), List.mem_of_getElem? (i := 253) (by decide +kernel), List.mem_of_getElem? (i := 254) (by decide +kernel)⟩
theorem lw_p4 : lw_okq (⟨"NearlyBought$Reader", "readNumber", "([II)I"⟩, 2) := ⟨⟨by decide +kernel, by decide +kernel⟩, List.mem_of_getElem? (i := 24) (by decide +kernel), List.mem_of_getElem? (i := 260) (by decide +kernel), List.mem_of_getElem? (i := 261) (by decide +kernel)⟩
theorem lw_p5 : lw_okq (⟨"NearlyBought$Tale", "takePerson", "(II)Z"⟩, 12) := ⟨⟨by decide +kernel, by decide +kernel⟩, List.mem_of_getElem? (i := 38) (by decide +kernel), List.mem_of_getElem? (i := 271) (by decide +kernel), List.mem_of_getElem? (i := 272) (by decide +kernel)⟩
theorem lw_p6 : lw_okq (⟨"NearlyBought$Tale", "takeThing", "(I)Z"⟩, 12) := ⟨⟨by decide +kernel, by decide +kernel⟩, List.mem_of_getElem? (i := 38) (by decide +kernel), List.mem_of_getElem? (i := 275) (by decide +kernel), List.mem_of_getElem? (i := 276) (by decide +kernel)⟩
theorem lw_p7 : lw_okq (⟨"NearlyBought$Tale", "takePause", "([I)Z"⟩, 12) := ⟨⟨by decide +kernel, by decide +kernel⟩, List.mem_of_getElem? (i := 38) (by decide +kernel), List.mem_of_getElem? (i := 279) (by decide +kernel), List.mem_of_getElem? (i := 280) (by decide +kernel)⟩
theorem lw_p8 : lw_okq (⟨"NearlyBought$Tale", "takeEarned", "(I)Z"⟩, 12) := ⟨⟨by decide +kernel, by decide +kernel⟩, List.mem_of_getElem? (i := 38) (by decide +kernel), List.mem_of_getElem? (i := 291) (by decide +kernel), List.mem_of_getElem? (i := 292) (by decide +kernel)⟩
theorem lw_p9 : lw_okq (⟨"NearlyBought$Tale", "takeDearer", "(I)Z"⟩, 12) := ⟨⟨by decide +kernel, by decide +kernel⟩, List.mem_of_getElem? (i := 38) (by decide +kernel), List.mem_of_getElem? (i := 295) (by decide +kernel), List.mem_of_getElem? (i := 296) (by decide +kernel)⟩
theorem lw_p10 : lw_okq (⟨"NearlyBought$Market", "addToldPauses", "()V"⟩, 10) := ⟨⟨by decide +kernel, by decide +kernel⟩, List.mem_of_getElem? (i := 93) (by decide +kernel), List.mem_of_getElem? (i := 309) (by decide +kernel), List.mem_of_getElem? (i := 310) (by decide +kernel)⟩
theorem lw_p11 : lw_okq (⟨"NearlyBought$Market", "sell", "(I)Z"⟩, 10) := ⟨⟨by decide +kernel, by decide +kernel⟩, List.mem_of_getElem? (i := 93) (by decide +kernel), List.mem_of_getElem? (i := 439) (by decide +kernel), List.mem_of_getElem? (i := 440) (by decide +kernel)⟩
theorem lw_p12 : lw_okq (⟨"NearlyBought$Market", "buyerInsteadOf", "(II)I"⟩, 10) := ⟨⟨by decide +kernel, by decide +kernel⟩, List.mem_of_getElem? (i := 93) (by decide +kernel), List.mem_of_getElem? (i := 445) (by decide +kernel), List.mem_of_getElem? (i := 446) (by decide +kernel)⟩
theorem lw_p13 : lw_okq (⟨"NearlyBought$Market", "dearestOf", "(I)I"⟩, 10) := ⟨⟨by decide +kernel, by decide +kernel⟩, List.mem_of_getElem? (i := 93) (by decide +kernel), List.mem_of_getElem? (i := 449) (by decide +kernel), List.mem_of_getElem? (i := 450) (by decide +kernel)⟩
theorem lw_p14 : lw_okq (⟨"NearlyBought", "uncountedDraws", "(I)I"⟩, 11) := ⟨⟨by decide +kernel, by decide +kernel⟩, List.mem_of_getElem? (i := 16) (by decide +kernel), List.mem_of_getElem? (i := 534) (by decide +kernel), List.mem_of_getElem? (i := 535) (by decide +kernel)⟩
theorem lw_p15 : lw_okq (⟨"NearlyBought", "addDrawnPause", "(I)V"⟩, 11) := ⟨⟨by decide +kernel, by decide +kernel⟩, List.mem_of_getElem? (i := 16) (by decide +kernel), List.mem_of_getElem? (i := 558) (by decide +kernel), List.mem_of_getElem? (i := 559) (by decide +kernel)⟩
def lw_privs_1 : List (MethodName × Nat) := [(⟨"NearlyBought", "putFirstText", "()V"⟩, 11), (⟨"NearlyBought", "layTheText", "()V"⟩, 11), (⟨"NearlyBought$Reader", "readItem", "([II)Z"⟩, 2), (⟨"NearlyBought$Reader", "letterAt", "([II)I"⟩, 2), (⟨"NearlyBought$Reader", "readNumber", "([II)I"⟩, 2), (⟨"NearlyBought$Tale", "takePerson", "(II)Z"⟩, 12), (⟨"NearlyBought$Tale", "takeThing", "(I)Z"⟩, 12), (⟨"NearlyBought$Tale", "takePause", "([I)Z"⟩, 12), (⟨"NearlyBought$Tale", "takeEarned", "(I)Z"⟩, 12), (⟨"NearlyBought$Tale", "takeDearer", "(I)Z"⟩, 12), (⟨"NearlyBought$Market", "addToldPauses", "()V"⟩, 10), (⟨"NearlyBought$Market", "sell", "(I)Z"⟩, 10), (⟨"NearlyBought$Market", "buyerInsteadOf", "(II)I"⟩, 10), (⟨"NearlyBought$Market", "dearestOf", "(I)I"⟩, 10), (⟨"NearlyBought", "uncountedDraws", "(I)I"⟩, 11), (⟨"NearlyBought", "addDrawnPause", "(I)V"⟩, 11)]
theorem lw_r1 : ∀ q ∈ lw_privs_1, lw_okq q := List.forall_mem_cons.mpr ⟨lw_p0, List.forall_mem_cons.mpr ⟨lw_p1, List.forall_mem_cons.mpr ⟨lw_p2, List.forall_mem_cons.mpr ⟨lw_p3, List.forall_mem_cons.mpr ⟨lw_p4, List.forall_mem_cons.mpr ⟨lw_p5, List.forall_mem_cons.mpr ⟨lw_p6, List.forall_mem_cons.mpr ⟨lw_p7, List.forall_mem_cons.mpr ⟨lw_p8, List.forall_mem_cons.mpr ⟨lw_p9, List.forall_mem_cons.mpr ⟨lw_p10, List.forall_mem_cons.mpr ⟨lw_p11, List.forall_mem_cons.mpr ⟨lw_p12, List.forall_mem_cons.mpr ⟨lw_p13, List.forall_mem_cons.mpr ⟨lw_p14, List.forall_mem_cons.mpr ⟨lw_p15, fun _ h => absurd h List.not_mem_nil⟩⟩⟩⟩⟩⟩⟩⟩⟩⟩⟩⟩⟩⟩⟩⟩
theorem lw_p16 : lw_okq (⟨"NearlyBoughtModel", "begins", "()V"⟩, 14) := ⟨⟨by decide +kernel, by decide +kernel⟩, List.mem_of_getElem? (i := 582) (by decide +kernel), List.mem_of_getElem? (i := 588) (by decide +kernel), List.mem_of_getElem? (i := 589) (by decide +kernel)⟩
theorem lw_p17 : lw_okq (⟨"NearlyBoughtModel", "personOf", "(II)V"⟩, 14) := ⟨⟨by decide +kernel, by decide +kernel⟩, List.mem_of_getElem? (i := 582) (by decide +kernel), List.mem_of_getElem? (i := 592) (by decide +kernel), List.mem_of_getElem? (i := 593) (by decide +kernel)⟩
theorem lw_p18 : lw_okq (⟨"NearlyBoughtModel", "thingOf", "(I)V"⟩, 14) := ⟨⟨by decide +kernel, by decide +kernel⟩, List.mem_of_getElem? (i := 582) (by decide +kernel), List.mem_of_getElem? (i := 596) (by decide +kernel), List.mem_of_getElem? (i := 597) (by decide +kernel)⟩
theorem lw_p19 : lw_okq (⟨"NearlyBoughtModel", "pauseOf", "(IIII)V"⟩, 14) := ⟨⟨by decide +kernel, by decide +kernel⟩, List.mem_of_getElem? (i := 582) (by decide +kernel), List.mem_of_getElem? (i := 600) (by decide +kernel), List.mem_of_getElem? (i := 601) (by decide +kernel)⟩
theorem lw_p20 : lw_okq (⟨"NearlyBoughtModel", "lays", "()V"⟩, 14) := ⟨⟨by decide +kernel, by decide +kernel⟩, List.mem_of_getElem? (i := 582) (by decide +kernel), List.mem_of_getElem? (i := 604) (by decide +kernel), List.mem_of_getElem? (i := 605) (by decide +kernel)⟩
theorem lw_p21 : lw_okq (⟨"NearlyBoughtModel", "starts", "()V"⟩, 14) := ⟨⟨by decide +kernel, by decide +kernel⟩, List.mem_of_getElem? (i := 582) (by decide +kernel), List.mem_of_getElem? (i := 608) (by decide +kernel), List.mem_of_getElem? (i := 609) (by decide +kernel)⟩
theorem lw_p22 : lw_okq (⟨"NearlyBoughtModel", "readsAll", "()I"⟩, 14) := ⟨⟨by decide +kernel, by decide +kernel⟩, List.mem_of_getElem? (i := 582) (by decide +kernel), List.mem_of_getElem? (i := 670) (by decide +kernel), List.mem_of_getElem? (i := 671) (by decide +kernel)⟩
theorem lw_p23 : lw_okq (⟨"NearlyBoughtModel", "readsItem", "(I)Z"⟩, 14) := ⟨⟨by decide +kernel, by decide +kernel⟩, List.mem_of_getElem? (i := 582) (by decide +kernel), List.mem_of_getElem? (i := 674) (by decide +kernel), List.mem_of_getElem? (i := 675) (by decide +kernel)⟩
theorem lw_p24 : lw_okq (⟨"NearlyBoughtModel", "number", "(III)I"⟩, 14) := ⟨⟨by decide +kernel, by decide +kernel⟩, List.mem_of_getElem? (i := 582) (by decide +kernel), List.mem_of_getElem? (i := 678) (by decide +kernel), List.mem_of_getElem? (i := 679) (by decide +kernel)⟩
theorem lw_p25 : lw_okq (⟨"NearlyBoughtModel", "letterAt", "(I)I"⟩, 14) := ⟨⟨by decide +kernel, by decide +kernel⟩, List.mem_of_getElem? (i := 582) (by decide +kernel), List.mem_of_getElem? (i := 682) (by decide +kernel), List.mem_of_getElem? (i := 683) (by decide +kernel)⟩
theorem lw_p26 : lw_okq (⟨"NearlyBoughtModel", "isPerson", "(I)Z"⟩, 14) := ⟨⟨by decide +kernel, by decide +kernel⟩, List.mem_of_getElem? (i := 582) (by decide +kernel), List.mem_of_getElem? (i := 697) (by decide +kernel), List.mem_of_getElem? (i := 698) (by decide +kernel)⟩
theorem lw_p27 : lw_okq (⟨"NearlyBoughtModel", "costs", "(II)I"⟩, 14) := ⟨⟨by decide +kernel, by decide +kernel⟩, List.mem_of_getElem? (i := 582) (by decide +kernel), List.mem_of_getElem? (i := 701) (by decide +kernel), List.mem_of_getElem? (i := 702) (by decide +kernel)⟩
theorem lw_p28 : lw_okq (⟨"NearlyBoughtModel", "thingsOf", "(I)I"⟩, 14) := ⟨⟨by decide +kernel, by decide +kernel⟩, List.mem_of_getElem? (i := 582) (by decide +kernel), List.mem_of_getElem? (i := 705) (by decide +kernel), List.mem_of_getElem? (i := 706) (by decide +kernel)⟩
theorem lw_p29 : lw_okq (⟨"NearlyBoughtModel", "isThing", "(I)Z"⟩, 14) := ⟨⟨by decide +kernel, by decide +kernel⟩, List.mem_of_getElem? (i := 582) (by decide +kernel), List.mem_of_getElem? (i := 713) (by decide +kernel), List.mem_of_getElem? (i := 714) (by decide +kernel)⟩
theorem lw_p30 : lw_okq (⟨"NearlyBoughtModel", "claim", "(I)I"⟩, 14) := ⟨⟨by decide +kernel, by decide +kernel⟩, List.mem_of_getElem? (i := 582) (by decide +kernel), List.mem_of_getElem? (i := 717) (by decide +kernel), List.mem_of_getElem? (i := 718) (by decide +kernel)⟩
theorem lw_p31 : lw_okq (⟨"NearlyBoughtModel", "countedNow", "(II)I"⟩, 14) := ⟨⟨by decide +kernel, by decide +kernel⟩, List.mem_of_getElem? (i := 582) (by decide +kernel), List.mem_of_getElem? (i := 721) (by decide +kernel), List.mem_of_getElem? (i := 722) (by decide +kernel)⟩
def lw_privs_2 : List (MethodName × Nat) := [(⟨"NearlyBoughtModel", "begins", "()V"⟩, 14), (⟨"NearlyBoughtModel", "personOf", "(II)V"⟩, 14), (⟨"NearlyBoughtModel", "thingOf", "(I)V"⟩, 14), (⟨"NearlyBoughtModel", "pauseOf", "(IIII)V"⟩, 14), (⟨"NearlyBoughtModel", "lays", "()V"⟩, 14), (⟨"NearlyBoughtModel", "starts", "()V"⟩, 14), (⟨"NearlyBoughtModel", "readsAll", "()I"⟩, 14), (⟨"NearlyBoughtModel", "readsItem", "(I)Z"⟩, 14), (⟨"NearlyBoughtModel", "number", "(III)I"⟩, 14), (⟨"NearlyBoughtModel", "letterAt", "(I)I"⟩, 14), (⟨"NearlyBoughtModel", "isPerson", "(I)Z"⟩, 14), (⟨"NearlyBoughtModel", "costs", "(II)I"⟩, 14), (⟨"NearlyBoughtModel", "thingsOf", "(I)I"⟩, 14), (⟨"NearlyBoughtModel", "isThing", "(I)Z"⟩, 14), (⟨"NearlyBoughtModel", "claim", "(I)I"⟩, 14), (⟨"NearlyBoughtModel", "countedNow", "(II)I"⟩, 14)]
theorem lw_r2 : ∀ q ∈ lw_privs_2, lw_okq q := List.forall_mem_cons.mpr ⟨lw_p16, List.forall_mem_cons.mpr ⟨lw_p17, List.forall_mem_cons.mpr ⟨lw_p18, List.forall_mem_cons.mpr ⟨lw_p19, List.forall_mem_cons.mpr ⟨lw_p20, List.forall_mem_cons.mpr ⟨lw_p21, List.forall_mem_cons.mpr ⟨lw_p22, List.forall_mem_cons.mpr ⟨lw_p23, List.forall_mem_cons.mpr ⟨lw_p24, List.forall_mem_cons.mpr ⟨lw_p25, List.forall_mem_cons.mpr ⟨lw_p26, List.forall_mem_cons.mpr ⟨lw_p27, List.forall_mem_cons.mpr ⟨lw_p28, List.forall_mem_cons.mpr ⟨lw_p29, List.forall_mem_cons.mpr ⟨lw_p30, List.forall_mem_cons.mpr ⟨lw_p31, fun _ h => absurd h List.not_mem_nil⟩⟩⟩⟩⟩⟩⟩⟩⟩⟩⟩⟩⟩⟩⟩⟩
theorem lw_p32 : lw_okq (⟨"NearlyBoughtModel", "pauseNow", "(II)I"⟩, 14) := ⟨⟨by decide +kernel, by decide +kernel⟩, List.mem_of_getElem? (i := 582) (by decide +kernel), List.mem_of_getElem? (i := 725) (by decide +kernel), List.mem_of_getElem? (i := 726) (by decide +kernel)⟩
theorem lw_p33 : lw_okq (⟨"NearlyBoughtModel", "countedOf", "(II)I"⟩, 14) := ⟨⟨by decide +kernel, by decide +kernel⟩, List.mem_of_getElem? (i := 582) (by decide +kernel), List.mem_of_getElem? (i := 732) (by decide +kernel), List.mem_of_getElem? (i := 733) (by decide +kernel)⟩
theorem lw_p34 : lw_okq (⟨"NearlyBoughtModel", "isNearly", "(II)Z"⟩, 14) := ⟨⟨by decide +kernel, by decide +kernel⟩, List.mem_of_getElem? (i := 582) (by decide +kernel), List.mem_of_getElem? (i := 740) (by decide +kernel), List.mem_of_getElem? (i := 741) (by decide +kernel)⟩
theorem lw_p35 : lw_okq (⟨"NearlyBoughtModel", "priceOf", "(II)I"⟩, 14) := ⟨⟨by decide +kernel, by decide +kernel⟩, List.mem_of_getElem? (i := 582) (by decide +kernel), List.mem_of_getElem? (i := 744) (by decide +kernel), List.mem_of_getElem? (i := 745) (by decide +kernel)⟩
theorem lw_p36 : lw_okq (⟨"NearlyBoughtModel", "keeps", "()V"⟩, 14) := ⟨⟨by decide +kernel, by decide +kernel⟩, List.mem_of_getElem? (i := 582) (by decide +kernel), List.mem_of_getElem? (i := 752) (by decide +kernel), List.mem_of_getElem? (i := 753) (by decide +kernel)⟩
theorem lw_p37 : lw_okq (⟨"NearlyBoughtModel", "pauses", "(III)V"⟩, 14) := ⟨⟨by decide +kernel, by decide +kernel⟩, List.mem_of_getElem? (i := 582) (by decide +kernel), List.mem_of_getElem? (i := 756) (by decide +kernel), List.mem_of_getElem? (i := 757) (by decide +kernel)⟩
theorem lw_p38 : lw_okq (⟨"NearlyBoughtModel", "holds", "()I"⟩, 14) := ⟨⟨by decide +kernel, by decide +kernel⟩, List.mem_of_getElem? (i := 582) (by decide +kernel), List.mem_of_getElem? (i := 764) (by decide +kernel), List.mem_of_getElem? (i := 765) (by decide +kernel)⟩
theorem lw_p39 : lw_okq (⟨"NearlyBoughtModel", "offers", "(II)V"⟩, 14) := ⟨⟨by decide +kernel, by decide +kernel⟩, List.mem_of_getElem? (i := 582) (by decide +kernel), List.mem_of_getElem? (i := 768) (by decide +kernel), List.mem_of_getElem? (i := 769) (by decide +kernel)⟩
theorem lw_p40 : lw_okq (⟨"NearlyBoughtModel", "sells", "(III)V"⟩, 14) := ⟨⟨by decide +kernel, by decide +kernel⟩, List.mem_of_getElem? (i := 582) (by decide +kernel), List.mem_of_getElem? (i := 772) (by decide +kernel), List.mem_of_getElem? (i := 773) (by decide +kernel)⟩
theorem lw_p41 : lw_okq (⟨"NearlyBoughtModel", "dearest", "(I)I"⟩, 14) := ⟨⟨by decide +kernel, by decide +kernel⟩, List.mem_of_getElem? (i := 582) (by decide +kernel), List.mem_of_getElem? (i := 776) (by decide +kernel), List.mem_of_getElem? (i := 777) (by decide +kernel)⟩
theorem lw_p42 : lw_okq (⟨"NearlyBoughtModel", "remembers", "()V"⟩, 14) := ⟨⟨by decide +kernel, by decide +kernel⟩, List.mem_of_getElem? (i := 582) (by decide +kernel), List.mem_of_getElem? (i := 792) (by decide +kernel), List.mem_of_getElem? (i := 793) (by decide +kernel)⟩
theorem lw_p43 : lw_okq (⟨"NearlyBoughtModel", "whoseBehind", "(II)I"⟩, 14) := ⟨⟨by decide +kernel, by decide +kernel⟩, List.mem_of_getElem? (i := 582) (by decide +kernel), List.mem_of_getElem? (i := 796) (by decide +kernel), List.mem_of_getElem? (i := 797) (by decide +kernel)⟩
theorem lw_p44 : lw_okq (⟨"NearlyBoughtModel", "lets", "()V"⟩, 14) := ⟨⟨by decide +kernel, by decide +kernel⟩, List.mem_of_getElem? (i := 582) (by decide +kernel), List.mem_of_getElem? (i := 800) (by decide +kernel), List.mem_of_getElem? (i := 801) (by decide +kernel)⟩
theorem lw_p45 : lw_okq (⟨"NearlyBoughtModel", "goesBehind", "(I)I"⟩, 14) := ⟨⟨by decide +kernel, by decide +kernel⟩, List.mem_of_getElem? (i := 582) (by decide +kernel), List.mem_of_getElem? (i := 808) (by decide +kernel), List.mem_of_getElem? (i := 809) (by decide +kernel)⟩
theorem lw_p46 : lw_okq (⟨"NearlyBoughtModel", "wants", "(I)I"⟩, 14) := ⟨⟨by decide +kernel, by decide +kernel⟩, List.mem_of_getElem? (i := 582) (by decide +kernel), List.mem_of_getElem? (i := 829) (by decide +kernel), List.mem_of_getElem? (i := 830) (by decide +kernel)⟩
theorem lw_p47 : lw_okq (⟨"NearlyBoughtModel", "isSo", "(I)Z"⟩, 14) := ⟨⟨by decide +kernel, by decide +kernel⟩, List.mem_of_getElem? (i := 582) (by decide +kernel), List.mem_of_getElem? (i := 845) (by decide +kernel), List.mem_of_getElem? (i := 846) (by decide +kernel)⟩
def lw_privs_3 : List (MethodName × Nat) := [(⟨"NearlyBoughtModel", "pauseNow", "(II)I"⟩, 14), (⟨"NearlyBoughtModel", "countedOf", "(II)I"⟩, 14), (⟨"NearlyBoughtModel", "isNearly", "(II)Z"⟩, 14), (⟨"NearlyBoughtModel", "priceOf", "(II)I"⟩, 14), (⟨"NearlyBoughtModel", "keeps", "()V"⟩, 14), (⟨"NearlyBoughtModel", "pauses", "(III)V"⟩, 14), (⟨"NearlyBoughtModel", "holds", "()I"⟩, 14), (⟨"NearlyBoughtModel", "offers", "(II)V"⟩, 14), (⟨"NearlyBoughtModel", "sells", "(III)V"⟩, 14), (⟨"NearlyBoughtModel", "dearest", "(I)I"⟩, 14), (⟨"NearlyBoughtModel", "remembers", "()V"⟩, 14), (⟨"NearlyBoughtModel", "whoseBehind", "(II)I"⟩, 14), (⟨"NearlyBoughtModel", "lets", "()V"⟩, 14), (⟨"NearlyBoughtModel", "goesBehind", "(I)I"⟩, 14), (⟨"NearlyBoughtModel", "wants", "(I)I"⟩, 14), (⟨"NearlyBoughtModel", "isSo", "(I)Z"⟩, 14)]
theorem lw_r3 : ∀ q ∈ lw_privs_3, lw_okq q := List.forall_mem_cons.mpr ⟨lw_p32, List.forall_mem_cons.mpr ⟨lw_p33, List.forall_mem_cons.mpr ⟨lw_p34, List.forall_mem_cons.mpr ⟨lw_p35, List.forall_mem_cons.mpr ⟨lw_p36, List.forall_mem_cons.mpr ⟨lw_p37, List.forall_mem_cons.mpr ⟨lw_p38, List.forall_mem_cons.mpr ⟨lw_p39, List.forall_mem_cons.mpr ⟨lw_p40, List.forall_mem_cons.mpr ⟨lw_p41, List.forall_mem_cons.mpr ⟨lw_p42, List.forall_mem_cons.mpr ⟨lw_p43, List.forall_mem_cons.mpr ⟨lw_p44, List.forall_mem_cons.mpr ⟨lw_p45, List.forall_mem_cons.mpr ⟨lw_p46, List.forall_mem_cons.mpr ⟨lw_p47, fun _ h => absurd h List.not_mem_nil⟩⟩⟩⟩⟩⟩⟩⟩⟩⟩⟩⟩⟩⟩⟩⟩
theorem lw_p48 : lw_okq (⟨"NearlyBoughtModel", "taken", "()I"⟩, 14) := ⟨⟨by decide +kernel, by decide +kernel⟩, List.mem_of_getElem? (i := 582) (by decide +kernel), List.mem_of_getElem? (i := 864) (by decide +kernel), List.mem_of_getElem? (i := 865) (by decide +kernel)⟩
theorem lw_p49 : lw_okq (⟨"NearlyBoughtModel", "allCoins", "()I"⟩, 14) := ⟨⟨by decide +kernel, by decide +kernel⟩, List.mem_of_getElem? (i := 582) (by decide +kernel), List.mem_of_getElem? (i := 868) (by decide +kernel), List.mem_of_getElem? (i := 869) (by decide +kernel)⟩
def lw_privs_4 : List (MethodName × Nat) := [(⟨"NearlyBoughtModel", "taken", "()I"⟩, 14), (⟨"NearlyBoughtModel", "allCoins", "()I"⟩, 14)]
theorem lw_r4 : ∀ q ∈ lw_privs_4, lw_okq q := List.forall_mem_cons.mpr ⟨lw_p48, List.forall_mem_cons.mpr ⟨lw_p49, fun _ h => absurd h List.not_mem_nil⟩⟩
def lw_privs : List (MethodName × Nat) := lw_privs_1 ++ (lw_privs_2 ++ (lw_privs_3 ++ (lw_privs_4)))
def lw_tbl : List Cond := k2_sels lw_privs ++ tables_1
theorem lw_privs_ok : ∀ q ∈ lw_privs, lw_okq q := by
  show ∀ q ∈ lw_privs_1 ++ (lw_privs_2 ++ (lw_privs_3 ++ (lw_privs_4))), lw_okq q
  exact List.forall_mem_append.mpr ⟨lw_r1, List.forall_mem_append.mpr ⟨lw_r2, List.forall_mem_append.mpr ⟨lw_r3, lw_r4⟩⟩⟩
end
section
/-! ===== BEGIN words of one list among another's, by their places ===== -/
theorem goodIn_r {big : List Cond} (ws : List Cond) (ps : List Nat) (hp : ws = ps.filterMap (fun i => big[i]?)) (h : ws.all goodWord = true) : GoodIn big ws := by
  intro w hw
  have h1 := List.all_eq_true.mp h w hw
  rw [hp] at hw
  obtain ⟨i, -, hi⟩ := List.mem_filterMap.mp hw
  have hm : w ∈ big := by first | exact List.mem_of_getElem? hi | exact List.getElem?_mem hi
  exact ⟨hm, good_of_word h1⟩
theorem goodIn_app {big a b : List Cond} (ha : GoodIn big a) (hb : GoodIn big b) : GoodIn big (a ++ b) := fun w h => (List.mem_append.mp h).elim (ha w) (hb w)
theorem goodIn_ca {big a b : List Cond} {c : Cond} (ha : GoodIn big (c :: a)) (hb : GoodIn big b) : GoodIn big (c :: (a ++ b)) := fun w h => (List.mem_cons.mp h).elim (fun e => ha w (List.mem_cons.mpr (Or.inl e))) (fun h => (List.mem_append.mp h).elim (fun h => ha w (List.mem_cons.mpr (Or.inr h))) (hb w))
theorem goodIn_sub {big ws : List Cond} (hm : ∀ w ∈ ws, w ∈ big) (h : ws.all goodWord = true) : GoodIn big ws := fun w hw => ⟨hm w hw, good_of_word (List.all_eq_true.mp h w hw)⟩
/-! ===== END ===== -/

/-! ===== BEGIN new T[n][m]: the outer array a place, the inner ones among the pooled ===== -/
/-- f, but v at every address of l -/
def vr_up {α : Type} (f : Nat → α) (l : List Nat) (v : α) : Nat → α := fun a => if a ∈ l then v else f a
theorem vr_up_in {α : Type} {f : Nat → α} {l : List Nat} {v : α} {a : Nat} (h : a ∈ l) : vr_up f l v a = v := if_pos h
theorem vr_up_ne {α : Type} {f : Nat → α} {l : List Nat} {v : α} {a : Nat} (h : a ∉ l) : vr_up f l v a = f a := if_neg h
theorem vr_rows {L l : List Nat} {f : Nat → va_E} {e : va_E} (h : ∀ a, a ∈ l → a ∉ L) : va_pl L f ++ l.map (fun a => (a, e)) = va_pl (L ++ l) (vr_up f l e) := by
  unfold va_pl
  rw [List.map_append]
  congr 1
  · apply List.map_congr_left
    intro a ha
    rw [vr_up_ne (fun q => h a q ha)]
  · apply List.map_congr_left
    intro a ha
    rw [vr_up_in ha]
theorem vr_lay {X rows : va_W} {x : Nat × va_E} {pl : va_W} {D : va_G} {cl : List vw_C} {H : Heap} (hP : va_P D cl (((X ++ pl) ++ [x]) ++ rows) H) : va_P D cl ((X ++ [x]) ++ (pl ++ rows)) H := by
  rw [List.append_assoc (X ++ pl)] at hP
  have h := va_P.swap hP
  rw [← List.append_assoc X] at h
  have h2 := va_P.swap h
  rw [List.append_assoc (X ++ [x])] at h2
  exact h2
theorem vr_layD {X rows : va_W} {x : Nat × va_E} {pl : va_W} {A : Nat → Prop} (hD : va_D A (((X ++ pl) ++ [x]) ++ rows)) : va_D A ((X ++ [x]) ++ (pl ++ rows)) := by
  rw [List.append_assoc (X ++ pl)] at hD
  have h := va_D.swap hD
  rw [← List.append_assoc X] at h
  have h2 := va_D.swap h
  rw [List.append_assoc (X ++ [x])] at h2
  exact h2
theorem vr_outer (c : ClassId) (N h0 : Nat) : ∀ i : Nat, Jvm.Free.Multi.outerC c N h0 i = arrV c N (fun j => va_rf (if j < i then some (h0 + 1 + j) else none))
  | 0 => by
    show ({ cls := c, slots := Array.replicate N .null, vm := .none } : Cell) = _
    rw [arrV_new]
    refine congrArg (arrV c N) (funext fun j => ?_)
    simp [va_rf]
  | i + 1 => by
    show (Jvm.Free.Multi.outerC c N h0 i).setSlot i (.ref (h0 + 1 + i)) = _
    rw [vr_outer c N h0 i, arrV_store]
    refine congrArg (arrV c N) (funext fun j => ?_)
    by_cases e : j = i
    · subst e
      simp [updV, va_rf]
    · by_cases h : j < i
      · simp [updV, e, h, Nat.lt_succ_of_lt h]
      · simp [updV, e, h, show ¬ j < i + 1 by omega]
/-- the printed rows name it, and no kit row says it: an array class whose component is an array class is known -/
def va_AOA (t : FieldType) (U : State) : Prop := (Cond.arrayOver (.array t)).before #[] U = true
theorem va_AOA.use {t : FieldType} {A : Array Value} {U : State} (h : va_AOA t U) : (Cond.arrayOver (.array t)).before A U = true := h
theorem va_AOA.of {t : FieldType} {A : Array Value} {U : State} (h : (Cond.arrayOver (.array t)).before A U = true) : va_AOA t U := h
section VGM
variable {p : Program} {l : Launch} {e : Env} {R : Room} {s : State} {m : MethodId} {args : Array Value} {below : List Frame} {meth : Method} {c : Code} {H : Heap} {locs : List Loc} {cells slots : Nat} {Q : State → Prop}
variable {cc : ByteArray} {pc : Nat} {ls : Array Slot} {rest : List Value} {D : va_G} {cl : List vw_C} {A : Nat → Prop} {a : Nat} {tys : List (ClassId × FieldType)} {ws : va_W} {H0 : Heap}
theorem va_mna {X : va_W} {L : List Nat} {f : Nat → va_E} {cc : ByteArray} (hexec : p.tables.exec = Jvm.exec) (hb : c.code = cc) {own : String} {index : Nat} {ty : FieldType} {cy : ClassId} (hown : s.vm.findClass own = some m.cls) (hclink : (Cond.classLink own index ("[" ++ (FieldType.array ty).toString)).before args s = true) (hover : va_AOA ty s) (harr : (Cond.arrayClass ty).before args s = true) (hcy : s.vm.findClass (FieldType.array ty).toString = some cy)
    (hK : va_K D cl tys s) (hP : va_P D cl (X ++ va_pl L f) H) (hD : va_D A (X ++ va_pl L f)) (hS : va_S A H0 H locs) (hA : ∀ q, H0.size ≤ q → A q) {n k : Int32} {N' K' : Nat} {z : vp_A} (hn : ¬ n < 0) (hk : ¬ k < 0) (hN : n.toNatClampNeg = N') (hM : k.toNatClampNeg = K')
    (hb1 : N' * 4 ≤ 536870912) (hb2 : K' * componentBytes ty ≤ 536870912) (hb3 : K' ≤ 536870912) (hdf : fits ty (defaultValue ty) = true) (hdd : (defaultValue ty).isDefault = true) (hcells : cells + (1 + N') ≤ R.cells) (hslots : slots + (N' + N' * K') ≤ R.slots) (hz : ∀ c : ClassId, Jvm.Free.Multi.innerC c K' (defaultValue ty) = vp_cell c z) (hdg : decode cc pc = .ok (.multianewarray index 2, 4))
    (kk : ∀ (q : Nat) (r : Nat → Nat) (cA : ClassId) (H1 : Heap), (∀ i j : Nat, i < N' → j < N' → r i = r j → i = j) → (∀ i : Nat, i < N' → r i ∉ L) → va_K D cl (tys ++ [(cA, .array ty)]) s →
      va_P D cl ((X ++ [(q, .inl (cA, N', .inr (.inr (.inr (.inr (fun i => if i < N' then some (r i) else none))))))]) ++ va_pl (L ++ (List.range N').map r) (vr_up f ((List.range N').map r) (.inl (cy, z)))) H1 → va_D A ((X ++ [(q, .inl (cA, N', .inr (.inr (.inr (.inr (fun i => if i < N' then some (r i) else none))))))]) ++ va_pl (L ++ (List.range N').map r) (vr_up f ((List.range N').map r) (.inl (cy, z)))) → va_S A H0 H1 locs →
      W p l e R s m args below meth c H1 locs (cells + 1 + N') (slots + N' + N' * K') Q (F0 m (pc + 4) ls (.ref q :: rest))) : W p l e R s m args below meth c H locs cells slots Q (F0 m pc ls (.int k :: .int n :: rest)) := by
  subst hN
  subst hM
  intro T hT Xs
  obtain ⟨vm₁, cA, comp, -, fA, fC, hO, -, X', step⟩ := Xs.multianewarray2F hexec hown hclink (va_AOA.use hover) harr (g := F0 m pc ls (.int k :: .int n :: rest)) rfl (by rw [hb]; exact hdg) rfl hn hk hb1 hb2 hb3 hdf hdd hcells hslots
  have ec : some cy = some comp := hcy.symm.trans fC
  cases ec
  generalize hF : Jvm.Free.Multi.fill (T.setVm vm₁) cA cy n.toNatClampNeg k.toNatClampNeg (defaultValue ty) n.toNatClampNeg = F at X' step
  have hTh : (T.setVm vm₁).heap = H := hT
  obtain ⟨f1, f2, -, -⟩ := Jvm.Free.Multi.fill_facts (T.setVm vm₁) cA cy n.toNatClampNeg k.toNatClampNeg (defaultValue ty) n.toNatClampNeg
  rw [hF, hTh] at f1 f2
  have hold : ∀ x : Nat, x < H.size → F.heap[x]? = H[x]? := fun x hx => by
    have := Jvm.Free.Multi.fill_old (T.setVm vm₁) cA cy n.toNatClampNeg k.toNatClampNeg (defaultValue ty) (a := x) (by rw [hTh]; exact hx) n.toNatClampNeg
    rw [hF, hTh] at this
    exact this
  have hrow : ∀ j : Nat, j < n.toNatClampNeg → F.heap[H.size + 1 + j]? = some (vp_cell cy z) := fun j hj => by
    have := Jvm.Free.Multi.fill_inner (T.setVm vm₁) cA cy n.toNatClampNeg k.toNatClampNeg (defaultValue ty) n.toNatClampNeg j hj
    rw [hF, hTh, hz] at this
    exact this
  have hout : Jvm.Free.Multi.outerC cA n.toNatClampNeg H.size n.toNatClampNeg = vp_cell cA (n.toNatClampNeg, .inr (.inr (.inr (.inr (fun i => if i < n.toNatClampNeg then some (H.size + 1 + i) else none))))) := by
    rw [vp_cell_q]
    exact vr_outer cA n.toNatClampNeg H.size n.toNatClampNeg
  rw [hout] at f2
  have hlt : ∀ a, a ∈ L → a < H.size := fun a ha => by
    obtain ⟨k9, hk9⟩ := va_pl_get (X := X) (f := f) ha
    exact (hP k9 _ hk9).lt
  have hnl : ∀ i : Nat, i < n.toNatClampNeg → H.size + 1 + i ∉ L := fun i _ h => by
    have := hlt _ h
    omega
  have hnm : ∀ a, a ∈ (List.range n.toNatClampNeg).map (fun i => H.size + 1 + i) → a ∉ L := fun a ha h => by
    obtain ⟨i, -, rfl⟩ := List.mem_map.mp ha
    have := hlt _ h
    omega
  have hP0 : va_P D cl (X ++ va_pl L f) F.heap := hP.kept (fun k9 x hx => hold x.1 ((hP k9 x hx).lt))
  have hP1 : va_P D cl ((X ++ va_pl L f) ++ [(H.size, .inl (cA, n.toNatClampNeg, .inr (.inr (.inr (.inr (fun i => if i < n.toNatClampNeg then some (H.size + 1 + i) else none))))))]) F.heap := hP0.app (fun k9 x hx => by
    have h0 : k9 < 1 := (List.getElem?_eq_some_iff.mp hx).1
    rw [show k9 = 0 by omega] at hx
    cases hx
    exact f2)
  have hP2 : va_P D cl (((X ++ va_pl L f) ++ [(H.size, .inl (cA, n.toNatClampNeg, .inr (.inr (.inr (.inr (fun i => if i < n.toNatClampNeg then some (H.size + 1 + i) else none))))))]) ++ ((List.range n.toNatClampNeg).map (fun i => H.size + 1 + i)).map (fun a => (a, .inl (cy, z)))) F.heap := hP1.app (fun k9 x hx => by
    obtain ⟨a, ha, rfl⟩ := List.mem_map.mp (List.mem_of_getElem? hx)
    obtain ⟨i, hi, rfl⟩ := List.mem_map.mp ha
    exact hrow i (List.mem_range.mp hi))
  have hD2 : va_D A (((X ++ va_pl L f) ++ [(H.size, .inl (cA, n.toNatClampNeg, .inr (.inr (.inr (.inr (fun i => if i < n.toNatClampNeg then some (H.size + 1 + i) else none))))))]) ++ ((List.range n.toNatClampNeg).map (fun i => H.size + 1 + i)).map (fun a => (a, .inl (cy, z)))) := by
    have hD1 := hD.push (e := .inl (cA, n.toNatClampNeg, .inr (.inr (.inr (.inr (fun i => if i < n.toNatClampNeg then some (H.size + 1 + i) else none)))))) hP rfl (hA _ hS.1)
    generalize hW1 : (X ++ va_pl L f) ++ [(H.size, .inl (cA, n.toNatClampNeg, .inr (.inr (.inr (.inr (fun i => if i < n.toNatClampNeg then some (H.size + 1 + i) else none))))))] = W1 at hD1 hP1 ⊢
    have hle : ∀ (k9 : Nat) (x : Nat × va_E), W1[k9]? = some x → x.1 ≤ H.size := fun k9 x hx => by
      rw [← hW1] at hx
      by_cases hl : k9 < (X ++ va_pl L f).length
      · rw [List.getElem?_append_left hl] at hx
        exact Nat.le_of_lt ((hP k9 x hx).lt)
      · rw [List.getElem?_append_right (by omega)] at hx
        have h0 : k9 - (X ++ va_pl L f).length < 1 := (List.getElem?_eq_some_iff.mp hx).1
        rw [show k9 - (X ++ va_pl L f).length = 0 by omega] at hx
        cases hx
        exact Nat.le_refl _
    have hr : ∀ (k9 : Nat) (x : Nat × va_E), (((List.range n.toNatClampNeg).map (fun i => H.size + 1 + i)).map (fun a => ((a, .inl (cy, z)) : Nat × va_E)))[k9]? = some x → x.1 = H.size + 1 + k9 := fun k9 x hx => by
      rw [List.getElem?_map, List.getElem?_map] at hx
      by_cases h9 : k9 < n.toNatClampNeg
      · rw [List.getElem?_range h9] at hx
        cases hx
        rfl
      · have hn0 : (List.range n.toNatClampNeg)[k9]? = none := List.getElem?_eq_none (by rw [List.length_range]; omega)
        rw [hn0] at hx
        cases hx
    refine ⟨fun i j x y hi hj hxy => ?_, fun k9 x hx => ?_⟩
    · by_cases h1 : i < W1.length <;> by_cases h2 : j < W1.length
      · rw [List.getElem?_append_left h1] at hi
        rw [List.getElem?_append_left h2] at hj
        exact hD1.1 i j x y hi hj hxy
      · rw [List.getElem?_append_left h1] at hi
        rw [List.getElem?_append_right (by omega)] at hj
        have := hle _ _ hi
        have := hr _ _ hj
        omega
      · rw [List.getElem?_append_right (by omega)] at hi
        rw [List.getElem?_append_left h2] at hj
        have := hle _ _ hj
        have := hr _ _ hi
        omega
      · rw [List.getElem?_append_right (by omega)] at hi hj
        have := hr _ _ hi
        have := hr _ _ hj
        omega
    · by_cases h1 : k9 < W1.length
      · rw [List.getElem?_append_left h1] at hx
        exact hD1.2 k9 x hx
      · rw [List.getElem?_append_right (by omega)] at hx
        have := hr _ _ hx
        exact hA _ (by have := hS.1; omega)
  have hAr : ArrOfT s cA (.array ty) := fun N9 z9 => by
    obtain ⟨-, k9, hk9, cm9, hkk9⟩ := (hO 0 0 0).1
    exact ⟨(fun q hq => by cases hq), k9, hk9, cm9, hkk9⟩
  have hK2 : va_K D cl (tys ++ [(cA, .array ty)]) s := ⟨hK.1, fun k9 x hx => by
    by_cases hl : k9 < tys.length
    · rw [List.getElem?_append_left hl] at hx
      exact hK.2 k9 x hx
    · rw [List.getElem?_append_right (by omega)] at hx
      have h0 : k9 - tys.length < 1 := (List.getElem?_eq_some_iff.mp hx).1
      rw [show k9 - tys.length = 0 by omega] at hx
      cases hx
      exact ⟨hAr, fA⟩⟩
  obtain ⟨t, a1, b1⟩ := kk H.size (fun i => H.size + 1 + i) cA F.heap (fun i j _ _ h => by have h9 : H.size + 1 + i = H.size + 1 + j := h; omega) hnl hK2 (by rw [← vr_rows hnm]; exact vr_lay hP2) (by rw [← vr_rows hnm]; exact vr_layD hD2) ⟨by rw [f1]; have := hS.1; omega, fun x h1 h2 => (hold x (Nat.lt_of_lt_of_le h1 hS.1)).trans (hS.2.1 x h1 h2), hS.2.2⟩ F rfl X'
  refine ⟨t, step t ?_, b1⟩
  have e : T.heap.size = H.size := by rw [hT]
  rw [e]
  exact a1
end VGM
/-! ===== END ===== -/

/-! ===== BEGIN printed: names, fields, word lists, decode rows ===== -/
def RX0 : String := "NearlyBought$History"
def TX0 : u_T := fun k => match k with
  | 0 => ("NearlyBought$History", "before", "[LNearlyBought$Market;", true)
  | 1 => ("NearlyBought$History", "next", "I", false)
  | _ => ("NearlyBought$History", "size", "I", false)
def tyX0 : Nat → FieldType := fun k => match k with
  | 0 => .array (.object "NearlyBought$Market")
  | 1 => .int
  | _ => .int
abbrev wsX00 : List Cond := u_ws RX0 TX0 3
theorem nmX0 : ∀ a, a < 3 → ∀ b, b < 3 → a ≠ b → (TX0 a).2.1 ≠ (TX0 b).2.1 := by decide +kernel
theorem tyX0_ok : ∀ k, k < 3 → parseFieldDescriptor (TX0 k).2.2.1 = some (tyX0 k) := by decide +kernel
abbrev cX0_init : ByteArray := prog_2_method_1_code
def yX0_init : MethodName := ⟨RX0, "<init>", "(LNearlyBought$Tale;)V"⟩
abbrev cX0_remember : ByteArray := prog_2_method_2_code
def yX0_remember : MethodName := ⟨RX0, "remember", "(LNearlyBought$Market;)V"⟩
abbrev cX0_restore : ByteArray := prog_2_method_3_code
def yX0_restore : MethodName := ⟨RX0, "restore", "(LNearlyBought$Market;)V"⟩
def RX1 : String := "NearlyBought$Market"
def TX1 : u_T := fun k => match k with
  | 0 => ("NearlyBought$Market", "tale", "LNearlyBought$Tale;", true)
  | 1 => ("NearlyBought$Market", "year", "I", false)
  | 2 => ("NearlyBought$Market", "silent", "I", false)
  | 3 => ("NearlyBought$Market", "coins", "[I", true)
  | 4 => ("NearlyBought$Market", "owner", "[I", true)
  | 5 => ("NearlyBought$Market", "missed", "[I", true)
  | 6 => ("NearlyBought$Market", "breaths", "[[I", true)
  | 7 => ("NearlyBought$Market", "since", "[[I", true)
  | 8 => ("NearlyBought$Market", "counted", "[[I", true)
  | _ => ("NearlyBought$Market", "price", "[[I", true)
def tyX1 : Nat → FieldType := fun k => match k with
  | 0 => .object "NearlyBought$Tale"
  | 1 => .int
  | 2 => .int
  | 3 => .array .int
  | 4 => .array .int
  | 5 => .array .int
  | 6 => .array (.array .int)
  | 7 => .array (.array .int)
  | 8 => .array (.array .int)
  | _ => .array (.array .int)
abbrev wsX10 : List Cond := u_ws RX1 TX1 10
theorem nmX1 : ∀ a, a < 10 → ∀ b, b < 10 → a ≠ b → (TX1 a).2.1 ≠ (TX1 b).2.1 := by decide +kernel
theorem tyX1_ok : ∀ k, k < 10 → parseFieldDescriptor (TX1 k).2.2.1 = some (tyX1 k) := by decide +kernel
abbrev cX1_init : ByteArray := prog_3_method_1_code
def yX1_init : MethodName := ⟨RX1, "<init>", "(LNearlyBought$Tale;)V"⟩
abbrev cX1_begin : ByteArray := prog_3_method_2_code
def yX1_begin : MethodName := ⟨RX1, "begin", "(I)V"⟩
abbrev cX1_copyFrom : ByteArray := prog_3_method_3_code
def yX1_copyFrom : MethodName := ⟨RX1, "copyFrom", "(LNearlyBought$Market;)V"⟩
abbrev cX1_addPause : ByteArray := prog_3_method_4_code
def yX1_addPause : MethodName := ⟨RX1, "addPause", "(III)V"⟩
abbrev cX1_addToldPauses : ByteArray := prog_3_method_5_code
def yX1_addToldPauses : MethodName := ⟨RX1, "addToldPauses", "()V"⟩
abbrev cX1_isFree : ByteArray := prog_3_method_6_code
def yX1_isFree : MethodName := ⟨RX1, "isFree", "(I)Z"⟩
abbrev cX1_claimantOf : ByteArray := prog_3_method_7_code
def yX1_claimantOf : MethodName := ⟨RX1, "claimantOf", "(I)I"⟩
abbrev cX1_holdFair : ByteArray := prog_3_method_8_code
def yX1_holdFair : MethodName := ⟨RX1, "holdFair", "()I"⟩
abbrev cX1_holdFairs : ByteArray := prog_3_method_9_code
def yX1_holdFairs : MethodName := ⟨RX1, "holdFairs", "(I)V"⟩
abbrev cX1_fairsTillGone : ByteArray := prog_3_method_10_code
def yX1_fairsTillGone : MethodName := ⟨RX1, "fairsTillGone", "(I)I"⟩
abbrev cX1_sell : ByteArray := prog_3_method_11_code
def yX1_sell : MethodName := ⟨RX1, "sell", "(I)Z"⟩
abbrev cX1_buyerInsteadOf : ByteArray := prog_3_method_12_code
def yX1_buyerInsteadOf : MethodName := ⟨RX1, "buyerInsteadOf", "(II)I"⟩
abbrev cX1_dearestOf : ByteArray := prog_3_method_13_code
def yX1_dearestOf : MethodName := ⟨RX1, "dearestOf", "(I)I"⟩
abbrev cX1_dearerTo : ByteArray := prog_3_method_14_code
def yX1_dearerTo : MethodName := ⟨RX1, "dearerTo", "(II)I"⟩
abbrev cX1_wantersOf : ByteArray := prog_3_method_15_code
def yX1_wantersOf : MethodName := ⟨RX1, "wantersOf", "(I)I"⟩
abbrev cX1_thingsOf : ByteArray := prog_3_method_16_code
def yX1_thingsOf : MethodName := ⟨RX1, "thingsOf", "(I)I"⟩
abbrev cX1_worthOf : ByteArray := prog_3_method_17_code
def yX1_worthOf : MethodName := ⟨RX1, "worthOf", "(I)I"⟩
abbrev cX1_thingsGone : ByteArray := prog_3_method_18_code
def yX1_thingsGone : MethodName := ⟨RX1, "thingsGone", "()I"⟩
abbrev cX1_coinsOfAll : ByteArray := prog_3_method_19_code
def yX1_coinsOfAll : MethodName := ⟨RX1, "coinsOfAll", "()I"⟩
def RX2 : String := "NearlyBought$Reader"
def TX2 : u_T := fun k => match k with
  | 0 => ("NearlyBought$Reader", "numbers", "[I", true)
  | _ => ("NearlyBought$Reader", "at", "I", false)
def tyX2 : Nat → FieldType := fun k => match k with
  | 0 => .array .int
  | _ => .int
abbrev wsX20 : List Cond := u_ws RX2 TX2 2
theorem nmX2 : ∀ a, a < 2 → ∀ b, b < 2 → a ≠ b → (TX2 a).2.1 ≠ (TX2 b).2.1 := by decide +kernel
theorem tyX2_ok : ∀ k, k < 2 → parseFieldDescriptor (TX2 k).2.2.1 = some (tyX2 k) := by decide +kernel
abbrev cX2_init : ByteArray := prog_4_method_1_code
def yX2_init : MethodName := ⟨RX2, "<init>", "()V"⟩
abbrev cX2_read : ByteArray := prog_4_method_2_code
def yX2_read : MethodName := ⟨RX2, "read", "([IILNearlyBought$Tale;)I"⟩
abbrev cX2_readItem : ByteArray := prog_4_method_3_code
def yX2_readItem : MethodName := ⟨RX2, "readItem", "([II)Z"⟩
abbrev cX2_numbersDue : ByteArray := prog_4_method_4_code
def yX2_numbersDue : MethodName := ⟨RX2, "numbersDue", "(I)I"⟩
abbrev cX2_readNumber : ByteArray := prog_4_method_5_code
def yX2_readNumber : MethodName := ⟨RX2, "readNumber", "([II)I"⟩
abbrev cX2_letterAt : ByteArray := prog_4_method_6_code
def yX2_letterAt : MethodName := ⟨RX2, "letterAt", "([II)I"⟩
def RX3 : String := "NearlyBought$Sights"
def TX3 : u_T := fun k => match k with
  | 0 => ("NearlyBought$Sights", "things", "[I", true)
  | 1 => ("NearlyBought$Sights", "persons", "[I", true)
  | 2 => ("NearlyBought$Sights", "fairs", "[I", true)
  | _ => ("NearlyBought$Sights", "size", "I", false)
def tyX3 : Nat → FieldType := fun k => match k with
  | 0 => .array .int
  | 1 => .array .int
  | 2 => .array .int
  | _ => .int
abbrev wsX30 : List Cond := u_ws RX3 TX3 4
theorem nmX3 : ∀ a, a < 4 → ∀ b, b < 4 → a ≠ b → (TX3 a).2.1 ≠ (TX3 b).2.1 := by decide +kernel
theorem tyX3_ok : ∀ k, k < 4 → parseFieldDescriptor (TX3 k).2.2.1 = some (tyX3 k) := by decide +kernel
abbrev cX3_init : ByteArray := prog_5_method_1_code
def yX3_init : MethodName := ⟨RX3, "<init>", "()V"⟩
abbrev cX3_add : ByteArray := prog_5_method_2_code
def yX3_add : MethodName := ⟨RX3, "add", "(III)V"⟩
abbrev cX3_allHoldIn : ByteArray := prog_5_method_3_code
def yX3_allHoldIn : MethodName := ⟨RX3, "allHoldIn", "(LNearlyBought$Market;I)Z"⟩
def RX4 : String := "NearlyBought$Tale"
def TX4 : u_T := fun k => match k with
  | 0 => ("NearlyBought$Tale", "persons", "I", false)
  | 1 => ("NearlyBought$Tale", "things", "I", false)
  | 2 => ("NearlyBought$Tale", "pauses", "I", false)
  | 3 => ("NearlyBought$Tale", "earned", "I", false)
  | 4 => ("NearlyBought$Tale", "dearer", "I", false)
  | 5 => ("NearlyBought$Tale", "kind", "[I", true)
  | 6 => ("NearlyBought$Tale", "firstCoins", "[I", true)
  | 7 => ("NearlyBought$Tale", "firstCost", "[I", true)
  | 8 => ("NearlyBought$Tale", "pauser", "[I", true)
  | 9 => ("NearlyBought$Tale", "pausedAt", "[I", true)
  | 10 => ("NearlyBought$Tale", "pauseBreaths", "[I", true)
  | _ => ("NearlyBought$Tale", "pauseYear", "[I", true)
def tyX4 : Nat → FieldType := fun k => match k with
  | 0 => .int
  | 1 => .int
  | 2 => .int
  | 3 => .int
  | 4 => .int
  | 5 => .array .int
  | 6 => .array .int
  | 7 => .array .int
  | 8 => .array .int
  | 9 => .array .int
  | 10 => .array .int
  | _ => .array .int
abbrev wsX40 : List Cond := u_ws RX4 TX4 12
theorem nmX4 : ∀ a, a < 12 → ∀ b, b < 12 → a ≠ b → (TX4 a).2.1 ≠ (TX4 b).2.1 := by decide +kernel
theorem tyX4_ok : ∀ k, k < 12 → parseFieldDescriptor (TX4 k).2.2.1 = some (tyX4 k) := by decide +kernel
abbrev cX4_init : ByteArray := prog_6_method_1_code
def yX4_init : MethodName := ⟨RX4, "<init>", "()V"⟩
abbrev cX4_clear : ByteArray := prog_6_method_2_code
def yX4_clear : MethodName := ⟨RX4, "clear", "()V"⟩
abbrev cX4_hasPerson : ByteArray := prog_6_method_3_code
def yX4_hasPerson : MethodName := ⟨RX4, "hasPerson", "(I)Z"⟩
abbrev cX4_hasThing : ByteArray := prog_6_method_4_code
def yX4_hasThing : MethodName := ⟨RX4, "hasThing", "(I)Z"⟩
abbrev cX4_canBeLaid : ByteArray := prog_6_method_5_code
def yX4_canBeLaid : MethodName := ⟨RX4, "canBeLaid", "()Z"⟩
abbrev cX4_takeItem : ByteArray := prog_6_method_6_code
def yX4_takeItem : MethodName := ⟨RX4, "takeItem", "(I[I)Z"⟩
abbrev cX4_takePerson : ByteArray := prog_6_method_7_code
def yX4_takePerson : MethodName := ⟨RX4, "takePerson", "(II)Z"⟩
abbrev cX4_takeThing : ByteArray := prog_6_method_8_code
def yX4_takeThing : MethodName := ⟨RX4, "takeThing", "(I)Z"⟩
abbrev cX4_takePause : ByteArray := prog_6_method_9_code
def yX4_takePause : MethodName := ⟨RX4, "takePause", "([I)Z"⟩
abbrev cX4_takeEarned : ByteArray := prog_6_method_10_code
def yX4_takeEarned : MethodName := ⟨RX4, "takeEarned", "(I)Z"⟩
abbrev cX4_takeDearer : ByteArray := prog_6_method_11_code
def yX4_takeDearer : MethodName := ⟨RX4, "takeDearer", "(I)Z"⟩
abbrev cX4_costIn : ByteArray := prog_6_method_12_code
def yX4_costIn : MethodName := ⟨RX4, "costIn", "(II)I"⟩
abbrev cX4_priceFor : ByteArray := prog_6_method_13_code
def yX4_priceFor : MethodName := ⟨RX4, "priceFor", "(III)I"⟩
abbrev cX4_countedFor : ByteArray := prog_6_method_14_code
def yX4_countedFor : MethodName := ⟨RX4, "countedFor", "(II)I"⟩
def RX5 : String := "NearlyBought"
def TX5 : u_T := fun k => match k with
  | 0 => ("NearlyBought", "text", "[I", true)
  | 1 => ("NearlyBought", "reader", "LNearlyBought$Reader;", true)
  | 2 => ("NearlyBought", "draft", "LNearlyBought$Tale;", true)
  | 3 => ("NearlyBought", "laid", "LNearlyBought$Tale;", true)
  | 4 => ("NearlyBought", "now", "LNearlyBought$Market;", true)
  | 5 => ("NearlyBought", "trial", "LNearlyBought$Market;", true)
  | 6 => ("NearlyBought", "history", "LNearlyBought$History;", true)
  | 7 => ("NearlyBought", "kept", "[LNearlyBought$Market;", true)
  | 8 => ("NearlyBought", "sights", "LNearlyBought$Sights;", true)
  | 9 => ("NearlyBought", "textLength", "I", false)
  | _ => ("NearlyBought", "keptCount", "I", false)
def tyX5 : Nat → FieldType := fun k => match k with
  | 0 => .array .int
  | 1 => .object "NearlyBought$Reader"
  | 2 => .object "NearlyBought$Tale"
  | 3 => .object "NearlyBought$Tale"
  | 4 => .object "NearlyBought$Market"
  | 5 => .object "NearlyBought$Market"
  | 6 => .object "NearlyBought$History"
  | 7 => .array (.object "NearlyBought$Market")
  | 8 => .object "NearlyBought$Sights"
  | 9 => .int
  | _ => .int
abbrev wsX50 : List Cond := u_ws RX5 TX5 11
theorem nmX5 : ∀ a, a < 11 → ∀ b, b < 11 → a ≠ b → (TX5 a).2.1 ≠ (TX5 b).2.1 := by decide +kernel
theorem tyX5_ok : ∀ k, k < 11 → parseFieldDescriptor (TX5 k).2.2.1 = some (tyX5 k) := by decide +kernel
abbrev cX5_init : ByteArray := prog_1_method_1_code
def yX5_init : MethodName := ⟨RX5, "<init>", "()V"⟩
abbrev cX5_write : ByteArray := prog_1_method_2_code
def yX5_write : MethodName := ⟨RX5, "write", "(I)I"⟩
abbrev cX5_wipe : ByteArray := prog_1_method_3_code
def yX5_wipe : MethodName := ⟨RX5, "wipe", "()I"⟩
abbrev cX5_fault : ByteArray := prog_1_method_4_code
def yX5_fault : MethodName := ⟨RX5, "fault", "()I"⟩
abbrev cX5_lay : ByteArray := prog_1_method_5_code
def yX5_lay : MethodName := ⟨RX5, "lay", "()I"⟩
abbrev cX5_person : ByteArray := prog_1_method_6_code
def yX5_person : MethodName := ⟨RX5, "person", "(II)I"⟩
abbrev cX5_thing : ByteArray := prog_1_method_7_code
def yX5_thing : MethodName := ⟨RX5, "thing", "(II)I"⟩
abbrev cX5_nearly : ByteArray := prog_1_method_8_code
def yX5_nearly : MethodName := ⟨RX5, "nearly", "(III)I"⟩
abbrev cX5_pause : ByteArray := prog_1_method_9_code
def yX5_pause : MethodName := ⟨RX5, "pause", "(III)I"⟩
abbrev cX5_fair : ByteArray := prog_1_method_10_code
def yX5_fair : MethodName := ⟨RX5, "fair", "()I"⟩
abbrev cX5_give : ByteArray := prog_1_method_11_code
def yX5_give : MethodName := ⟨RX5, "give", "(III)I"⟩
abbrev cX5_undo : ByteArray := prog_1_method_12_code
def yX5_undo : MethodName := ⟨RX5, "undo", "()I"⟩
abbrev cX5_behind : ByteArray := prog_1_method_13_code
def yX5_behind : MethodName := ⟨RX5, "behind", "(II)I"⟩
abbrev cX5_goes : ByteArray := prog_1_method_14_code
def yX5_goes : MethodName := ⟨RX5, "goes", "(I)I"⟩
abbrev cX5_never : ByteArray := prog_1_method_15_code
def yX5_never : MethodName := ⟨RX5, "never", "()I"⟩
abbrev cX5_stop : ByteArray := prog_1_method_16_code
def yX5_stop : MethodName := ⟨RX5, "stop", "(III)I"⟩
abbrev cX5_rank : ByteArray := prog_1_method_17_code
def yX5_rank : MethodName := ⟨RX5, "rank", "(II)I"⟩
abbrev cX5_wanted : ByteArray := prog_1_method_18_code
def yX5_wanted : MethodName := ⟨RX5, "wanted", "(I)I"⟩
abbrev cX5_seen : ByteArray := prog_1_method_19_code
def yX5_seen : MethodName := ⟨RX5, "seen", "(III)I"⟩
abbrev cX5_forget : ByteArray := prog_1_method_20_code
def yX5_forget : MethodName := ⟨RX5, "forget", "()I"⟩
abbrev cX5_feigned : ByteArray := prog_1_method_21_code
def yX5_feigned : MethodName := ⟨RX5, "feigned", "(I)I"⟩
abbrev cX5_counts : ByteArray := prog_1_method_22_code
def yX5_counts : MethodName := ⟨RX5, "counts", "(III)I"⟩
abbrev cX5_cheapest : ByteArray := prog_1_method_23_code
def yX5_cheapest : MethodName := ⟨RX5, "cheapest", "(II)I"⟩
abbrev cX5_greens : ByteArray := prog_1_method_24_code
def yX5_greens : MethodName := ⟨RX5, "greens", "(III)I"⟩
abbrev cX5_keep : ByteArray := prog_1_method_25_code
def yX5_keep : MethodName := ⟨RX5, "keep", "()I"⟩
abbrev cX5_back : ByteArray := prog_1_method_26_code
def yX5_back : MethodName := ⟨RX5, "back", "()I"⟩
abbrev cX5_count : ByteArray := prog_1_method_27_code
def yX5_count : MethodName := ⟨RX5, "count", "(I)I"⟩
abbrev cX5_putFirstText : ByteArray := prog_1_method_28_code
def yX5_putFirstText : MethodName := ⟨RX5, "putFirstText", "()V"⟩
abbrev cX5_layTheText : ByteArray := prog_1_method_29_code
def yX5_layTheText : MethodName := ⟨RX5, "layTheText", "()V"⟩
abbrev cX5_uncountedDraws : ByteArray := prog_1_method_30_code
def yX5_uncountedDraws : MethodName := ⟨RX5, "uncountedDraws", "(I)I"⟩
abbrev cX5_greatestDivisor : ByteArray := prog_1_method_31_code
def yX5_greatestDivisor : MethodName := ⟨RX5, "greatestDivisor", "(II)I"⟩
abbrev cX5_draw : ByteArray := prog_1_method_32_code
def yX5_draw : MethodName := ⟨RX5, "draw", "(II)I"⟩
abbrev cX5_addDrawnPause : ByteArray := prog_1_method_33_code
def yX5_addDrawnPause : MethodName := ⟨RX5, "addDrawnPause", "(I)V"⟩
def RX6 : String := "NearlyBoughtModel"
def TX6 : u_T := fun k => match k with
  | 0 => ("NearlyBoughtModel", "text", "[I", true)
  | 1 => ("NearlyBoughtModel", "typed", "I", false)
  | 2 => ("NearlyBoughtModel", "told", "[I", true)
  | 3 => ("NearlyBoughtModel", "draft", "[I", true)
  | 4 => ("NearlyBoughtModel", "s", "[I", true)
  | 5 => ("NearlyBoughtModel", "past", "[I", true)
  | 6 => ("NearlyBoughtModel", "known", "I", false)
  | 7 => ("NearlyBoughtModel", "images", "[I", true)
  | 8 => ("NearlyBoughtModel", "kept", "I", false)
  | 9 => ("NearlyBoughtModel", "notes", "[I", true)
  | 10 => ("NearlyBoughtModel", "noted", "I", false)
  | 11 => ("NearlyBoughtModel", "at", "I", false)
  | 12 => ("NearlyBoughtModel", "feign", "I", false)
  | _ => ("NearlyBoughtModel", "held", "[I", true)
def tyX6 : Nat → FieldType := fun k => match k with
  | 0 => .array .int
  | 1 => .int
  | 2 => .array .int
  | 3 => .array .int
  | 4 => .array .int
  | 5 => .array .int
  | 6 => .int
  | 7 => .array .int
  | 8 => .int
  | 9 => .array .int
  | 10 => .int
  | 11 => .int
  | 12 => .int
  | _ => .array .int
abbrev wsX60 : List Cond := u_ws RX6 TX6 14
theorem nmX6 : ∀ a, a < 14 → ∀ b, b < 14 → a ≠ b → (TX6 a).2.1 ≠ (TX6 b).2.1 := by decide +kernel
theorem tyX6_ok : ∀ k, k < 14 → parseFieldDescriptor (TX6 k).2.2.1 = some (tyX6 k) := by decide +kernel
abbrev cX6_init : ByteArray := prog_8_method_1_code
def yX6_init : MethodName := ⟨RX6, "<init>", "()V"⟩
abbrev cX6_in : ByteArray := prog_8_method_3_code
def yX6_in : MethodName := ⟨RX6, "in", "(III)Z"⟩
abbrev cX6_isPerson : ByteArray := prog_8_method_4_code
def yX6_isPerson : MethodName := ⟨RX6, "isPerson", "(I)Z"⟩
abbrev cX6_isThing : ByteArray := prog_8_method_5_code
def yX6_isThing : MethodName := ⟨RX6, "isThing", "(I)Z"⟩
abbrev cX6_write : ByteArray := prog_8_method_6_code
def yX6_write : MethodName := ⟨RX6, "write", "(I)I"⟩
abbrev cX6_wipe : ByteArray := prog_8_method_7_code
def yX6_wipe : MethodName := ⟨RX6, "wipe", "()I"⟩
abbrev cX6_letterAt : ByteArray := prog_8_method_8_code
def yX6_letterAt : MethodName := ⟨RX6, "letterAt", "(I)I"⟩
abbrev cX6_isFigure : ByteArray := prog_8_method_9_code
def yX6_isFigure : MethodName := ⟨RX6, "isFigure", "(I)Z"⟩
abbrev cX6_number : ByteArray := prog_8_method_10_code
def yX6_number : MethodName := ⟨RX6, "number", "(III)I"⟩
abbrev cX6_begins : ByteArray := prog_8_method_11_code
def yX6_begins : MethodName := ⟨RX6, "begins", "()V"⟩
abbrev cX6_personOf : ByteArray := prog_8_method_12_code
def yX6_personOf : MethodName := ⟨RX6, "personOf", "(II)V"⟩
abbrev cX6_thingOf : ByteArray := prog_8_method_13_code
def yX6_thingOf : MethodName := ⟨RX6, "thingOf", "(I)V"⟩
abbrev cX6_pauseOf : ByteArray := prog_8_method_14_code
def yX6_pauseOf : MethodName := ⟨RX6, "pauseOf", "(IIII)V"⟩
abbrev cX6_readsItem : ByteArray := prog_8_method_15_code
def yX6_readsItem : MethodName := ⟨RX6, "readsItem", "(I)Z"⟩
abbrev cX6_readsAll : ByteArray := prog_8_method_16_code
def yX6_readsAll : MethodName := ⟨RX6, "readsAll", "()I"⟩
abbrev cX6_fault : ByteArray := prog_8_method_17_code
def yX6_fault : MethodName := ⟨RX6, "fault", "()I"⟩
abbrev cX6_starts : ByteArray := prog_8_method_18_code
def yX6_starts : MethodName := ⟨RX6, "starts", "()V"⟩
abbrev cX6_lays : ByteArray := prog_8_method_19_code
def yX6_lays : MethodName := ⟨RX6, "lays", "()V"⟩
abbrev cX6_lay : ByteArray := prog_8_method_20_code
def yX6_lay : MethodName := ⟨RX6, "lay", "()I"⟩
abbrev cX6_countedOf : ByteArray := prog_8_method_21_code
def yX6_countedOf : MethodName := ⟨RX6, "countedOf", "(II)I"⟩
abbrev cX6_better : ByteArray := prog_8_method_22_code
def yX6_better : MethodName := ⟨RX6, "better", "(II)I"⟩
abbrev cX6_pauseNow : ByteArray := prog_8_method_23_code
def yX6_pauseNow : MethodName := ⟨RX6, "pauseNow", "(II)I"⟩
abbrev cX6_countedNow : ByteArray := prog_8_method_24_code
def yX6_countedNow : MethodName := ⟨RX6, "countedNow", "(II)I"⟩
abbrev cX6_isNearly : ByteArray := prog_8_method_25_code
def yX6_isNearly : MethodName := ⟨RX6, "isNearly", "(II)Z"⟩
abbrev cX6_costs : ByteArray := prog_8_method_26_code
def yX6_costs : MethodName := ⟨RX6, "costs", "(II)I"⟩
abbrev cX6_priceOf : ByteArray := prog_8_method_27_code
def yX6_priceOf : MethodName := ⟨RX6, "priceOf", "(II)I"⟩
abbrev cX6_claim : ByteArray := prog_8_method_28_code
def yX6_claim : MethodName := ⟨RX6, "claim", "(I)I"⟩
abbrev cX6_thingsOf : ByteArray := prog_8_method_29_code
def yX6_thingsOf : MethodName := ⟨RX6, "thingsOf", "(I)I"⟩
abbrev cX6_person : ByteArray := prog_8_method_30_code
def yX6_person : MethodName := ⟨RX6, "person", "(II)I"⟩
abbrev cX6_thing : ByteArray := prog_8_method_31_code
def yX6_thing : MethodName := ⟨RX6, "thing", "(II)I"⟩
abbrev cX6_nearly : ByteArray := prog_8_method_32_code
def yX6_nearly : MethodName := ⟨RX6, "nearly", "(III)I"⟩
abbrev cX6_keeps : ByteArray := prog_8_method_33_code
def yX6_keeps : MethodName := ⟨RX6, "keeps", "()V"⟩
abbrev cX6_pauses : ByteArray := prog_8_method_34_code
def yX6_pauses : MethodName := ⟨RX6, "pauses", "(III)V"⟩
abbrev cX6_pause : ByteArray := prog_8_method_35_code
def yX6_pause : MethodName := ⟨RX6, "pause", "(III)I"⟩
abbrev cX6_sells : ByteArray := prog_8_method_36_code
def yX6_sells : MethodName := ⟨RX6, "sells", "(III)V"⟩
abbrev cX6_dearest : ByteArray := prog_8_method_37_code
def yX6_dearest : MethodName := ⟨RX6, "dearest", "(I)I"⟩
abbrev cX6_offers : ByteArray := prog_8_method_38_code
def yX6_offers : MethodName := ⟨RX6, "offers", "(II)V"⟩
abbrev cX6_holds : ByteArray := prog_8_method_39_code
def yX6_holds : MethodName := ⟨RX6, "holds", "()I"⟩
abbrev cX6_fair : ByteArray := prog_8_method_40_code
def yX6_fair : MethodName := ⟨RX6, "fair", "()I"⟩
abbrev cX6_give : ByteArray := prog_8_method_41_code
def yX6_give : MethodName := ⟨RX6, "give", "(III)I"⟩
abbrev cX6_undo : ByteArray := prog_8_method_42_code
def yX6_undo : MethodName := ⟨RX6, "undo", "()I"⟩
abbrev cX6_remembers : ByteArray := prog_8_method_43_code
def yX6_remembers : MethodName := ⟨RX6, "remembers", "()V"⟩
abbrev cX6_lets : ByteArray := prog_8_method_44_code
def yX6_lets : MethodName := ⟨RX6, "lets", "()V"⟩
abbrev cX6_whoseBehind : ByteArray := prog_8_method_45_code
def yX6_whoseBehind : MethodName := ⟨RX6, "whoseBehind", "(II)I"⟩
abbrev cX6_goesBehind : ByteArray := prog_8_method_46_code
def yX6_goesBehind : MethodName := ⟨RX6, "goesBehind", "(I)I"⟩
abbrev cX6_behind : ByteArray := prog_8_method_47_code
def yX6_behind : MethodName := ⟨RX6, "behind", "(II)I"⟩
abbrev cX6_goes : ByteArray := prog_8_method_48_code
def yX6_goes : MethodName := ⟨RX6, "goes", "(I)I"⟩
abbrev cX6_never : ByteArray := prog_8_method_49_code
def yX6_never : MethodName := ⟨RX6, "never", "()I"⟩
abbrev cX6_stop : ByteArray := prog_8_method_50_code
def yX6_stop : MethodName := ⟨RX6, "stop", "(III)I"⟩
abbrev cX6_rank : ByteArray := prog_8_method_51_code
def yX6_rank : MethodName := ⟨RX6, "rank", "(II)I"⟩
abbrev cX6_wants : ByteArray := prog_8_method_52_code
def yX6_wants : MethodName := ⟨RX6, "wants", "(I)I"⟩
abbrev cX6_wanted : ByteArray := prog_8_method_53_code
def yX6_wanted : MethodName := ⟨RX6, "wanted", "(I)I"⟩
abbrev cX6_seen : ByteArray := prog_8_method_54_code
def yX6_seen : MethodName := ⟨RX6, "seen", "(III)I"⟩
abbrev cX6_forget : ByteArray := prog_8_method_55_code
def yX6_forget : MethodName := ⟨RX6, "forget", "()I"⟩
abbrev cX6_isSo : ByteArray := prog_8_method_56_code
def yX6_isSo : MethodName := ⟨RX6, "isSo", "(I)Z"⟩
abbrev cX6_feigned : ByteArray := prog_8_method_57_code
def yX6_feigned : MethodName := ⟨RX6, "feigned", "(I)I"⟩
abbrev cX6_counts : ByteArray := prog_8_method_58_code
def yX6_counts : MethodName := ⟨RX6, "counts", "(III)I"⟩
abbrev cX6_cheapest : ByteArray := prog_8_method_59_code
def yX6_cheapest : MethodName := ⟨RX6, "cheapest", "(II)I"⟩
abbrev cX6_allCoins : ByteArray := prog_8_method_60_code
def yX6_allCoins : MethodName := ⟨RX6, "allCoins", "()I"⟩
abbrev cX6_taken : ByteArray := prog_8_method_61_code
def yX6_taken : MethodName := ⟨RX6, "taken", "()I"⟩
abbrev cX6_greens : ByteArray := prog_8_method_62_code
def yX6_greens : MethodName := ⟨RX6, "greens", "(III)I"⟩
abbrev cX6_keep : ByteArray := prog_8_method_63_code
def yX6_keep : MethodName := ⟨RX6, "keep", "()I"⟩
abbrev cX6_back : ByteArray := prog_8_method_64_code
def yX6_back : MethodName := ⟨RX6, "back", "()I"⟩
abbrev cX6_count : ByteArray := prog_8_method_65_code
def yX6_count : MethodName := ⟨RX6, "count", "(I)I"⟩
def RJx145de : String := "java/io/Serializable"
def TJx145de : u_T := fun k => match k with
  | _ => ("", "", "", false)
def tyJx145de : Nat → FieldType := fun k => match k with
  | _ => .int
abbrev wsJx145de0 : List Cond := u_ws RJx145de TJx145de 0
theorem nmJx145de : ∀ a, a < 0 → ∀ b, b < 0 → a ≠ b → (TJx145de a).2.1 ≠ (TJx145de b).2.1 := by decide +kernel
theorem tyJx145de_ok : ∀ k, k < 0 → parseFieldDescriptor (TJx145de k).2.2.1 = some (tyJx145de k) := by decide +kernel
def RJx9f9b0 : String := "java/lang/CharSequence"
def TJx9f9b0 : u_T := fun k => match k with
  | _ => ("", "", "", false)
def tyJx9f9b0 : Nat → FieldType := fun k => match k with
  | _ => .int
abbrev wsJx9f9b00 : List Cond := u_ws RJx9f9b0 TJx9f9b0 0
theorem nmJx9f9b0 : ∀ a, a < 0 → ∀ b, b < 0 → a ≠ b → (TJx9f9b0 a).2.1 ≠ (TJx9f9b0 b).2.1 := by decide +kernel
theorem tyJx9f9b0_ok : ∀ k, k < 0 → parseFieldDescriptor (TJx9f9b0 k).2.2.1 = some (tyJx9f9b0 k) := by decide +kernel
def RJxb160c : String := "java/lang/Comparable"
def TJxb160c : u_T := fun k => match k with
  | _ => ("", "", "", false)
def tyJxb160c : Nat → FieldType := fun k => match k with
  | _ => .int
abbrev wsJxb160c0 : List Cond := u_ws RJxb160c TJxb160c 0
theorem nmJxb160c : ∀ a, a < 0 → ∀ b, b < 0 → a ≠ b → (TJxb160c a).2.1 ≠ (TJxb160c b).2.1 := by decide +kernel
theorem tyJxb160c_ok : ∀ k, k < 0 → parseFieldDescriptor (TJxb160c k).2.2.1 = some (tyJxb160c k) := by decide +kernel
def RJ9 : String := "java/lang/Math"
def TJ9 : u_T := fun k => match k with
  | _ => ("", "", "", false)
def tyJ9 : Nat → FieldType := fun k => match k with
  | _ => .int
abbrev wsJ90 : List Cond := u_ws RJ9 TJ9 0
theorem nmJ9 : ∀ a, a < 0 → ∀ b, b < 0 → a ≠ b → (TJ9 a).2.1 ≠ (TJ9 b).2.1 := by decide +kernel
theorem tyJ9_ok : ∀ k, k < 0 → parseFieldDescriptor (TJ9 k).2.2.1 = some (tyJ9 k) := by decide +kernel
abbrev cJ9_max_7cf53 : ByteArray := prog_9_method_65_code
def yJ9_max_7cf53 : MethodName := ⟨RJ9, "max", "(II)I"⟩
abbrev cJ9_min_7cf53 : ByteArray := prog_9_method_69_code
def yJ9_min_7cf53 : MethodName := ⟨RJ9, "min", "(II)I"⟩
def RJ0 : String := "java/lang/String"
def TJ0 : u_T := fun k => match k with
  | _ => ("", "", "", false)
def tyJ0 : Nat → FieldType := fun k => match k with
  | _ => .int
abbrev wsJ00 : List Cond := u_ws RJ0 TJ0 0
theorem nmJ0 : ∀ a, a < 0 → ∀ b, b < 0 → a ≠ b → (TJ0 a).2.1 ≠ (TJ0 b).2.1 := by decide +kernel
theorem tyJ0_ok : ∀ k, k < 0 → parseFieldDescriptor (TJ0 k).2.2.1 = some (tyJ0 k) := by decide +kernel
abbrev cJ0_length_8abf5 : ByteArray := prog_10_method_54_code
def yJ0_length_8abf5 : MethodName := ⟨RJ0, "length", "()I"⟩
abbrev cJ0_charAt_5068e : ByteArray := prog_10_method_56_code
def yJ0_charAt_5068e : MethodName := ⟨RJ0, "charAt", "(I)C"⟩
abbrev cJ0_coder_7d493 : ByteArray := prog_10_method_152_code
def yJ0_coder_7d493 : MethodName := ⟨RJ0, "coder", "()B"⟩
abbrev cJ0_isLatin1_aae02 : ByteArray := prog_10_method_154_code
def yJ0_isLatin1_aae02 : MethodName := ⟨RJ0, "isLatin1", "()Z"⟩
abbrev cJ0_checkIndex_df160 : ByteArray := prog_10_method_155_code
def yJ0_checkIndex_df160 : MethodName := ⟨RJ0, "checkIndex", "(II)V"⟩
def RJ1 : String := "java/lang/StringLatin1"
def TJ1 : u_T := fun k => match k with
  | _ => ("", "", "", false)
def tyJ1 : Nat → FieldType := fun k => match k with
  | _ => .int
abbrev wsJ10 : List Cond := u_ws RJ1 TJ1 0
theorem nmJ1 : ∀ a, a < 0 → ∀ b, b < 0 → a ≠ b → (TJ1 a).2.1 ≠ (TJ1 b).2.1 := by decide +kernel
theorem tyJ1_ok : ∀ k, k < 0 → parseFieldDescriptor (TJ1 k).2.2.1 = some (tyJ1 k) := by decide +kernel
abbrev cJ1_charAt_3b067 : ByteArray := prog_11_method_2_code
def yJ1_charAt_3b067 : MethodName := ⟨RJ1, "charAt", "([BI)C"⟩
def RJ2 : String := "java/lang/StringUTF16"
def TJ2 : u_T := fun k => match k with
  | _ => ("", "", "", false)
def tyJ2 : Nat → FieldType := fun k => match k with
  | _ => .int
abbrev wsJ20 : List Cond := u_ws RJ2 TJ2 0
theorem nmJ2 : ∀ a, a < 0 → ∀ b, b < 0 → a ≠ b → (TJ2 a).2.1 ≠ (TJ2 b).2.1 := by decide +kernel
theorem tyJ2_ok : ∀ k, k < 0 → parseFieldDescriptor (TJ2 k).2.2.1 = some (tyJ2 k) := by decide +kernel
abbrev cJ2_getChar_3b067 : ByteArray := prog_12_method_5_code
def yJ2_getChar_3b067 : MethodName := ⟨RJ2, "getChar", "([BI)C"⟩
abbrev cJ2_length_9d52b : ByteArray := prog_12_method_6_code
def yJ2_length_9d52b : MethodName := ⟨RJ2, "length", "([B)I"⟩
abbrev cJ2_charAt_3b067 : ByteArray := prog_12_method_83_code
def yJ2_charAt_3b067 : MethodName := ⟨RJ2, "charAt", "([BI)C"⟩
abbrev cJ2_checkIndex_2214a : ByteArray := prog_12_method_91_code
def yJ2_checkIndex_2214a : MethodName := ⟨RJ2, "checkIndex", "(I[B)V"⟩
def RJ10 : String := "java/lang/System"
def TJ10 : u_T := fun k => match k with
  | _ => ("", "", "", false)
def tyJ10 : Nat → FieldType := fun k => match k with
  | _ => .int
abbrev wsJ100 : List Cond := u_ws RJ10 TJ10 0
theorem nmJ10 : ∀ a, a < 0 → ∀ b, b < 0 → a ≠ b → (TJ10 a).2.1 ≠ (TJ10 b).2.1 := by decide +kernel
theorem tyJ10_ok : ∀ k, k < 0 → parseFieldDescriptor (TJ10 k).2.2.1 = some (tyJ10 k) := by decide +kernel
def RJxfd54e : String := "java/lang/constant/Constable"
def TJxfd54e : u_T := fun k => match k with
  | _ => ("", "", "", false)
def tyJxfd54e : Nat → FieldType := fun k => match k with
  | _ => .int
abbrev wsJxfd54e0 : List Cond := u_ws RJxfd54e TJxfd54e 0
theorem nmJxfd54e : ∀ a, a < 0 → ∀ b, b < 0 → a ≠ b → (TJxfd54e a).2.1 ≠ (TJxfd54e b).2.1 := by decide +kernel
theorem tyJxfd54e_ok : ∀ k, k < 0 → parseFieldDescriptor (TJxfd54e k).2.2.1 = some (tyJxfd54e k) := by decide +kernel
def RJx3cf43 : String := "java/lang/constant/ConstantDesc"
def TJx3cf43 : u_T := fun k => match k with
  | _ => ("", "", "", false)
def tyJx3cf43 : Nat → FieldType := fun k => match k with
  | _ => .int
abbrev wsJx3cf430 : List Cond := u_ws RJx3cf43 TJx3cf43 0
theorem nmJx3cf43 : ∀ a, a < 0 → ∀ b, b < 0 → a ≠ b → (TJx3cf43 a).2.1 ≠ (TJx3cf43 b).2.1 := by decide +kernel
theorem tyJx3cf43_ok : ∀ k, k < 0 → parseFieldDescriptor (TJx3cf43 k).2.2.1 = some (tyJx3cf43 k) := by decide +kernel
def RJ7 : String := "java/util/Arrays"
def TJ7 : u_T := fun k => match k with
  | _ => ("", "", "", false)
def tyJ7 : Nat → FieldType := fun k => match k with
  | _ => .int
abbrev wsJ70 : List Cond := u_ws RJ7 TJ7 0
theorem nmJ7 : ∀ a, a < 0 → ∀ b, b < 0 → a ≠ b → (TJ7 a).2.1 ≠ (TJ7 b).2.1 := by decide +kernel
theorem tyJ7_ok : ∀ k, k < 0 → parseFieldDescriptor (TJ7 k).2.2.1 = some (tyJ7 k) := by decide +kernel
abbrev cJ7_fill_53178 : ByteArray := prog_14_method_103_code
def yJ7_fill_53178 : MethodName := ⟨RJ7, "fill", "([II)V"⟩
def RJ3 : String := "jdk/internal/util/Preconditions"
def TJ3 : u_T := fun k => match k with
  | _ => ("", "", "", false)
def tyJ3 : Nat → FieldType := fun k => match k with
  | _ => .int
abbrev wsJ30 : List Cond := u_ws RJ3 TJ3 0
theorem nmJ3 : ∀ a, a < 0 → ∀ b, b < 0 → a ≠ b → (TJ3 a).2.1 ≠ (TJ3 b).2.1 := by decide +kernel
theorem tyJ3_ok : ∀ k, k < 0 → parseFieldDescriptor (TJ3 k).2.2.1 = some (tyJ3 k) := by decide +kernel
abbrev cJ3_checkIndex_8e157 : ByteArray := prog_15_method_11_code
def yJ3_checkIndex_8e157 : MethodName := ⟨RJ3, "checkIndex", "(IILjava/util/function/BiFunction;)I"⟩
def RL : String := "NearlyBoughtLaw"
abbrev cL_law : ByteArray := code
def yL_law : MethodName := ⟨RL, "law", "([I)Z"⟩
end
section
noncomputable def wsX1_init : List Cond := .code yX1_init cX1_init 2 none :: ([.methodLink RX1 3 objectInit, .instanceMethod objectInit, .code objectInit ⟨#[0xb1]⟩ 1 none, .fieldLink RX1 9 "NearlyBought$Market" "silent" "I", .arrayClass .int, .fieldLink RX1 15 "NearlyBought$Market" "coins" "[I", .fieldLink RX1 19 "NearlyBought$Market" "owner" "[I", .fieldLink RX1 22 "NearlyBought$Market" "missed" "[I", .classLink RX1 25 "[[I", .fieldLink RX1 27 "NearlyBought$Market" "breaths" "[[I", .fieldLink RX1 30 "NearlyBought$Market" "since" "[[I", .fieldLink RX1 33 "NearlyBought$Market" "counted" "[[I", .fieldLink RX1 36 "NearlyBought$Market" "price" "[[I", .fieldLink RX1 39 "NearlyBought$Market" "tale" "LNearlyBought$Tale;"] ++ wsX10)
noncomputable def wsX0_init : List Cond := .code yX0_init cX0_init 3 none :: ([.methodLink RX0 3 objectInit, .instanceMethod objectInit, .code objectInit ⟨#[0xb1]⟩ 1 none, .classLink RX0 9 RX1, .fieldLink RX0 11 "NearlyBought$History" "before" "[LNearlyBought$Market;", .instantiable RX1 10, .initialized RX1, .methodLink RX0 17 yX1_init, .instanceMethod yX1_init, .code yX1_init cX1_init 2 none, .methodLink RX1 3 objectInit, .fieldLink RX1 9 "NearlyBought$Market" "silent" "I", .arrayClass .int, .fieldLink RX1 15 "NearlyBought$Market" "coins" "[I", .fieldLink RX1 19 "NearlyBought$Market" "owner" "[I", .fieldLink RX1 22 "NearlyBought$Market" "missed" "[I", .classLink RX1 25 "[[I", .fieldLink RX1 27 "NearlyBought$Market" "breaths" "[[I", .fieldLink RX1 30 "NearlyBought$Market" "since" "[[I", .fieldLink RX1 33 "NearlyBought$Market" "counted" "[[I", .fieldLink RX1 36 "NearlyBought$Market" "price" "[[I", .fieldLink RX1 39 "NearlyBought$Market" "tale" "LNearlyBought$Tale;"] ++ wsX00 ++ wsX10)
noncomputable def wsX1_copyFrom : List Cond := .code yX1_copyFrom cX1_copyFrom 3 none :: ([.fieldLink RX1 43 "NearlyBought$Market" "year" "I", .fieldLink RX1 9 "NearlyBought$Market" "silent" "I", .fieldLink RX1 15 "NearlyBought$Market" "coins" "[I", .methodLink RX1 51 arraycopyName, .native arraycopyName, .static arraycopyName, .initialized "java/lang/System", .fieldLink RX1 19 "NearlyBought$Market" "owner" "[I", .fieldLink RX1 22 "NearlyBought$Market" "missed" "[I", .fieldLink RX1 27 "NearlyBought$Market" "breaths" "[[I", .fieldLink RX1 30 "NearlyBought$Market" "since" "[[I", .fieldLink RX1 33 "NearlyBought$Market" "counted" "[[I", .fieldLink RX1 36 "NearlyBought$Market" "price" "[[I"] ++ wsX10)
noncomputable def wsX0_remember_r1 : List Cond := [Cond.fieldLink RX0 11 "NearlyBought$History" "before" "[LNearlyBought$Market;", Cond.fieldLink RX0 20 "NearlyBought$History" "next" "I", Cond.fieldLink RX0 28 "NearlyBought$History" "size" "I", Cond.methodLink RX0 31 Lib.Math.min.name, Cond.static Lib.Math.min.name, Cond.initialized "java/lang/Math", Cond.code Lib.Math.min.name Lib.Math.min.code 2 (some .int), Cond.methodLink RX0 24 yX1_copyFrom, Cond.instanceMethod yX1_copyFrom, Cond.selects RX1 yX1_copyFrom yX1_copyFrom, Cond.initialized RX1, Cond.code yX1_copyFrom cX1_copyFrom 3 none, Cond.fieldLink RX1 43 "NearlyBought$Market" "year" "I", Cond.fieldLink RX1 9 "NearlyBought$Market" "silent" "I", Cond.fieldLink RX1 15 "NearlyBought$Market" "coins" "[I", Cond.methodLink RX1 51 arraycopyName, Cond.native arraycopyName, Cond.static arraycopyName, Cond.initialized "java/lang/System", Cond.fieldLink RX1 19 "NearlyBought$Market" "owner" "[I", Cond.fieldLink RX1 22 "NearlyBought$Market" "missed" "[I", Cond.fieldLink RX1 27 "NearlyBought$Market" "breaths" "[[I", Cond.fieldLink RX1 30 "NearlyBought$Market" "since" "[[I", Cond.fieldLink RX1 33 "NearlyBought$Market" "counted" "[[I"]
noncomputable def wsX0_remember_r2 : List Cond := [Cond.fieldLink RX1 36 "NearlyBought$Market" "price" "[[I"]
noncomputable def wsX0_remember : List Cond := .code yX0_remember cX0_remember 2 none :: ((wsX0_remember_r1 ++ wsX0_remember_r2) ++ wsX00 ++ wsX10)
noncomputable def wsX0_restore_r1 : List Cond := [Cond.fieldLink RX0 20 "NearlyBought$History" "next" "I", Cond.fieldLink RX0 28 "NearlyBought$History" "size" "I", Cond.methodLink RX0 37 Lib.Math.max.name, Cond.static Lib.Math.max.name, Cond.initialized "java/lang/Math", Cond.code Lib.Math.max.name Lib.Math.max.code 2 (some .int), Cond.fieldLink RX0 11 "NearlyBought$History" "before" "[LNearlyBought$Market;", Cond.methodLink RX0 24 yX1_copyFrom, Cond.instanceMethod yX1_copyFrom, Cond.selects RX1 yX1_copyFrom yX1_copyFrom, Cond.initialized RX1, Cond.code yX1_copyFrom cX1_copyFrom 3 none, Cond.fieldLink RX1 43 "NearlyBought$Market" "year" "I", Cond.fieldLink RX1 9 "NearlyBought$Market" "silent" "I", Cond.fieldLink RX1 15 "NearlyBought$Market" "coins" "[I", Cond.methodLink RX1 51 arraycopyName, Cond.native arraycopyName, Cond.static arraycopyName, Cond.initialized "java/lang/System", Cond.fieldLink RX1 19 "NearlyBought$Market" "owner" "[I", Cond.fieldLink RX1 22 "NearlyBought$Market" "missed" "[I", Cond.fieldLink RX1 27 "NearlyBought$Market" "breaths" "[[I", Cond.fieldLink RX1 30 "NearlyBought$Market" "since" "[[I", Cond.fieldLink RX1 33 "NearlyBought$Market" "counted" "[[I"]
noncomputable def wsX0_restore_r2 : List Cond := [Cond.fieldLink RX1 36 "NearlyBought$Market" "price" "[[I"]
noncomputable def wsX0_restore : List Cond := .code yX0_restore cX0_restore 2 none :: ((wsX0_restore_r1 ++ wsX0_restore_r2) ++ wsX00 ++ wsX10)
noncomputable def wsJ7_fill_53178 : List Cond := .code yJ7_fill_53178 cJ7_fill_53178 4 none :: ([])
noncomputable def wsX4_countedFor : List Cond := .code yX4_countedFor cX4_countedFor 3 (some .int) :: ([.fieldLink RX4 9 "NearlyBought$Tale" "kind" "[I"] ++ wsX40)
noncomputable def wsX4_costIn : List Cond := .code yX4_costIn cX4_costIn 3 (some .int) :: ([.fieldLink RX4 18 "NearlyBought$Tale" "firstCost" "[I", .fieldLink RX4 46 "NearlyBought$Tale" "dearer" "I"] ++ wsX40)
noncomputable def wsX4_priceFor : List Cond := .code yX4_priceFor cX4_priceFor 5 (some .int) :: ([.fieldLink RX4 9 "NearlyBought$Tale" "kind" "[I", .methodLink RX4 73 yX4_costIn, .instanceMethod yX4_costIn, .selects RX4 yX4_costIn yX4_costIn, .initialized RX4, .code yX4_costIn cX4_costIn 3 (some .int), .fieldLink RX4 18 "NearlyBought$Tale" "firstCost" "[I", .fieldLink RX4 46 "NearlyBought$Tale" "dearer" "I"] ++ wsX40)
noncomputable def wsX1_addPause : List Cond := .code yX1_addPause cX1_addPause 4 none :: ([.fieldLink RX1 27 "NearlyBought$Market" "breaths" "[[I", .fieldLink RX1 30 "NearlyBought$Market" "since" "[[I", .fieldLink RX1 43 "NearlyBought$Market" "year" "I", .fieldLink RX1 33 "NearlyBought$Market" "counted" "[[I", .fieldLink RX1 39 "NearlyBought$Market" "tale" "LNearlyBought$Tale;", .fieldLink RX1 36 "NearlyBought$Market" "price" "[[I", .methodLink RX1 66 yX4_countedFor, .instanceMethod yX4_countedFor, .selects RX4 yX4_countedFor yX4_countedFor, .initialized RX4, .code yX4_countedFor cX4_countedFor 3 (some .int), .fieldLink RX4 9 "NearlyBought$Tale" "kind" "[I", .methodLink RX1 70 yX4_priceFor, .instanceMethod yX4_priceFor, .selects RX4 yX4_priceFor yX4_priceFor, .code yX4_priceFor cX4_priceFor 5 (some .int), .methodLink RX4 73 yX4_costIn, .instanceMethod yX4_costIn, .selects RX4 yX4_costIn yX4_costIn, .code yX4_costIn cX4_costIn 3 (some .int), .fieldLink RX4 18 "NearlyBought$Tale" "firstCost" "[I", .fieldLink RX4 46 "NearlyBought$Tale" "dearer" "I"] ++ wsX10 ++ wsX40)
noncomputable def wsX1_addToldPauses_r1 : List Cond := [Cond.fieldLink RX1 39 "NearlyBought$Market" "tale" "LNearlyBought$Tale;", Cond.fieldLink RX1 74 "NearlyBought$Tale" "pauses" "I", Cond.fieldLink RX1 77 "NearlyBought$Tale" "pauseYear" "[I", Cond.fieldLink RX1 43 "NearlyBought$Market" "year" "I", Cond.fieldLink RX1 80 "NearlyBought$Tale" "pauser" "[I", Cond.fieldLink RX1 9 "NearlyBought$Market" "silent" "I", Cond.fieldLink RX1 83 "NearlyBought$Tale" "pausedAt" "[I", Cond.fieldLink RX1 86 "NearlyBought$Tale" "pauseBreaths" "[I", Cond.methodLink RX1 89 yX1_addPause, Cond.instanceMethod yX1_addPause, Cond.selects RX1 yX1_addPause yX1_addPause, Cond.initialized RX1, Cond.code yX1_addPause cX1_addPause 4 none, Cond.fieldLink RX1 27 "NearlyBought$Market" "breaths" "[[I", Cond.fieldLink RX1 30 "NearlyBought$Market" "since" "[[I", Cond.fieldLink RX1 33 "NearlyBought$Market" "counted" "[[I", Cond.fieldLink RX1 36 "NearlyBought$Market" "price" "[[I", Cond.methodLink RX1 66 yX4_countedFor, Cond.instanceMethod yX4_countedFor, Cond.selects RX4 yX4_countedFor yX4_countedFor, Cond.initialized RX4, Cond.code yX4_countedFor cX4_countedFor 3 (some .int), Cond.fieldLink RX4 9 "NearlyBought$Tale" "kind" "[I", Cond.methodLink RX1 70 yX4_priceFor]
noncomputable def wsX1_addToldPauses_r2 : List Cond := [Cond.instanceMethod yX4_priceFor, Cond.selects RX4 yX4_priceFor yX4_priceFor, Cond.code yX4_priceFor cX4_priceFor 5 (some .int), Cond.methodLink RX4 73 yX4_costIn, Cond.instanceMethod yX4_costIn, Cond.selects RX4 yX4_costIn yX4_costIn, Cond.code yX4_costIn cX4_costIn 3 (some .int), Cond.fieldLink RX4 18 "NearlyBought$Tale" "firstCost" "[I", Cond.fieldLink RX4 46 "NearlyBought$Tale" "dearer" "I"]
noncomputable def wsX1_addToldPauses : List Cond := .code yX1_addToldPauses cX1_addToldPauses 2 none :: ((wsX1_addToldPauses_r1 ++ wsX1_addToldPauses_r2) ++ wsX10 ++ wsX40)
noncomputable def wsX1_begin_r1 : List Cond := [Cond.fieldLink RX1 43 "NearlyBought$Market" "year" "I", Cond.fieldLink RX1 9 "NearlyBought$Market" "silent" "I", Cond.fieldLink RX1 39 "NearlyBought$Market" "tale" "LNearlyBought$Tale;", Cond.fieldLink RX1 46 "NearlyBought$Tale" "firstCoins" "[I", Cond.fieldLink RX1 15 "NearlyBought$Market" "coins" "[I", Cond.methodLink RX1 51 arraycopyName, Cond.native arraycopyName, Cond.static arraycopyName, Cond.initialized "java/lang/System", Cond.fieldLink RX1 19 "NearlyBought$Market" "owner" "[I", Cond.fieldLink RX1 22 "NearlyBought$Market" "missed" "[I", Cond.fieldLink RX1 27 "NearlyBought$Market" "breaths" "[[I", Cond.fieldLink RX1 30 "NearlyBought$Market" "since" "[[I", Cond.fieldLink RX1 33 "NearlyBought$Market" "counted" "[[I", Cond.fieldLink RX1 36 "NearlyBought$Market" "price" "[[I", Cond.methodLink RX1 57 yJ7_fill_53178, Cond.static yJ7_fill_53178, Cond.initialized RJ7, Cond.code yJ7_fill_53178 cJ7_fill_53178 4 none, Cond.methodLink RX1 63 yX1_addToldPauses, Cond.instanceMethod yX1_addToldPauses, Cond.selects RX1 yX1_addToldPauses yX1_addToldPauses, Cond.initialized RX1, Cond.code yX1_addToldPauses cX1_addToldPauses 2 none]
noncomputable def wsX1_begin_r2 : List Cond := [Cond.fieldLink RX1 74 "NearlyBought$Tale" "pauses" "I", Cond.fieldLink RX1 77 "NearlyBought$Tale" "pauseYear" "[I", Cond.fieldLink RX1 80 "NearlyBought$Tale" "pauser" "[I", Cond.fieldLink RX1 83 "NearlyBought$Tale" "pausedAt" "[I", Cond.fieldLink RX1 86 "NearlyBought$Tale" "pauseBreaths" "[I", Cond.methodLink RX1 89 yX1_addPause, Cond.instanceMethod yX1_addPause, Cond.selects RX1 yX1_addPause yX1_addPause, Cond.code yX1_addPause cX1_addPause 4 none, Cond.methodLink RX1 66 yX4_countedFor, Cond.instanceMethod yX4_countedFor, Cond.selects RX4 yX4_countedFor yX4_countedFor, Cond.initialized RX4, Cond.code yX4_countedFor cX4_countedFor 3 (some .int), Cond.fieldLink RX4 9 "NearlyBought$Tale" "kind" "[I", Cond.methodLink RX1 70 yX4_priceFor, Cond.instanceMethod yX4_priceFor, Cond.selects RX4 yX4_priceFor yX4_priceFor, Cond.code yX4_priceFor cX4_priceFor 5 (some .int), Cond.methodLink RX4 73 yX4_costIn, Cond.instanceMethod yX4_costIn, Cond.selects RX4 yX4_costIn yX4_costIn, Cond.code yX4_costIn cX4_costIn 3 (some .int), Cond.fieldLink RX4 18 "NearlyBought$Tale" "firstCost" "[I"]
noncomputable def wsX1_begin_r3 : List Cond := [Cond.fieldLink RX4 46 "NearlyBought$Tale" "dearer" "I"]
noncomputable def wsX1_begin : List Cond := .code yX1_begin cX1_begin 3 none :: ((wsX1_begin_r1 ++ (wsX1_begin_r2 ++ wsX1_begin_r3)) ++ wsX10 ++ wsX40)
noncomputable def wsX1_isFree : List Cond := .code yX1_isFree cX1_isFree 2 (some .boolean) :: ([.fieldLink RX1 19 "NearlyBought$Market" "owner" "[I"] ++ wsX10)
noncomputable def wsX1_claimantOf : List Cond := .code yX1_claimantOf cX1_claimantOf 5 (some .int) :: ([.fieldLink RX1 39 "NearlyBought$Market" "tale" "LNearlyBought$Tale;", .fieldLink RX1 93 "NearlyBought$Tale" "persons" "I", .fieldLink RX1 33 "NearlyBought$Market" "counted" "[[I"] ++ wsX10 ++ wsX40)
noncomputable def wsX1_dearestOf : List Cond := .code yX1_dearestOf cX1_dearestOf 4 (some .int) :: ([.fieldLink RX1 39 "NearlyBought$Market" "tale" "LNearlyBought$Tale;", .fieldLink RX1 96 "NearlyBought$Tale" "things" "I", .fieldLink RX1 36 "NearlyBought$Market" "price" "[[I"] ++ wsX10 ++ wsX40)
noncomputable def wsX1_buyerInsteadOf : List Cond := .code yX1_buyerInsteadOf cX1_buyerInsteadOf 6 (some .int) :: ([.fieldLink RX1 39 "NearlyBought$Market" "tale" "LNearlyBought$Tale;", .fieldLink RX1 93 "NearlyBought$Tale" "persons" "I", .fieldLink RX1 15 "NearlyBought$Market" "coins" "[I", .methodLink RX1 125 yX1_dearestOf, .instanceMethod yX1_dearestOf, .selects RX1 yX1_dearestOf yX1_dearestOf, .initialized RX1, .code yX1_dearestOf cX1_dearestOf 4 (some .int), .fieldLink RX1 96 "NearlyBought$Tale" "things" "I", .fieldLink RX1 36 "NearlyBought$Market" "price" "[[I"] ++ wsX10 ++ wsX40)
noncomputable def wsX1_sell_r1 : List Cond := [Cond.fieldLink RX1 36 "NearlyBought$Market" "price" "[[I", Cond.fieldLink RX1 15 "NearlyBought$Market" "coins" "[I", Cond.fieldLink RX1 22 "NearlyBought$Market" "missed" "[I", Cond.methodLink RX1 109 Lib.Math.min.name, Cond.static Lib.Math.min.name, Cond.initialized "java/lang/Math", Cond.code Lib.Math.min.name Lib.Math.min.code 2 (some .int), Cond.fieldLink RX1 19 "NearlyBought$Market" "owner" "[I", Cond.methodLink RX1 118 yX1_claimantOf, Cond.instanceMethod yX1_claimantOf, Cond.selects RX1 yX1_claimantOf yX1_claimantOf, Cond.initialized RX1, Cond.code yX1_claimantOf cX1_claimantOf 5 (some .int), Cond.fieldLink RX1 39 "NearlyBought$Market" "tale" "LNearlyBought$Tale;", Cond.fieldLink RX1 93 "NearlyBought$Tale" "persons" "I", Cond.fieldLink RX1 33 "NearlyBought$Market" "counted" "[[I", Cond.methodLink RX1 122 yX1_buyerInsteadOf, Cond.instanceMethod yX1_buyerInsteadOf, Cond.selects RX1 yX1_buyerInsteadOf yX1_buyerInsteadOf, Cond.code yX1_buyerInsteadOf cX1_buyerInsteadOf 6 (some .int), Cond.methodLink RX1 125 yX1_dearestOf, Cond.instanceMethod yX1_dearestOf, Cond.selects RX1 yX1_dearestOf yX1_dearestOf, Cond.code yX1_dearestOf cX1_dearestOf 4 (some .int)]
noncomputable def wsX1_sell_r2 : List Cond := [Cond.fieldLink RX1 96 "NearlyBought$Tale" "things" "I"]
noncomputable def wsX1_sell : List Cond := .code yX1_sell cX1_sell 5 (some .boolean) :: ((wsX1_sell_r1 ++ wsX1_sell_r2) ++ wsX10 ++ wsX40)
noncomputable def wsX1_holdFair_r1 : List Cond := [Cond.fieldLink RX1 39 "NearlyBought$Market" "tale" "LNearlyBought$Tale;", Cond.fieldLink RX1 96 "NearlyBought$Tale" "things" "I", Cond.fieldLink RX1 93 "NearlyBought$Tale" "persons" "I", Cond.fieldLink RX1 15 "NearlyBought$Market" "coins" "[I", Cond.fieldLink RX1 106 "NearlyBought$Tale" "earned" "I", Cond.methodLink RX1 109 Lib.Math.min.name, Cond.static Lib.Math.min.name, Cond.initialized "java/lang/Math", Cond.code Lib.Math.min.name Lib.Math.min.code 2 (some .int), Cond.fieldLink RX1 43 "NearlyBought$Market" "year" "I", Cond.methodLink RX1 99 yX1_isFree, Cond.instanceMethod yX1_isFree, Cond.selects RX1 yX1_isFree yX1_isFree, Cond.initialized RX1, Cond.code yX1_isFree cX1_isFree 2 (some .boolean), Cond.fieldLink RX1 19 "NearlyBought$Market" "owner" "[I", Cond.methodLink RX1 103 yX1_sell, Cond.instanceMethod yX1_sell, Cond.selects RX1 yX1_sell yX1_sell, Cond.code yX1_sell cX1_sell 5 (some .boolean), Cond.fieldLink RX1 36 "NearlyBought$Market" "price" "[[I", Cond.fieldLink RX1 22 "NearlyBought$Market" "missed" "[I", Cond.methodLink RX1 118 yX1_claimantOf, Cond.instanceMethod yX1_claimantOf]
noncomputable def wsX1_holdFair_r2 : List Cond := [Cond.selects RX1 yX1_claimantOf yX1_claimantOf, Cond.code yX1_claimantOf cX1_claimantOf 5 (some .int), Cond.fieldLink RX1 33 "NearlyBought$Market" "counted" "[[I", Cond.methodLink RX1 122 yX1_buyerInsteadOf, Cond.instanceMethod yX1_buyerInsteadOf, Cond.selects RX1 yX1_buyerInsteadOf yX1_buyerInsteadOf, Cond.code yX1_buyerInsteadOf cX1_buyerInsteadOf 6 (some .int), Cond.methodLink RX1 125 yX1_dearestOf, Cond.instanceMethod yX1_dearestOf, Cond.selects RX1 yX1_dearestOf yX1_dearestOf, Cond.code yX1_dearestOf cX1_dearestOf 4 (some .int), Cond.methodLink RX1 63 yX1_addToldPauses, Cond.instanceMethod yX1_addToldPauses, Cond.selects RX1 yX1_addToldPauses yX1_addToldPauses, Cond.code yX1_addToldPauses cX1_addToldPauses 2 none, Cond.fieldLink RX1 74 "NearlyBought$Tale" "pauses" "I", Cond.fieldLink RX1 77 "NearlyBought$Tale" "pauseYear" "[I", Cond.fieldLink RX1 80 "NearlyBought$Tale" "pauser" "[I", Cond.fieldLink RX1 9 "NearlyBought$Market" "silent" "I", Cond.fieldLink RX1 83 "NearlyBought$Tale" "pausedAt" "[I", Cond.fieldLink RX1 86 "NearlyBought$Tale" "pauseBreaths" "[I", Cond.methodLink RX1 89 yX1_addPause, Cond.instanceMethod yX1_addPause, Cond.selects RX1 yX1_addPause yX1_addPause]
noncomputable def wsX1_holdFair_r3 : List Cond := [Cond.code yX1_addPause cX1_addPause 4 none, Cond.fieldLink RX1 27 "NearlyBought$Market" "breaths" "[[I", Cond.fieldLink RX1 30 "NearlyBought$Market" "since" "[[I", Cond.methodLink RX1 66 yX4_countedFor, Cond.instanceMethod yX4_countedFor, Cond.selects RX4 yX4_countedFor yX4_countedFor, Cond.initialized RX4, Cond.code yX4_countedFor cX4_countedFor 3 (some .int), Cond.fieldLink RX4 9 "NearlyBought$Tale" "kind" "[I", Cond.methodLink RX1 70 yX4_priceFor, Cond.instanceMethod yX4_priceFor, Cond.selects RX4 yX4_priceFor yX4_priceFor, Cond.code yX4_priceFor cX4_priceFor 5 (some .int), Cond.methodLink RX4 73 yX4_costIn, Cond.instanceMethod yX4_costIn, Cond.selects RX4 yX4_costIn yX4_costIn, Cond.code yX4_costIn cX4_costIn 3 (some .int), Cond.fieldLink RX4 18 "NearlyBought$Tale" "firstCost" "[I", Cond.fieldLink RX4 46 "NearlyBought$Tale" "dearer" "I"]
noncomputable def wsX1_holdFair : List Cond := .code yX1_holdFair cX1_holdFair 3 (some .int) :: ((wsX1_holdFair_r1 ++ (wsX1_holdFair_r2 ++ wsX1_holdFair_r3)) ++ wsX10 ++ wsX40)
noncomputable def wsX1_holdFairs_r1 : List Cond := [Cond.methodLink RX1 114 yX1_holdFair, Cond.instanceMethod yX1_holdFair, Cond.selects RX1 yX1_holdFair yX1_holdFair, Cond.initialized RX1, Cond.code yX1_holdFair cX1_holdFair 3 (some .int), Cond.fieldLink RX1 39 "NearlyBought$Market" "tale" "LNearlyBought$Tale;", Cond.fieldLink RX1 96 "NearlyBought$Tale" "things" "I", Cond.fieldLink RX1 93 "NearlyBought$Tale" "persons" "I", Cond.fieldLink RX1 15 "NearlyBought$Market" "coins" "[I", Cond.fieldLink RX1 106 "NearlyBought$Tale" "earned" "I", Cond.methodLink RX1 109 Lib.Math.min.name, Cond.static Lib.Math.min.name, Cond.initialized "java/lang/Math", Cond.code Lib.Math.min.name Lib.Math.min.code 2 (some .int), Cond.fieldLink RX1 43 "NearlyBought$Market" "year" "I", Cond.methodLink RX1 99 yX1_isFree, Cond.instanceMethod yX1_isFree, Cond.selects RX1 yX1_isFree yX1_isFree, Cond.code yX1_isFree cX1_isFree 2 (some .boolean), Cond.fieldLink RX1 19 "NearlyBought$Market" "owner" "[I", Cond.methodLink RX1 103 yX1_sell, Cond.instanceMethod yX1_sell, Cond.selects RX1 yX1_sell yX1_sell, Cond.code yX1_sell cX1_sell 5 (some .boolean)]
noncomputable def wsX1_holdFairs_r2 : List Cond := [Cond.fieldLink RX1 36 "NearlyBought$Market" "price" "[[I", Cond.fieldLink RX1 22 "NearlyBought$Market" "missed" "[I", Cond.methodLink RX1 118 yX1_claimantOf, Cond.instanceMethod yX1_claimantOf, Cond.selects RX1 yX1_claimantOf yX1_claimantOf, Cond.code yX1_claimantOf cX1_claimantOf 5 (some .int), Cond.fieldLink RX1 33 "NearlyBought$Market" "counted" "[[I", Cond.methodLink RX1 122 yX1_buyerInsteadOf, Cond.instanceMethod yX1_buyerInsteadOf, Cond.selects RX1 yX1_buyerInsteadOf yX1_buyerInsteadOf, Cond.code yX1_buyerInsteadOf cX1_buyerInsteadOf 6 (some .int), Cond.methodLink RX1 125 yX1_dearestOf, Cond.instanceMethod yX1_dearestOf, Cond.selects RX1 yX1_dearestOf yX1_dearestOf, Cond.code yX1_dearestOf cX1_dearestOf 4 (some .int), Cond.methodLink RX1 63 yX1_addToldPauses, Cond.instanceMethod yX1_addToldPauses, Cond.selects RX1 yX1_addToldPauses yX1_addToldPauses, Cond.code yX1_addToldPauses cX1_addToldPauses 2 none, Cond.fieldLink RX1 74 "NearlyBought$Tale" "pauses" "I", Cond.fieldLink RX1 77 "NearlyBought$Tale" "pauseYear" "[I", Cond.fieldLink RX1 80 "NearlyBought$Tale" "pauser" "[I", Cond.fieldLink RX1 9 "NearlyBought$Market" "silent" "I", Cond.fieldLink RX1 83 "NearlyBought$Tale" "pausedAt" "[I"]
noncomputable def wsX1_holdFairs_r3 : List Cond := [Cond.fieldLink RX1 86 "NearlyBought$Tale" "pauseBreaths" "[I", Cond.methodLink RX1 89 yX1_addPause, Cond.instanceMethod yX1_addPause, Cond.selects RX1 yX1_addPause yX1_addPause, Cond.code yX1_addPause cX1_addPause 4 none, Cond.fieldLink RX1 27 "NearlyBought$Market" "breaths" "[[I", Cond.fieldLink RX1 30 "NearlyBought$Market" "since" "[[I", Cond.methodLink RX1 66 yX4_countedFor, Cond.instanceMethod yX4_countedFor, Cond.selects RX4 yX4_countedFor yX4_countedFor, Cond.initialized RX4, Cond.code yX4_countedFor cX4_countedFor 3 (some .int), Cond.fieldLink RX4 9 "NearlyBought$Tale" "kind" "[I", Cond.methodLink RX1 70 yX4_priceFor, Cond.instanceMethod yX4_priceFor, Cond.selects RX4 yX4_priceFor yX4_priceFor, Cond.code yX4_priceFor cX4_priceFor 5 (some .int), Cond.methodLink RX4 73 yX4_costIn, Cond.instanceMethod yX4_costIn, Cond.selects RX4 yX4_costIn yX4_costIn, Cond.code yX4_costIn cX4_costIn 3 (some .int), Cond.fieldLink RX4 18 "NearlyBought$Tale" "firstCost" "[I", Cond.fieldLink RX4 46 "NearlyBought$Tale" "dearer" "I"]
noncomputable def wsX1_holdFairs : List Cond := .code yX1_holdFairs cX1_holdFairs 3 none :: ((wsX1_holdFairs_r1 ++ (wsX1_holdFairs_r2 ++ wsX1_holdFairs_r3)) ++ wsX10 ++ wsX40)
noncomputable def wsX1_fairsTillGone_r1 : List Cond := [Cond.methodLink RX1 99 yX1_isFree, Cond.instanceMethod yX1_isFree, Cond.selects RX1 yX1_isFree yX1_isFree, Cond.initialized RX1, Cond.code yX1_isFree cX1_isFree 2 (some .boolean), Cond.fieldLink RX1 19 "NearlyBought$Market" "owner" "[I", Cond.methodLink RX1 114 yX1_holdFair, Cond.instanceMethod yX1_holdFair, Cond.selects RX1 yX1_holdFair yX1_holdFair, Cond.code yX1_holdFair cX1_holdFair 3 (some .int), Cond.fieldLink RX1 39 "NearlyBought$Market" "tale" "LNearlyBought$Tale;", Cond.fieldLink RX1 96 "NearlyBought$Tale" "things" "I", Cond.fieldLink RX1 93 "NearlyBought$Tale" "persons" "I", Cond.fieldLink RX1 15 "NearlyBought$Market" "coins" "[I", Cond.fieldLink RX1 106 "NearlyBought$Tale" "earned" "I", Cond.methodLink RX1 109 Lib.Math.min.name, Cond.static Lib.Math.min.name, Cond.initialized "java/lang/Math", Cond.code Lib.Math.min.name Lib.Math.min.code 2 (some .int), Cond.fieldLink RX1 43 "NearlyBought$Market" "year" "I", Cond.methodLink RX1 103 yX1_sell, Cond.instanceMethod yX1_sell, Cond.selects RX1 yX1_sell yX1_sell, Cond.code yX1_sell cX1_sell 5 (some .boolean)]
noncomputable def wsX1_fairsTillGone_r2 : List Cond := [Cond.fieldLink RX1 36 "NearlyBought$Market" "price" "[[I", Cond.fieldLink RX1 22 "NearlyBought$Market" "missed" "[I", Cond.methodLink RX1 118 yX1_claimantOf, Cond.instanceMethod yX1_claimantOf, Cond.selects RX1 yX1_claimantOf yX1_claimantOf, Cond.code yX1_claimantOf cX1_claimantOf 5 (some .int), Cond.fieldLink RX1 33 "NearlyBought$Market" "counted" "[[I", Cond.methodLink RX1 122 yX1_buyerInsteadOf, Cond.instanceMethod yX1_buyerInsteadOf, Cond.selects RX1 yX1_buyerInsteadOf yX1_buyerInsteadOf, Cond.code yX1_buyerInsteadOf cX1_buyerInsteadOf 6 (some .int), Cond.methodLink RX1 125 yX1_dearestOf, Cond.instanceMethod yX1_dearestOf, Cond.selects RX1 yX1_dearestOf yX1_dearestOf, Cond.code yX1_dearestOf cX1_dearestOf 4 (some .int), Cond.methodLink RX1 63 yX1_addToldPauses, Cond.instanceMethod yX1_addToldPauses, Cond.selects RX1 yX1_addToldPauses yX1_addToldPauses, Cond.code yX1_addToldPauses cX1_addToldPauses 2 none, Cond.fieldLink RX1 74 "NearlyBought$Tale" "pauses" "I", Cond.fieldLink RX1 77 "NearlyBought$Tale" "pauseYear" "[I", Cond.fieldLink RX1 80 "NearlyBought$Tale" "pauser" "[I", Cond.fieldLink RX1 9 "NearlyBought$Market" "silent" "I", Cond.fieldLink RX1 83 "NearlyBought$Tale" "pausedAt" "[I"]
noncomputable def wsX1_fairsTillGone_r3 : List Cond := [Cond.fieldLink RX1 86 "NearlyBought$Tale" "pauseBreaths" "[I", Cond.methodLink RX1 89 yX1_addPause, Cond.instanceMethod yX1_addPause, Cond.selects RX1 yX1_addPause yX1_addPause, Cond.code yX1_addPause cX1_addPause 4 none, Cond.fieldLink RX1 27 "NearlyBought$Market" "breaths" "[[I", Cond.fieldLink RX1 30 "NearlyBought$Market" "since" "[[I", Cond.methodLink RX1 66 yX4_countedFor, Cond.instanceMethod yX4_countedFor, Cond.selects RX4 yX4_countedFor yX4_countedFor, Cond.initialized RX4, Cond.code yX4_countedFor cX4_countedFor 3 (some .int), Cond.fieldLink RX4 9 "NearlyBought$Tale" "kind" "[I", Cond.methodLink RX1 70 yX4_priceFor, Cond.instanceMethod yX4_priceFor, Cond.selects RX4 yX4_priceFor yX4_priceFor, Cond.code yX4_priceFor cX4_priceFor 5 (some .int), Cond.methodLink RX4 73 yX4_costIn, Cond.instanceMethod yX4_costIn, Cond.selects RX4 yX4_costIn yX4_costIn, Cond.code yX4_costIn cX4_costIn 3 (some .int), Cond.fieldLink RX4 18 "NearlyBought$Tale" "firstCost" "[I", Cond.fieldLink RX4 46 "NearlyBought$Tale" "dearer" "I"]
noncomputable def wsX1_fairsTillGone : List Cond := .code yX1_fairsTillGone cX1_fairsTillGone 3 (some .int) :: ((wsX1_fairsTillGone_r1 ++ (wsX1_fairsTillGone_r2 ++ wsX1_fairsTillGone_r3)) ++ wsX10 ++ wsX40)
noncomputable def wsX1_dearerTo : List Cond := .code yX1_dearerTo cX1_dearerTo 5 (some .int) :: ([.fieldLink RX1 39 "NearlyBought$Market" "tale" "LNearlyBought$Tale;", .fieldLink RX1 96 "NearlyBought$Tale" "things" "I", .fieldLink RX1 36 "NearlyBought$Market" "price" "[[I"] ++ wsX10 ++ wsX40)
noncomputable def wsX1_wantersOf : List Cond := .code yX1_wantersOf cX1_wantersOf 4 (some .int) :: ([.fieldLink RX1 39 "NearlyBought$Market" "tale" "LNearlyBought$Tale;", .fieldLink RX1 93 "NearlyBought$Tale" "persons" "I", .fieldLink RX1 36 "NearlyBought$Market" "price" "[[I"] ++ wsX10 ++ wsX40)
noncomputable def wsX1_thingsOf : List Cond := .code yX1_thingsOf cX1_thingsOf 4 (some .int) :: ([.fieldLink RX1 39 "NearlyBought$Market" "tale" "LNearlyBought$Tale;", .fieldLink RX1 96 "NearlyBought$Tale" "things" "I", .fieldLink RX1 19 "NearlyBought$Market" "owner" "[I"] ++ wsX10 ++ wsX40)
noncomputable def wsX1_worthOf : List Cond := .code yX1_worthOf cX1_worthOf 4 (some .int) :: ([.fieldLink RX1 15 "NearlyBought$Market" "coins" "[I", .fieldLink RX1 39 "NearlyBought$Market" "tale" "LNearlyBought$Tale;", .fieldLink RX1 96 "NearlyBought$Tale" "things" "I", .fieldLink RX1 19 "NearlyBought$Market" "owner" "[I", .fieldLink RX1 43 "NearlyBought$Market" "year" "I", .methodLink RX1 128 yX4_costIn, .instanceMethod yX4_costIn, .selects RX4 yX4_costIn yX4_costIn, .initialized RX4, .code yX4_costIn cX4_costIn 3 (some .int), .fieldLink RX4 18 "NearlyBought$Tale" "firstCost" "[I", .fieldLink RX4 46 "NearlyBought$Tale" "dearer" "I"] ++ wsX10 ++ wsX40)
noncomputable def wsX1_thingsGone : List Cond := .code yX1_thingsGone cX1_thingsGone 3 (some .int) :: ([.fieldLink RX1 39 "NearlyBought$Market" "tale" "LNearlyBought$Tale;", .fieldLink RX1 96 "NearlyBought$Tale" "things" "I", .methodLink RX1 99 yX1_isFree, .instanceMethod yX1_isFree, .selects RX1 yX1_isFree yX1_isFree, .initialized RX1, .code yX1_isFree cX1_isFree 2 (some .boolean), .fieldLink RX1 19 "NearlyBought$Market" "owner" "[I"] ++ wsX10 ++ wsX40)
noncomputable def wsX1_coinsOfAll : List Cond := .code yX1_coinsOfAll cX1_coinsOfAll 3 (some .int) :: ([.fieldLink RX1 39 "NearlyBought$Market" "tale" "LNearlyBought$Tale;", .fieldLink RX1 93 "NearlyBought$Tale" "persons" "I", .fieldLink RX1 15 "NearlyBought$Market" "coins" "[I"] ++ wsX10 ++ wsX40)
noncomputable def wsX2_init : List Cond := .code yX2_init cX2_init 1 none :: ([.methodLink RX2 3 objectInit, .instanceMethod objectInit, .code objectInit ⟨#[0xb1]⟩ 1 none, .arrayClass .int, .fieldLink RX2 11 "NearlyBought$Reader" "numbers" "[I"] ++ wsX20)
noncomputable def wsX4_clear : List Cond := .code yX4_clear cX4_clear 1 none :: ([.fieldLink RX4 33 "NearlyBought$Tale" "persons" "I", .fieldLink RX4 37 "NearlyBought$Tale" "things" "I", .fieldLink RX4 40 "NearlyBought$Tale" "pauses" "I", .fieldLink RX4 43 "NearlyBought$Tale" "earned" "I", .fieldLink RX4 46 "NearlyBought$Tale" "dearer" "I"] ++ wsX40)
noncomputable def wsX2_letterAt : List Cond := .code yX2_letterAt cX2_letterAt 3 (some .int) :: ([.fieldLink RX2 20 "NearlyBought$Reader" "at" "I"] ++ wsX20)
noncomputable def wsX2_numbersDue : List Cond := .code yX2_numbersDue cX2_numbersDue 1 (some .int) :: ([])
noncomputable def wsX2_readNumber : List Cond := .code yX2_readNumber cX2_readNumber 6 (some .int) :: ([.methodLink RX2 43 Lib.Math.max.name, .static Lib.Math.max.name, .initialized "java/lang/Math", .code Lib.Math.max.name Lib.Math.max.code 2 (some .int), .fieldLink RX2 20 "NearlyBought$Reader" "at" "I", .methodLink RX2 32 yX2_letterAt, .instanceMethod yX2_letterAt, .selects RX2 yX2_letterAt yX2_letterAt, .initialized RX2, .code yX2_letterAt cX2_letterAt 3 (some .int)] ++ wsX20)
noncomputable def wsX2_readItem : List Cond := .code yX2_readItem cX2_readItem 7 (some .boolean) :: ([.fieldLink RX2 20 "NearlyBought$Reader" "at" "I", .fieldLink RX2 11 "NearlyBought$Reader" "numbers" "[I", .methodLink RX2 32 yX2_letterAt, .instanceMethod yX2_letterAt, .selects RX2 yX2_letterAt yX2_letterAt, .initialized RX2, .code yX2_letterAt cX2_letterAt 3 (some .int), .methodLink RX2 36 yX2_numbersDue, .static yX2_numbersDue, .code yX2_numbersDue cX2_numbersDue 1 (some .int), .methodLink RX2 40 yX2_readNumber, .instanceMethod yX2_readNumber, .selects RX2 yX2_readNumber yX2_readNumber, .code yX2_readNumber cX2_readNumber 6 (some .int), .methodLink RX2 43 Lib.Math.max.name, .static Lib.Math.max.name, .initialized "java/lang/Math", .code Lib.Math.max.name Lib.Math.max.code 2 (some .int)] ++ wsX20)
noncomputable def wsX4_takePerson : List Cond := .code yX4_takePerson cX4_takePerson 3 (some .boolean) :: ([.fieldLink RX4 33 "NearlyBought$Tale" "persons" "I", .fieldLink RX4 9 "NearlyBought$Tale" "kind" "[I", .fieldLink RX4 15 "NearlyBought$Tale" "firstCoins" "[I"] ++ wsX40)
noncomputable def wsX4_takeThing : List Cond := .code yX4_takeThing cX4_takeThing 2 (some .boolean) :: ([.fieldLink RX4 37 "NearlyBought$Tale" "things" "I", .fieldLink RX4 18 "NearlyBought$Tale" "firstCost" "[I"] ++ wsX40)
noncomputable def wsX4_hasPerson : List Cond := .code yX4_hasPerson cX4_hasPerson 2 (some .boolean) :: ([.fieldLink RX4 33 "NearlyBought$Tale" "persons" "I"] ++ wsX40)
noncomputable def wsX4_hasThing : List Cond := .code yX4_hasThing cX4_hasThing 2 (some .boolean) :: ([.fieldLink RX4 37 "NearlyBought$Tale" "things" "I"] ++ wsX40)
noncomputable def wsX4_takePause : List Cond := .code yX4_takePause cX4_takePause 6 (some .boolean) :: ([.fieldLink RX4 40 "NearlyBought$Tale" "pauses" "I", .fieldLink RX4 21 "NearlyBought$Tale" "pauser" "[I", .fieldLink RX4 24 "NearlyBought$Tale" "pausedAt" "[I", .fieldLink RX4 27 "NearlyBought$Tale" "pauseBreaths" "[I", .fieldLink RX4 30 "NearlyBought$Tale" "pauseYear" "[I", .methodLink RX4 67 yX4_hasPerson, .instanceMethod yX4_hasPerson, .selects RX4 yX4_hasPerson yX4_hasPerson, .initialized RX4, .code yX4_hasPerson cX4_hasPerson 2 (some .boolean), .fieldLink RX4 33 "NearlyBought$Tale" "persons" "I", .methodLink RX4 70 yX4_hasThing, .instanceMethod yX4_hasThing, .selects RX4 yX4_hasThing yX4_hasThing, .code yX4_hasThing cX4_hasThing 2 (some .boolean), .fieldLink RX4 37 "NearlyBought$Tale" "things" "I"] ++ wsX40)
noncomputable def wsX4_takeEarned : List Cond := .code yX4_takeEarned cX4_takeEarned 2 (some .boolean) :: ([.fieldLink RX4 43 "NearlyBought$Tale" "earned" "I"] ++ wsX40)
noncomputable def wsX4_takeDearer : List Cond := .code yX4_takeDearer cX4_takeDearer 2 (some .boolean) :: ([.fieldLink RX4 46 "NearlyBought$Tale" "dearer" "I"] ++ wsX40)
noncomputable def wsX4_takeItem_r1 : List Cond := [Cond.methodLink RX4 49 yX4_takePerson, Cond.instanceMethod yX4_takePerson, Cond.selects RX4 yX4_takePerson yX4_takePerson, Cond.initialized RX4, Cond.code yX4_takePerson cX4_takePerson 3 (some .boolean), Cond.fieldLink RX4 33 "NearlyBought$Tale" "persons" "I", Cond.fieldLink RX4 9 "NearlyBought$Tale" "kind" "[I", Cond.fieldLink RX4 15 "NearlyBought$Tale" "firstCoins" "[I", Cond.methodLink RX4 53 yX4_takeThing, Cond.instanceMethod yX4_takeThing, Cond.selects RX4 yX4_takeThing yX4_takeThing, Cond.code yX4_takeThing cX4_takeThing 2 (some .boolean), Cond.fieldLink RX4 37 "NearlyBought$Tale" "things" "I", Cond.fieldLink RX4 18 "NearlyBought$Tale" "firstCost" "[I", Cond.methodLink RX4 57 yX4_takePause, Cond.instanceMethod yX4_takePause, Cond.selects RX4 yX4_takePause yX4_takePause, Cond.code yX4_takePause cX4_takePause 6 (some .boolean), Cond.fieldLink RX4 40 "NearlyBought$Tale" "pauses" "I", Cond.fieldLink RX4 21 "NearlyBought$Tale" "pauser" "[I", Cond.fieldLink RX4 24 "NearlyBought$Tale" "pausedAt" "[I", Cond.fieldLink RX4 27 "NearlyBought$Tale" "pauseBreaths" "[I", Cond.fieldLink RX4 30 "NearlyBought$Tale" "pauseYear" "[I", Cond.methodLink RX4 67 yX4_hasPerson]
noncomputable def wsX4_takeItem_r2 : List Cond := [Cond.instanceMethod yX4_hasPerson, Cond.selects RX4 yX4_hasPerson yX4_hasPerson, Cond.code yX4_hasPerson cX4_hasPerson 2 (some .boolean), Cond.methodLink RX4 70 yX4_hasThing, Cond.instanceMethod yX4_hasThing, Cond.selects RX4 yX4_hasThing yX4_hasThing, Cond.code yX4_hasThing cX4_hasThing 2 (some .boolean), Cond.methodLink RX4 61 yX4_takeEarned, Cond.instanceMethod yX4_takeEarned, Cond.selects RX4 yX4_takeEarned yX4_takeEarned, Cond.code yX4_takeEarned cX4_takeEarned 2 (some .boolean), Cond.fieldLink RX4 43 "NearlyBought$Tale" "earned" "I", Cond.methodLink RX4 64 yX4_takeDearer, Cond.instanceMethod yX4_takeDearer, Cond.selects RX4 yX4_takeDearer yX4_takeDearer, Cond.code yX4_takeDearer cX4_takeDearer 2 (some .boolean), Cond.fieldLink RX4 46 "NearlyBought$Tale" "dearer" "I"]
noncomputable def wsX4_takeItem : List Cond := .code yX4_takeItem cX4_takeItem 3 (some .boolean) :: ((wsX4_takeItem_r1 ++ wsX4_takeItem_r2) ++ wsX40)
noncomputable def wsX2_read_r1 : List Cond := [Cond.fieldLink RX2 20 "NearlyBought$Reader" "at" "I", Cond.fieldLink RX2 11 "NearlyBought$Reader" "numbers" "[I", Cond.methodLink RX2 15 yX4_clear, Cond.instanceMethod yX4_clear, Cond.selects RX4 yX4_clear yX4_clear, Cond.initialized RX4, Cond.code yX4_clear cX4_clear 1 none, Cond.fieldLink RX4 33 "NearlyBought$Tale" "persons" "I", Cond.fieldLink RX4 37 "NearlyBought$Tale" "things" "I", Cond.fieldLink RX4 40 "NearlyBought$Tale" "pauses" "I", Cond.fieldLink RX4 43 "NearlyBought$Tale" "earned" "I", Cond.fieldLink RX4 46 "NearlyBought$Tale" "dearer" "I", Cond.methodLink RX2 24 yX2_readItem, Cond.instanceMethod yX2_readItem, Cond.selects RX2 yX2_readItem yX2_readItem, Cond.initialized RX2, Cond.code yX2_readItem cX2_readItem 7 (some .boolean), Cond.methodLink RX2 32 yX2_letterAt, Cond.instanceMethod yX2_letterAt, Cond.selects RX2 yX2_letterAt yX2_letterAt, Cond.code yX2_letterAt cX2_letterAt 3 (some .int), Cond.methodLink RX2 36 yX2_numbersDue, Cond.static yX2_numbersDue, Cond.code yX2_numbersDue cX2_numbersDue 1 (some .int)]
noncomputable def wsX2_read_r2 : List Cond := [Cond.methodLink RX2 40 yX2_readNumber, Cond.instanceMethod yX2_readNumber, Cond.selects RX2 yX2_readNumber yX2_readNumber, Cond.code yX2_readNumber cX2_readNumber 6 (some .int), Cond.methodLink RX2 43 Lib.Math.max.name, Cond.static Lib.Math.max.name, Cond.initialized "java/lang/Math", Cond.code Lib.Math.max.name Lib.Math.max.code 2 (some .int), Cond.methodLink RX2 28 yX4_takeItem, Cond.instanceMethod yX4_takeItem, Cond.selects RX4 yX4_takeItem yX4_takeItem, Cond.code yX4_takeItem cX4_takeItem 3 (some .boolean), Cond.methodLink RX4 49 yX4_takePerson, Cond.instanceMethod yX4_takePerson, Cond.selects RX4 yX4_takePerson yX4_takePerson, Cond.code yX4_takePerson cX4_takePerson 3 (some .boolean), Cond.fieldLink RX4 9 "NearlyBought$Tale" "kind" "[I", Cond.fieldLink RX4 15 "NearlyBought$Tale" "firstCoins" "[I", Cond.methodLink RX4 53 yX4_takeThing, Cond.instanceMethod yX4_takeThing, Cond.selects RX4 yX4_takeThing yX4_takeThing, Cond.code yX4_takeThing cX4_takeThing 2 (some .boolean), Cond.fieldLink RX4 18 "NearlyBought$Tale" "firstCost" "[I", Cond.methodLink RX4 57 yX4_takePause]
noncomputable def wsX2_read_r3 : List Cond := [Cond.instanceMethod yX4_takePause, Cond.selects RX4 yX4_takePause yX4_takePause, Cond.code yX4_takePause cX4_takePause 6 (some .boolean), Cond.fieldLink RX4 21 "NearlyBought$Tale" "pauser" "[I", Cond.fieldLink RX4 24 "NearlyBought$Tale" "pausedAt" "[I", Cond.fieldLink RX4 27 "NearlyBought$Tale" "pauseBreaths" "[I", Cond.fieldLink RX4 30 "NearlyBought$Tale" "pauseYear" "[I", Cond.methodLink RX4 67 yX4_hasPerson, Cond.instanceMethod yX4_hasPerson, Cond.selects RX4 yX4_hasPerson yX4_hasPerson, Cond.code yX4_hasPerson cX4_hasPerson 2 (some .boolean), Cond.methodLink RX4 70 yX4_hasThing, Cond.instanceMethod yX4_hasThing, Cond.selects RX4 yX4_hasThing yX4_hasThing, Cond.code yX4_hasThing cX4_hasThing 2 (some .boolean), Cond.methodLink RX4 61 yX4_takeEarned, Cond.instanceMethod yX4_takeEarned, Cond.selects RX4 yX4_takeEarned yX4_takeEarned, Cond.code yX4_takeEarned cX4_takeEarned 2 (some .boolean), Cond.methodLink RX4 64 yX4_takeDearer, Cond.instanceMethod yX4_takeDearer, Cond.selects RX4 yX4_takeDearer yX4_takeDearer, Cond.code yX4_takeDearer cX4_takeDearer 2 (some .boolean)]
noncomputable def wsX2_read : List Cond := .code yX2_read cX2_read 6 (some .int) :: ((wsX2_read_r1 ++ (wsX2_read_r2 ++ wsX2_read_r3)) ++ wsX20 ++ wsX40)
noncomputable def wsX3_init : List Cond := .code yX3_init cX3_init 1 none :: ([.methodLink RX3 3 objectInit, .instanceMethod objectInit, .code objectInit ⟨#[0xb1]⟩ 1 none, .arrayClass .int, .fieldLink RX3 9 "NearlyBought$Sights" "things" "[I", .fieldLink RX3 15 "NearlyBought$Sights" "persons" "[I", .fieldLink RX3 18 "NearlyBought$Sights" "fairs" "[I"] ++ wsX30)
noncomputable def wsX3_add : List Cond := .code yX3_add cX3_add 4 none :: ([.fieldLink RX3 21 "NearlyBought$Sights" "size" "I", .fieldLink RX3 9 "NearlyBought$Sights" "things" "[I", .fieldLink RX3 15 "NearlyBought$Sights" "persons" "[I", .fieldLink RX3 18 "NearlyBought$Sights" "fairs" "[I"] ++ wsX30)
noncomputable def wsX3_allHoldIn_r1 : List Cond := [Cond.fieldLink RX3 21 "NearlyBought$Sights" "size" "I", Cond.fieldLink RX3 18 "NearlyBought$Sights" "fairs" "[I", Cond.fieldLink RX3 35 "NearlyBought$Market" "owner" "[I", Cond.fieldLink RX3 9 "NearlyBought$Sights" "things" "[I", Cond.fieldLink RX3 15 "NearlyBought$Sights" "persons" "[I", Cond.methodLink RX3 25 yX1_begin, Cond.instanceMethod yX1_begin, Cond.selects RX1 yX1_begin yX1_begin, Cond.initialized RX1, Cond.code yX1_begin cX1_begin 3 none, Cond.fieldLink RX1 43 "NearlyBought$Market" "year" "I", Cond.fieldLink RX1 9 "NearlyBought$Market" "silent" "I", Cond.fieldLink RX1 39 "NearlyBought$Market" "tale" "LNearlyBought$Tale;", Cond.fieldLink RX1 46 "NearlyBought$Tale" "firstCoins" "[I", Cond.fieldLink RX1 15 "NearlyBought$Market" "coins" "[I", Cond.methodLink RX1 51 arraycopyName, Cond.native arraycopyName, Cond.static arraycopyName, Cond.initialized "java/lang/System", Cond.fieldLink RX1 19 "NearlyBought$Market" "owner" "[I", Cond.fieldLink RX1 22 "NearlyBought$Market" "missed" "[I", Cond.fieldLink RX1 27 "NearlyBought$Market" "breaths" "[[I", Cond.fieldLink RX1 30 "NearlyBought$Market" "since" "[[I", Cond.fieldLink RX1 33 "NearlyBought$Market" "counted" "[[I"]
noncomputable def wsX3_allHoldIn_r2 : List Cond := [Cond.fieldLink RX1 36 "NearlyBought$Market" "price" "[[I", Cond.methodLink RX1 57 yJ7_fill_53178, Cond.static yJ7_fill_53178, Cond.initialized RJ7, Cond.code yJ7_fill_53178 cJ7_fill_53178 4 none, Cond.methodLink RX1 63 yX1_addToldPauses, Cond.instanceMethod yX1_addToldPauses, Cond.selects RX1 yX1_addToldPauses yX1_addToldPauses, Cond.code yX1_addToldPauses cX1_addToldPauses 2 none, Cond.fieldLink RX1 74 "NearlyBought$Tale" "pauses" "I", Cond.fieldLink RX1 77 "NearlyBought$Tale" "pauseYear" "[I", Cond.fieldLink RX1 80 "NearlyBought$Tale" "pauser" "[I", Cond.fieldLink RX1 83 "NearlyBought$Tale" "pausedAt" "[I", Cond.fieldLink RX1 86 "NearlyBought$Tale" "pauseBreaths" "[I", Cond.methodLink RX1 89 yX1_addPause, Cond.instanceMethod yX1_addPause, Cond.selects RX1 yX1_addPause yX1_addPause, Cond.code yX1_addPause cX1_addPause 4 none, Cond.methodLink RX1 66 yX4_countedFor, Cond.instanceMethod yX4_countedFor, Cond.selects RX4 yX4_countedFor yX4_countedFor, Cond.initialized RX4, Cond.code yX4_countedFor cX4_countedFor 3 (some .int), Cond.fieldLink RX4 9 "NearlyBought$Tale" "kind" "[I"]
noncomputable def wsX3_allHoldIn_r3 : List Cond := [Cond.methodLink RX1 70 yX4_priceFor, Cond.instanceMethod yX4_priceFor, Cond.selects RX4 yX4_priceFor yX4_priceFor, Cond.code yX4_priceFor cX4_priceFor 5 (some .int), Cond.methodLink RX4 73 yX4_costIn, Cond.instanceMethod yX4_costIn, Cond.selects RX4 yX4_costIn yX4_costIn, Cond.code yX4_costIn cX4_costIn 3 (some .int), Cond.fieldLink RX4 18 "NearlyBought$Tale" "firstCost" "[I", Cond.fieldLink RX4 46 "NearlyBought$Tale" "dearer" "I", Cond.methodLink RX3 31 yX1_holdFair, Cond.instanceMethod yX1_holdFair, Cond.selects RX1 yX1_holdFair yX1_holdFair, Cond.code yX1_holdFair cX1_holdFair 3 (some .int), Cond.fieldLink RX1 96 "NearlyBought$Tale" "things" "I", Cond.fieldLink RX1 93 "NearlyBought$Tale" "persons" "I", Cond.fieldLink RX1 106 "NearlyBought$Tale" "earned" "I", Cond.methodLink RX1 109 Lib.Math.min.name, Cond.static Lib.Math.min.name, Cond.initialized "java/lang/Math", Cond.code Lib.Math.min.name Lib.Math.min.code 2 (some .int), Cond.methodLink RX1 99 yX1_isFree, Cond.instanceMethod yX1_isFree, Cond.selects RX1 yX1_isFree yX1_isFree]
noncomputable def wsX3_allHoldIn_r4 : List Cond := [Cond.code yX1_isFree cX1_isFree 2 (some .boolean), Cond.methodLink RX1 103 yX1_sell, Cond.instanceMethod yX1_sell, Cond.selects RX1 yX1_sell yX1_sell, Cond.code yX1_sell cX1_sell 5 (some .boolean), Cond.methodLink RX1 118 yX1_claimantOf, Cond.instanceMethod yX1_claimantOf, Cond.selects RX1 yX1_claimantOf yX1_claimantOf, Cond.code yX1_claimantOf cX1_claimantOf 5 (some .int), Cond.methodLink RX1 122 yX1_buyerInsteadOf, Cond.instanceMethod yX1_buyerInsteadOf, Cond.selects RX1 yX1_buyerInsteadOf yX1_buyerInsteadOf, Cond.code yX1_buyerInsteadOf cX1_buyerInsteadOf 6 (some .int), Cond.methodLink RX1 125 yX1_dearestOf, Cond.instanceMethod yX1_dearestOf, Cond.selects RX1 yX1_dearestOf yX1_dearestOf, Cond.code yX1_dearestOf cX1_dearestOf 4 (some .int)]
noncomputable def wsX3_allHoldIn : List Cond := .code yX3_allHoldIn cX3_allHoldIn 5 (some .boolean) :: ((wsX3_allHoldIn_r1 ++ (wsX3_allHoldIn_r2 ++ (wsX3_allHoldIn_r3 ++ wsX3_allHoldIn_r4))) ++ wsX30 ++ wsX10 ++ wsX40)
noncomputable def wsX4_init : List Cond := .code yX4_init cX4_init 1 none :: ([.methodLink RX4 3 objectInit, .instanceMethod objectInit, .code objectInit ⟨#[0xb1]⟩ 1 none, .arrayClass .int, .fieldLink RX4 9 "NearlyBought$Tale" "kind" "[I", .fieldLink RX4 15 "NearlyBought$Tale" "firstCoins" "[I", .fieldLink RX4 18 "NearlyBought$Tale" "firstCost" "[I", .fieldLink RX4 21 "NearlyBought$Tale" "pauser" "[I", .fieldLink RX4 24 "NearlyBought$Tale" "pausedAt" "[I", .fieldLink RX4 27 "NearlyBought$Tale" "pauseBreaths" "[I", .fieldLink RX4 30 "NearlyBought$Tale" "pauseYear" "[I"] ++ wsX40)
noncomputable def wsX4_canBeLaid : List Cond := .code yX4_canBeLaid cX4_canBeLaid 1 (some .boolean) :: ([.fieldLink RX4 33 "NearlyBought$Tale" "persons" "I", .fieldLink RX4 37 "NearlyBought$Tale" "things" "I"] ++ wsX40)
noncomputable def wsJ0_coder_7d493 : List Cond := .code yJ0_coder_7d493 cJ0_coder_7d493 1 (some .byte) :: ([.fieldLink RJ0 38 "java/lang/String" "COMPACT_STRINGS" "Z", .fieldLink RJ0 15 "java/lang/String" "coder" "B"])
noncomputable def wsJ0_length_8abf5 : List Cond := .code yJ0_length_8abf5 cJ0_length_8abf5 1 (some .int) :: ([.fieldLink RJ0 9 "java/lang/String" "value" "[B", .methodLink RJ0 335 yJ0_coder_7d493, .instanceMethod yJ0_coder_7d493, .selects RJ0 yJ0_coder_7d493 yJ0_coder_7d493, .initialized RJ0, .code yJ0_coder_7d493 cJ0_coder_7d493 1 (some .byte), .fieldLink RJ0 38 "java/lang/String" "COMPACT_STRINGS" "Z", .fieldLink RJ0 15 "java/lang/String" "coder" "B"])
noncomputable def wsJ0_isLatin1_aae02 : List Cond := .code yJ0_isLatin1_aae02 cJ0_isLatin1_aae02 1 (some .boolean) :: ([.fieldLink RJ0 38 "java/lang/String" "COMPACT_STRINGS" "Z", .fieldLink RJ0 15 "java/lang/String" "coder" "B"])
noncomputable def wsJ3_checkIndex_8e157 : List Cond := .code yJ3_checkIndex_8e157 cJ3_checkIndex_8e157 3 (some .int) :: ([])
noncomputable def wsJ0_checkIndex_df160 : List Cond := .code yJ0_checkIndex_df160 cJ0_checkIndex_df160 2 none :: ([.fieldLink RJ0 1053 "jdk/internal/util/Preconditions" "SIOOBE_FORMATTER" "Ljava/util/function/BiFunction;", .methodLink RJ0 1059 yJ3_checkIndex_8e157, .static yJ3_checkIndex_8e157, .initialized RJ3, .code yJ3_checkIndex_8e157 cJ3_checkIndex_8e157 3 (some .int)])
noncomputable def wsJ1_charAt_3b067 : List Cond := .code yJ1_charAt_3b067 cJ1_charAt_3b067 2 (some .char) :: ([.methodLink RJ1 9 yJ0_checkIndex_df160, .static yJ0_checkIndex_df160, .initialized RJ0, .code yJ0_checkIndex_df160 cJ0_checkIndex_df160 2 none, .fieldLink RJ0 1053 "jdk/internal/util/Preconditions" "SIOOBE_FORMATTER" "Ljava/util/function/BiFunction;", .methodLink RJ0 1059 yJ3_checkIndex_8e157, .static yJ3_checkIndex_8e157, .initialized RJ3, .code yJ3_checkIndex_8e157 cJ3_checkIndex_8e157 3 (some .int)])
noncomputable def wsJ2_length_9d52b : List Cond := .code yJ2_length_9d52b cJ2_length_9d52b 1 (some .int) :: ([])
noncomputable def wsJ2_checkIndex_2214a : List Cond := .code yJ2_checkIndex_2214a cJ2_checkIndex_2214a 2 none :: ([.methodLink RJ2 48 yJ2_length_9d52b, .static yJ2_length_9d52b, .initialized RJ2, .code yJ2_length_9d52b cJ2_length_9d52b 1 (some .int), .methodLink RJ2 414 yJ0_checkIndex_df160, .static yJ0_checkIndex_df160, .initialized RJ0, .code yJ0_checkIndex_df160 cJ0_checkIndex_df160 2 none, .fieldLink RJ0 1053 "jdk/internal/util/Preconditions" "SIOOBE_FORMATTER" "Ljava/util/function/BiFunction;", .methodLink RJ0 1059 yJ3_checkIndex_8e157, .static yJ3_checkIndex_8e157, .initialized RJ3, .code yJ3_checkIndex_8e157 cJ3_checkIndex_8e157 3 (some .int)])
noncomputable def wsJ2_getChar_3b067 : List Cond := .code yJ2_getChar_3b067 cJ2_getChar_3b067 2 (some .char) :: ([.fieldLink RJ2 44 "java/lang/StringUTF16" "$assertionsDisabled" "Z", .fieldLink RJ2 59 "java/lang/StringUTF16" "HI_BYTE_SHIFT" "I", .fieldLink RJ2 63 "java/lang/StringUTF16" "LO_BYTE_SHIFT" "I", .methodLink RJ2 48 yJ2_length_9d52b, .static yJ2_length_9d52b, .initialized RJ2, .code yJ2_length_9d52b cJ2_length_9d52b 1 (some .int)])
noncomputable def wsJ2_charAt_3b067 : List Cond := .code yJ2_charAt_3b067 cJ2_charAt_3b067 2 (some .char) :: ([.methodLink RJ2 67 yJ2_checkIndex_2214a, .static yJ2_checkIndex_2214a, .initialized RJ2, .code yJ2_checkIndex_2214a cJ2_checkIndex_2214a 2 none, .methodLink RJ2 48 yJ2_length_9d52b, .static yJ2_length_9d52b, .code yJ2_length_9d52b cJ2_length_9d52b 1 (some .int), .methodLink RJ2 414 yJ0_checkIndex_df160, .static yJ0_checkIndex_df160, .initialized RJ0, .code yJ0_checkIndex_df160 cJ0_checkIndex_df160 2 none, .fieldLink RJ0 1053 "jdk/internal/util/Preconditions" "SIOOBE_FORMATTER" "Ljava/util/function/BiFunction;", .methodLink RJ0 1059 yJ3_checkIndex_8e157, .static yJ3_checkIndex_8e157, .initialized RJ3, .code yJ3_checkIndex_8e157 cJ3_checkIndex_8e157 3 (some .int), .methodLink RJ2 71 yJ2_getChar_3b067, .static yJ2_getChar_3b067, .code yJ2_getChar_3b067 cJ2_getChar_3b067 2 (some .char), .fieldLink RJ2 44 "java/lang/StringUTF16" "$assertionsDisabled" "Z", .fieldLink RJ2 59 "java/lang/StringUTF16" "HI_BYTE_SHIFT" "I", .fieldLink RJ2 63 "java/lang/StringUTF16" "LO_BYTE_SHIFT" "I"])
noncomputable def wsJ0_charAt_5068e_r1 : List Cond := [Cond.fieldLink RJ0 9 "java/lang/String" "value" "[B", Cond.methodLink RJ0 492 yJ0_isLatin1_aae02, Cond.instanceMethod yJ0_isLatin1_aae02, Cond.selects RJ0 yJ0_isLatin1_aae02 yJ0_isLatin1_aae02, Cond.initialized RJ0, Cond.code yJ0_isLatin1_aae02 cJ0_isLatin1_aae02 1 (some .boolean), Cond.fieldLink RJ0 38 "java/lang/String" "COMPACT_STRINGS" "Z", Cond.fieldLink RJ0 15 "java/lang/String" "coder" "B", Cond.methodLink RJ0 495 yJ1_charAt_3b067, Cond.static yJ1_charAt_3b067, Cond.initialized RJ1, Cond.code yJ1_charAt_3b067 cJ1_charAt_3b067 2 (some .char), Cond.methodLink RJ1 9 yJ0_checkIndex_df160, Cond.static yJ0_checkIndex_df160, Cond.code yJ0_checkIndex_df160 cJ0_checkIndex_df160 2 none, Cond.fieldLink RJ0 1053 "jdk/internal/util/Preconditions" "SIOOBE_FORMATTER" "Ljava/util/function/BiFunction;", Cond.methodLink RJ0 1059 yJ3_checkIndex_8e157, Cond.static yJ3_checkIndex_8e157, Cond.initialized RJ3, Cond.code yJ3_checkIndex_8e157 cJ3_checkIndex_8e157 3 (some .int), Cond.methodLink RJ0 498 yJ2_charAt_3b067, Cond.static yJ2_charAt_3b067, Cond.initialized RJ2, Cond.code yJ2_charAt_3b067 cJ2_charAt_3b067 2 (some .char)]
noncomputable def wsJ0_charAt_5068e_r2 : List Cond := [Cond.methodLink RJ2 67 yJ2_checkIndex_2214a, Cond.static yJ2_checkIndex_2214a, Cond.code yJ2_checkIndex_2214a cJ2_checkIndex_2214a 2 none, Cond.methodLink RJ2 48 yJ2_length_9d52b, Cond.static yJ2_length_9d52b, Cond.code yJ2_length_9d52b cJ2_length_9d52b 1 (some .int), Cond.methodLink RJ2 414 yJ0_checkIndex_df160, Cond.methodLink RJ2 71 yJ2_getChar_3b067, Cond.static yJ2_getChar_3b067, Cond.code yJ2_getChar_3b067 cJ2_getChar_3b067 2 (some .char), Cond.fieldLink RJ2 44 "java/lang/StringUTF16" "$assertionsDisabled" "Z", Cond.fieldLink RJ2 59 "java/lang/StringUTF16" "HI_BYTE_SHIFT" "I", Cond.fieldLink RJ2 63 "java/lang/StringUTF16" "LO_BYTE_SHIFT" "I"]
noncomputable def wsJ0_charAt_5068e : List Cond := .code yJ0_charAt_5068e cJ0_charAt_5068e 2 (some .char) :: ((wsJ0_charAt_5068e_r1 ++ wsJ0_charAt_5068e_r2))
noncomputable def wsX5_putFirstText_r1 : List Cond := [Cond.methodLink RX5 211 Lib.Math.min.name, Cond.static Lib.Math.min.name, Cond.initialized "java/lang/Math", Cond.code Lib.Math.min.name Lib.Math.min.code 2 (some .int), Cond.fieldLink RX5 66 "NearlyBought" "textLength" "I", Cond.fieldLink RX5 9 "NearlyBought" "text" "[I", Cond.methodLink RX5 206 yJ0_length_8abf5, Cond.instanceMethod yJ0_length_8abf5, Cond.selects RJ0 yJ0_length_8abf5 yJ0_length_8abf5, Cond.initialized RJ0, Cond.code yJ0_length_8abf5 cJ0_length_8abf5 1 (some .int), Cond.fieldLink RJ0 9 "java/lang/String" "value" "[B", Cond.methodLink RJ0 335 yJ0_coder_7d493, Cond.instanceMethod yJ0_coder_7d493, Cond.selects RJ0 yJ0_coder_7d493 yJ0_coder_7d493, Cond.code yJ0_coder_7d493 cJ0_coder_7d493 1 (some .byte), Cond.fieldLink RJ0 38 "java/lang/String" "COMPACT_STRINGS" "Z", Cond.fieldLink RJ0 15 "java/lang/String" "coder" "B", Cond.methodLink RX5 214 yJ0_charAt_5068e, Cond.instanceMethod yJ0_charAt_5068e, Cond.selects RJ0 yJ0_charAt_5068e yJ0_charAt_5068e, Cond.code yJ0_charAt_5068e cJ0_charAt_5068e 2 (some .char), Cond.methodLink RJ0 492 yJ0_isLatin1_aae02, Cond.instanceMethod yJ0_isLatin1_aae02]
noncomputable def wsX5_putFirstText_r2 : List Cond := [Cond.selects RJ0 yJ0_isLatin1_aae02 yJ0_isLatin1_aae02, Cond.code yJ0_isLatin1_aae02 cJ0_isLatin1_aae02 1 (some .boolean), Cond.methodLink RJ0 495 yJ1_charAt_3b067, Cond.static yJ1_charAt_3b067, Cond.initialized RJ1, Cond.code yJ1_charAt_3b067 cJ1_charAt_3b067 2 (some .char), Cond.methodLink RJ1 9 yJ0_checkIndex_df160, Cond.static yJ0_checkIndex_df160, Cond.code yJ0_checkIndex_df160 cJ0_checkIndex_df160 2 none, Cond.fieldLink RJ0 1053 "jdk/internal/util/Preconditions" "SIOOBE_FORMATTER" "Ljava/util/function/BiFunction;", Cond.methodLink RJ0 1059 yJ3_checkIndex_8e157, Cond.static yJ3_checkIndex_8e157, Cond.initialized RJ3, Cond.code yJ3_checkIndex_8e157 cJ3_checkIndex_8e157 3 (some .int), Cond.methodLink RJ0 498 yJ2_charAt_3b067, Cond.static yJ2_charAt_3b067, Cond.initialized RJ2, Cond.code yJ2_charAt_3b067 cJ2_charAt_3b067 2 (some .char), Cond.methodLink RJ2 67 yJ2_checkIndex_2214a, Cond.static yJ2_checkIndex_2214a, Cond.code yJ2_checkIndex_2214a cJ2_checkIndex_2214a 2 none, Cond.methodLink RJ2 48 yJ2_length_9d52b, Cond.static yJ2_length_9d52b, Cond.code yJ2_length_9d52b cJ2_length_9d52b 1 (some .int)]
noncomputable def wsX5_putFirstText_r3 : List Cond := [Cond.methodLink RJ2 414 yJ0_checkIndex_df160, Cond.methodLink RJ2 71 yJ2_getChar_3b067, Cond.static yJ2_getChar_3b067, Cond.code yJ2_getChar_3b067 cJ2_getChar_3b067 2 (some .char), Cond.fieldLink RJ2 44 "java/lang/StringUTF16" "$assertionsDisabled" "Z", Cond.fieldLink RJ2 59 "java/lang/StringUTF16" "HI_BYTE_SHIFT" "I", Cond.fieldLink RJ2 63 "java/lang/StringUTF16" "LO_BYTE_SHIFT" "I"]
noncomputable def wsX5_putFirstText : List Cond := .code yX5_putFirstText cX5_putFirstText 2 none :: ((wsX5_putFirstText_r1 ++ (wsX5_putFirstText_r2 ++ wsX5_putFirstText_r3)) ++ wsX50)
noncomputable def wsX5_layTheText_r1 : List Cond := [Cond.fieldLink RX5 16 "NearlyBought" "reader" "LNearlyBought$Reader;", Cond.fieldLink RX5 9 "NearlyBought" "text" "[I", Cond.fieldLink RX5 66 "NearlyBought" "textLength" "I", Cond.fieldLink RX5 27 "NearlyBought" "laid" "LNearlyBought$Tale;", Cond.fieldLink RX5 35 "NearlyBought" "now" "LNearlyBought$Market;", Cond.fieldLink RX5 45 "NearlyBought" "history" "LNearlyBought$History;", Cond.fieldLink RX5 145 "NearlyBought$History" "size" "I", Cond.fieldLink RX5 201 "NearlyBought" "keptCount" "I", Cond.fieldLink RX5 56 "NearlyBought" "sights" "LNearlyBought$Sights;", Cond.fieldLink RX5 167 "NearlyBought$Sights" "size" "I", Cond.methodLink RX5 70 yX2_read, Cond.instanceMethod yX2_read, Cond.selects RX2 yX2_read yX2_read, Cond.initialized RX2, Cond.code yX2_read cX2_read 6 (some .int), Cond.fieldLink RX2 20 "NearlyBought$Reader" "at" "I", Cond.fieldLink RX2 11 "NearlyBought$Reader" "numbers" "[I", Cond.methodLink RX2 15 yX4_clear, Cond.instanceMethod yX4_clear, Cond.selects RX4 yX4_clear yX4_clear, Cond.initialized RX4, Cond.code yX4_clear cX4_clear 1 none, Cond.fieldLink RX4 33 "NearlyBought$Tale" "persons" "I", Cond.fieldLink RX4 37 "NearlyBought$Tale" "things" "I"]
noncomputable def wsX5_layTheText_r2 : List Cond := [Cond.fieldLink RX4 40 "NearlyBought$Tale" "pauses" "I", Cond.fieldLink RX4 43 "NearlyBought$Tale" "earned" "I", Cond.fieldLink RX4 46 "NearlyBought$Tale" "dearer" "I", Cond.methodLink RX2 24 yX2_readItem, Cond.instanceMethod yX2_readItem, Cond.selects RX2 yX2_readItem yX2_readItem, Cond.code yX2_readItem cX2_readItem 7 (some .boolean), Cond.methodLink RX2 32 yX2_letterAt, Cond.instanceMethod yX2_letterAt, Cond.selects RX2 yX2_letterAt yX2_letterAt, Cond.code yX2_letterAt cX2_letterAt 3 (some .int), Cond.methodLink RX2 36 yX2_numbersDue, Cond.static yX2_numbersDue, Cond.code yX2_numbersDue cX2_numbersDue 1 (some .int), Cond.methodLink RX2 40 yX2_readNumber, Cond.instanceMethod yX2_readNumber, Cond.selects RX2 yX2_readNumber yX2_readNumber, Cond.code yX2_readNumber cX2_readNumber 6 (some .int), Cond.methodLink RX2 43 Lib.Math.max.name, Cond.static Lib.Math.max.name, Cond.initialized "java/lang/Math", Cond.code Lib.Math.max.name Lib.Math.max.code 2 (some .int), Cond.methodLink RX2 28 yX4_takeItem, Cond.instanceMethod yX4_takeItem]
noncomputable def wsX5_layTheText_r3 : List Cond := [Cond.selects RX4 yX4_takeItem yX4_takeItem, Cond.code yX4_takeItem cX4_takeItem 3 (some .boolean), Cond.methodLink RX4 49 yX4_takePerson, Cond.instanceMethod yX4_takePerson, Cond.selects RX4 yX4_takePerson yX4_takePerson, Cond.code yX4_takePerson cX4_takePerson 3 (some .boolean), Cond.fieldLink RX4 9 "NearlyBought$Tale" "kind" "[I", Cond.fieldLink RX4 15 "NearlyBought$Tale" "firstCoins" "[I", Cond.methodLink RX4 53 yX4_takeThing, Cond.instanceMethod yX4_takeThing, Cond.selects RX4 yX4_takeThing yX4_takeThing, Cond.code yX4_takeThing cX4_takeThing 2 (some .boolean), Cond.fieldLink RX4 18 "NearlyBought$Tale" "firstCost" "[I", Cond.methodLink RX4 57 yX4_takePause, Cond.instanceMethod yX4_takePause, Cond.selects RX4 yX4_takePause yX4_takePause, Cond.code yX4_takePause cX4_takePause 6 (some .boolean), Cond.fieldLink RX4 21 "NearlyBought$Tale" "pauser" "[I", Cond.fieldLink RX4 24 "NearlyBought$Tale" "pausedAt" "[I", Cond.fieldLink RX4 27 "NearlyBought$Tale" "pauseBreaths" "[I", Cond.fieldLink RX4 30 "NearlyBought$Tale" "pauseYear" "[I", Cond.methodLink RX4 67 yX4_hasPerson, Cond.instanceMethod yX4_hasPerson, Cond.selects RX4 yX4_hasPerson yX4_hasPerson]
noncomputable def wsX5_layTheText_r4 : List Cond := [Cond.code yX4_hasPerson cX4_hasPerson 2 (some .boolean), Cond.methodLink RX4 70 yX4_hasThing, Cond.instanceMethod yX4_hasThing, Cond.selects RX4 yX4_hasThing yX4_hasThing, Cond.code yX4_hasThing cX4_hasThing 2 (some .boolean), Cond.methodLink RX4 61 yX4_takeEarned, Cond.instanceMethod yX4_takeEarned, Cond.selects RX4 yX4_takeEarned yX4_takeEarned, Cond.code yX4_takeEarned cX4_takeEarned 2 (some .boolean), Cond.methodLink RX4 64 yX4_takeDearer, Cond.instanceMethod yX4_takeDearer, Cond.selects RX4 yX4_takeDearer yX4_takeDearer, Cond.code yX4_takeDearer cX4_takeDearer 2 (some .boolean), Cond.methodLink RX5 218 yX1_begin, Cond.instanceMethod yX1_begin, Cond.selects RX1 yX1_begin yX1_begin, Cond.initialized RX1, Cond.code yX1_begin cX1_begin 3 none, Cond.fieldLink RX1 43 "NearlyBought$Market" "year" "I", Cond.fieldLink RX1 9 "NearlyBought$Market" "silent" "I", Cond.fieldLink RX1 39 "NearlyBought$Market" "tale" "LNearlyBought$Tale;", Cond.fieldLink RX1 46 "NearlyBought$Tale" "firstCoins" "[I", Cond.fieldLink RX1 15 "NearlyBought$Market" "coins" "[I", Cond.methodLink RX1 51 arraycopyName]
noncomputable def wsX5_layTheText_r5 : List Cond := [Cond.native arraycopyName, Cond.static arraycopyName, Cond.initialized "java/lang/System", Cond.fieldLink RX1 19 "NearlyBought$Market" "owner" "[I", Cond.fieldLink RX1 22 "NearlyBought$Market" "missed" "[I", Cond.fieldLink RX1 27 "NearlyBought$Market" "breaths" "[[I", Cond.fieldLink RX1 30 "NearlyBought$Market" "since" "[[I", Cond.fieldLink RX1 33 "NearlyBought$Market" "counted" "[[I", Cond.fieldLink RX1 36 "NearlyBought$Market" "price" "[[I", Cond.methodLink RX1 57 yJ7_fill_53178, Cond.static yJ7_fill_53178, Cond.initialized RJ7, Cond.code yJ7_fill_53178 cJ7_fill_53178 4 none, Cond.methodLink RX1 63 yX1_addToldPauses, Cond.instanceMethod yX1_addToldPauses, Cond.selects RX1 yX1_addToldPauses yX1_addToldPauses, Cond.code yX1_addToldPauses cX1_addToldPauses 2 none, Cond.fieldLink RX1 74 "NearlyBought$Tale" "pauses" "I", Cond.fieldLink RX1 77 "NearlyBought$Tale" "pauseYear" "[I", Cond.fieldLink RX1 80 "NearlyBought$Tale" "pauser" "[I", Cond.fieldLink RX1 83 "NearlyBought$Tale" "pausedAt" "[I", Cond.fieldLink RX1 86 "NearlyBought$Tale" "pauseBreaths" "[I", Cond.methodLink RX1 89 yX1_addPause, Cond.instanceMethod yX1_addPause]
noncomputable def wsX5_layTheText_r6 : List Cond := [Cond.selects RX1 yX1_addPause yX1_addPause, Cond.code yX1_addPause cX1_addPause 4 none, Cond.methodLink RX1 66 yX4_countedFor, Cond.instanceMethod yX4_countedFor, Cond.selects RX4 yX4_countedFor yX4_countedFor, Cond.code yX4_countedFor cX4_countedFor 3 (some .int), Cond.methodLink RX1 70 yX4_priceFor, Cond.instanceMethod yX4_priceFor, Cond.selects RX4 yX4_priceFor yX4_priceFor, Cond.code yX4_priceFor cX4_priceFor 5 (some .int), Cond.methodLink RX4 73 yX4_costIn, Cond.instanceMethod yX4_costIn, Cond.selects RX4 yX4_costIn yX4_costIn, Cond.code yX4_costIn cX4_costIn 3 (some .int)]
noncomputable def wsX5_layTheText : List Cond := .code yX5_layTheText cX5_layTheText 1 none :: ((wsX5_layTheText_r1 ++ (wsX5_layTheText_r2 ++ (wsX5_layTheText_r3 ++ (wsX5_layTheText_r4 ++ (wsX5_layTheText_r5 ++ wsX5_layTheText_r6))))) ++ wsX50 ++ wsX00 ++ wsX30 ++ wsX20 ++ wsX40 ++ wsX10)
noncomputable def wsX5_init_r1 : List Cond := [Cond.methodLink RX5 3 objectInit, Cond.instanceMethod objectInit, Cond.code objectInit ⟨#[0xb1]⟩ 1 none, Cond.arrayClass .int, Cond.fieldLink RX5 9 "NearlyBought" "text" "[I", Cond.classLink RX5 13 RX2, Cond.instantiable RX2 2, Cond.initialized RX2, Cond.fieldLink RX5 16 "NearlyBought" "reader" "LNearlyBought$Reader;", Cond.classLink RX5 20 RX4, Cond.instantiable RX4 12, Cond.initialized RX4, Cond.fieldLink RX5 23 "NearlyBought" "draft" "LNearlyBought$Tale;", Cond.fieldLink RX5 27 "NearlyBought" "laid" "LNearlyBought$Tale;", Cond.classLink RX5 30 RX1, Cond.instantiable RX1 10, Cond.initialized RX1, Cond.fieldLink RX5 35 "NearlyBought" "now" "LNearlyBought$Market;", Cond.fieldLink RX5 39 "NearlyBought" "trial" "LNearlyBought$Market;", Cond.classLink RX5 42 RX0, Cond.instantiable RX0 3, Cond.initialized RX0, Cond.fieldLink RX5 45 "NearlyBought" "history" "LNearlyBought$History;", Cond.fieldLink RX5 49 "NearlyBought" "kept" "[LNearlyBought$Market;"]
noncomputable def wsX5_init_r2 : List Cond := [Cond.classLink RX5 53 RX3, Cond.instantiable RX3 4, Cond.initialized RX3, Cond.fieldLink RX5 56 "NearlyBought" "sights" "LNearlyBought$Sights;", Cond.fieldLink RX5 66 "NearlyBought" "textLength" "I", Cond.instanceMethod yX2_init, Cond.code yX2_init cX2_init 1 none, Cond.methodLink RX2 3 objectInit, Cond.fieldLink RX2 11 "NearlyBought$Reader" "numbers" "[I", Cond.instanceMethod yX4_init, Cond.code yX4_init cX4_init 1 none, Cond.methodLink RX4 3 objectInit, Cond.fieldLink RX4 9 "NearlyBought$Tale" "kind" "[I", Cond.fieldLink RX4 15 "NearlyBought$Tale" "firstCoins" "[I", Cond.fieldLink RX4 18 "NearlyBought$Tale" "firstCost" "[I", Cond.fieldLink RX4 21 "NearlyBought$Tale" "pauser" "[I", Cond.fieldLink RX4 24 "NearlyBought$Tale" "pausedAt" "[I", Cond.fieldLink RX4 27 "NearlyBought$Tale" "pauseBreaths" "[I", Cond.fieldLink RX4 30 "NearlyBought$Tale" "pauseYear" "[I", Cond.methodLink RX5 32 yX1_init, Cond.instanceMethod yX1_init, Cond.code yX1_init cX1_init 2 none, Cond.methodLink RX1 3 objectInit, Cond.fieldLink RX1 9 "NearlyBought$Market" "silent" "I"]
end
section
noncomputable def wsX5_init_r3 : List Cond := [Cond.fieldLink RX1 15 "NearlyBought$Market" "coins" "[I", Cond.fieldLink RX1 19 "NearlyBought$Market" "owner" "[I", Cond.fieldLink RX1 22 "NearlyBought$Market" "missed" "[I", Cond.classLink RX1 25 "[[I", Cond.fieldLink RX1 27 "NearlyBought$Market" "breaths" "[[I", Cond.fieldLink RX1 30 "NearlyBought$Market" "since" "[[I", Cond.fieldLink RX1 33 "NearlyBought$Market" "counted" "[[I", Cond.fieldLink RX1 36 "NearlyBought$Market" "price" "[[I", Cond.fieldLink RX1 39 "NearlyBought$Market" "tale" "LNearlyBought$Tale;", Cond.methodLink RX5 44 yX0_init, Cond.instanceMethod yX0_init, Cond.code yX0_init cX0_init 3 none, Cond.methodLink RX0 3 objectInit, Cond.classLink RX0 9 RX1, Cond.fieldLink RX0 11 "NearlyBought$History" "before" "[LNearlyBought$Market;", Cond.methodLink RX0 17 yX1_init, Cond.instanceMethod yX3_init, Cond.code yX3_init cX3_init 1 none, Cond.methodLink RX3 3 objectInit, Cond.fieldLink RX3 9 "NearlyBought$Sights" "things" "[I", Cond.fieldLink RX3 15 "NearlyBought$Sights" "persons" "[I", Cond.fieldLink RX3 18 "NearlyBought$Sights" "fairs" "[I", Cond.methodLink RX5 60 yX5_putFirstText, Cond.instanceMethod yX5_putFirstText]
noncomputable def wsX5_init_r4 : List Cond := [Cond.selects RX5 yX5_putFirstText yX5_putFirstText, Cond.initialized RX5, Cond.code yX5_putFirstText cX5_putFirstText 2 none, Cond.methodLink RX5 211 Lib.Math.min.name, Cond.static Lib.Math.min.name, Cond.initialized "java/lang/Math", Cond.code Lib.Math.min.name Lib.Math.min.code 2 (some .int), Cond.methodLink RX5 206 yJ0_length_8abf5, Cond.instanceMethod yJ0_length_8abf5, Cond.selects RJ0 yJ0_length_8abf5 yJ0_length_8abf5, Cond.initialized RJ0, Cond.code yJ0_length_8abf5 cJ0_length_8abf5 1 (some .int), Cond.fieldLink RJ0 9 "java/lang/String" "value" "[B", Cond.methodLink RJ0 335 yJ0_coder_7d493, Cond.instanceMethod yJ0_coder_7d493, Cond.selects RJ0 yJ0_coder_7d493 yJ0_coder_7d493, Cond.code yJ0_coder_7d493 cJ0_coder_7d493 1 (some .byte), Cond.fieldLink RJ0 38 "java/lang/String" "COMPACT_STRINGS" "Z", Cond.fieldLink RJ0 15 "java/lang/String" "coder" "B", Cond.methodLink RX5 214 yJ0_charAt_5068e, Cond.instanceMethod yJ0_charAt_5068e, Cond.selects RJ0 yJ0_charAt_5068e yJ0_charAt_5068e, Cond.code yJ0_charAt_5068e cJ0_charAt_5068e 2 (some .char), Cond.methodLink RJ0 492 yJ0_isLatin1_aae02]
noncomputable def wsX5_init_r5 : List Cond := [Cond.instanceMethod yJ0_isLatin1_aae02, Cond.selects RJ0 yJ0_isLatin1_aae02 yJ0_isLatin1_aae02, Cond.code yJ0_isLatin1_aae02 cJ0_isLatin1_aae02 1 (some .boolean), Cond.methodLink RJ0 495 yJ1_charAt_3b067, Cond.static yJ1_charAt_3b067, Cond.initialized RJ1, Cond.code yJ1_charAt_3b067 cJ1_charAt_3b067 2 (some .char), Cond.methodLink RJ1 9 yJ0_checkIndex_df160, Cond.static yJ0_checkIndex_df160, Cond.code yJ0_checkIndex_df160 cJ0_checkIndex_df160 2 none, Cond.fieldLink RJ0 1053 "jdk/internal/util/Preconditions" "SIOOBE_FORMATTER" "Ljava/util/function/BiFunction;", Cond.methodLink RJ0 1059 yJ3_checkIndex_8e157, Cond.static yJ3_checkIndex_8e157, Cond.initialized RJ3, Cond.code yJ3_checkIndex_8e157 cJ3_checkIndex_8e157 3 (some .int), Cond.methodLink RJ0 498 yJ2_charAt_3b067, Cond.static yJ2_charAt_3b067, Cond.initialized RJ2, Cond.code yJ2_charAt_3b067 cJ2_charAt_3b067 2 (some .char), Cond.methodLink RJ2 67 yJ2_checkIndex_2214a, Cond.static yJ2_checkIndex_2214a, Cond.code yJ2_checkIndex_2214a cJ2_checkIndex_2214a 2 none, Cond.methodLink RJ2 48 yJ2_length_9d52b, Cond.static yJ2_length_9d52b]
noncomputable def wsX5_init_r6 : List Cond := [Cond.code yJ2_length_9d52b cJ2_length_9d52b 1 (some .int), Cond.methodLink RJ2 414 yJ0_checkIndex_df160, Cond.methodLink RJ2 71 yJ2_getChar_3b067, Cond.static yJ2_getChar_3b067, Cond.code yJ2_getChar_3b067 cJ2_getChar_3b067 2 (some .char), Cond.fieldLink RJ2 44 "java/lang/StringUTF16" "$assertionsDisabled" "Z", Cond.fieldLink RJ2 59 "java/lang/StringUTF16" "HI_BYTE_SHIFT" "I", Cond.fieldLink RJ2 63 "java/lang/StringUTF16" "LO_BYTE_SHIFT" "I", Cond.methodLink RX5 63 yX5_layTheText, Cond.instanceMethod yX5_layTheText, Cond.selects RX5 yX5_layTheText yX5_layTheText, Cond.code yX5_layTheText cX5_layTheText 1 none, Cond.fieldLink RX5 145 "NearlyBought$History" "size" "I", Cond.fieldLink RX5 201 "NearlyBought" "keptCount" "I", Cond.fieldLink RX5 167 "NearlyBought$Sights" "size" "I", Cond.methodLink RX5 70 yX2_read, Cond.instanceMethod yX2_read, Cond.selects RX2 yX2_read yX2_read, Cond.code yX2_read cX2_read 6 (some .int), Cond.fieldLink RX2 20 "NearlyBought$Reader" "at" "I", Cond.methodLink RX2 15 yX4_clear, Cond.instanceMethod yX4_clear, Cond.selects RX4 yX4_clear yX4_clear, Cond.code yX4_clear cX4_clear 1 none]
noncomputable def wsX5_init_r7 : List Cond := [Cond.fieldLink RX4 33 "NearlyBought$Tale" "persons" "I", Cond.fieldLink RX4 37 "NearlyBought$Tale" "things" "I", Cond.fieldLink RX4 40 "NearlyBought$Tale" "pauses" "I", Cond.fieldLink RX4 43 "NearlyBought$Tale" "earned" "I", Cond.fieldLink RX4 46 "NearlyBought$Tale" "dearer" "I", Cond.methodLink RX2 24 yX2_readItem, Cond.instanceMethod yX2_readItem, Cond.selects RX2 yX2_readItem yX2_readItem, Cond.code yX2_readItem cX2_readItem 7 (some .boolean), Cond.methodLink RX2 32 yX2_letterAt, Cond.instanceMethod yX2_letterAt, Cond.selects RX2 yX2_letterAt yX2_letterAt, Cond.code yX2_letterAt cX2_letterAt 3 (some .int), Cond.methodLink RX2 36 yX2_numbersDue, Cond.static yX2_numbersDue, Cond.code yX2_numbersDue cX2_numbersDue 1 (some .int), Cond.methodLink RX2 40 yX2_readNumber, Cond.instanceMethod yX2_readNumber, Cond.selects RX2 yX2_readNumber yX2_readNumber, Cond.code yX2_readNumber cX2_readNumber 6 (some .int), Cond.methodLink RX2 43 Lib.Math.max.name, Cond.static Lib.Math.max.name, Cond.code Lib.Math.max.name Lib.Math.max.code 2 (some .int), Cond.methodLink RX2 28 yX4_takeItem]
noncomputable def wsX5_init_r8 : List Cond := [Cond.instanceMethod yX4_takeItem, Cond.selects RX4 yX4_takeItem yX4_takeItem, Cond.code yX4_takeItem cX4_takeItem 3 (some .boolean), Cond.methodLink RX4 49 yX4_takePerson, Cond.instanceMethod yX4_takePerson, Cond.selects RX4 yX4_takePerson yX4_takePerson, Cond.code yX4_takePerson cX4_takePerson 3 (some .boolean), Cond.methodLink RX4 53 yX4_takeThing, Cond.instanceMethod yX4_takeThing, Cond.selects RX4 yX4_takeThing yX4_takeThing, Cond.code yX4_takeThing cX4_takeThing 2 (some .boolean), Cond.methodLink RX4 57 yX4_takePause, Cond.instanceMethod yX4_takePause, Cond.selects RX4 yX4_takePause yX4_takePause, Cond.code yX4_takePause cX4_takePause 6 (some .boolean), Cond.methodLink RX4 67 yX4_hasPerson, Cond.instanceMethod yX4_hasPerson, Cond.selects RX4 yX4_hasPerson yX4_hasPerson, Cond.code yX4_hasPerson cX4_hasPerson 2 (some .boolean), Cond.methodLink RX4 70 yX4_hasThing, Cond.instanceMethod yX4_hasThing, Cond.selects RX4 yX4_hasThing yX4_hasThing, Cond.code yX4_hasThing cX4_hasThing 2 (some .boolean), Cond.methodLink RX4 61 yX4_takeEarned]
noncomputable def wsX5_init_r9 : List Cond := [Cond.instanceMethod yX4_takeEarned, Cond.selects RX4 yX4_takeEarned yX4_takeEarned, Cond.code yX4_takeEarned cX4_takeEarned 2 (some .boolean), Cond.methodLink RX4 64 yX4_takeDearer, Cond.instanceMethod yX4_takeDearer, Cond.selects RX4 yX4_takeDearer yX4_takeDearer, Cond.code yX4_takeDearer cX4_takeDearer 2 (some .boolean), Cond.methodLink RX5 218 yX1_begin, Cond.instanceMethod yX1_begin, Cond.selects RX1 yX1_begin yX1_begin, Cond.code yX1_begin cX1_begin 3 none, Cond.fieldLink RX1 43 "NearlyBought$Market" "year" "I", Cond.fieldLink RX1 46 "NearlyBought$Tale" "firstCoins" "[I", Cond.methodLink RX1 51 arraycopyName, Cond.native arraycopyName, Cond.static arraycopyName, Cond.initialized "java/lang/System", Cond.methodLink RX1 57 yJ7_fill_53178, Cond.static yJ7_fill_53178, Cond.initialized RJ7, Cond.code yJ7_fill_53178 cJ7_fill_53178 4 none, Cond.methodLink RX1 63 yX1_addToldPauses, Cond.instanceMethod yX1_addToldPauses, Cond.selects RX1 yX1_addToldPauses yX1_addToldPauses]
noncomputable def wsX5_init_r10 : List Cond := [Cond.code yX1_addToldPauses cX1_addToldPauses 2 none, Cond.fieldLink RX1 74 "NearlyBought$Tale" "pauses" "I", Cond.fieldLink RX1 77 "NearlyBought$Tale" "pauseYear" "[I", Cond.fieldLink RX1 80 "NearlyBought$Tale" "pauser" "[I", Cond.fieldLink RX1 83 "NearlyBought$Tale" "pausedAt" "[I", Cond.fieldLink RX1 86 "NearlyBought$Tale" "pauseBreaths" "[I", Cond.methodLink RX1 89 yX1_addPause, Cond.instanceMethod yX1_addPause, Cond.selects RX1 yX1_addPause yX1_addPause, Cond.code yX1_addPause cX1_addPause 4 none, Cond.methodLink RX1 66 yX4_countedFor, Cond.instanceMethod yX4_countedFor, Cond.selects RX4 yX4_countedFor yX4_countedFor, Cond.code yX4_countedFor cX4_countedFor 3 (some .int), Cond.methodLink RX1 70 yX4_priceFor, Cond.instanceMethod yX4_priceFor, Cond.selects RX4 yX4_priceFor yX4_priceFor, Cond.code yX4_priceFor cX4_priceFor 5 (some .int), Cond.methodLink RX4 73 yX4_costIn, Cond.instanceMethod yX4_costIn, Cond.selects RX4 yX4_costIn yX4_costIn, Cond.code yX4_costIn cX4_costIn 3 (some .int)]
noncomputable def wsX5_init : List Cond := .code yX5_init cX5_init 2 none :: ((wsX5_init_r1 ++ (wsX5_init_r2 ++ (wsX5_init_r3 ++ (wsX5_init_r4 ++ (wsX5_init_r5 ++ (wsX5_init_r6 ++ (wsX5_init_r7 ++ (wsX5_init_r8 ++ (wsX5_init_r9 ++ wsX5_init_r10))))))))) ++ wsX50 ++ wsX20 ++ wsX40 ++ wsX10 ++ wsX00 ++ wsX30)
noncomputable def wsX5_write : List Cond := .code yX5_write cX5_write 2 (some .int) :: ([.fieldLink RX5 66 "NearlyBought" "textLength" "I", .fieldLink RX5 9 "NearlyBought" "text" "[I"] ++ wsX50)
noncomputable def wsX5_wipe : List Cond := .code yX5_wipe cX5_wipe 2 (some .int) :: ([.fieldLink RX5 66 "NearlyBought" "textLength" "I"] ++ wsX50)
noncomputable def wsX5_fault_r1 : List Cond := [Cond.fieldLink RX5 16 "NearlyBought" "reader" "LNearlyBought$Reader;", Cond.fieldLink RX5 9 "NearlyBought" "text" "[I", Cond.fieldLink RX5 66 "NearlyBought" "textLength" "I", Cond.fieldLink RX5 23 "NearlyBought" "draft" "LNearlyBought$Tale;", Cond.methodLink RX5 70 yX2_read, Cond.instanceMethod yX2_read, Cond.selects RX2 yX2_read yX2_read, Cond.initialized RX2, Cond.code yX2_read cX2_read 6 (some .int), Cond.fieldLink RX2 20 "NearlyBought$Reader" "at" "I", Cond.fieldLink RX2 11 "NearlyBought$Reader" "numbers" "[I", Cond.methodLink RX2 15 yX4_clear, Cond.instanceMethod yX4_clear, Cond.selects RX4 yX4_clear yX4_clear, Cond.initialized RX4, Cond.code yX4_clear cX4_clear 1 none, Cond.fieldLink RX4 33 "NearlyBought$Tale" "persons" "I", Cond.fieldLink RX4 37 "NearlyBought$Tale" "things" "I", Cond.fieldLink RX4 40 "NearlyBought$Tale" "pauses" "I", Cond.fieldLink RX4 43 "NearlyBought$Tale" "earned" "I", Cond.fieldLink RX4 46 "NearlyBought$Tale" "dearer" "I", Cond.methodLink RX2 24 yX2_readItem, Cond.instanceMethod yX2_readItem, Cond.selects RX2 yX2_readItem yX2_readItem]
noncomputable def wsX5_fault_r2 : List Cond := [Cond.code yX2_readItem cX2_readItem 7 (some .boolean), Cond.methodLink RX2 32 yX2_letterAt, Cond.instanceMethod yX2_letterAt, Cond.selects RX2 yX2_letterAt yX2_letterAt, Cond.code yX2_letterAt cX2_letterAt 3 (some .int), Cond.methodLink RX2 36 yX2_numbersDue, Cond.static yX2_numbersDue, Cond.code yX2_numbersDue cX2_numbersDue 1 (some .int), Cond.methodLink RX2 40 yX2_readNumber, Cond.instanceMethod yX2_readNumber, Cond.selects RX2 yX2_readNumber yX2_readNumber, Cond.code yX2_readNumber cX2_readNumber 6 (some .int), Cond.methodLink RX2 43 Lib.Math.max.name, Cond.static Lib.Math.max.name, Cond.initialized "java/lang/Math", Cond.code Lib.Math.max.name Lib.Math.max.code 2 (some .int), Cond.methodLink RX2 28 yX4_takeItem, Cond.instanceMethod yX4_takeItem, Cond.selects RX4 yX4_takeItem yX4_takeItem, Cond.code yX4_takeItem cX4_takeItem 3 (some .boolean), Cond.methodLink RX4 49 yX4_takePerson, Cond.instanceMethod yX4_takePerson, Cond.selects RX4 yX4_takePerson yX4_takePerson, Cond.code yX4_takePerson cX4_takePerson 3 (some .boolean)]
noncomputable def wsX5_fault_r3 : List Cond := [Cond.fieldLink RX4 9 "NearlyBought$Tale" "kind" "[I", Cond.fieldLink RX4 15 "NearlyBought$Tale" "firstCoins" "[I", Cond.methodLink RX4 53 yX4_takeThing, Cond.instanceMethod yX4_takeThing, Cond.selects RX4 yX4_takeThing yX4_takeThing, Cond.code yX4_takeThing cX4_takeThing 2 (some .boolean), Cond.fieldLink RX4 18 "NearlyBought$Tale" "firstCost" "[I", Cond.methodLink RX4 57 yX4_takePause, Cond.instanceMethod yX4_takePause, Cond.selects RX4 yX4_takePause yX4_takePause, Cond.code yX4_takePause cX4_takePause 6 (some .boolean), Cond.fieldLink RX4 21 "NearlyBought$Tale" "pauser" "[I", Cond.fieldLink RX4 24 "NearlyBought$Tale" "pausedAt" "[I", Cond.fieldLink RX4 27 "NearlyBought$Tale" "pauseBreaths" "[I", Cond.fieldLink RX4 30 "NearlyBought$Tale" "pauseYear" "[I", Cond.methodLink RX4 67 yX4_hasPerson, Cond.instanceMethod yX4_hasPerson, Cond.selects RX4 yX4_hasPerson yX4_hasPerson, Cond.code yX4_hasPerson cX4_hasPerson 2 (some .boolean), Cond.methodLink RX4 70 yX4_hasThing, Cond.instanceMethod yX4_hasThing, Cond.selects RX4 yX4_hasThing yX4_hasThing, Cond.code yX4_hasThing cX4_hasThing 2 (some .boolean), Cond.methodLink RX4 61 yX4_takeEarned]
noncomputable def wsX5_fault_r4 : List Cond := [Cond.instanceMethod yX4_takeEarned, Cond.selects RX4 yX4_takeEarned yX4_takeEarned, Cond.code yX4_takeEarned cX4_takeEarned 2 (some .boolean), Cond.methodLink RX4 64 yX4_takeDearer, Cond.instanceMethod yX4_takeDearer, Cond.selects RX4 yX4_takeDearer yX4_takeDearer, Cond.code yX4_takeDearer cX4_takeDearer 2 (some .boolean)]
noncomputable def wsX5_fault : List Cond := .code yX5_fault cX5_fault 1 (some .int) :: ((wsX5_fault_r1 ++ (wsX5_fault_r2 ++ (wsX5_fault_r3 ++ wsX5_fault_r4))) ++ wsX50 ++ wsX20 ++ wsX40)
noncomputable def wsX5_lay_r1 : List Cond := [Cond.fieldLink RX5 16 "NearlyBought" "reader" "LNearlyBought$Reader;", Cond.fieldLink RX5 9 "NearlyBought" "text" "[I", Cond.fieldLink RX5 66 "NearlyBought" "textLength" "I", Cond.fieldLink RX5 23 "NearlyBought" "draft" "LNearlyBought$Tale;", Cond.fieldLink RX5 27 "NearlyBought" "laid" "LNearlyBought$Tale;", Cond.fieldLink RX5 78 "NearlyBought$Tale" "things" "I", Cond.methodLink RX5 70 yX2_read, Cond.instanceMethod yX2_read, Cond.selects RX2 yX2_read yX2_read, Cond.initialized RX2, Cond.code yX2_read cX2_read 6 (some .int), Cond.fieldLink RX2 20 "NearlyBought$Reader" "at" "I", Cond.fieldLink RX2 11 "NearlyBought$Reader" "numbers" "[I", Cond.methodLink RX2 15 yX4_clear, Cond.instanceMethod yX4_clear, Cond.selects RX4 yX4_clear yX4_clear, Cond.initialized RX4, Cond.code yX4_clear cX4_clear 1 none, Cond.fieldLink RX4 33 "NearlyBought$Tale" "persons" "I", Cond.fieldLink RX4 37 "NearlyBought$Tale" "things" "I", Cond.fieldLink RX4 40 "NearlyBought$Tale" "pauses" "I", Cond.fieldLink RX4 43 "NearlyBought$Tale" "earned" "I", Cond.fieldLink RX4 46 "NearlyBought$Tale" "dearer" "I", Cond.methodLink RX2 24 yX2_readItem]
noncomputable def wsX5_lay_r2 : List Cond := [Cond.instanceMethod yX2_readItem, Cond.selects RX2 yX2_readItem yX2_readItem, Cond.code yX2_readItem cX2_readItem 7 (some .boolean), Cond.methodLink RX2 32 yX2_letterAt, Cond.instanceMethod yX2_letterAt, Cond.selects RX2 yX2_letterAt yX2_letterAt, Cond.code yX2_letterAt cX2_letterAt 3 (some .int), Cond.methodLink RX2 36 yX2_numbersDue, Cond.static yX2_numbersDue, Cond.code yX2_numbersDue cX2_numbersDue 1 (some .int), Cond.methodLink RX2 40 yX2_readNumber, Cond.instanceMethod yX2_readNumber, Cond.selects RX2 yX2_readNumber yX2_readNumber, Cond.code yX2_readNumber cX2_readNumber 6 (some .int), Cond.methodLink RX2 43 Lib.Math.max.name, Cond.static Lib.Math.max.name, Cond.initialized "java/lang/Math", Cond.code Lib.Math.max.name Lib.Math.max.code 2 (some .int), Cond.methodLink RX2 28 yX4_takeItem, Cond.instanceMethod yX4_takeItem, Cond.selects RX4 yX4_takeItem yX4_takeItem, Cond.code yX4_takeItem cX4_takeItem 3 (some .boolean), Cond.methodLink RX4 49 yX4_takePerson, Cond.instanceMethod yX4_takePerson]
noncomputable def wsX5_lay_r3 : List Cond := [Cond.selects RX4 yX4_takePerson yX4_takePerson, Cond.code yX4_takePerson cX4_takePerson 3 (some .boolean), Cond.fieldLink RX4 9 "NearlyBought$Tale" "kind" "[I", Cond.fieldLink RX4 15 "NearlyBought$Tale" "firstCoins" "[I", Cond.methodLink RX4 53 yX4_takeThing, Cond.instanceMethod yX4_takeThing, Cond.selects RX4 yX4_takeThing yX4_takeThing, Cond.code yX4_takeThing cX4_takeThing 2 (some .boolean), Cond.fieldLink RX4 18 "NearlyBought$Tale" "firstCost" "[I", Cond.methodLink RX4 57 yX4_takePause, Cond.instanceMethod yX4_takePause, Cond.selects RX4 yX4_takePause yX4_takePause, Cond.code yX4_takePause cX4_takePause 6 (some .boolean), Cond.fieldLink RX4 21 "NearlyBought$Tale" "pauser" "[I", Cond.fieldLink RX4 24 "NearlyBought$Tale" "pausedAt" "[I", Cond.fieldLink RX4 27 "NearlyBought$Tale" "pauseBreaths" "[I", Cond.fieldLink RX4 30 "NearlyBought$Tale" "pauseYear" "[I", Cond.methodLink RX4 67 yX4_hasPerson, Cond.instanceMethod yX4_hasPerson, Cond.selects RX4 yX4_hasPerson yX4_hasPerson, Cond.code yX4_hasPerson cX4_hasPerson 2 (some .boolean), Cond.methodLink RX4 70 yX4_hasThing, Cond.instanceMethod yX4_hasThing, Cond.selects RX4 yX4_hasThing yX4_hasThing]
noncomputable def wsX5_lay_r4 : List Cond := [Cond.code yX4_hasThing cX4_hasThing 2 (some .boolean), Cond.methodLink RX4 61 yX4_takeEarned, Cond.instanceMethod yX4_takeEarned, Cond.selects RX4 yX4_takeEarned yX4_takeEarned, Cond.code yX4_takeEarned cX4_takeEarned 2 (some .boolean), Cond.methodLink RX4 64 yX4_takeDearer, Cond.instanceMethod yX4_takeDearer, Cond.selects RX4 yX4_takeDearer yX4_takeDearer, Cond.code yX4_takeDearer cX4_takeDearer 2 (some .boolean), Cond.methodLink RX5 74 yX4_canBeLaid, Cond.instanceMethod yX4_canBeLaid, Cond.selects RX4 yX4_canBeLaid yX4_canBeLaid, Cond.code yX4_canBeLaid cX4_canBeLaid 1 (some .boolean), Cond.methodLink RX5 63 yX5_layTheText, Cond.instanceMethod yX5_layTheText, Cond.selects RX5 yX5_layTheText yX5_layTheText, Cond.initialized RX5, Cond.code yX5_layTheText cX5_layTheText 1 none, Cond.fieldLink RX5 35 "NearlyBought" "now" "LNearlyBought$Market;", Cond.fieldLink RX5 45 "NearlyBought" "history" "LNearlyBought$History;", Cond.fieldLink RX5 145 "NearlyBought$History" "size" "I", Cond.fieldLink RX5 201 "NearlyBought" "keptCount" "I", Cond.fieldLink RX5 56 "NearlyBought" "sights" "LNearlyBought$Sights;", Cond.fieldLink RX5 167 "NearlyBought$Sights" "size" "I"]
noncomputable def wsX5_lay_r5 : List Cond := [Cond.methodLink RX5 218 yX1_begin, Cond.instanceMethod yX1_begin, Cond.selects RX1 yX1_begin yX1_begin, Cond.initialized RX1, Cond.code yX1_begin cX1_begin 3 none, Cond.fieldLink RX1 43 "NearlyBought$Market" "year" "I", Cond.fieldLink RX1 9 "NearlyBought$Market" "silent" "I", Cond.fieldLink RX1 39 "NearlyBought$Market" "tale" "LNearlyBought$Tale;", Cond.fieldLink RX1 46 "NearlyBought$Tale" "firstCoins" "[I", Cond.fieldLink RX1 15 "NearlyBought$Market" "coins" "[I", Cond.methodLink RX1 51 arraycopyName, Cond.native arraycopyName, Cond.static arraycopyName, Cond.initialized "java/lang/System", Cond.fieldLink RX1 19 "NearlyBought$Market" "owner" "[I", Cond.fieldLink RX1 22 "NearlyBought$Market" "missed" "[I", Cond.fieldLink RX1 27 "NearlyBought$Market" "breaths" "[[I", Cond.fieldLink RX1 30 "NearlyBought$Market" "since" "[[I", Cond.fieldLink RX1 33 "NearlyBought$Market" "counted" "[[I", Cond.fieldLink RX1 36 "NearlyBought$Market" "price" "[[I", Cond.methodLink RX1 57 yJ7_fill_53178, Cond.static yJ7_fill_53178, Cond.initialized RJ7, Cond.code yJ7_fill_53178 cJ7_fill_53178 4 none]
noncomputable def wsX5_lay_r6 : List Cond := [Cond.methodLink RX1 63 yX1_addToldPauses, Cond.instanceMethod yX1_addToldPauses, Cond.selects RX1 yX1_addToldPauses yX1_addToldPauses, Cond.code yX1_addToldPauses cX1_addToldPauses 2 none, Cond.fieldLink RX1 74 "NearlyBought$Tale" "pauses" "I", Cond.fieldLink RX1 77 "NearlyBought$Tale" "pauseYear" "[I", Cond.fieldLink RX1 80 "NearlyBought$Tale" "pauser" "[I", Cond.fieldLink RX1 83 "NearlyBought$Tale" "pausedAt" "[I", Cond.fieldLink RX1 86 "NearlyBought$Tale" "pauseBreaths" "[I", Cond.methodLink RX1 89 yX1_addPause, Cond.instanceMethod yX1_addPause, Cond.selects RX1 yX1_addPause yX1_addPause, Cond.code yX1_addPause cX1_addPause 4 none, Cond.methodLink RX1 66 yX4_countedFor, Cond.instanceMethod yX4_countedFor, Cond.selects RX4 yX4_countedFor yX4_countedFor, Cond.code yX4_countedFor cX4_countedFor 3 (some .int), Cond.methodLink RX1 70 yX4_priceFor, Cond.instanceMethod yX4_priceFor, Cond.selects RX4 yX4_priceFor yX4_priceFor, Cond.code yX4_priceFor cX4_priceFor 5 (some .int), Cond.methodLink RX4 73 yX4_costIn, Cond.instanceMethod yX4_costIn, Cond.selects RX4 yX4_costIn yX4_costIn]
noncomputable def wsX5_lay_r7 : List Cond := [Cond.code yX4_costIn cX4_costIn 3 (some .int)]
noncomputable def wsX5_lay : List Cond := .code yX5_lay cX5_lay 1 (some .int) :: ((wsX5_lay_r1 ++ (wsX5_lay_r2 ++ (wsX5_lay_r3 ++ (wsX5_lay_r4 ++ (wsX5_lay_r5 ++ (wsX5_lay_r6 ++ wsX5_lay_r7)))))) ++ wsX50 ++ wsX40 ++ wsX20 ++ wsX00 ++ wsX30 ++ wsX10)
noncomputable def wsX5_person_r1 : List Cond := [Cond.fieldLink RX5 27 "NearlyBought" "laid" "LNearlyBought$Tale;", Cond.fieldLink RX5 85 "NearlyBought$Tale" "kind" "[I", Cond.fieldLink RX5 35 "NearlyBought" "now" "LNearlyBought$Market;", Cond.fieldLink RX5 88 "NearlyBought$Market" "coins" "[I", Cond.methodLink RX5 81 yX4_hasPerson, Cond.instanceMethod yX4_hasPerson, Cond.selects RX4 yX4_hasPerson yX4_hasPerson, Cond.initialized RX4, Cond.code yX4_hasPerson cX4_hasPerson 2 (some .boolean), Cond.fieldLink RX4 33 "NearlyBought$Tale" "persons" "I", Cond.methodLink RX5 91 yX1_thingsOf, Cond.instanceMethod yX1_thingsOf, Cond.selects RX1 yX1_thingsOf yX1_thingsOf, Cond.initialized RX1, Cond.code yX1_thingsOf cX1_thingsOf 4 (some .int), Cond.fieldLink RX1 39 "NearlyBought$Market" "tale" "LNearlyBought$Tale;", Cond.fieldLink RX1 96 "NearlyBought$Tale" "things" "I", Cond.fieldLink RX1 19 "NearlyBought$Market" "owner" "[I", Cond.methodLink RX5 95 yX1_worthOf, Cond.instanceMethod yX1_worthOf, Cond.selects RX1 yX1_worthOf yX1_worthOf, Cond.code yX1_worthOf cX1_worthOf 4 (some .int), Cond.fieldLink RX1 15 "NearlyBought$Market" "coins" "[I", Cond.fieldLink RX1 43 "NearlyBought$Market" "year" "I"]
noncomputable def wsX5_person_r2 : List Cond := [Cond.methodLink RX1 128 yX4_costIn, Cond.instanceMethod yX4_costIn, Cond.selects RX4 yX4_costIn yX4_costIn, Cond.code yX4_costIn cX4_costIn 3 (some .int), Cond.fieldLink RX4 18 "NearlyBought$Tale" "firstCost" "[I", Cond.fieldLink RX4 46 "NearlyBought$Tale" "dearer" "I"]
noncomputable def wsX5_person : List Cond := .code yX5_person cX5_person 3 (some .int) :: ((wsX5_person_r1 ++ wsX5_person_r2) ++ wsX50 ++ wsX40 ++ wsX10)
noncomputable def wsX5_thing_r1 : List Cond := [Cond.fieldLink RX5 27 "NearlyBought" "laid" "LNearlyBought$Tale;", Cond.fieldLink RX5 35 "NearlyBought" "now" "LNearlyBought$Market;", Cond.fieldLink RX5 101 "NearlyBought$Market" "year" "I", Cond.fieldLink RX5 108 "NearlyBought$Market" "owner" "[I", Cond.fieldLink RX5 111 "NearlyBought$Market" "missed" "[I", Cond.methodLink RX5 98 yX4_hasThing, Cond.instanceMethod yX4_hasThing, Cond.selects RX4 yX4_hasThing yX4_hasThing, Cond.initialized RX4, Cond.code yX4_hasThing cX4_hasThing 2 (some .boolean), Cond.fieldLink RX4 37 "NearlyBought$Tale" "things" "I", Cond.methodLink RX5 104 yX4_costIn, Cond.instanceMethod yX4_costIn, Cond.selects RX4 yX4_costIn yX4_costIn, Cond.code yX4_costIn cX4_costIn 3 (some .int), Cond.fieldLink RX4 18 "NearlyBought$Tale" "firstCost" "[I", Cond.fieldLink RX4 46 "NearlyBought$Tale" "dearer" "I", Cond.methodLink RX5 114 yX1_isFree, Cond.instanceMethod yX1_isFree, Cond.selects RX1 yX1_isFree yX1_isFree, Cond.initialized RX1, Cond.code yX1_isFree cX1_isFree 2 (some .boolean), Cond.fieldLink RX1 19 "NearlyBought$Market" "owner" "[I", Cond.methodLink RX5 117 yX1_claimantOf]
noncomputable def wsX5_thing_r2 : List Cond := [Cond.instanceMethod yX1_claimantOf, Cond.selects RX1 yX1_claimantOf yX1_claimantOf, Cond.code yX1_claimantOf cX1_claimantOf 5 (some .int), Cond.fieldLink RX1 39 "NearlyBought$Market" "tale" "LNearlyBought$Tale;", Cond.fieldLink RX1 93 "NearlyBought$Tale" "persons" "I", Cond.fieldLink RX1 33 "NearlyBought$Market" "counted" "[[I"]
noncomputable def wsX5_thing : List Cond := .code yX5_thing cX5_thing 3 (some .int) :: ((wsX5_thing_r1 ++ wsX5_thing_r2) ++ wsX50 ++ wsX10 ++ wsX40)
noncomputable def wsX5_nearly : List Cond := .code yX5_nearly cX5_nearly 4 (some .int) :: ([.fieldLink RX5 27 "NearlyBought" "laid" "LNearlyBought$Tale;", .fieldLink RX5 35 "NearlyBought" "now" "LNearlyBought$Market;", .fieldLink RX5 120 "NearlyBought$Market" "breaths" "[[I", .fieldLink RX5 124 "NearlyBought$Market" "counted" "[[I", .fieldLink RX5 127 "NearlyBought$Market" "since" "[[I", .fieldLink RX5 130 "NearlyBought$Market" "price" "[[I", .methodLink RX5 81 yX4_hasPerson, .instanceMethod yX4_hasPerson, .selects RX4 yX4_hasPerson yX4_hasPerson, .initialized RX4, .code yX4_hasPerson cX4_hasPerson 2 (some .boolean), .fieldLink RX4 33 "NearlyBought$Tale" "persons" "I", .methodLink RX5 98 yX4_hasThing, .instanceMethod yX4_hasThing, .selects RX4 yX4_hasThing yX4_hasThing, .code yX4_hasThing cX4_hasThing 2 (some .boolean), .fieldLink RX4 37 "NearlyBought$Tale" "things" "I"] ++ wsX50 ++ wsX10 ++ wsX40)
noncomputable def wsX5_pause_r1 : List Cond := [Cond.fieldLink RX5 27 "NearlyBought" "laid" "LNearlyBought$Tale;", Cond.fieldLink RX5 45 "NearlyBought" "history" "LNearlyBought$History;", Cond.fieldLink RX5 35 "NearlyBought" "now" "LNearlyBought$Market;", Cond.fieldLink RX5 124 "NearlyBought$Market" "counted" "[[I", Cond.methodLink RX5 81 yX4_hasPerson, Cond.instanceMethod yX4_hasPerson, Cond.selects RX4 yX4_hasPerson yX4_hasPerson, Cond.initialized RX4, Cond.code yX4_hasPerson cX4_hasPerson 2 (some .boolean), Cond.fieldLink RX4 33 "NearlyBought$Tale" "persons" "I", Cond.methodLink RX5 98 yX4_hasThing, Cond.instanceMethod yX4_hasThing, Cond.selects RX4 yX4_hasThing yX4_hasThing, Cond.code yX4_hasThing cX4_hasThing 2 (some .boolean), Cond.fieldLink RX4 37 "NearlyBought$Tale" "things" "I", Cond.methodLink RX5 133 yX0_remember, Cond.instanceMethod yX0_remember, Cond.selects RX0 yX0_remember yX0_remember, Cond.initialized RX0, Cond.code yX0_remember cX0_remember 2 none, Cond.fieldLink RX0 11 "NearlyBought$History" "before" "[LNearlyBought$Market;", Cond.fieldLink RX0 20 "NearlyBought$History" "next" "I", Cond.fieldLink RX0 28 "NearlyBought$History" "size" "I", Cond.methodLink RX0 31 Lib.Math.min.name]
noncomputable def wsX5_pause_r2 : List Cond := [Cond.static Lib.Math.min.name, Cond.initialized "java/lang/Math", Cond.code Lib.Math.min.name Lib.Math.min.code 2 (some .int), Cond.methodLink RX0 24 yX1_copyFrom, Cond.instanceMethod yX1_copyFrom, Cond.selects RX1 yX1_copyFrom yX1_copyFrom, Cond.initialized RX1, Cond.code yX1_copyFrom cX1_copyFrom 3 none, Cond.fieldLink RX1 43 "NearlyBought$Market" "year" "I", Cond.fieldLink RX1 9 "NearlyBought$Market" "silent" "I", Cond.fieldLink RX1 15 "NearlyBought$Market" "coins" "[I", Cond.methodLink RX1 51 arraycopyName, Cond.native arraycopyName, Cond.static arraycopyName, Cond.initialized "java/lang/System", Cond.fieldLink RX1 19 "NearlyBought$Market" "owner" "[I", Cond.fieldLink RX1 22 "NearlyBought$Market" "missed" "[I", Cond.fieldLink RX1 27 "NearlyBought$Market" "breaths" "[[I", Cond.fieldLink RX1 30 "NearlyBought$Market" "since" "[[I", Cond.fieldLink RX1 33 "NearlyBought$Market" "counted" "[[I", Cond.fieldLink RX1 36 "NearlyBought$Market" "price" "[[I", Cond.methodLink RX5 137 yX1_addPause, Cond.instanceMethod yX1_addPause, Cond.selects RX1 yX1_addPause yX1_addPause]
noncomputable def wsX5_pause_r3 : List Cond := [Cond.code yX1_addPause cX1_addPause 4 none, Cond.fieldLink RX1 39 "NearlyBought$Market" "tale" "LNearlyBought$Tale;", Cond.methodLink RX1 66 yX4_countedFor, Cond.instanceMethod yX4_countedFor, Cond.selects RX4 yX4_countedFor yX4_countedFor, Cond.code yX4_countedFor cX4_countedFor 3 (some .int), Cond.fieldLink RX4 9 "NearlyBought$Tale" "kind" "[I", Cond.methodLink RX1 70 yX4_priceFor, Cond.instanceMethod yX4_priceFor, Cond.selects RX4 yX4_priceFor yX4_priceFor, Cond.code yX4_priceFor cX4_priceFor 5 (some .int), Cond.methodLink RX4 73 yX4_costIn, Cond.instanceMethod yX4_costIn, Cond.selects RX4 yX4_costIn yX4_costIn, Cond.code yX4_costIn cX4_costIn 3 (some .int), Cond.fieldLink RX4 18 "NearlyBought$Tale" "firstCost" "[I", Cond.fieldLink RX4 46 "NearlyBought$Tale" "dearer" "I"]
noncomputable def wsX5_pause : List Cond := .code yX5_pause cX5_pause 4 (some .int) :: ((wsX5_pause_r1 ++ (wsX5_pause_r2 ++ wsX5_pause_r3)) ++ wsX50 ++ wsX10 ++ wsX40 ++ wsX00)
noncomputable def wsX5_fair_r1 : List Cond := [Cond.fieldLink RX5 35 "NearlyBought" "now" "LNearlyBought$Market;", Cond.fieldLink RX5 101 "NearlyBought$Market" "year" "I", Cond.fieldLink RX5 45 "NearlyBought" "history" "LNearlyBought$History;", Cond.methodLink RX5 133 yX0_remember, Cond.instanceMethod yX0_remember, Cond.selects RX0 yX0_remember yX0_remember, Cond.initialized RX0, Cond.code yX0_remember cX0_remember 2 none, Cond.fieldLink RX0 11 "NearlyBought$History" "before" "[LNearlyBought$Market;", Cond.fieldLink RX0 20 "NearlyBought$History" "next" "I", Cond.fieldLink RX0 28 "NearlyBought$History" "size" "I", Cond.methodLink RX0 31 Lib.Math.min.name, Cond.static Lib.Math.min.name, Cond.initialized "java/lang/Math", Cond.code Lib.Math.min.name Lib.Math.min.code 2 (some .int), Cond.methodLink RX0 24 yX1_copyFrom, Cond.instanceMethod yX1_copyFrom, Cond.selects RX1 yX1_copyFrom yX1_copyFrom, Cond.initialized RX1, Cond.code yX1_copyFrom cX1_copyFrom 3 none, Cond.fieldLink RX1 43 "NearlyBought$Market" "year" "I", Cond.fieldLink RX1 9 "NearlyBought$Market" "silent" "I", Cond.fieldLink RX1 15 "NearlyBought$Market" "coins" "[I", Cond.methodLink RX1 51 arraycopyName]
noncomputable def wsX5_fair_r2 : List Cond := [Cond.native arraycopyName, Cond.static arraycopyName, Cond.initialized "java/lang/System", Cond.fieldLink RX1 19 "NearlyBought$Market" "owner" "[I", Cond.fieldLink RX1 22 "NearlyBought$Market" "missed" "[I", Cond.fieldLink RX1 27 "NearlyBought$Market" "breaths" "[[I", Cond.fieldLink RX1 30 "NearlyBought$Market" "since" "[[I", Cond.fieldLink RX1 33 "NearlyBought$Market" "counted" "[[I", Cond.fieldLink RX1 36 "NearlyBought$Market" "price" "[[I", Cond.methodLink RX5 141 yX1_holdFair, Cond.instanceMethod yX1_holdFair, Cond.selects RX1 yX1_holdFair yX1_holdFair, Cond.code yX1_holdFair cX1_holdFair 3 (some .int), Cond.fieldLink RX1 39 "NearlyBought$Market" "tale" "LNearlyBought$Tale;", Cond.fieldLink RX1 96 "NearlyBought$Tale" "things" "I", Cond.fieldLink RX1 93 "NearlyBought$Tale" "persons" "I", Cond.fieldLink RX1 106 "NearlyBought$Tale" "earned" "I", Cond.methodLink RX1 109 Lib.Math.min.name, Cond.methodLink RX1 99 yX1_isFree, Cond.instanceMethod yX1_isFree, Cond.selects RX1 yX1_isFree yX1_isFree, Cond.code yX1_isFree cX1_isFree 2 (some .boolean), Cond.methodLink RX1 103 yX1_sell, Cond.instanceMethod yX1_sell]
noncomputable def wsX5_fair_r3 : List Cond := [Cond.selects RX1 yX1_sell yX1_sell, Cond.code yX1_sell cX1_sell 5 (some .boolean), Cond.methodLink RX1 118 yX1_claimantOf, Cond.instanceMethod yX1_claimantOf, Cond.selects RX1 yX1_claimantOf yX1_claimantOf, Cond.code yX1_claimantOf cX1_claimantOf 5 (some .int), Cond.methodLink RX1 122 yX1_buyerInsteadOf, Cond.instanceMethod yX1_buyerInsteadOf, Cond.selects RX1 yX1_buyerInsteadOf yX1_buyerInsteadOf, Cond.code yX1_buyerInsteadOf cX1_buyerInsteadOf 6 (some .int), Cond.methodLink RX1 125 yX1_dearestOf, Cond.instanceMethod yX1_dearestOf, Cond.selects RX1 yX1_dearestOf yX1_dearestOf, Cond.code yX1_dearestOf cX1_dearestOf 4 (some .int), Cond.methodLink RX1 63 yX1_addToldPauses, Cond.instanceMethod yX1_addToldPauses, Cond.selects RX1 yX1_addToldPauses yX1_addToldPauses, Cond.code yX1_addToldPauses cX1_addToldPauses 2 none, Cond.fieldLink RX1 74 "NearlyBought$Tale" "pauses" "I", Cond.fieldLink RX1 77 "NearlyBought$Tale" "pauseYear" "[I", Cond.fieldLink RX1 80 "NearlyBought$Tale" "pauser" "[I", Cond.fieldLink RX1 83 "NearlyBought$Tale" "pausedAt" "[I", Cond.fieldLink RX1 86 "NearlyBought$Tale" "pauseBreaths" "[I", Cond.methodLink RX1 89 yX1_addPause]
noncomputable def wsX5_fair_r4 : List Cond := [Cond.instanceMethod yX1_addPause, Cond.selects RX1 yX1_addPause yX1_addPause, Cond.code yX1_addPause cX1_addPause 4 none, Cond.methodLink RX1 66 yX4_countedFor, Cond.instanceMethod yX4_countedFor, Cond.selects RX4 yX4_countedFor yX4_countedFor, Cond.initialized RX4, Cond.code yX4_countedFor cX4_countedFor 3 (some .int), Cond.fieldLink RX4 9 "NearlyBought$Tale" "kind" "[I", Cond.methodLink RX1 70 yX4_priceFor, Cond.instanceMethod yX4_priceFor, Cond.selects RX4 yX4_priceFor yX4_priceFor, Cond.code yX4_priceFor cX4_priceFor 5 (some .int), Cond.methodLink RX4 73 yX4_costIn, Cond.instanceMethod yX4_costIn, Cond.selects RX4 yX4_costIn yX4_costIn, Cond.code yX4_costIn cX4_costIn 3 (some .int), Cond.fieldLink RX4 18 "NearlyBought$Tale" "firstCost" "[I", Cond.fieldLink RX4 46 "NearlyBought$Tale" "dearer" "I"]
noncomputable def wsX5_fair : List Cond := .code yX5_fair cX5_fair 1 (some .int) :: ((wsX5_fair_r1 ++ (wsX5_fair_r2 ++ (wsX5_fair_r3 ++ wsX5_fair_r4))) ++ wsX50 ++ wsX10 ++ wsX00 ++ wsX40)
noncomputable def wsX5_give_r1 : List Cond := [Cond.fieldLink RX5 27 "NearlyBought" "laid" "LNearlyBought$Tale;", Cond.fieldLink RX5 35 "NearlyBought" "now" "LNearlyBought$Market;", Cond.fieldLink RX5 88 "NearlyBought$Market" "coins" "[I", Cond.fieldLink RX5 45 "NearlyBought" "history" "LNearlyBought$History;", Cond.methodLink RX5 81 yX4_hasPerson, Cond.instanceMethod yX4_hasPerson, Cond.selects RX4 yX4_hasPerson yX4_hasPerson, Cond.initialized RX4, Cond.code yX4_hasPerson cX4_hasPerson 2 (some .boolean), Cond.fieldLink RX4 33 "NearlyBought$Tale" "persons" "I", Cond.methodLink RX5 133 yX0_remember, Cond.instanceMethod yX0_remember, Cond.selects RX0 yX0_remember yX0_remember, Cond.initialized RX0, Cond.code yX0_remember cX0_remember 2 none, Cond.fieldLink RX0 11 "NearlyBought$History" "before" "[LNearlyBought$Market;", Cond.fieldLink RX0 20 "NearlyBought$History" "next" "I", Cond.fieldLink RX0 28 "NearlyBought$History" "size" "I", Cond.methodLink RX0 31 Lib.Math.min.name, Cond.static Lib.Math.min.name, Cond.initialized "java/lang/Math", Cond.code Lib.Math.min.name Lib.Math.min.code 2 (some .int), Cond.methodLink RX0 24 yX1_copyFrom, Cond.instanceMethod yX1_copyFrom]
noncomputable def wsX5_give_r2 : List Cond := [Cond.selects RX1 yX1_copyFrom yX1_copyFrom, Cond.initialized RX1, Cond.code yX1_copyFrom cX1_copyFrom 3 none, Cond.fieldLink RX1 43 "NearlyBought$Market" "year" "I", Cond.fieldLink RX1 9 "NearlyBought$Market" "silent" "I", Cond.fieldLink RX1 15 "NearlyBought$Market" "coins" "[I", Cond.methodLink RX1 51 arraycopyName, Cond.native arraycopyName, Cond.static arraycopyName, Cond.initialized "java/lang/System", Cond.fieldLink RX1 19 "NearlyBought$Market" "owner" "[I", Cond.fieldLink RX1 22 "NearlyBought$Market" "missed" "[I", Cond.fieldLink RX1 27 "NearlyBought$Market" "breaths" "[[I", Cond.fieldLink RX1 30 "NearlyBought$Market" "since" "[[I", Cond.fieldLink RX1 33 "NearlyBought$Market" "counted" "[[I", Cond.fieldLink RX1 36 "NearlyBought$Market" "price" "[[I"]
noncomputable def wsX5_give : List Cond := .code yX5_give cX5_give 4 (some .int) :: ((wsX5_give_r1 ++ wsX5_give_r2) ++ wsX50 ++ wsX10 ++ wsX40 ++ wsX00)
noncomputable def wsX5_undo_r1 : List Cond := [Cond.fieldLink RX5 45 "NearlyBought" "history" "LNearlyBought$History;", Cond.fieldLink RX5 145 "NearlyBought$History" "size" "I", Cond.fieldLink RX5 35 "NearlyBought" "now" "LNearlyBought$Market;", Cond.methodLink RX5 148 yX0_restore, Cond.instanceMethod yX0_restore, Cond.selects RX0 yX0_restore yX0_restore, Cond.initialized RX0, Cond.code yX0_restore cX0_restore 2 none, Cond.fieldLink RX0 20 "NearlyBought$History" "next" "I", Cond.fieldLink RX0 28 "NearlyBought$History" "size" "I", Cond.methodLink RX0 37 Lib.Math.max.name, Cond.static Lib.Math.max.name, Cond.initialized "java/lang/Math", Cond.code Lib.Math.max.name Lib.Math.max.code 2 (some .int), Cond.fieldLink RX0 11 "NearlyBought$History" "before" "[LNearlyBought$Market;", Cond.methodLink RX0 24 yX1_copyFrom, Cond.instanceMethod yX1_copyFrom, Cond.selects RX1 yX1_copyFrom yX1_copyFrom, Cond.initialized RX1, Cond.code yX1_copyFrom cX1_copyFrom 3 none, Cond.fieldLink RX1 43 "NearlyBought$Market" "year" "I", Cond.fieldLink RX1 9 "NearlyBought$Market" "silent" "I", Cond.fieldLink RX1 15 "NearlyBought$Market" "coins" "[I", Cond.methodLink RX1 51 arraycopyName]
noncomputable def wsX5_undo_r2 : List Cond := [Cond.native arraycopyName, Cond.static arraycopyName, Cond.initialized "java/lang/System", Cond.fieldLink RX1 19 "NearlyBought$Market" "owner" "[I", Cond.fieldLink RX1 22 "NearlyBought$Market" "missed" "[I", Cond.fieldLink RX1 27 "NearlyBought$Market" "breaths" "[[I", Cond.fieldLink RX1 30 "NearlyBought$Market" "since" "[[I", Cond.fieldLink RX1 33 "NearlyBought$Market" "counted" "[[I", Cond.fieldLink RX1 36 "NearlyBought$Market" "price" "[[I"]
noncomputable def wsX5_undo : List Cond := .code yX5_undo cX5_undo 1 (some .int) :: ((wsX5_undo_r1 ++ wsX5_undo_r2) ++ wsX50 ++ wsX00 ++ wsX10)
noncomputable def wsX5_behind_r1 : List Cond := [Cond.fieldLink RX5 27 "NearlyBought" "laid" "LNearlyBought$Tale;", Cond.fieldLink RX5 39 "NearlyBought" "trial" "LNearlyBought$Market;", Cond.fieldLink RX5 35 "NearlyBought" "now" "LNearlyBought$Market;", Cond.fieldLink RX5 108 "NearlyBought$Market" "owner" "[I", Cond.methodLink RX5 98 yX4_hasThing, Cond.instanceMethod yX4_hasThing, Cond.selects RX4 yX4_hasThing yX4_hasThing, Cond.initialized RX4, Cond.code yX4_hasThing cX4_hasThing 2 (some .boolean), Cond.fieldLink RX4 37 "NearlyBought$Tale" "things" "I", Cond.methodLink RX5 151 yX1_copyFrom, Cond.instanceMethod yX1_copyFrom, Cond.selects RX1 yX1_copyFrom yX1_copyFrom, Cond.initialized RX1, Cond.code yX1_copyFrom cX1_copyFrom 3 none, Cond.fieldLink RX1 43 "NearlyBought$Market" "year" "I", Cond.fieldLink RX1 9 "NearlyBought$Market" "silent" "I", Cond.fieldLink RX1 15 "NearlyBought$Market" "coins" "[I", Cond.methodLink RX1 51 arraycopyName, Cond.native arraycopyName, Cond.static arraycopyName, Cond.initialized "java/lang/System", Cond.fieldLink RX1 19 "NearlyBought$Market" "owner" "[I", Cond.fieldLink RX1 22 "NearlyBought$Market" "missed" "[I"]
noncomputable def wsX5_behind_r2 : List Cond := [Cond.fieldLink RX1 27 "NearlyBought$Market" "breaths" "[[I", Cond.fieldLink RX1 30 "NearlyBought$Market" "since" "[[I", Cond.fieldLink RX1 33 "NearlyBought$Market" "counted" "[[I", Cond.fieldLink RX1 36 "NearlyBought$Market" "price" "[[I", Cond.methodLink RX5 154 yX1_holdFairs, Cond.instanceMethod yX1_holdFairs, Cond.selects RX1 yX1_holdFairs yX1_holdFairs, Cond.code yX1_holdFairs cX1_holdFairs 3 none, Cond.methodLink RX1 114 yX1_holdFair, Cond.instanceMethod yX1_holdFair, Cond.selects RX1 yX1_holdFair yX1_holdFair, Cond.code yX1_holdFair cX1_holdFair 3 (some .int), Cond.fieldLink RX1 39 "NearlyBought$Market" "tale" "LNearlyBought$Tale;", Cond.fieldLink RX1 96 "NearlyBought$Tale" "things" "I", Cond.fieldLink RX1 93 "NearlyBought$Tale" "persons" "I", Cond.fieldLink RX1 106 "NearlyBought$Tale" "earned" "I", Cond.methodLink RX1 109 Lib.Math.min.name, Cond.static Lib.Math.min.name, Cond.initialized "java/lang/Math", Cond.code Lib.Math.min.name Lib.Math.min.code 2 (some .int), Cond.methodLink RX1 99 yX1_isFree, Cond.instanceMethod yX1_isFree, Cond.selects RX1 yX1_isFree yX1_isFree, Cond.code yX1_isFree cX1_isFree 2 (some .boolean)]
noncomputable def wsX5_behind_r3 : List Cond := [Cond.methodLink RX1 103 yX1_sell, Cond.instanceMethod yX1_sell, Cond.selects RX1 yX1_sell yX1_sell, Cond.code yX1_sell cX1_sell 5 (some .boolean), Cond.methodLink RX1 118 yX1_claimantOf, Cond.instanceMethod yX1_claimantOf, Cond.selects RX1 yX1_claimantOf yX1_claimantOf, Cond.code yX1_claimantOf cX1_claimantOf 5 (some .int), Cond.methodLink RX1 122 yX1_buyerInsteadOf, Cond.instanceMethod yX1_buyerInsteadOf, Cond.selects RX1 yX1_buyerInsteadOf yX1_buyerInsteadOf, Cond.code yX1_buyerInsteadOf cX1_buyerInsteadOf 6 (some .int), Cond.methodLink RX1 125 yX1_dearestOf, Cond.instanceMethod yX1_dearestOf, Cond.selects RX1 yX1_dearestOf yX1_dearestOf, Cond.code yX1_dearestOf cX1_dearestOf 4 (some .int), Cond.methodLink RX1 63 yX1_addToldPauses, Cond.instanceMethod yX1_addToldPauses, Cond.selects RX1 yX1_addToldPauses yX1_addToldPauses, Cond.code yX1_addToldPauses cX1_addToldPauses 2 none, Cond.fieldLink RX1 74 "NearlyBought$Tale" "pauses" "I", Cond.fieldLink RX1 77 "NearlyBought$Tale" "pauseYear" "[I", Cond.fieldLink RX1 80 "NearlyBought$Tale" "pauser" "[I", Cond.fieldLink RX1 83 "NearlyBought$Tale" "pausedAt" "[I"]
noncomputable def wsX5_behind_r4 : List Cond := [Cond.fieldLink RX1 86 "NearlyBought$Tale" "pauseBreaths" "[I", Cond.methodLink RX1 89 yX1_addPause, Cond.instanceMethod yX1_addPause, Cond.selects RX1 yX1_addPause yX1_addPause, Cond.code yX1_addPause cX1_addPause 4 none, Cond.methodLink RX1 66 yX4_countedFor, Cond.instanceMethod yX4_countedFor, Cond.selects RX4 yX4_countedFor yX4_countedFor, Cond.code yX4_countedFor cX4_countedFor 3 (some .int), Cond.fieldLink RX4 9 "NearlyBought$Tale" "kind" "[I", Cond.methodLink RX1 70 yX4_priceFor, Cond.instanceMethod yX4_priceFor, Cond.selects RX4 yX4_priceFor yX4_priceFor, Cond.code yX4_priceFor cX4_priceFor 5 (some .int), Cond.methodLink RX4 73 yX4_costIn, Cond.instanceMethod yX4_costIn, Cond.selects RX4 yX4_costIn yX4_costIn, Cond.code yX4_costIn cX4_costIn 3 (some .int), Cond.fieldLink RX4 18 "NearlyBought$Tale" "firstCost" "[I", Cond.fieldLink RX4 46 "NearlyBought$Tale" "dearer" "I"]
noncomputable def wsX5_behind : List Cond := .code yX5_behind cX5_behind 3 (some .int) :: ((wsX5_behind_r1 ++ (wsX5_behind_r2 ++ (wsX5_behind_r3 ++ wsX5_behind_r4))) ++ wsX50 ++ wsX10 ++ wsX40)
noncomputable def wsX5_goes_r1 : List Cond := [Cond.fieldLink RX5 27 "NearlyBought" "laid" "LNearlyBought$Tale;", Cond.fieldLink RX5 39 "NearlyBought" "trial" "LNearlyBought$Market;", Cond.fieldLink RX5 35 "NearlyBought" "now" "LNearlyBought$Market;", Cond.methodLink RX5 98 yX4_hasThing, Cond.instanceMethod yX4_hasThing, Cond.selects RX4 yX4_hasThing yX4_hasThing, Cond.initialized RX4, Cond.code yX4_hasThing cX4_hasThing 2 (some .boolean), Cond.fieldLink RX4 37 "NearlyBought$Tale" "things" "I", Cond.methodLink RX5 151 yX1_copyFrom, Cond.instanceMethod yX1_copyFrom, Cond.selects RX1 yX1_copyFrom yX1_copyFrom, Cond.initialized RX1, Cond.code yX1_copyFrom cX1_copyFrom 3 none, Cond.fieldLink RX1 43 "NearlyBought$Market" "year" "I", Cond.fieldLink RX1 9 "NearlyBought$Market" "silent" "I", Cond.fieldLink RX1 15 "NearlyBought$Market" "coins" "[I", Cond.methodLink RX1 51 arraycopyName, Cond.native arraycopyName, Cond.static arraycopyName, Cond.initialized "java/lang/System", Cond.fieldLink RX1 19 "NearlyBought$Market" "owner" "[I", Cond.fieldLink RX1 22 "NearlyBought$Market" "missed" "[I", Cond.fieldLink RX1 27 "NearlyBought$Market" "breaths" "[[I"]
noncomputable def wsX5_goes_r2 : List Cond := [Cond.fieldLink RX1 30 "NearlyBought$Market" "since" "[[I", Cond.fieldLink RX1 33 "NearlyBought$Market" "counted" "[[I", Cond.fieldLink RX1 36 "NearlyBought$Market" "price" "[[I", Cond.methodLink RX5 158 yX1_fairsTillGone, Cond.instanceMethod yX1_fairsTillGone, Cond.selects RX1 yX1_fairsTillGone yX1_fairsTillGone, Cond.code yX1_fairsTillGone cX1_fairsTillGone 3 (some .int), Cond.methodLink RX1 99 yX1_isFree, Cond.instanceMethod yX1_isFree, Cond.selects RX1 yX1_isFree yX1_isFree, Cond.code yX1_isFree cX1_isFree 2 (some .boolean), Cond.methodLink RX1 114 yX1_holdFair, Cond.instanceMethod yX1_holdFair, Cond.selects RX1 yX1_holdFair yX1_holdFair, Cond.code yX1_holdFair cX1_holdFair 3 (some .int), Cond.fieldLink RX1 39 "NearlyBought$Market" "tale" "LNearlyBought$Tale;", Cond.fieldLink RX1 96 "NearlyBought$Tale" "things" "I", Cond.fieldLink RX1 93 "NearlyBought$Tale" "persons" "I", Cond.fieldLink RX1 106 "NearlyBought$Tale" "earned" "I", Cond.methodLink RX1 109 Lib.Math.min.name, Cond.static Lib.Math.min.name, Cond.initialized "java/lang/Math", Cond.code Lib.Math.min.name Lib.Math.min.code 2 (some .int), Cond.methodLink RX1 103 yX1_sell]
noncomputable def wsX5_goes_r3 : List Cond := [Cond.instanceMethod yX1_sell, Cond.selects RX1 yX1_sell yX1_sell, Cond.code yX1_sell cX1_sell 5 (some .boolean), Cond.methodLink RX1 118 yX1_claimantOf, Cond.instanceMethod yX1_claimantOf, Cond.selects RX1 yX1_claimantOf yX1_claimantOf, Cond.code yX1_claimantOf cX1_claimantOf 5 (some .int), Cond.methodLink RX1 122 yX1_buyerInsteadOf, Cond.instanceMethod yX1_buyerInsteadOf, Cond.selects RX1 yX1_buyerInsteadOf yX1_buyerInsteadOf, Cond.code yX1_buyerInsteadOf cX1_buyerInsteadOf 6 (some .int), Cond.methodLink RX1 125 yX1_dearestOf, Cond.instanceMethod yX1_dearestOf, Cond.selects RX1 yX1_dearestOf yX1_dearestOf, Cond.code yX1_dearestOf cX1_dearestOf 4 (some .int), Cond.methodLink RX1 63 yX1_addToldPauses, Cond.instanceMethod yX1_addToldPauses, Cond.selects RX1 yX1_addToldPauses yX1_addToldPauses, Cond.code yX1_addToldPauses cX1_addToldPauses 2 none, Cond.fieldLink RX1 74 "NearlyBought$Tale" "pauses" "I", Cond.fieldLink RX1 77 "NearlyBought$Tale" "pauseYear" "[I", Cond.fieldLink RX1 80 "NearlyBought$Tale" "pauser" "[I", Cond.fieldLink RX1 83 "NearlyBought$Tale" "pausedAt" "[I", Cond.fieldLink RX1 86 "NearlyBought$Tale" "pauseBreaths" "[I"]
noncomputable def wsX5_goes_r4 : List Cond := [Cond.methodLink RX1 89 yX1_addPause, Cond.instanceMethod yX1_addPause, Cond.selects RX1 yX1_addPause yX1_addPause, Cond.code yX1_addPause cX1_addPause 4 none, Cond.methodLink RX1 66 yX4_countedFor, Cond.instanceMethod yX4_countedFor, Cond.selects RX4 yX4_countedFor yX4_countedFor, Cond.code yX4_countedFor cX4_countedFor 3 (some .int), Cond.fieldLink RX4 9 "NearlyBought$Tale" "kind" "[I", Cond.methodLink RX1 70 yX4_priceFor, Cond.instanceMethod yX4_priceFor, Cond.selects RX4 yX4_priceFor yX4_priceFor, Cond.code yX4_priceFor cX4_priceFor 5 (some .int), Cond.methodLink RX4 73 yX4_costIn, Cond.instanceMethod yX4_costIn, Cond.selects RX4 yX4_costIn yX4_costIn, Cond.code yX4_costIn cX4_costIn 3 (some .int), Cond.fieldLink RX4 18 "NearlyBought$Tale" "firstCost" "[I", Cond.fieldLink RX4 46 "NearlyBought$Tale" "dearer" "I"]
noncomputable def wsX5_goes : List Cond := .code yX5_goes cX5_goes 2 (some .int) :: ((wsX5_goes_r1 ++ (wsX5_goes_r2 ++ (wsX5_goes_r3 ++ wsX5_goes_r4))) ++ wsX50 ++ wsX40 ++ wsX10)
noncomputable def wsX5_never_r1 : List Cond := [Cond.fieldLink RX5 39 "NearlyBought" "trial" "LNearlyBought$Market;", Cond.fieldLink RX5 35 "NearlyBought" "now" "LNearlyBought$Market;", Cond.fieldLink RX5 27 "NearlyBought" "laid" "LNearlyBought$Tale;", Cond.fieldLink RX5 78 "NearlyBought$Tale" "things" "I", Cond.methodLink RX5 151 yX1_copyFrom, Cond.instanceMethod yX1_copyFrom, Cond.selects RX1 yX1_copyFrom yX1_copyFrom, Cond.initialized RX1, Cond.code yX1_copyFrom cX1_copyFrom 3 none, Cond.fieldLink RX1 43 "NearlyBought$Market" "year" "I", Cond.fieldLink RX1 9 "NearlyBought$Market" "silent" "I", Cond.fieldLink RX1 15 "NearlyBought$Market" "coins" "[I", Cond.methodLink RX1 51 arraycopyName, Cond.native arraycopyName, Cond.static arraycopyName, Cond.initialized "java/lang/System", Cond.fieldLink RX1 19 "NearlyBought$Market" "owner" "[I", Cond.fieldLink RX1 22 "NearlyBought$Market" "missed" "[I", Cond.fieldLink RX1 27 "NearlyBought$Market" "breaths" "[[I", Cond.fieldLink RX1 30 "NearlyBought$Market" "since" "[[I", Cond.fieldLink RX1 33 "NearlyBought$Market" "counted" "[[I", Cond.fieldLink RX1 36 "NearlyBought$Market" "price" "[[I", Cond.methodLink RX5 154 yX1_holdFairs, Cond.instanceMethod yX1_holdFairs]
noncomputable def wsX5_never_r2 : List Cond := [Cond.selects RX1 yX1_holdFairs yX1_holdFairs, Cond.code yX1_holdFairs cX1_holdFairs 3 none, Cond.methodLink RX1 114 yX1_holdFair, Cond.instanceMethod yX1_holdFair, Cond.selects RX1 yX1_holdFair yX1_holdFair, Cond.code yX1_holdFair cX1_holdFair 3 (some .int), Cond.fieldLink RX1 39 "NearlyBought$Market" "tale" "LNearlyBought$Tale;", Cond.fieldLink RX1 96 "NearlyBought$Tale" "things" "I", Cond.fieldLink RX1 93 "NearlyBought$Tale" "persons" "I", Cond.fieldLink RX1 106 "NearlyBought$Tale" "earned" "I", Cond.methodLink RX1 109 Lib.Math.min.name, Cond.static Lib.Math.min.name, Cond.initialized "java/lang/Math", Cond.code Lib.Math.min.name Lib.Math.min.code 2 (some .int), Cond.methodLink RX1 99 yX1_isFree, Cond.instanceMethod yX1_isFree, Cond.selects RX1 yX1_isFree yX1_isFree, Cond.code yX1_isFree cX1_isFree 2 (some .boolean), Cond.methodLink RX1 103 yX1_sell, Cond.instanceMethod yX1_sell, Cond.selects RX1 yX1_sell yX1_sell, Cond.code yX1_sell cX1_sell 5 (some .boolean), Cond.methodLink RX1 118 yX1_claimantOf, Cond.instanceMethod yX1_claimantOf]
noncomputable def wsX5_never_r3 : List Cond := [Cond.selects RX1 yX1_claimantOf yX1_claimantOf, Cond.code yX1_claimantOf cX1_claimantOf 5 (some .int), Cond.methodLink RX1 122 yX1_buyerInsteadOf, Cond.instanceMethod yX1_buyerInsteadOf, Cond.selects RX1 yX1_buyerInsteadOf yX1_buyerInsteadOf, Cond.code yX1_buyerInsteadOf cX1_buyerInsteadOf 6 (some .int), Cond.methodLink RX1 125 yX1_dearestOf, Cond.instanceMethod yX1_dearestOf, Cond.selects RX1 yX1_dearestOf yX1_dearestOf, Cond.code yX1_dearestOf cX1_dearestOf 4 (some .int), Cond.methodLink RX1 63 yX1_addToldPauses, Cond.instanceMethod yX1_addToldPauses, Cond.selects RX1 yX1_addToldPauses yX1_addToldPauses, Cond.code yX1_addToldPauses cX1_addToldPauses 2 none, Cond.fieldLink RX1 74 "NearlyBought$Tale" "pauses" "I", Cond.fieldLink RX1 77 "NearlyBought$Tale" "pauseYear" "[I", Cond.fieldLink RX1 80 "NearlyBought$Tale" "pauser" "[I", Cond.fieldLink RX1 83 "NearlyBought$Tale" "pausedAt" "[I", Cond.fieldLink RX1 86 "NearlyBought$Tale" "pauseBreaths" "[I", Cond.methodLink RX1 89 yX1_addPause, Cond.instanceMethod yX1_addPause, Cond.selects RX1 yX1_addPause yX1_addPause, Cond.code yX1_addPause cX1_addPause 4 none, Cond.methodLink RX1 66 yX4_countedFor]
noncomputable def wsX5_never_r4 : List Cond := [Cond.instanceMethod yX4_countedFor, Cond.selects RX4 yX4_countedFor yX4_countedFor, Cond.initialized RX4, Cond.code yX4_countedFor cX4_countedFor 3 (some .int), Cond.fieldLink RX4 9 "NearlyBought$Tale" "kind" "[I", Cond.methodLink RX1 70 yX4_priceFor, Cond.instanceMethod yX4_priceFor, Cond.selects RX4 yX4_priceFor yX4_priceFor, Cond.code yX4_priceFor cX4_priceFor 5 (some .int), Cond.methodLink RX4 73 yX4_costIn, Cond.instanceMethod yX4_costIn, Cond.selects RX4 yX4_costIn yX4_costIn, Cond.code yX4_costIn cX4_costIn 3 (some .int), Cond.fieldLink RX4 18 "NearlyBought$Tale" "firstCost" "[I", Cond.fieldLink RX4 46 "NearlyBought$Tale" "dearer" "I", Cond.methodLink RX5 114 yX1_isFree]
noncomputable def wsX5_never : List Cond := .code yX5_never cX5_never 3 (some .int) :: ((wsX5_never_r1 ++ (wsX5_never_r2 ++ (wsX5_never_r3 ++ wsX5_never_r4))) ++ wsX50 ++ wsX40 ++ wsX10)
noncomputable def wsX5_stop_r1 : List Cond := [Cond.fieldLink RX5 27 "NearlyBought" "laid" "LNearlyBought$Tale;", Cond.fieldLink RX5 39 "NearlyBought" "trial" "LNearlyBought$Market;", Cond.fieldLink RX5 35 "NearlyBought" "now" "LNearlyBought$Market;", Cond.fieldLink RX5 108 "NearlyBought$Market" "owner" "[I", Cond.methodLink RX5 81 yX4_hasPerson, Cond.instanceMethod yX4_hasPerson, Cond.selects RX4 yX4_hasPerson yX4_hasPerson, Cond.initialized RX4, Cond.code yX4_hasPerson cX4_hasPerson 2 (some .boolean), Cond.fieldLink RX4 33 "NearlyBought$Tale" "persons" "I", Cond.methodLink RX5 98 yX4_hasThing, Cond.instanceMethod yX4_hasThing, Cond.selects RX4 yX4_hasThing yX4_hasThing, Cond.code yX4_hasThing cX4_hasThing 2 (some .boolean), Cond.fieldLink RX4 37 "NearlyBought$Tale" "things" "I", Cond.methodLink RX5 151 yX1_copyFrom, Cond.instanceMethod yX1_copyFrom, Cond.selects RX1 yX1_copyFrom yX1_copyFrom, Cond.initialized RX1, Cond.code yX1_copyFrom cX1_copyFrom 3 none, Cond.fieldLink RX1 43 "NearlyBought$Market" "year" "I", Cond.fieldLink RX1 9 "NearlyBought$Market" "silent" "I", Cond.fieldLink RX1 15 "NearlyBought$Market" "coins" "[I", Cond.methodLink RX1 51 arraycopyName]
noncomputable def wsX5_stop_r2 : List Cond := [Cond.native arraycopyName, Cond.static arraycopyName, Cond.initialized "java/lang/System", Cond.fieldLink RX1 19 "NearlyBought$Market" "owner" "[I", Cond.fieldLink RX1 22 "NearlyBought$Market" "missed" "[I", Cond.fieldLink RX1 27 "NearlyBought$Market" "breaths" "[[I", Cond.fieldLink RX1 30 "NearlyBought$Market" "since" "[[I", Cond.fieldLink RX1 33 "NearlyBought$Market" "counted" "[[I", Cond.fieldLink RX1 36 "NearlyBought$Market" "price" "[[I", Cond.methodLink RX5 137 yX1_addPause, Cond.instanceMethod yX1_addPause, Cond.selects RX1 yX1_addPause yX1_addPause, Cond.code yX1_addPause cX1_addPause 4 none, Cond.fieldLink RX1 39 "NearlyBought$Market" "tale" "LNearlyBought$Tale;", Cond.methodLink RX1 66 yX4_countedFor, Cond.instanceMethod yX4_countedFor, Cond.selects RX4 yX4_countedFor yX4_countedFor, Cond.code yX4_countedFor cX4_countedFor 3 (some .int), Cond.fieldLink RX4 9 "NearlyBought$Tale" "kind" "[I", Cond.methodLink RX1 70 yX4_priceFor, Cond.instanceMethod yX4_priceFor, Cond.selects RX4 yX4_priceFor yX4_priceFor, Cond.code yX4_priceFor cX4_priceFor 5 (some .int), Cond.methodLink RX4 73 yX4_costIn]
noncomputable def wsX5_stop_r3 : List Cond := [Cond.instanceMethod yX4_costIn, Cond.selects RX4 yX4_costIn yX4_costIn, Cond.code yX4_costIn cX4_costIn 3 (some .int), Cond.fieldLink RX4 18 "NearlyBought$Tale" "firstCost" "[I", Cond.fieldLink RX4 46 "NearlyBought$Tale" "dearer" "I", Cond.methodLink RX5 158 yX1_fairsTillGone, Cond.instanceMethod yX1_fairsTillGone, Cond.selects RX1 yX1_fairsTillGone yX1_fairsTillGone, Cond.code yX1_fairsTillGone cX1_fairsTillGone 3 (some .int), Cond.methodLink RX1 99 yX1_isFree, Cond.instanceMethod yX1_isFree, Cond.selects RX1 yX1_isFree yX1_isFree, Cond.code yX1_isFree cX1_isFree 2 (some .boolean), Cond.methodLink RX1 114 yX1_holdFair, Cond.instanceMethod yX1_holdFair, Cond.selects RX1 yX1_holdFair yX1_holdFair, Cond.code yX1_holdFair cX1_holdFair 3 (some .int), Cond.fieldLink RX1 96 "NearlyBought$Tale" "things" "I", Cond.fieldLink RX1 93 "NearlyBought$Tale" "persons" "I", Cond.fieldLink RX1 106 "NearlyBought$Tale" "earned" "I", Cond.methodLink RX1 109 Lib.Math.min.name, Cond.static Lib.Math.min.name, Cond.initialized "java/lang/Math", Cond.code Lib.Math.min.name Lib.Math.min.code 2 (some .int)]
noncomputable def wsX5_stop_r4 : List Cond := [Cond.methodLink RX1 103 yX1_sell, Cond.instanceMethod yX1_sell, Cond.selects RX1 yX1_sell yX1_sell, Cond.code yX1_sell cX1_sell 5 (some .boolean), Cond.methodLink RX1 118 yX1_claimantOf, Cond.instanceMethod yX1_claimantOf, Cond.selects RX1 yX1_claimantOf yX1_claimantOf, Cond.code yX1_claimantOf cX1_claimantOf 5 (some .int), Cond.methodLink RX1 122 yX1_buyerInsteadOf, Cond.instanceMethod yX1_buyerInsteadOf, Cond.selects RX1 yX1_buyerInsteadOf yX1_buyerInsteadOf, Cond.code yX1_buyerInsteadOf cX1_buyerInsteadOf 6 (some .int), Cond.methodLink RX1 125 yX1_dearestOf, Cond.instanceMethod yX1_dearestOf, Cond.selects RX1 yX1_dearestOf yX1_dearestOf, Cond.code yX1_dearestOf cX1_dearestOf 4 (some .int), Cond.methodLink RX1 63 yX1_addToldPauses, Cond.instanceMethod yX1_addToldPauses, Cond.selects RX1 yX1_addToldPauses yX1_addToldPauses, Cond.code yX1_addToldPauses cX1_addToldPauses 2 none, Cond.fieldLink RX1 74 "NearlyBought$Tale" "pauses" "I", Cond.fieldLink RX1 77 "NearlyBought$Tale" "pauseYear" "[I", Cond.fieldLink RX1 80 "NearlyBought$Tale" "pauser" "[I", Cond.fieldLink RX1 83 "NearlyBought$Tale" "pausedAt" "[I"]
noncomputable def wsX5_stop_r5 : List Cond := [Cond.fieldLink RX1 86 "NearlyBought$Tale" "pauseBreaths" "[I", Cond.methodLink RX1 89 yX1_addPause]
noncomputable def wsX5_stop : List Cond := .code yX5_stop cX5_stop 6 (some .int) :: ((wsX5_stop_r1 ++ (wsX5_stop_r2 ++ (wsX5_stop_r3 ++ (wsX5_stop_r4 ++ wsX5_stop_r5)))) ++ wsX50 ++ wsX10 ++ wsX40)
noncomputable def wsX5_rank : List Cond := .code yX5_rank cX5_rank 4 (some .int) :: ([.fieldLink RX5 27 "NearlyBought" "laid" "LNearlyBought$Tale;", .fieldLink RX5 78 "NearlyBought$Tale" "things" "I", .fieldLink RX5 35 "NearlyBought" "now" "LNearlyBought$Market;", .fieldLink RX5 130 "NearlyBought$Market" "price" "[[I", .methodLink RX5 81 yX4_hasPerson, .instanceMethod yX4_hasPerson, .selects RX4 yX4_hasPerson yX4_hasPerson, .initialized RX4, .code yX4_hasPerson cX4_hasPerson 2 (some .boolean), .fieldLink RX4 33 "NearlyBought$Tale" "persons" "I", .methodLink RX5 161 yX1_dearerTo, .instanceMethod yX1_dearerTo, .selects RX1 yX1_dearerTo yX1_dearerTo, .initialized RX1, .code yX1_dearerTo cX1_dearerTo 5 (some .int), .fieldLink RX1 39 "NearlyBought$Market" "tale" "LNearlyBought$Tale;", .fieldLink RX1 96 "NearlyBought$Tale" "things" "I", .fieldLink RX1 36 "NearlyBought$Market" "price" "[[I"] ++ wsX50 ++ wsX40 ++ wsX10)
noncomputable def wsX5_wanted : List Cond := .code yX5_wanted cX5_wanted 4 (some .int) :: ([.fieldLink RX5 27 "NearlyBought" "laid" "LNearlyBought$Tale;", .fieldLink RX5 78 "NearlyBought$Tale" "things" "I", .fieldLink RX5 35 "NearlyBought" "now" "LNearlyBought$Market;", .methodLink RX5 164 yX1_wantersOf, .instanceMethod yX1_wantersOf, .selects RX1 yX1_wantersOf yX1_wantersOf, .initialized RX1, .code yX1_wantersOf cX1_wantersOf 4 (some .int), .fieldLink RX1 39 "NearlyBought$Market" "tale" "LNearlyBought$Tale;", .fieldLink RX1 93 "NearlyBought$Tale" "persons" "I", .fieldLink RX1 36 "NearlyBought$Market" "price" "[[I"] ++ wsX50 ++ wsX40 ++ wsX10)
noncomputable def wsX5_seen : List Cond := .code yX5_seen cX5_seen 4 (some .int) :: ([.fieldLink RX5 27 "NearlyBought" "laid" "LNearlyBought$Tale;", .fieldLink RX5 56 "NearlyBought" "sights" "LNearlyBought$Sights;", .fieldLink RX5 167 "NearlyBought$Sights" "size" "I", .methodLink RX5 98 yX4_hasThing, .instanceMethod yX4_hasThing, .selects RX4 yX4_hasThing yX4_hasThing, .initialized RX4, .code yX4_hasThing cX4_hasThing 2 (some .boolean), .fieldLink RX4 37 "NearlyBought$Tale" "things" "I", .methodLink RX5 81 yX4_hasPerson, .instanceMethod yX4_hasPerson, .selects RX4 yX4_hasPerson yX4_hasPerson, .code yX4_hasPerson cX4_hasPerson 2 (some .boolean), .fieldLink RX4 33 "NearlyBought$Tale" "persons" "I", .methodLink RX5 168 yX3_add, .instanceMethod yX3_add, .selects RX3 yX3_add yX3_add, .initialized RX3, .code yX3_add cX3_add 4 none, .fieldLink RX3 21 "NearlyBought$Sights" "size" "I", .fieldLink RX3 9 "NearlyBought$Sights" "things" "[I", .fieldLink RX3 15 "NearlyBought$Sights" "persons" "[I", .fieldLink RX3 18 "NearlyBought$Sights" "fairs" "[I"] ++ wsX50 ++ wsX30 ++ wsX40)
noncomputable def wsX5_forget : List Cond := .code yX5_forget cX5_forget 2 (some .int) :: ([.fieldLink RX5 56 "NearlyBought" "sights" "LNearlyBought$Sights;", .fieldLink RX5 167 "NearlyBought$Sights" "size" "I"] ++ wsX50 ++ wsX30)
noncomputable def wsX5_feigned_r1 : List Cond := [Cond.fieldLink RX5 56 "NearlyBought" "sights" "LNearlyBought$Sights;", Cond.fieldLink RX5 39 "NearlyBought" "trial" "LNearlyBought$Market;", Cond.fieldLink RX5 27 "NearlyBought" "laid" "LNearlyBought$Tale;", Cond.fieldLink RX5 175 "NearlyBought$Tale" "persons" "I", Cond.methodLink RX5 171 yX3_allHoldIn, Cond.instanceMethod yX3_allHoldIn, Cond.selects RX3 yX3_allHoldIn yX3_allHoldIn, Cond.initialized RX3, Cond.code yX3_allHoldIn cX3_allHoldIn 5 (some .boolean), Cond.fieldLink RX3 21 "NearlyBought$Sights" "size" "I", Cond.fieldLink RX3 18 "NearlyBought$Sights" "fairs" "[I", Cond.fieldLink RX3 35 "NearlyBought$Market" "owner" "[I", Cond.fieldLink RX3 9 "NearlyBought$Sights" "things" "[I", Cond.fieldLink RX3 15 "NearlyBought$Sights" "persons" "[I", Cond.methodLink RX3 25 yX1_begin, Cond.instanceMethod yX1_begin, Cond.selects RX1 yX1_begin yX1_begin, Cond.initialized RX1, Cond.code yX1_begin cX1_begin 3 none, Cond.fieldLink RX1 43 "NearlyBought$Market" "year" "I", Cond.fieldLink RX1 9 "NearlyBought$Market" "silent" "I", Cond.fieldLink RX1 39 "NearlyBought$Market" "tale" "LNearlyBought$Tale;", Cond.fieldLink RX1 46 "NearlyBought$Tale" "firstCoins" "[I", Cond.fieldLink RX1 15 "NearlyBought$Market" "coins" "[I"]
noncomputable def wsX5_feigned_r2 : List Cond := [Cond.methodLink RX1 51 arraycopyName, Cond.native arraycopyName, Cond.static arraycopyName, Cond.initialized "java/lang/System", Cond.fieldLink RX1 19 "NearlyBought$Market" "owner" "[I", Cond.fieldLink RX1 22 "NearlyBought$Market" "missed" "[I", Cond.fieldLink RX1 27 "NearlyBought$Market" "breaths" "[[I", Cond.fieldLink RX1 30 "NearlyBought$Market" "since" "[[I", Cond.fieldLink RX1 33 "NearlyBought$Market" "counted" "[[I", Cond.fieldLink RX1 36 "NearlyBought$Market" "price" "[[I", Cond.methodLink RX1 57 yJ7_fill_53178, Cond.static yJ7_fill_53178, Cond.initialized RJ7, Cond.code yJ7_fill_53178 cJ7_fill_53178 4 none, Cond.methodLink RX1 63 yX1_addToldPauses, Cond.instanceMethod yX1_addToldPauses, Cond.selects RX1 yX1_addToldPauses yX1_addToldPauses, Cond.code yX1_addToldPauses cX1_addToldPauses 2 none, Cond.fieldLink RX1 74 "NearlyBought$Tale" "pauses" "I", Cond.fieldLink RX1 77 "NearlyBought$Tale" "pauseYear" "[I", Cond.fieldLink RX1 80 "NearlyBought$Tale" "pauser" "[I", Cond.fieldLink RX1 83 "NearlyBought$Tale" "pausedAt" "[I", Cond.fieldLink RX1 86 "NearlyBought$Tale" "pauseBreaths" "[I", Cond.methodLink RX1 89 yX1_addPause]
end
section
noncomputable def wsX5_feigned_r3 : List Cond := [Cond.instanceMethod yX1_addPause, Cond.selects RX1 yX1_addPause yX1_addPause, Cond.code yX1_addPause cX1_addPause 4 none, Cond.methodLink RX1 66 yX4_countedFor, Cond.instanceMethod yX4_countedFor, Cond.selects RX4 yX4_countedFor yX4_countedFor, Cond.initialized RX4, Cond.code yX4_countedFor cX4_countedFor 3 (some .int), Cond.fieldLink RX4 9 "NearlyBought$Tale" "kind" "[I", Cond.methodLink RX1 70 yX4_priceFor, Cond.instanceMethod yX4_priceFor, Cond.selects RX4 yX4_priceFor yX4_priceFor, Cond.code yX4_priceFor cX4_priceFor 5 (some .int), Cond.methodLink RX4 73 yX4_costIn, Cond.instanceMethod yX4_costIn, Cond.selects RX4 yX4_costIn yX4_costIn, Cond.code yX4_costIn cX4_costIn 3 (some .int), Cond.fieldLink RX4 18 "NearlyBought$Tale" "firstCost" "[I", Cond.fieldLink RX4 46 "NearlyBought$Tale" "dearer" "I", Cond.methodLink RX3 31 yX1_holdFair, Cond.instanceMethod yX1_holdFair, Cond.selects RX1 yX1_holdFair yX1_holdFair, Cond.code yX1_holdFair cX1_holdFair 3 (some .int), Cond.fieldLink RX1 96 "NearlyBought$Tale" "things" "I"]
noncomputable def wsX5_feigned_r4 : List Cond := [Cond.fieldLink RX1 93 "NearlyBought$Tale" "persons" "I", Cond.fieldLink RX1 106 "NearlyBought$Tale" "earned" "I", Cond.methodLink RX1 109 Lib.Math.min.name, Cond.static Lib.Math.min.name, Cond.initialized "java/lang/Math", Cond.code Lib.Math.min.name Lib.Math.min.code 2 (some .int), Cond.methodLink RX1 99 yX1_isFree, Cond.instanceMethod yX1_isFree, Cond.selects RX1 yX1_isFree yX1_isFree, Cond.code yX1_isFree cX1_isFree 2 (some .boolean), Cond.methodLink RX1 103 yX1_sell, Cond.instanceMethod yX1_sell, Cond.selects RX1 yX1_sell yX1_sell, Cond.code yX1_sell cX1_sell 5 (some .boolean), Cond.methodLink RX1 118 yX1_claimantOf, Cond.instanceMethod yX1_claimantOf, Cond.selects RX1 yX1_claimantOf yX1_claimantOf, Cond.code yX1_claimantOf cX1_claimantOf 5 (some .int), Cond.methodLink RX1 122 yX1_buyerInsteadOf, Cond.instanceMethod yX1_buyerInsteadOf, Cond.selects RX1 yX1_buyerInsteadOf yX1_buyerInsteadOf, Cond.code yX1_buyerInsteadOf cX1_buyerInsteadOf 6 (some .int), Cond.methodLink RX1 125 yX1_dearestOf, Cond.instanceMethod yX1_dearestOf]
noncomputable def wsX5_feigned_r5 : List Cond := [Cond.selects RX1 yX1_dearestOf yX1_dearestOf, Cond.code yX1_dearestOf cX1_dearestOf 4 (some .int)]
noncomputable def wsX5_feigned : List Cond := .code yX5_feigned cX5_feigned 4 (some .int) :: ((wsX5_feigned_r1 ++ (wsX5_feigned_r2 ++ (wsX5_feigned_r3 ++ (wsX5_feigned_r4 ++ wsX5_feigned_r5)))) ++ wsX50 ++ wsX40 ++ wsX30 ++ wsX10)
noncomputable def wsX5_uncountedDraws : List Cond := .code yX5_uncountedDraws cX5_uncountedDraws 4 (some .int) :: ([.fieldLink RX5 27 "NearlyBought" "laid" "LNearlyBought$Tale;", .methodLink RX5 221 yX4_countedFor, .instanceMethod yX4_countedFor, .selects RX4 yX4_countedFor yX4_countedFor, .initialized RX4, .code yX4_countedFor cX4_countedFor 3 (some .int), .fieldLink RX4 9 "NearlyBought$Tale" "kind" "[I"] ++ wsX50 ++ wsX40)
noncomputable def wsX5_greatestDivisor : List Cond := .code yX5_greatestDivisor cX5_greatestDivisor 6 (some .int) :: ([])
noncomputable def wsX5_counts : List Cond := .code yX5_counts cX5_counts 7 (some .int) :: ([.fieldLink RX5 27 "NearlyBought" "laid" "LNearlyBought$Tale;", .methodLink RX5 184 Lib.Math.max.name, .static Lib.Math.max.name, .initialized "java/lang/Math", .code Lib.Math.max.name Lib.Math.max.code 2 (some .int), .methodLink RX5 81 yX4_hasPerson, .instanceMethod yX4_hasPerson, .selects RX4 yX4_hasPerson yX4_hasPerson, .initialized RX4, .code yX4_hasPerson cX4_hasPerson 2 (some .boolean), .fieldLink RX4 33 "NearlyBought$Tale" "persons" "I", .methodLink RX5 178 yX5_uncountedDraws, .instanceMethod yX5_uncountedDraws, .selects RX5 yX5_uncountedDraws yX5_uncountedDraws, .initialized RX5, .code yX5_uncountedDraws cX5_uncountedDraws 4 (some .int), .methodLink RX5 221 yX4_countedFor, .instanceMethod yX4_countedFor, .selects RX4 yX4_countedFor yX4_countedFor, .code yX4_countedFor cX4_countedFor 3 (some .int), .fieldLink RX4 9 "NearlyBought$Tale" "kind" "[I", .methodLink RX5 181 yX5_greatestDivisor, .static yX5_greatestDivisor, .code yX5_greatestDivisor cX5_greatestDivisor 6 (some .int)] ++ wsX50 ++ wsX40)
noncomputable def wsX5_cheapest : List Cond := .code yX5_cheapest cX5_cheapest 7 (some .int) :: ([.fieldLink RX5 27 "NearlyBought" "laid" "LNearlyBought$Tale;", .fieldLink RX5 175 "NearlyBought$Tale" "persons" "I", .fieldLink RX5 35 "NearlyBought" "now" "LNearlyBought$Market;", .fieldLink RX5 130 "NearlyBought$Market" "price" "[[I", .methodLink RX5 98 yX4_hasThing, .instanceMethod yX4_hasThing, .selects RX4 yX4_hasThing yX4_hasThing, .initialized RX4, .code yX4_hasThing cX4_hasThing 2 (some .boolean), .fieldLink RX4 37 "NearlyBought$Tale" "things" "I"] ++ wsX50 ++ wsX40 ++ wsX10)
noncomputable def wsX5_draw : List Cond := .code yX5_draw cX5_draw 4 (some .int) :: ([.constantLong RX5 224 (7919), .constantLong RX5 226 (6151), .constantLong RX5 228 (65521), .constantLong RX5 230 (4)])
noncomputable def wsX5_addDrawnPause_r1 : List Cond := [Cond.fieldLink RX5 27 "NearlyBought" "laid" "LNearlyBought$Tale;", Cond.fieldLink RX5 175 "NearlyBought$Tale" "persons" "I", Cond.fieldLink RX5 78 "NearlyBought$Tale" "things" "I", Cond.fieldLink RX5 39 "NearlyBought" "trial" "LNearlyBought$Market;", Cond.methodLink RX5 137 yX1_addPause, Cond.instanceMethod yX1_addPause, Cond.selects RX1 yX1_addPause yX1_addPause, Cond.initialized RX1, Cond.code yX1_addPause cX1_addPause 4 none, Cond.fieldLink RX1 27 "NearlyBought$Market" "breaths" "[[I", Cond.fieldLink RX1 30 "NearlyBought$Market" "since" "[[I", Cond.fieldLink RX1 43 "NearlyBought$Market" "year" "I", Cond.fieldLink RX1 33 "NearlyBought$Market" "counted" "[[I", Cond.fieldLink RX1 39 "NearlyBought$Market" "tale" "LNearlyBought$Tale;", Cond.fieldLink RX1 36 "NearlyBought$Market" "price" "[[I", Cond.methodLink RX1 66 yX4_countedFor, Cond.instanceMethod yX4_countedFor, Cond.selects RX4 yX4_countedFor yX4_countedFor, Cond.initialized RX4, Cond.code yX4_countedFor cX4_countedFor 3 (some .int), Cond.fieldLink RX4 9 "NearlyBought$Tale" "kind" "[I", Cond.methodLink RX1 70 yX4_priceFor, Cond.instanceMethod yX4_priceFor, Cond.selects RX4 yX4_priceFor yX4_priceFor]
noncomputable def wsX5_addDrawnPause_r2 : List Cond := [Cond.code yX4_priceFor cX4_priceFor 5 (some .int), Cond.methodLink RX4 73 yX4_costIn, Cond.instanceMethod yX4_costIn, Cond.selects RX4 yX4_costIn yX4_costIn, Cond.code yX4_costIn cX4_costIn 3 (some .int), Cond.fieldLink RX4 18 "NearlyBought$Tale" "firstCost" "[I", Cond.fieldLink RX4 46 "NearlyBought$Tale" "dearer" "I"]
noncomputable def wsX5_addDrawnPause : List Cond := .code yX5_addDrawnPause cX5_addDrawnPause 2 none :: ((wsX5_addDrawnPause_r1 ++ wsX5_addDrawnPause_r2) ++ wsX50 ++ wsX40 ++ wsX10)
noncomputable def wsX5_greens_r1 : List Cond := [Cond.fieldLink RX5 39 "NearlyBought" "trial" "LNearlyBought$Market;", Cond.fieldLink RX5 35 "NearlyBought" "now" "LNearlyBought$Market;", Cond.methodLink RX5 151 yX1_copyFrom, Cond.instanceMethod yX1_copyFrom, Cond.selects RX1 yX1_copyFrom yX1_copyFrom, Cond.initialized RX1, Cond.code yX1_copyFrom cX1_copyFrom 3 none, Cond.fieldLink RX1 43 "NearlyBought$Market" "year" "I", Cond.fieldLink RX1 9 "NearlyBought$Market" "silent" "I", Cond.fieldLink RX1 15 "NearlyBought$Market" "coins" "[I", Cond.methodLink RX1 51 arraycopyName, Cond.native arraycopyName, Cond.static arraycopyName, Cond.initialized "java/lang/System", Cond.fieldLink RX1 19 "NearlyBought$Market" "owner" "[I", Cond.fieldLink RX1 22 "NearlyBought$Market" "missed" "[I", Cond.fieldLink RX1 27 "NearlyBought$Market" "breaths" "[[I", Cond.fieldLink RX1 30 "NearlyBought$Market" "since" "[[I", Cond.fieldLink RX1 33 "NearlyBought$Market" "counted" "[[I", Cond.fieldLink RX1 36 "NearlyBought$Market" "price" "[[I", Cond.methodLink RX5 189 yX5_draw, Cond.static yX5_draw, Cond.initialized RX5, Cond.code yX5_draw cX5_draw 4 (some .int)]
noncomputable def wsX5_greens_r2 : List Cond := [Cond.constantLong RX5 224 (7919), Cond.constantLong RX5 226 (6151), Cond.constantLong RX5 228 (65521), Cond.constantLong RX5 230 (4), Cond.methodLink RX5 192 yX5_addDrawnPause, Cond.instanceMethod yX5_addDrawnPause, Cond.selects RX5 yX5_addDrawnPause yX5_addDrawnPause, Cond.code yX5_addDrawnPause cX5_addDrawnPause 2 none, Cond.fieldLink RX5 27 "NearlyBought" "laid" "LNearlyBought$Tale;", Cond.fieldLink RX5 175 "NearlyBought$Tale" "persons" "I", Cond.fieldLink RX5 78 "NearlyBought$Tale" "things" "I", Cond.methodLink RX5 137 yX1_addPause, Cond.instanceMethod yX1_addPause, Cond.selects RX1 yX1_addPause yX1_addPause, Cond.code yX1_addPause cX1_addPause 4 none, Cond.fieldLink RX1 39 "NearlyBought$Market" "tale" "LNearlyBought$Tale;", Cond.methodLink RX1 66 yX4_countedFor, Cond.instanceMethod yX4_countedFor, Cond.selects RX4 yX4_countedFor yX4_countedFor, Cond.initialized RX4, Cond.code yX4_countedFor cX4_countedFor 3 (some .int), Cond.fieldLink RX4 9 "NearlyBought$Tale" "kind" "[I", Cond.methodLink RX1 70 yX4_priceFor, Cond.instanceMethod yX4_priceFor]
noncomputable def wsX5_greens_r3 : List Cond := [Cond.selects RX4 yX4_priceFor yX4_priceFor, Cond.code yX4_priceFor cX4_priceFor 5 (some .int), Cond.methodLink RX4 73 yX4_costIn, Cond.instanceMethod yX4_costIn, Cond.selects RX4 yX4_costIn yX4_costIn, Cond.code yX4_costIn cX4_costIn 3 (some .int), Cond.fieldLink RX4 18 "NearlyBought$Tale" "firstCost" "[I", Cond.fieldLink RX4 46 "NearlyBought$Tale" "dearer" "I", Cond.methodLink RX5 141 yX1_holdFair, Cond.instanceMethod yX1_holdFair, Cond.selects RX1 yX1_holdFair yX1_holdFair, Cond.code yX1_holdFair cX1_holdFair 3 (some .int), Cond.fieldLink RX1 96 "NearlyBought$Tale" "things" "I", Cond.fieldLink RX1 93 "NearlyBought$Tale" "persons" "I", Cond.fieldLink RX1 106 "NearlyBought$Tale" "earned" "I", Cond.methodLink RX1 109 Lib.Math.min.name, Cond.static Lib.Math.min.name, Cond.initialized "java/lang/Math", Cond.code Lib.Math.min.name Lib.Math.min.code 2 (some .int), Cond.methodLink RX1 99 yX1_isFree, Cond.instanceMethod yX1_isFree, Cond.selects RX1 yX1_isFree yX1_isFree, Cond.code yX1_isFree cX1_isFree 2 (some .boolean), Cond.methodLink RX1 103 yX1_sell]
noncomputable def wsX5_greens_r4 : List Cond := [Cond.instanceMethod yX1_sell, Cond.selects RX1 yX1_sell yX1_sell, Cond.code yX1_sell cX1_sell 5 (some .boolean), Cond.methodLink RX1 118 yX1_claimantOf, Cond.instanceMethod yX1_claimantOf, Cond.selects RX1 yX1_claimantOf yX1_claimantOf, Cond.code yX1_claimantOf cX1_claimantOf 5 (some .int), Cond.methodLink RX1 122 yX1_buyerInsteadOf, Cond.instanceMethod yX1_buyerInsteadOf, Cond.selects RX1 yX1_buyerInsteadOf yX1_buyerInsteadOf, Cond.code yX1_buyerInsteadOf cX1_buyerInsteadOf 6 (some .int), Cond.methodLink RX1 125 yX1_dearestOf, Cond.instanceMethod yX1_dearestOf, Cond.selects RX1 yX1_dearestOf yX1_dearestOf, Cond.code yX1_dearestOf cX1_dearestOf 4 (some .int), Cond.methodLink RX1 63 yX1_addToldPauses, Cond.instanceMethod yX1_addToldPauses, Cond.selects RX1 yX1_addToldPauses yX1_addToldPauses, Cond.code yX1_addToldPauses cX1_addToldPauses 2 none, Cond.fieldLink RX1 74 "NearlyBought$Tale" "pauses" "I", Cond.fieldLink RX1 77 "NearlyBought$Tale" "pauseYear" "[I", Cond.fieldLink RX1 80 "NearlyBought$Tale" "pauser" "[I", Cond.fieldLink RX1 83 "NearlyBought$Tale" "pausedAt" "[I", Cond.fieldLink RX1 86 "NearlyBought$Tale" "pauseBreaths" "[I"]
noncomputable def wsX5_greens_r5 : List Cond := [Cond.methodLink RX1 89 yX1_addPause, Cond.methodLink RX5 195 yX1_thingsGone, Cond.instanceMethod yX1_thingsGone, Cond.selects RX1 yX1_thingsGone yX1_thingsGone, Cond.code yX1_thingsGone cX1_thingsGone 3 (some .int), Cond.methodLink RX5 198 yX1_coinsOfAll, Cond.instanceMethod yX1_coinsOfAll, Cond.selects RX1 yX1_coinsOfAll yX1_coinsOfAll, Cond.code yX1_coinsOfAll cX1_coinsOfAll 3 (some .int)]
noncomputable def wsX5_greens : List Cond := .code yX5_greens cX5_greens 5 (some .int) :: ((wsX5_greens_r1 ++ (wsX5_greens_r2 ++ (wsX5_greens_r3 ++ (wsX5_greens_r4 ++ wsX5_greens_r5)))) ++ wsX50 ++ wsX10 ++ wsX40)
noncomputable def wsX5_keep : List Cond := .code yX5_keep cX5_keep 1 (some .int) :: ([.fieldLink RX5 201 "NearlyBought" "keptCount" "I", .fieldLink RX5 49 "NearlyBought" "kept" "[LNearlyBought$Market;", .fieldLink RX5 35 "NearlyBought" "now" "LNearlyBought$Market;", .methodLink RX5 151 yX1_copyFrom, .instanceMethod yX1_copyFrom, .selects RX1 yX1_copyFrom yX1_copyFrom, .initialized RX1, .code yX1_copyFrom cX1_copyFrom 3 none, .fieldLink RX1 43 "NearlyBought$Market" "year" "I", .fieldLink RX1 9 "NearlyBought$Market" "silent" "I", .fieldLink RX1 15 "NearlyBought$Market" "coins" "[I", .methodLink RX1 51 arraycopyName, .native arraycopyName, .static arraycopyName, .initialized "java/lang/System", .fieldLink RX1 19 "NearlyBought$Market" "owner" "[I", .fieldLink RX1 22 "NearlyBought$Market" "missed" "[I", .fieldLink RX1 27 "NearlyBought$Market" "breaths" "[[I", .fieldLink RX1 30 "NearlyBought$Market" "since" "[[I", .fieldLink RX1 33 "NearlyBought$Market" "counted" "[[I", .fieldLink RX1 36 "NearlyBought$Market" "price" "[[I"] ++ wsX50 ++ wsX10)
noncomputable def wsX5_back : List Cond := .code yX5_back cX5_back 1 (some .int) :: ([.fieldLink RX5 201 "NearlyBought" "keptCount" "I", .fieldLink RX5 35 "NearlyBought" "now" "LNearlyBought$Market;", .fieldLink RX5 49 "NearlyBought" "kept" "[LNearlyBought$Market;", .fieldLink RX5 45 "NearlyBought" "history" "LNearlyBought$History;", .fieldLink RX5 145 "NearlyBought$History" "size" "I", .methodLink RX5 151 yX1_copyFrom, .instanceMethod yX1_copyFrom, .selects RX1 yX1_copyFrom yX1_copyFrom, .initialized RX1, .code yX1_copyFrom cX1_copyFrom 3 none, .fieldLink RX1 43 "NearlyBought$Market" "year" "I", .fieldLink RX1 9 "NearlyBought$Market" "silent" "I", .fieldLink RX1 15 "NearlyBought$Market" "coins" "[I", .methodLink RX1 51 arraycopyName, .native arraycopyName, .static arraycopyName, .initialized "java/lang/System", .fieldLink RX1 19 "NearlyBought$Market" "owner" "[I", .fieldLink RX1 22 "NearlyBought$Market" "missed" "[I", .fieldLink RX1 27 "NearlyBought$Market" "breaths" "[[I", .fieldLink RX1 30 "NearlyBought$Market" "since" "[[I", .fieldLink RX1 33 "NearlyBought$Market" "counted" "[[I", .fieldLink RX1 36 "NearlyBought$Market" "price" "[[I"] ++ wsX50 ++ wsX00 ++ wsX10)
noncomputable def wsX5_count_r1 : List Cond := [Cond.fieldLink RX5 27 "NearlyBought" "laid" "LNearlyBought$Tale;", Cond.fieldLink RX5 175 "NearlyBought$Tale" "persons" "I", Cond.fieldLink RX5 78 "NearlyBought$Tale" "things" "I", Cond.fieldLink RX5 35 "NearlyBought" "now" "LNearlyBought$Market;", Cond.fieldLink RX5 101 "NearlyBought$Market" "year" "I", Cond.fieldLink RX5 56 "NearlyBought" "sights" "LNearlyBought$Sights;", Cond.fieldLink RX5 167 "NearlyBought$Sights" "size" "I", Cond.fieldLink RX5 45 "NearlyBought" "history" "LNearlyBought$History;", Cond.fieldLink RX5 145 "NearlyBought$History" "size" "I", Cond.fieldLink RX5 201 "NearlyBought" "keptCount" "I", Cond.fieldLink RX5 66 "NearlyBought" "textLength" "I", Cond.methodLink RX5 195 yX1_thingsGone, Cond.instanceMethod yX1_thingsGone, Cond.selects RX1 yX1_thingsGone yX1_thingsGone, Cond.initialized RX1, Cond.code yX1_thingsGone cX1_thingsGone 3 (some .int), Cond.fieldLink RX1 39 "NearlyBought$Market" "tale" "LNearlyBought$Tale;", Cond.fieldLink RX1 96 "NearlyBought$Tale" "things" "I", Cond.methodLink RX1 99 yX1_isFree, Cond.instanceMethod yX1_isFree, Cond.selects RX1 yX1_isFree yX1_isFree, Cond.code yX1_isFree cX1_isFree 2 (some .boolean), Cond.fieldLink RX1 19 "NearlyBought$Market" "owner" "[I", Cond.methodLink RX5 198 yX1_coinsOfAll]
noncomputable def wsX5_count_r2 : List Cond := [Cond.instanceMethod yX1_coinsOfAll, Cond.selects RX1 yX1_coinsOfAll yX1_coinsOfAll, Cond.code yX1_coinsOfAll cX1_coinsOfAll 3 (some .int), Cond.fieldLink RX1 93 "NearlyBought$Tale" "persons" "I", Cond.fieldLink RX1 15 "NearlyBought$Market" "coins" "[I"]
noncomputable def wsX5_count : List Cond := .code yX5_count cX5_count 2 (some .int) :: ((wsX5_count_r1 ++ wsX5_count_r2) ++ wsX50 ++ wsX40 ++ wsX10 ++ wsX30 ++ wsX00)
noncomputable def wsX6_begins : List Cond := .code yX6_begins cX6_begins 2 none :: ([.fieldLink RX6 16 "NearlyBoughtModel" "draft" "[I"] ++ wsX60)
noncomputable def wsX6_personOf : List Cond := .code yX6_personOf cX6_personOf 4 none :: ([.fieldLink RX6 16 "NearlyBoughtModel" "draft" "[I"] ++ wsX60)
noncomputable def wsX6_thingOf : List Cond := .code yX6_thingOf cX6_thingOf 2 none :: ([.fieldLink RX6 16 "NearlyBoughtModel" "draft" "[I"] ++ wsX60)
noncomputable def wsX6_pauseOf : List Cond := .code yX6_pauseOf cX6_pauseOf 6 none :: ([.fieldLink RX6 16 "NearlyBoughtModel" "draft" "[I"] ++ wsX60)
noncomputable def wsX6_starts : List Cond := .code yX6_starts cX6_starts 2 none :: ([.fieldLink RX6 19 "NearlyBoughtModel" "s" "[I", .fieldLink RX6 13 "NearlyBoughtModel" "told" "[I"] ++ wsX60)
noncomputable def wsX6_lays : List Cond := .code yX6_lays cX6_lays 2 none :: ([.fieldLink RX6 13 "NearlyBoughtModel" "told" "[I", .fieldLink RX6 16 "NearlyBoughtModel" "draft" "[I", .fieldLink RX6 88 "NearlyBoughtModel" "known" "I", .fieldLink RX6 91 "NearlyBoughtModel" "kept" "I", .fieldLink RX6 94 "NearlyBoughtModel" "noted" "I", .methodLink RX6 85 yX6_starts, .instanceMethod yX6_starts, .selects RX6 yX6_starts yX6_starts, .initialized RX6, .code yX6_starts cX6_starts 2 none, .fieldLink RX6 19 "NearlyBoughtModel" "s" "[I"] ++ wsX60)
noncomputable def wsX6_init_r1 : List Cond := [Cond.methodLink RX6 1 objectInit, Cond.instanceMethod objectInit, Cond.code objectInit ⟨#[0xb1]⟩ 1 none, Cond.arrayClass .int, Cond.fieldLink RX6 7 "NearlyBoughtModel" "text" "[I", Cond.fieldLink RX6 13 "NearlyBoughtModel" "told" "[I", Cond.fieldLink RX6 16 "NearlyBoughtModel" "draft" "[I", Cond.fieldLink RX6 19 "NearlyBoughtModel" "s" "[I", Cond.fieldLink RX6 22 "NearlyBoughtModel" "past" "[I", Cond.fieldLink RX6 25 "NearlyBoughtModel" "images" "[I", Cond.fieldLink RX6 28 "NearlyBoughtModel" "notes" "[I", Cond.fieldLink RX6 31 "NearlyBoughtModel" "feign" "I", Cond.fieldLink RX6 35 "NearlyBoughtModel" "held" "[I", Cond.methodLink RX6 38 yX6_begins, Cond.instanceMethod yX6_begins, Cond.selects RX6 yX6_begins yX6_begins, Cond.initialized RX6, Cond.code yX6_begins cX6_begins 2 none, Cond.methodLink RX6 41 yX6_personOf, Cond.instanceMethod yX6_personOf, Cond.selects RX6 yX6_personOf yX6_personOf, Cond.code yX6_personOf cX6_personOf 4 none, Cond.methodLink RX6 45 yX6_thingOf, Cond.instanceMethod yX6_thingOf]
noncomputable def wsX6_init_r2 : List Cond := [Cond.selects RX6 yX6_thingOf yX6_thingOf, Cond.code yX6_thingOf cX6_thingOf 2 none, Cond.methodLink RX6 49 yX6_pauseOf, Cond.instanceMethod yX6_pauseOf, Cond.selects RX6 yX6_pauseOf yX6_pauseOf, Cond.code yX6_pauseOf cX6_pauseOf 6 none, Cond.methodLink RX6 53 yX6_lays, Cond.instanceMethod yX6_lays, Cond.selects RX6 yX6_lays yX6_lays, Cond.code yX6_lays cX6_lays 2 none, Cond.fieldLink RX6 88 "NearlyBoughtModel" "known" "I", Cond.fieldLink RX6 91 "NearlyBoughtModel" "kept" "I", Cond.fieldLink RX6 94 "NearlyBoughtModel" "noted" "I", Cond.methodLink RX6 85 yX6_starts, Cond.instanceMethod yX6_starts, Cond.selects RX6 yX6_starts yX6_starts, Cond.code yX6_starts cX6_starts 2 none]
noncomputable def wsX6_init : List Cond := .code yX6_init cX6_init 1 none :: ((wsX6_init_r1 ++ wsX6_init_r2) ++ wsX60)
noncomputable def wsX6_in : List Cond := .code yX6_in cX6_in 3 (some .boolean) :: ([])
noncomputable def wsX6_isPerson : List Cond := .code yX6_isPerson cX6_isPerson 2 (some .boolean) :: ([.fieldLink RX6 13 "NearlyBoughtModel" "told" "[I", .methodLink RX6 56 yX6_in, .static yX6_in, .initialized RX6, .code yX6_in cX6_in 3 (some .boolean)] ++ wsX60)
noncomputable def wsX6_isThing : List Cond := .code yX6_isThing cX6_isThing 2 (some .boolean) :: ([.fieldLink RX6 13 "NearlyBoughtModel" "told" "[I", .methodLink RX6 56 yX6_in, .static yX6_in, .initialized RX6, .code yX6_in cX6_in 3 (some .boolean)] ++ wsX60)
noncomputable def wsX6_write : List Cond := .code yX6_write cX6_write 2 (some .int) :: ([.fieldLink RX6 60 "NearlyBoughtModel" "typed" "I", .fieldLink RX6 7 "NearlyBoughtModel" "text" "[I", .methodLink RX6 56 yX6_in, .static yX6_in, .initialized RX6, .code yX6_in cX6_in 3 (some .boolean)] ++ wsX60)
noncomputable def wsX6_wipe : List Cond := .code yX6_wipe cX6_wipe 2 (some .int) :: ([.fieldLink RX6 60 "NearlyBoughtModel" "typed" "I"] ++ wsX60)
noncomputable def wsX6_letterAt : List Cond := .code yX6_letterAt cX6_letterAt 2 (some .int) :: ([.fieldLink RX6 60 "NearlyBoughtModel" "typed" "I", .fieldLink RX6 7 "NearlyBoughtModel" "text" "[I"] ++ wsX60)
noncomputable def wsX6_isFigure : List Cond := .code yX6_isFigure cX6_isFigure 1 (some .boolean) :: ([.methodLink RX6 56 yX6_in, .static yX6_in, .initialized RX6, .code yX6_in cX6_in 3 (some .boolean)])
noncomputable def wsX6_number : List Cond := .code yX6_number cX6_number 6 (some .int) :: ([.fieldLink RX6 63 "NearlyBoughtModel" "at" "I", .methodLink RX6 66 yX6_letterAt, .instanceMethod yX6_letterAt, .selects RX6 yX6_letterAt yX6_letterAt, .initialized RX6, .code yX6_letterAt cX6_letterAt 2 (some .int), .fieldLink RX6 60 "NearlyBoughtModel" "typed" "I", .fieldLink RX6 7 "NearlyBoughtModel" "text" "[I", .methodLink RX6 70 yX6_isFigure, .static yX6_isFigure, .code yX6_isFigure cX6_isFigure 1 (some .boolean), .methodLink RX6 56 yX6_in, .static yX6_in, .code yX6_in cX6_in 3 (some .boolean)] ++ wsX60)
noncomputable def wsX6_readsItem_r1 : List Cond := [Cond.fieldLink RX6 16 "NearlyBoughtModel" "draft" "[I", Cond.methodLink RX6 74 yX6_number, Cond.instanceMethod yX6_number, Cond.selects RX6 yX6_number yX6_number, Cond.initialized RX6, Cond.code yX6_number cX6_number 6 (some .int), Cond.fieldLink RX6 63 "NearlyBoughtModel" "at" "I", Cond.methodLink RX6 66 yX6_letterAt, Cond.instanceMethod yX6_letterAt, Cond.selects RX6 yX6_letterAt yX6_letterAt, Cond.code yX6_letterAt cX6_letterAt 2 (some .int), Cond.fieldLink RX6 60 "NearlyBoughtModel" "typed" "I", Cond.fieldLink RX6 7 "NearlyBoughtModel" "text" "[I", Cond.methodLink RX6 70 yX6_isFigure, Cond.static yX6_isFigure, Cond.code yX6_isFigure cX6_isFigure 1 (some .boolean), Cond.methodLink RX6 56 yX6_in, Cond.static yX6_in, Cond.code yX6_in cX6_in 3 (some .boolean), Cond.methodLink RX6 41 yX6_personOf, Cond.instanceMethod yX6_personOf, Cond.selects RX6 yX6_personOf yX6_personOf, Cond.code yX6_personOf cX6_personOf 4 none, Cond.methodLink RX6 45 yX6_thingOf]
noncomputable def wsX6_readsItem_r2 : List Cond := [Cond.instanceMethod yX6_thingOf, Cond.selects RX6 yX6_thingOf yX6_thingOf, Cond.code yX6_thingOf cX6_thingOf 2 none, Cond.methodLink RX6 49 yX6_pauseOf, Cond.instanceMethod yX6_pauseOf, Cond.selects RX6 yX6_pauseOf yX6_pauseOf, Cond.code yX6_pauseOf cX6_pauseOf 6 none]
noncomputable def wsX6_readsItem : List Cond := .code yX6_readsItem cX6_readsItem 6 (some .boolean) :: ((wsX6_readsItem_r1 ++ wsX6_readsItem_r2) ++ wsX60)
noncomputable def wsX6_readsAll_r1 : List Cond := [Cond.fieldLink RX6 63 "NearlyBoughtModel" "at" "I", Cond.fieldLink RX6 60 "NearlyBoughtModel" "typed" "I", Cond.fieldLink RX6 7 "NearlyBoughtModel" "text" "[I", Cond.methodLink RX6 38 yX6_begins, Cond.instanceMethod yX6_begins, Cond.selects RX6 yX6_begins yX6_begins, Cond.initialized RX6, Cond.code yX6_begins cX6_begins 2 none, Cond.fieldLink RX6 16 "NearlyBoughtModel" "draft" "[I", Cond.methodLink RX6 78 yX6_readsItem, Cond.instanceMethod yX6_readsItem, Cond.selects RX6 yX6_readsItem yX6_readsItem, Cond.code yX6_readsItem cX6_readsItem 6 (some .boolean), Cond.methodLink RX6 74 yX6_number, Cond.instanceMethod yX6_number, Cond.selects RX6 yX6_number yX6_number, Cond.code yX6_number cX6_number 6 (some .int), Cond.methodLink RX6 66 yX6_letterAt, Cond.instanceMethod yX6_letterAt, Cond.selects RX6 yX6_letterAt yX6_letterAt, Cond.code yX6_letterAt cX6_letterAt 2 (some .int), Cond.methodLink RX6 70 yX6_isFigure, Cond.static yX6_isFigure, Cond.code yX6_isFigure cX6_isFigure 1 (some .boolean)]
noncomputable def wsX6_readsAll_r2 : List Cond := [Cond.methodLink RX6 56 yX6_in, Cond.static yX6_in, Cond.code yX6_in cX6_in 3 (some .boolean), Cond.methodLink RX6 41 yX6_personOf, Cond.instanceMethod yX6_personOf, Cond.selects RX6 yX6_personOf yX6_personOf, Cond.code yX6_personOf cX6_personOf 4 none, Cond.methodLink RX6 45 yX6_thingOf, Cond.instanceMethod yX6_thingOf, Cond.selects RX6 yX6_thingOf yX6_thingOf, Cond.code yX6_thingOf cX6_thingOf 2 none, Cond.methodLink RX6 49 yX6_pauseOf, Cond.instanceMethod yX6_pauseOf, Cond.selects RX6 yX6_pauseOf yX6_pauseOf, Cond.code yX6_pauseOf cX6_pauseOf 6 none]
noncomputable def wsX6_readsAll : List Cond := .code yX6_readsAll cX6_readsAll 2 (some .int) :: ((wsX6_readsAll_r1 ++ wsX6_readsAll_r2) ++ wsX60)
noncomputable def wsX6_fault_r1 : List Cond := [Cond.methodLink RX6 81 yX6_readsAll, Cond.instanceMethod yX6_readsAll, Cond.selects RX6 yX6_readsAll yX6_readsAll, Cond.initialized RX6, Cond.code yX6_readsAll cX6_readsAll 2 (some .int), Cond.fieldLink RX6 63 "NearlyBoughtModel" "at" "I", Cond.fieldLink RX6 60 "NearlyBoughtModel" "typed" "I", Cond.fieldLink RX6 7 "NearlyBoughtModel" "text" "[I", Cond.methodLink RX6 38 yX6_begins, Cond.instanceMethod yX6_begins, Cond.selects RX6 yX6_begins yX6_begins, Cond.code yX6_begins cX6_begins 2 none, Cond.fieldLink RX6 16 "NearlyBoughtModel" "draft" "[I", Cond.methodLink RX6 78 yX6_readsItem, Cond.instanceMethod yX6_readsItem, Cond.selects RX6 yX6_readsItem yX6_readsItem, Cond.code yX6_readsItem cX6_readsItem 6 (some .boolean), Cond.methodLink RX6 74 yX6_number, Cond.instanceMethod yX6_number, Cond.selects RX6 yX6_number yX6_number, Cond.code yX6_number cX6_number 6 (some .int), Cond.methodLink RX6 66 yX6_letterAt, Cond.instanceMethod yX6_letterAt, Cond.selects RX6 yX6_letterAt yX6_letterAt]
noncomputable def wsX6_fault_r2 : List Cond := [Cond.code yX6_letterAt cX6_letterAt 2 (some .int), Cond.methodLink RX6 70 yX6_isFigure, Cond.static yX6_isFigure, Cond.code yX6_isFigure cX6_isFigure 1 (some .boolean), Cond.methodLink RX6 56 yX6_in, Cond.static yX6_in, Cond.code yX6_in cX6_in 3 (some .boolean), Cond.methodLink RX6 41 yX6_personOf, Cond.instanceMethod yX6_personOf, Cond.selects RX6 yX6_personOf yX6_personOf, Cond.code yX6_personOf cX6_personOf 4 none, Cond.methodLink RX6 45 yX6_thingOf, Cond.instanceMethod yX6_thingOf, Cond.selects RX6 yX6_thingOf yX6_thingOf, Cond.code yX6_thingOf cX6_thingOf 2 none, Cond.methodLink RX6 49 yX6_pauseOf, Cond.instanceMethod yX6_pauseOf, Cond.selects RX6 yX6_pauseOf yX6_pauseOf, Cond.code yX6_pauseOf cX6_pauseOf 6 none]
noncomputable def wsX6_fault : List Cond := .code yX6_fault cX6_fault 1 (some .int) :: ((wsX6_fault_r1 ++ wsX6_fault_r2) ++ wsX60)
noncomputable def wsX6_lay_r1 : List Cond := [Cond.fieldLink RX6 16 "NearlyBoughtModel" "draft" "[I", Cond.fieldLink RX6 13 "NearlyBoughtModel" "told" "[I", Cond.methodLink RX6 81 yX6_readsAll, Cond.instanceMethod yX6_readsAll, Cond.selects RX6 yX6_readsAll yX6_readsAll, Cond.initialized RX6, Cond.code yX6_readsAll cX6_readsAll 2 (some .int), Cond.fieldLink RX6 63 "NearlyBoughtModel" "at" "I", Cond.fieldLink RX6 60 "NearlyBoughtModel" "typed" "I", Cond.fieldLink RX6 7 "NearlyBoughtModel" "text" "[I", Cond.methodLink RX6 38 yX6_begins, Cond.instanceMethod yX6_begins, Cond.selects RX6 yX6_begins yX6_begins, Cond.code yX6_begins cX6_begins 2 none, Cond.methodLink RX6 78 yX6_readsItem, Cond.instanceMethod yX6_readsItem, Cond.selects RX6 yX6_readsItem yX6_readsItem, Cond.code yX6_readsItem cX6_readsItem 6 (some .boolean), Cond.methodLink RX6 74 yX6_number, Cond.instanceMethod yX6_number, Cond.selects RX6 yX6_number yX6_number, Cond.code yX6_number cX6_number 6 (some .int), Cond.methodLink RX6 66 yX6_letterAt, Cond.instanceMethod yX6_letterAt]
noncomputable def wsX6_lay_r2 : List Cond := [Cond.selects RX6 yX6_letterAt yX6_letterAt, Cond.code yX6_letterAt cX6_letterAt 2 (some .int), Cond.methodLink RX6 70 yX6_isFigure, Cond.static yX6_isFigure, Cond.code yX6_isFigure cX6_isFigure 1 (some .boolean), Cond.methodLink RX6 56 yX6_in, Cond.static yX6_in, Cond.code yX6_in cX6_in 3 (some .boolean), Cond.methodLink RX6 41 yX6_personOf, Cond.instanceMethod yX6_personOf, Cond.selects RX6 yX6_personOf yX6_personOf, Cond.code yX6_personOf cX6_personOf 4 none, Cond.methodLink RX6 45 yX6_thingOf, Cond.instanceMethod yX6_thingOf, Cond.selects RX6 yX6_thingOf yX6_thingOf, Cond.code yX6_thingOf cX6_thingOf 2 none, Cond.methodLink RX6 49 yX6_pauseOf, Cond.instanceMethod yX6_pauseOf, Cond.selects RX6 yX6_pauseOf yX6_pauseOf, Cond.code yX6_pauseOf cX6_pauseOf 6 none, Cond.methodLink RX6 53 yX6_lays, Cond.instanceMethod yX6_lays, Cond.selects RX6 yX6_lays yX6_lays, Cond.code yX6_lays cX6_lays 2 none]
noncomputable def wsX6_lay_r3 : List Cond := [Cond.fieldLink RX6 88 "NearlyBoughtModel" "known" "I", Cond.fieldLink RX6 91 "NearlyBoughtModel" "kept" "I", Cond.fieldLink RX6 94 "NearlyBoughtModel" "noted" "I", Cond.methodLink RX6 85 yX6_starts, Cond.instanceMethod yX6_starts, Cond.selects RX6 yX6_starts yX6_starts, Cond.code yX6_starts cX6_starts 2 none, Cond.fieldLink RX6 19 "NearlyBoughtModel" "s" "[I"]
noncomputable def wsX6_lay : List Cond := .code yX6_lay cX6_lay 1 (some .int) :: ((wsX6_lay_r1 ++ (wsX6_lay_r2 ++ wsX6_lay_r3)) ++ wsX60)
noncomputable def wsX6_countedOf : List Cond := .code yX6_countedOf cX6_countedOf 3 (some .int) :: ([])
noncomputable def wsX6_better : List Cond := .code yX6_better cX6_better 3 (some .int) :: ([])
noncomputable def wsX6_pauseNow : List Cond := .code yX6_pauseNow cX6_pauseNow 5 (some .int) :: ([.fieldLink RX6 19 "NearlyBoughtModel" "s" "[I", .fieldLink RX6 13 "NearlyBoughtModel" "told" "[I", .fieldLink RX6 31 "NearlyBoughtModel" "feign" "I", .methodLink RX6 97 yX6_better, .static yX6_better, .initialized RX6, .code yX6_better cX6_better 3 (some .int)] ++ wsX60)
noncomputable def wsX6_countedNow : List Cond := .code yX6_countedNow cX6_countedNow 3 (some .int) :: ([.fieldLink RX6 13 "NearlyBoughtModel" "told" "[I", .methodLink RX6 101 yX6_pauseNow, .instanceMethod yX6_pauseNow, .selects RX6 yX6_pauseNow yX6_pauseNow, .initialized RX6, .code yX6_pauseNow cX6_pauseNow 5 (some .int), .fieldLink RX6 19 "NearlyBoughtModel" "s" "[I", .fieldLink RX6 31 "NearlyBoughtModel" "feign" "I", .methodLink RX6 97 yX6_better, .static yX6_better, .code yX6_better cX6_better 3 (some .int), .methodLink RX6 104 yX6_countedOf, .instanceMethod yX6_countedOf, .selects RX6 yX6_countedOf yX6_countedOf, .code yX6_countedOf cX6_countedOf 3 (some .int)] ++ wsX60)
noncomputable def wsX6_isNearly : List Cond := .code yX6_isNearly cX6_isNearly 3 (some .boolean) :: ([.methodLink RX6 107 yX6_countedNow, .instanceMethod yX6_countedNow, .selects RX6 yX6_countedNow yX6_countedNow, .initialized RX6, .code yX6_countedNow cX6_countedNow 3 (some .int), .fieldLink RX6 13 "NearlyBoughtModel" "told" "[I", .methodLink RX6 101 yX6_pauseNow, .instanceMethod yX6_pauseNow, .selects RX6 yX6_pauseNow yX6_pauseNow, .code yX6_pauseNow cX6_pauseNow 5 (some .int), .fieldLink RX6 19 "NearlyBoughtModel" "s" "[I", .fieldLink RX6 31 "NearlyBoughtModel" "feign" "I", .methodLink RX6 97 yX6_better, .static yX6_better, .code yX6_better cX6_better 3 (some .int), .methodLink RX6 104 yX6_countedOf, .instanceMethod yX6_countedOf, .selects RX6 yX6_countedOf yX6_countedOf, .code yX6_countedOf cX6_countedOf 3 (some .int)] ++ wsX60)
noncomputable def wsX6_costs : List Cond := .code yX6_costs cX6_costs 3 (some .int) :: ([.fieldLink RX6 13 "NearlyBoughtModel" "told" "[I"] ++ wsX60)
noncomputable def wsX6_priceOf : List Cond := .code yX6_priceOf cX6_priceOf 4 (some .int) :: ([.fieldLink RX6 13 "NearlyBoughtModel" "told" "[I", .methodLink RX6 101 yX6_pauseNow, .instanceMethod yX6_pauseNow, .selects RX6 yX6_pauseNow yX6_pauseNow, .initialized RX6, .code yX6_pauseNow cX6_pauseNow 5 (some .int), .fieldLink RX6 19 "NearlyBoughtModel" "s" "[I", .fieldLink RX6 31 "NearlyBoughtModel" "feign" "I", .methodLink RX6 97 yX6_better, .static yX6_better, .code yX6_better cX6_better 3 (some .int), .methodLink RX6 110 yX6_costs, .instanceMethod yX6_costs, .selects RX6 yX6_costs yX6_costs, .code yX6_costs cX6_costs 3 (some .int)] ++ wsX60)
noncomputable def wsX6_claim : List Cond := .code yX6_claim cX6_claim 6 (some .int) :: ([.fieldLink RX6 13 "NearlyBoughtModel" "told" "[I", .methodLink RX6 107 yX6_countedNow, .instanceMethod yX6_countedNow, .selects RX6 yX6_countedNow yX6_countedNow, .initialized RX6, .code yX6_countedNow cX6_countedNow 3 (some .int), .methodLink RX6 101 yX6_pauseNow, .instanceMethod yX6_pauseNow, .selects RX6 yX6_pauseNow yX6_pauseNow, .code yX6_pauseNow cX6_pauseNow 5 (some .int), .fieldLink RX6 19 "NearlyBoughtModel" "s" "[I", .fieldLink RX6 31 "NearlyBoughtModel" "feign" "I", .methodLink RX6 97 yX6_better, .static yX6_better, .code yX6_better cX6_better 3 (some .int), .methodLink RX6 104 yX6_countedOf, .instanceMethod yX6_countedOf, .selects RX6 yX6_countedOf yX6_countedOf, .code yX6_countedOf cX6_countedOf 3 (some .int)] ++ wsX60)
noncomputable def wsX6_thingsOf : List Cond := .code yX6_thingsOf cX6_thingsOf 4 (some .int) :: ([.fieldLink RX6 13 "NearlyBoughtModel" "told" "[I", .fieldLink RX6 19 "NearlyBoughtModel" "s" "[I"] ++ wsX60)
noncomputable def wsX6_person : List Cond := .code yX6_person cX6_person 5 (some .int) :: ([.fieldLink RX6 19 "NearlyBoughtModel" "s" "[I", .fieldLink RX6 13 "NearlyBoughtModel" "told" "[I", .methodLink RX6 113 yX6_isPerson, .instanceMethod yX6_isPerson, .selects RX6 yX6_isPerson yX6_isPerson, .initialized RX6, .code yX6_isPerson cX6_isPerson 2 (some .boolean), .methodLink RX6 56 yX6_in, .static yX6_in, .code yX6_in cX6_in 3 (some .boolean), .methodLink RX6 110 yX6_costs, .instanceMethod yX6_costs, .selects RX6 yX6_costs yX6_costs, .code yX6_costs cX6_costs 3 (some .int), .methodLink RX6 116 yX6_thingsOf, .instanceMethod yX6_thingsOf, .selects RX6 yX6_thingsOf yX6_thingsOf, .code yX6_thingsOf cX6_thingsOf 4 (some .int)] ++ wsX60)
noncomputable def wsX6_thing_r1 : List Cond := [Cond.fieldLink RX6 19 "NearlyBoughtModel" "s" "[I", Cond.methodLink RX6 119 yX6_isThing, Cond.instanceMethod yX6_isThing, Cond.selects RX6 yX6_isThing yX6_isThing, Cond.initialized RX6, Cond.code yX6_isThing cX6_isThing 2 (some .boolean), Cond.fieldLink RX6 13 "NearlyBoughtModel" "told" "[I", Cond.methodLink RX6 56 yX6_in, Cond.static yX6_in, Cond.code yX6_in cX6_in 3 (some .boolean), Cond.methodLink RX6 110 yX6_costs, Cond.instanceMethod yX6_costs, Cond.selects RX6 yX6_costs yX6_costs, Cond.code yX6_costs cX6_costs 3 (some .int), Cond.methodLink RX6 122 yX6_claim, Cond.instanceMethod yX6_claim, Cond.selects RX6 yX6_claim yX6_claim, Cond.code yX6_claim cX6_claim 6 (some .int), Cond.methodLink RX6 107 yX6_countedNow, Cond.instanceMethod yX6_countedNow, Cond.selects RX6 yX6_countedNow yX6_countedNow, Cond.code yX6_countedNow cX6_countedNow 3 (some .int), Cond.methodLink RX6 101 yX6_pauseNow, Cond.instanceMethod yX6_pauseNow]
noncomputable def wsX6_thing_r2 : List Cond := [Cond.selects RX6 yX6_pauseNow yX6_pauseNow, Cond.code yX6_pauseNow cX6_pauseNow 5 (some .int), Cond.fieldLink RX6 31 "NearlyBoughtModel" "feign" "I", Cond.methodLink RX6 97 yX6_better, Cond.static yX6_better, Cond.code yX6_better cX6_better 3 (some .int), Cond.methodLink RX6 104 yX6_countedOf, Cond.instanceMethod yX6_countedOf, Cond.selects RX6 yX6_countedOf yX6_countedOf, Cond.code yX6_countedOf cX6_countedOf 3 (some .int)]
noncomputable def wsX6_thing : List Cond := .code yX6_thing cX6_thing 3 (some .int) :: ((wsX6_thing_r1 ++ wsX6_thing_r2) ++ wsX60)
noncomputable def wsX6_nearly_r1 : List Cond := [Cond.methodLink RX6 113 yX6_isPerson, Cond.instanceMethod yX6_isPerson, Cond.selects RX6 yX6_isPerson yX6_isPerson, Cond.initialized RX6, Cond.code yX6_isPerson cX6_isPerson 2 (some .boolean), Cond.fieldLink RX6 13 "NearlyBoughtModel" "told" "[I", Cond.methodLink RX6 56 yX6_in, Cond.static yX6_in, Cond.code yX6_in cX6_in 3 (some .boolean), Cond.methodLink RX6 119 yX6_isThing, Cond.instanceMethod yX6_isThing, Cond.selects RX6 yX6_isThing yX6_isThing, Cond.code yX6_isThing cX6_isThing 2 (some .boolean), Cond.methodLink RX6 101 yX6_pauseNow, Cond.instanceMethod yX6_pauseNow, Cond.selects RX6 yX6_pauseNow yX6_pauseNow, Cond.code yX6_pauseNow cX6_pauseNow 5 (some .int), Cond.fieldLink RX6 19 "NearlyBoughtModel" "s" "[I", Cond.fieldLink RX6 31 "NearlyBoughtModel" "feign" "I", Cond.methodLink RX6 97 yX6_better, Cond.static yX6_better, Cond.code yX6_better cX6_better 3 (some .int), Cond.methodLink RX6 107 yX6_countedNow, Cond.instanceMethod yX6_countedNow]
noncomputable def wsX6_nearly_r2 : List Cond := [Cond.selects RX6 yX6_countedNow yX6_countedNow, Cond.code yX6_countedNow cX6_countedNow 3 (some .int), Cond.methodLink RX6 104 yX6_countedOf, Cond.instanceMethod yX6_countedOf, Cond.selects RX6 yX6_countedOf yX6_countedOf, Cond.code yX6_countedOf cX6_countedOf 3 (some .int), Cond.methodLink RX6 125 yX6_isNearly, Cond.instanceMethod yX6_isNearly, Cond.selects RX6 yX6_isNearly yX6_isNearly, Cond.code yX6_isNearly cX6_isNearly 3 (some .boolean), Cond.methodLink RX6 129 yX6_priceOf, Cond.instanceMethod yX6_priceOf, Cond.selects RX6 yX6_priceOf yX6_priceOf, Cond.code yX6_priceOf cX6_priceOf 4 (some .int), Cond.methodLink RX6 110 yX6_costs, Cond.instanceMethod yX6_costs, Cond.selects RX6 yX6_costs yX6_costs, Cond.code yX6_costs cX6_costs 3 (some .int)]
noncomputable def wsX6_nearly : List Cond := .code yX6_nearly cX6_nearly 5 (some .int) :: ((wsX6_nearly_r1 ++ wsX6_nearly_r2) ++ wsX60)
noncomputable def wsX6_keeps : List Cond := .code yX6_keeps cX6_keeps 2 none :: ([.fieldLink RX6 88 "NearlyBoughtModel" "known" "I", .fieldLink RX6 22 "NearlyBoughtModel" "past" "[I", .fieldLink RX6 19 "NearlyBoughtModel" "s" "[I"] ++ wsX60)
noncomputable def wsX6_pauses : List Cond := .code yX6_pauses cX6_pauses 6 none :: ([.fieldLink RX6 19 "NearlyBoughtModel" "s" "[I", .methodLink RX6 97 yX6_better, .static yX6_better, .initialized RX6, .code yX6_better cX6_better 3 (some .int)] ++ wsX60)
noncomputable def wsX6_pause_r1 : List Cond := [Cond.methodLink RX6 113 yX6_isPerson, Cond.instanceMethod yX6_isPerson, Cond.selects RX6 yX6_isPerson yX6_isPerson, Cond.initialized RX6, Cond.code yX6_isPerson cX6_isPerson 2 (some .boolean), Cond.fieldLink RX6 13 "NearlyBoughtModel" "told" "[I", Cond.methodLink RX6 56 yX6_in, Cond.static yX6_in, Cond.code yX6_in cX6_in 3 (some .boolean), Cond.methodLink RX6 119 yX6_isThing, Cond.instanceMethod yX6_isThing, Cond.selects RX6 yX6_isThing yX6_isThing, Cond.code yX6_isThing cX6_isThing 2 (some .boolean), Cond.methodLink RX6 132 yX6_keeps, Cond.instanceMethod yX6_keeps, Cond.selects RX6 yX6_keeps yX6_keeps, Cond.code yX6_keeps cX6_keeps 2 none, Cond.fieldLink RX6 88 "NearlyBoughtModel" "known" "I", Cond.fieldLink RX6 22 "NearlyBoughtModel" "past" "[I", Cond.fieldLink RX6 19 "NearlyBoughtModel" "s" "[I", Cond.methodLink RX6 135 yX6_pauses, Cond.instanceMethod yX6_pauses, Cond.selects RX6 yX6_pauses yX6_pauses, Cond.code yX6_pauses cX6_pauses 6 none]
noncomputable def wsX6_pause_r2 : List Cond := [Cond.methodLink RX6 97 yX6_better, Cond.static yX6_better, Cond.code yX6_better cX6_better 3 (some .int), Cond.methodLink RX6 107 yX6_countedNow, Cond.instanceMethod yX6_countedNow, Cond.selects RX6 yX6_countedNow yX6_countedNow, Cond.code yX6_countedNow cX6_countedNow 3 (some .int), Cond.methodLink RX6 101 yX6_pauseNow, Cond.instanceMethod yX6_pauseNow, Cond.selects RX6 yX6_pauseNow yX6_pauseNow, Cond.code yX6_pauseNow cX6_pauseNow 5 (some .int), Cond.fieldLink RX6 31 "NearlyBoughtModel" "feign" "I", Cond.methodLink RX6 104 yX6_countedOf, Cond.instanceMethod yX6_countedOf, Cond.selects RX6 yX6_countedOf yX6_countedOf, Cond.code yX6_countedOf cX6_countedOf 3 (some .int)]
noncomputable def wsX6_pause : List Cond := .code yX6_pause cX6_pause 4 (some .int) :: ((wsX6_pause_r1 ++ wsX6_pause_r2) ++ wsX60)
noncomputable def wsX6_sells : List Cond := .code yX6_sells cX6_sells 4 none :: ([.fieldLink RX6 19 "NearlyBoughtModel" "s" "[I"] ++ wsX60)
noncomputable def wsX6_dearest_r1 : List Cond := [Cond.fieldLink RX6 13 "NearlyBoughtModel" "told" "[I", Cond.methodLink RX6 125 yX6_isNearly, Cond.instanceMethod yX6_isNearly, Cond.selects RX6 yX6_isNearly yX6_isNearly, Cond.initialized RX6, Cond.code yX6_isNearly cX6_isNearly 3 (some .boolean), Cond.methodLink RX6 107 yX6_countedNow, Cond.instanceMethod yX6_countedNow, Cond.selects RX6 yX6_countedNow yX6_countedNow, Cond.code yX6_countedNow cX6_countedNow 3 (some .int), Cond.methodLink RX6 101 yX6_pauseNow, Cond.instanceMethod yX6_pauseNow, Cond.selects RX6 yX6_pauseNow yX6_pauseNow, Cond.code yX6_pauseNow cX6_pauseNow 5 (some .int), Cond.fieldLink RX6 19 "NearlyBoughtModel" "s" "[I", Cond.fieldLink RX6 31 "NearlyBoughtModel" "feign" "I", Cond.methodLink RX6 97 yX6_better, Cond.static yX6_better, Cond.code yX6_better cX6_better 3 (some .int), Cond.methodLink RX6 104 yX6_countedOf, Cond.instanceMethod yX6_countedOf, Cond.selects RX6 yX6_countedOf yX6_countedOf, Cond.code yX6_countedOf cX6_countedOf 3 (some .int), Cond.methodLink RX6 129 yX6_priceOf]
noncomputable def wsX6_dearest_r2 : List Cond := [Cond.instanceMethod yX6_priceOf, Cond.selects RX6 yX6_priceOf yX6_priceOf, Cond.code yX6_priceOf cX6_priceOf 4 (some .int), Cond.methodLink RX6 110 yX6_costs, Cond.instanceMethod yX6_costs, Cond.selects RX6 yX6_costs yX6_costs, Cond.code yX6_costs cX6_costs 3 (some .int)]
noncomputable def wsX6_dearest : List Cond := .code yX6_dearest cX6_dearest 5 (some .int) :: ((wsX6_dearest_r1 ++ wsX6_dearest_r2) ++ wsX60)
noncomputable def wsX6_offers_r1 : List Cond := [Cond.fieldLink RX6 19 "NearlyBoughtModel" "s" "[I", Cond.fieldLink RX6 13 "NearlyBoughtModel" "told" "[I", Cond.methodLink RX6 129 yX6_priceOf, Cond.instanceMethod yX6_priceOf, Cond.selects RX6 yX6_priceOf yX6_priceOf, Cond.initialized RX6, Cond.code yX6_priceOf cX6_priceOf 4 (some .int), Cond.methodLink RX6 101 yX6_pauseNow, Cond.instanceMethod yX6_pauseNow, Cond.selects RX6 yX6_pauseNow yX6_pauseNow, Cond.code yX6_pauseNow cX6_pauseNow 5 (some .int), Cond.fieldLink RX6 31 "NearlyBoughtModel" "feign" "I", Cond.methodLink RX6 97 yX6_better, Cond.static yX6_better, Cond.code yX6_better cX6_better 3 (some .int), Cond.methodLink RX6 110 yX6_costs, Cond.instanceMethod yX6_costs, Cond.selects RX6 yX6_costs yX6_costs, Cond.code yX6_costs cX6_costs 3 (some .int), Cond.methodLink RX6 139 yX6_sells, Cond.instanceMethod yX6_sells, Cond.selects RX6 yX6_sells yX6_sells, Cond.code yX6_sells cX6_sells 4 none, Cond.methodLink RX6 142 yX6_dearest]
noncomputable def wsX6_offers_r2 : List Cond := [Cond.instanceMethod yX6_dearest, Cond.selects RX6 yX6_dearest yX6_dearest, Cond.code yX6_dearest cX6_dearest 5 (some .int), Cond.methodLink RX6 125 yX6_isNearly, Cond.instanceMethod yX6_isNearly, Cond.selects RX6 yX6_isNearly yX6_isNearly, Cond.code yX6_isNearly cX6_isNearly 3 (some .boolean), Cond.methodLink RX6 107 yX6_countedNow, Cond.instanceMethod yX6_countedNow, Cond.selects RX6 yX6_countedNow yX6_countedNow, Cond.code yX6_countedNow cX6_countedNow 3 (some .int), Cond.methodLink RX6 104 yX6_countedOf, Cond.instanceMethod yX6_countedOf, Cond.selects RX6 yX6_countedOf yX6_countedOf, Cond.code yX6_countedOf cX6_countedOf 3 (some .int)]
noncomputable def wsX6_offers : List Cond := .code yX6_offers cX6_offers 8 none :: ((wsX6_offers_r1 ++ wsX6_offers_r2) ++ wsX60)
noncomputable def wsX6_holds_r1 : List Cond := [Cond.fieldLink RX6 13 "NearlyBoughtModel" "told" "[I", Cond.fieldLink RX6 19 "NearlyBoughtModel" "s" "[I", Cond.methodLink RX6 122 yX6_claim, Cond.instanceMethod yX6_claim, Cond.selects RX6 yX6_claim yX6_claim, Cond.initialized RX6, Cond.code yX6_claim cX6_claim 6 (some .int), Cond.methodLink RX6 107 yX6_countedNow, Cond.instanceMethod yX6_countedNow, Cond.selects RX6 yX6_countedNow yX6_countedNow, Cond.code yX6_countedNow cX6_countedNow 3 (some .int), Cond.methodLink RX6 101 yX6_pauseNow, Cond.instanceMethod yX6_pauseNow, Cond.selects RX6 yX6_pauseNow yX6_pauseNow, Cond.code yX6_pauseNow cX6_pauseNow 5 (some .int), Cond.fieldLink RX6 31 "NearlyBoughtModel" "feign" "I", Cond.methodLink RX6 97 yX6_better, Cond.static yX6_better, Cond.code yX6_better cX6_better 3 (some .int), Cond.methodLink RX6 104 yX6_countedOf, Cond.instanceMethod yX6_countedOf, Cond.selects RX6 yX6_countedOf yX6_countedOf, Cond.code yX6_countedOf cX6_countedOf 3 (some .int), Cond.methodLink RX6 145 yX6_offers]
noncomputable def wsX6_holds_r2 : List Cond := [Cond.instanceMethod yX6_offers, Cond.selects RX6 yX6_offers yX6_offers, Cond.code yX6_offers cX6_offers 8 none, Cond.methodLink RX6 129 yX6_priceOf, Cond.instanceMethod yX6_priceOf, Cond.selects RX6 yX6_priceOf yX6_priceOf, Cond.code yX6_priceOf cX6_priceOf 4 (some .int), Cond.methodLink RX6 110 yX6_costs, Cond.instanceMethod yX6_costs, Cond.selects RX6 yX6_costs yX6_costs, Cond.code yX6_costs cX6_costs 3 (some .int), Cond.methodLink RX6 139 yX6_sells, Cond.instanceMethod yX6_sells, Cond.selects RX6 yX6_sells yX6_sells, Cond.code yX6_sells cX6_sells 4 none, Cond.methodLink RX6 142 yX6_dearest, Cond.instanceMethod yX6_dearest, Cond.selects RX6 yX6_dearest yX6_dearest, Cond.code yX6_dearest cX6_dearest 5 (some .int), Cond.methodLink RX6 125 yX6_isNearly, Cond.instanceMethod yX6_isNearly, Cond.selects RX6 yX6_isNearly yX6_isNearly, Cond.code yX6_isNearly cX6_isNearly 3 (some .boolean)]
noncomputable def wsX6_holds : List Cond := .code yX6_holds cX6_holds 3 (some .int) :: ((wsX6_holds_r1 ++ wsX6_holds_r2) ++ wsX60)
noncomputable def wsX6_fair_r1 : List Cond := [Cond.fieldLink RX6 19 "NearlyBoughtModel" "s" "[I", Cond.methodLink RX6 132 yX6_keeps, Cond.instanceMethod yX6_keeps, Cond.selects RX6 yX6_keeps yX6_keeps, Cond.initialized RX6, Cond.code yX6_keeps cX6_keeps 2 none, Cond.fieldLink RX6 88 "NearlyBoughtModel" "known" "I", Cond.fieldLink RX6 22 "NearlyBoughtModel" "past" "[I", Cond.methodLink RX6 148 yX6_holds, Cond.instanceMethod yX6_holds, Cond.selects RX6 yX6_holds yX6_holds, Cond.code yX6_holds cX6_holds 3 (some .int), Cond.fieldLink RX6 13 "NearlyBoughtModel" "told" "[I", Cond.methodLink RX6 122 yX6_claim, Cond.instanceMethod yX6_claim, Cond.selects RX6 yX6_claim yX6_claim, Cond.code yX6_claim cX6_claim 6 (some .int), Cond.methodLink RX6 107 yX6_countedNow, Cond.instanceMethod yX6_countedNow, Cond.selects RX6 yX6_countedNow yX6_countedNow, Cond.code yX6_countedNow cX6_countedNow 3 (some .int), Cond.methodLink RX6 101 yX6_pauseNow, Cond.instanceMethod yX6_pauseNow, Cond.selects RX6 yX6_pauseNow yX6_pauseNow]
noncomputable def wsX6_fair_r2 : List Cond := [Cond.code yX6_pauseNow cX6_pauseNow 5 (some .int), Cond.fieldLink RX6 31 "NearlyBoughtModel" "feign" "I", Cond.methodLink RX6 97 yX6_better, Cond.static yX6_better, Cond.code yX6_better cX6_better 3 (some .int), Cond.methodLink RX6 104 yX6_countedOf, Cond.instanceMethod yX6_countedOf, Cond.selects RX6 yX6_countedOf yX6_countedOf, Cond.code yX6_countedOf cX6_countedOf 3 (some .int), Cond.methodLink RX6 145 yX6_offers, Cond.instanceMethod yX6_offers, Cond.selects RX6 yX6_offers yX6_offers, Cond.code yX6_offers cX6_offers 8 none, Cond.methodLink RX6 129 yX6_priceOf, Cond.instanceMethod yX6_priceOf, Cond.selects RX6 yX6_priceOf yX6_priceOf, Cond.code yX6_priceOf cX6_priceOf 4 (some .int), Cond.methodLink RX6 110 yX6_costs, Cond.instanceMethod yX6_costs, Cond.selects RX6 yX6_costs yX6_costs, Cond.code yX6_costs cX6_costs 3 (some .int), Cond.methodLink RX6 139 yX6_sells, Cond.instanceMethod yX6_sells, Cond.selects RX6 yX6_sells yX6_sells]
noncomputable def wsX6_fair_r3 : List Cond := [Cond.code yX6_sells cX6_sells 4 none, Cond.methodLink RX6 142 yX6_dearest, Cond.instanceMethod yX6_dearest, Cond.selects RX6 yX6_dearest yX6_dearest, Cond.code yX6_dearest cX6_dearest 5 (some .int), Cond.methodLink RX6 125 yX6_isNearly, Cond.instanceMethod yX6_isNearly, Cond.selects RX6 yX6_isNearly yX6_isNearly, Cond.code yX6_isNearly cX6_isNearly 3 (some .boolean)]
noncomputable def wsX6_fair : List Cond := .code yX6_fair cX6_fair 1 (some .int) :: ((wsX6_fair_r1 ++ (wsX6_fair_r2 ++ wsX6_fair_r3)) ++ wsX60)
noncomputable def wsX6_give : List Cond := .code yX6_give cX6_give 4 (some .int) :: ([.fieldLink RX6 19 "NearlyBoughtModel" "s" "[I", .methodLink RX6 113 yX6_isPerson, .instanceMethod yX6_isPerson, .selects RX6 yX6_isPerson yX6_isPerson, .initialized RX6, .code yX6_isPerson cX6_isPerson 2 (some .boolean), .fieldLink RX6 13 "NearlyBoughtModel" "told" "[I", .methodLink RX6 56 yX6_in, .static yX6_in, .code yX6_in cX6_in 3 (some .boolean), .methodLink RX6 132 yX6_keeps, .instanceMethod yX6_keeps, .selects RX6 yX6_keeps yX6_keeps, .code yX6_keeps cX6_keeps 2 none, .fieldLink RX6 88 "NearlyBoughtModel" "known" "I", .fieldLink RX6 22 "NearlyBoughtModel" "past" "[I"] ++ wsX60)
noncomputable def wsX6_undo : List Cond := .code yX6_undo cX6_undo 2 (some .int) :: ([.fieldLink RX6 88 "NearlyBoughtModel" "known" "I", .fieldLink RX6 19 "NearlyBoughtModel" "s" "[I", .fieldLink RX6 22 "NearlyBoughtModel" "past" "[I"] ++ wsX60)
noncomputable def wsX6_remembers : List Cond := .code yX6_remembers cX6_remembers 2 none :: ([.fieldLink RX6 35 "NearlyBoughtModel" "held" "[I", .fieldLink RX6 19 "NearlyBoughtModel" "s" "[I"] ++ wsX60)
noncomputable def wsX6_lets : List Cond := .code yX6_lets cX6_lets 2 none :: ([.fieldLink RX6 19 "NearlyBoughtModel" "s" "[I", .fieldLink RX6 35 "NearlyBoughtModel" "held" "[I"] ++ wsX60)
noncomputable def wsX6_whoseBehind_r1 : List Cond := [Cond.fieldLink RX6 19 "NearlyBoughtModel" "s" "[I", Cond.methodLink RX6 148 yX6_holds, Cond.instanceMethod yX6_holds, Cond.selects RX6 yX6_holds yX6_holds, Cond.initialized RX6, Cond.code yX6_holds cX6_holds 3 (some .int), Cond.fieldLink RX6 13 "NearlyBoughtModel" "told" "[I", Cond.methodLink RX6 122 yX6_claim, Cond.instanceMethod yX6_claim, Cond.selects RX6 yX6_claim yX6_claim, Cond.code yX6_claim cX6_claim 6 (some .int), Cond.methodLink RX6 107 yX6_countedNow, Cond.instanceMethod yX6_countedNow, Cond.selects RX6 yX6_countedNow yX6_countedNow, Cond.code yX6_countedNow cX6_countedNow 3 (some .int), Cond.methodLink RX6 101 yX6_pauseNow, Cond.instanceMethod yX6_pauseNow, Cond.selects RX6 yX6_pauseNow yX6_pauseNow, Cond.code yX6_pauseNow cX6_pauseNow 5 (some .int), Cond.fieldLink RX6 31 "NearlyBoughtModel" "feign" "I", Cond.methodLink RX6 97 yX6_better, Cond.static yX6_better, Cond.code yX6_better cX6_better 3 (some .int), Cond.methodLink RX6 104 yX6_countedOf]
noncomputable def wsX6_whoseBehind_r2 : List Cond := [Cond.instanceMethod yX6_countedOf, Cond.selects RX6 yX6_countedOf yX6_countedOf, Cond.code yX6_countedOf cX6_countedOf 3 (some .int), Cond.methodLink RX6 145 yX6_offers, Cond.instanceMethod yX6_offers, Cond.selects RX6 yX6_offers yX6_offers, Cond.code yX6_offers cX6_offers 8 none, Cond.methodLink RX6 129 yX6_priceOf, Cond.instanceMethod yX6_priceOf, Cond.selects RX6 yX6_priceOf yX6_priceOf, Cond.code yX6_priceOf cX6_priceOf 4 (some .int), Cond.methodLink RX6 110 yX6_costs, Cond.instanceMethod yX6_costs, Cond.selects RX6 yX6_costs yX6_costs, Cond.code yX6_costs cX6_costs 3 (some .int), Cond.methodLink RX6 139 yX6_sells, Cond.instanceMethod yX6_sells, Cond.selects RX6 yX6_sells yX6_sells, Cond.code yX6_sells cX6_sells 4 none, Cond.methodLink RX6 142 yX6_dearest, Cond.instanceMethod yX6_dearest, Cond.selects RX6 yX6_dearest yX6_dearest, Cond.code yX6_dearest cX6_dearest 5 (some .int), Cond.methodLink RX6 125 yX6_isNearly]
noncomputable def wsX6_whoseBehind_r3 : List Cond := [Cond.instanceMethod yX6_isNearly, Cond.selects RX6 yX6_isNearly yX6_isNearly, Cond.code yX6_isNearly cX6_isNearly 3 (some .boolean), Cond.methodLink RX6 151 yX6_lets, Cond.instanceMethod yX6_lets, Cond.selects RX6 yX6_lets yX6_lets, Cond.code yX6_lets cX6_lets 2 none, Cond.fieldLink RX6 35 "NearlyBoughtModel" "held" "[I"]
noncomputable def wsX6_whoseBehind : List Cond := .code yX6_whoseBehind cX6_whoseBehind 4 (some .int) :: ((wsX6_whoseBehind_r1 ++ (wsX6_whoseBehind_r2 ++ wsX6_whoseBehind_r3)) ++ wsX60)
noncomputable def wsX6_goesBehind_r1 : List Cond := [Cond.fieldLink RX6 19 "NearlyBoughtModel" "s" "[I", Cond.methodLink RX6 148 yX6_holds, Cond.instanceMethod yX6_holds, Cond.selects RX6 yX6_holds yX6_holds, Cond.initialized RX6, Cond.code yX6_holds cX6_holds 3 (some .int), Cond.fieldLink RX6 13 "NearlyBoughtModel" "told" "[I", Cond.methodLink RX6 122 yX6_claim, Cond.instanceMethod yX6_claim, Cond.selects RX6 yX6_claim yX6_claim, Cond.code yX6_claim cX6_claim 6 (some .int), Cond.methodLink RX6 107 yX6_countedNow, Cond.instanceMethod yX6_countedNow, Cond.selects RX6 yX6_countedNow yX6_countedNow, Cond.code yX6_countedNow cX6_countedNow 3 (some .int), Cond.methodLink RX6 101 yX6_pauseNow, Cond.instanceMethod yX6_pauseNow, Cond.selects RX6 yX6_pauseNow yX6_pauseNow, Cond.code yX6_pauseNow cX6_pauseNow 5 (some .int), Cond.fieldLink RX6 31 "NearlyBoughtModel" "feign" "I", Cond.methodLink RX6 97 yX6_better, Cond.static yX6_better, Cond.code yX6_better cX6_better 3 (some .int), Cond.methodLink RX6 104 yX6_countedOf]
noncomputable def wsX6_goesBehind_r2 : List Cond := [Cond.instanceMethod yX6_countedOf, Cond.selects RX6 yX6_countedOf yX6_countedOf, Cond.code yX6_countedOf cX6_countedOf 3 (some .int), Cond.methodLink RX6 145 yX6_offers, Cond.instanceMethod yX6_offers, Cond.selects RX6 yX6_offers yX6_offers, Cond.code yX6_offers cX6_offers 8 none, Cond.methodLink RX6 129 yX6_priceOf, Cond.instanceMethod yX6_priceOf, Cond.selects RX6 yX6_priceOf yX6_priceOf, Cond.code yX6_priceOf cX6_priceOf 4 (some .int), Cond.methodLink RX6 110 yX6_costs, Cond.instanceMethod yX6_costs, Cond.selects RX6 yX6_costs yX6_costs, Cond.code yX6_costs cX6_costs 3 (some .int), Cond.methodLink RX6 139 yX6_sells, Cond.instanceMethod yX6_sells, Cond.selects RX6 yX6_sells yX6_sells, Cond.code yX6_sells cX6_sells 4 none, Cond.methodLink RX6 142 yX6_dearest, Cond.instanceMethod yX6_dearest, Cond.selects RX6 yX6_dearest yX6_dearest, Cond.code yX6_dearest cX6_dearest 5 (some .int), Cond.methodLink RX6 125 yX6_isNearly]
noncomputable def wsX6_goesBehind_r3 : List Cond := [Cond.instanceMethod yX6_isNearly, Cond.selects RX6 yX6_isNearly yX6_isNearly, Cond.code yX6_isNearly cX6_isNearly 3 (some .boolean), Cond.methodLink RX6 151 yX6_lets, Cond.instanceMethod yX6_lets, Cond.selects RX6 yX6_lets yX6_lets, Cond.code yX6_lets cX6_lets 2 none, Cond.fieldLink RX6 35 "NearlyBoughtModel" "held" "[I"]
noncomputable def wsX6_goesBehind : List Cond := .code yX6_goesBehind cX6_goesBehind 4 (some .int) :: ((wsX6_goesBehind_r1 ++ (wsX6_goesBehind_r2 ++ wsX6_goesBehind_r3)) ++ wsX60)
noncomputable def wsX6_behind_r1 : List Cond := [Cond.methodLink RX6 119 yX6_isThing, Cond.instanceMethod yX6_isThing, Cond.selects RX6 yX6_isThing yX6_isThing, Cond.initialized RX6, Cond.code yX6_isThing cX6_isThing 2 (some .boolean), Cond.fieldLink RX6 13 "NearlyBoughtModel" "told" "[I", Cond.methodLink RX6 56 yX6_in, Cond.static yX6_in, Cond.code yX6_in cX6_in 3 (some .boolean), Cond.methodLink RX6 154 yX6_remembers, Cond.instanceMethod yX6_remembers, Cond.selects RX6 yX6_remembers yX6_remembers, Cond.code yX6_remembers cX6_remembers 2 none, Cond.fieldLink RX6 35 "NearlyBoughtModel" "held" "[I", Cond.fieldLink RX6 19 "NearlyBoughtModel" "s" "[I", Cond.methodLink RX6 157 yX6_whoseBehind, Cond.instanceMethod yX6_whoseBehind, Cond.selects RX6 yX6_whoseBehind yX6_whoseBehind, Cond.code yX6_whoseBehind cX6_whoseBehind 4 (some .int), Cond.methodLink RX6 148 yX6_holds, Cond.instanceMethod yX6_holds, Cond.selects RX6 yX6_holds yX6_holds, Cond.code yX6_holds cX6_holds 3 (some .int), Cond.methodLink RX6 122 yX6_claim]
noncomputable def wsX6_behind_r2 : List Cond := [Cond.instanceMethod yX6_claim, Cond.selects RX6 yX6_claim yX6_claim, Cond.code yX6_claim cX6_claim 6 (some .int), Cond.methodLink RX6 107 yX6_countedNow, Cond.instanceMethod yX6_countedNow, Cond.selects RX6 yX6_countedNow yX6_countedNow, Cond.code yX6_countedNow cX6_countedNow 3 (some .int), Cond.methodLink RX6 101 yX6_pauseNow, Cond.instanceMethod yX6_pauseNow, Cond.selects RX6 yX6_pauseNow yX6_pauseNow, Cond.code yX6_pauseNow cX6_pauseNow 5 (some .int), Cond.fieldLink RX6 31 "NearlyBoughtModel" "feign" "I", Cond.methodLink RX6 97 yX6_better, Cond.static yX6_better, Cond.code yX6_better cX6_better 3 (some .int), Cond.methodLink RX6 104 yX6_countedOf, Cond.instanceMethod yX6_countedOf, Cond.selects RX6 yX6_countedOf yX6_countedOf, Cond.code yX6_countedOf cX6_countedOf 3 (some .int), Cond.methodLink RX6 145 yX6_offers, Cond.instanceMethod yX6_offers, Cond.selects RX6 yX6_offers yX6_offers, Cond.code yX6_offers cX6_offers 8 none, Cond.methodLink RX6 129 yX6_priceOf]
noncomputable def wsX6_behind_r3 : List Cond := [Cond.instanceMethod yX6_priceOf, Cond.selects RX6 yX6_priceOf yX6_priceOf, Cond.code yX6_priceOf cX6_priceOf 4 (some .int), Cond.methodLink RX6 110 yX6_costs, Cond.instanceMethod yX6_costs, Cond.selects RX6 yX6_costs yX6_costs, Cond.code yX6_costs cX6_costs 3 (some .int), Cond.methodLink RX6 139 yX6_sells, Cond.instanceMethod yX6_sells, Cond.selects RX6 yX6_sells yX6_sells, Cond.code yX6_sells cX6_sells 4 none, Cond.methodLink RX6 142 yX6_dearest, Cond.instanceMethod yX6_dearest, Cond.selects RX6 yX6_dearest yX6_dearest, Cond.code yX6_dearest cX6_dearest 5 (some .int), Cond.methodLink RX6 125 yX6_isNearly, Cond.instanceMethod yX6_isNearly, Cond.selects RX6 yX6_isNearly yX6_isNearly, Cond.code yX6_isNearly cX6_isNearly 3 (some .boolean), Cond.methodLink RX6 151 yX6_lets, Cond.instanceMethod yX6_lets, Cond.selects RX6 yX6_lets yX6_lets, Cond.code yX6_lets cX6_lets 2 none]
noncomputable def wsX6_behind : List Cond := .code yX6_behind cX6_behind 3 (some .int) :: ((wsX6_behind_r1 ++ (wsX6_behind_r2 ++ wsX6_behind_r3)) ++ wsX60)
noncomputable def wsX6_goes_r1 : List Cond := [Cond.methodLink RX6 119 yX6_isThing, Cond.instanceMethod yX6_isThing, Cond.selects RX6 yX6_isThing yX6_isThing, Cond.initialized RX6, Cond.code yX6_isThing cX6_isThing 2 (some .boolean), Cond.fieldLink RX6 13 "NearlyBoughtModel" "told" "[I", Cond.methodLink RX6 56 yX6_in, Cond.static yX6_in, Cond.code yX6_in cX6_in 3 (some .boolean), Cond.methodLink RX6 154 yX6_remembers, Cond.instanceMethod yX6_remembers, Cond.selects RX6 yX6_remembers yX6_remembers, Cond.code yX6_remembers cX6_remembers 2 none, Cond.fieldLink RX6 35 "NearlyBoughtModel" "held" "[I", Cond.fieldLink RX6 19 "NearlyBoughtModel" "s" "[I", Cond.methodLink RX6 160 yX6_goesBehind, Cond.instanceMethod yX6_goesBehind, Cond.selects RX6 yX6_goesBehind yX6_goesBehind, Cond.code yX6_goesBehind cX6_goesBehind 4 (some .int), Cond.methodLink RX6 148 yX6_holds, Cond.instanceMethod yX6_holds, Cond.selects RX6 yX6_holds yX6_holds, Cond.code yX6_holds cX6_holds 3 (some .int), Cond.methodLink RX6 122 yX6_claim]
noncomputable def wsX6_goes_r2 : List Cond := [Cond.instanceMethod yX6_claim, Cond.selects RX6 yX6_claim yX6_claim, Cond.code yX6_claim cX6_claim 6 (some .int), Cond.methodLink RX6 107 yX6_countedNow, Cond.instanceMethod yX6_countedNow, Cond.selects RX6 yX6_countedNow yX6_countedNow, Cond.code yX6_countedNow cX6_countedNow 3 (some .int), Cond.methodLink RX6 101 yX6_pauseNow, Cond.instanceMethod yX6_pauseNow, Cond.selects RX6 yX6_pauseNow yX6_pauseNow, Cond.code yX6_pauseNow cX6_pauseNow 5 (some .int), Cond.fieldLink RX6 31 "NearlyBoughtModel" "feign" "I", Cond.methodLink RX6 97 yX6_better, Cond.static yX6_better, Cond.code yX6_better cX6_better 3 (some .int), Cond.methodLink RX6 104 yX6_countedOf, Cond.instanceMethod yX6_countedOf, Cond.selects RX6 yX6_countedOf yX6_countedOf, Cond.code yX6_countedOf cX6_countedOf 3 (some .int), Cond.methodLink RX6 145 yX6_offers, Cond.instanceMethod yX6_offers, Cond.selects RX6 yX6_offers yX6_offers, Cond.code yX6_offers cX6_offers 8 none, Cond.methodLink RX6 129 yX6_priceOf]
noncomputable def wsX6_goes_r3 : List Cond := [Cond.instanceMethod yX6_priceOf, Cond.selects RX6 yX6_priceOf yX6_priceOf, Cond.code yX6_priceOf cX6_priceOf 4 (some .int), Cond.methodLink RX6 110 yX6_costs, Cond.instanceMethod yX6_costs, Cond.selects RX6 yX6_costs yX6_costs, Cond.code yX6_costs cX6_costs 3 (some .int), Cond.methodLink RX6 139 yX6_sells, Cond.instanceMethod yX6_sells, Cond.selects RX6 yX6_sells yX6_sells, Cond.code yX6_sells cX6_sells 4 none, Cond.methodLink RX6 142 yX6_dearest, Cond.instanceMethod yX6_dearest, Cond.selects RX6 yX6_dearest yX6_dearest, Cond.code yX6_dearest cX6_dearest 5 (some .int), Cond.methodLink RX6 125 yX6_isNearly, Cond.instanceMethod yX6_isNearly, Cond.selects RX6 yX6_isNearly yX6_isNearly, Cond.code yX6_isNearly cX6_isNearly 3 (some .boolean), Cond.methodLink RX6 151 yX6_lets, Cond.instanceMethod yX6_lets, Cond.selects RX6 yX6_lets yX6_lets, Cond.code yX6_lets cX6_lets 2 none]
noncomputable def wsX6_goes : List Cond := .code yX6_goes cX6_goes 2 (some .int) :: ((wsX6_goes_r1 ++ (wsX6_goes_r2 ++ wsX6_goes_r3)) ++ wsX60)
noncomputable def wsX6_never_r1 : List Cond := [Cond.fieldLink RX6 13 "NearlyBoughtModel" "told" "[I", Cond.methodLink RX6 163 yX6_behind, Cond.instanceMethod yX6_behind, Cond.selects RX6 yX6_behind yX6_behind, Cond.initialized RX6, Cond.code yX6_behind cX6_behind 3 (some .int), Cond.methodLink RX6 119 yX6_isThing, Cond.instanceMethod yX6_isThing, Cond.selects RX6 yX6_isThing yX6_isThing, Cond.code yX6_isThing cX6_isThing 2 (some .boolean), Cond.methodLink RX6 56 yX6_in, Cond.static yX6_in, Cond.code yX6_in cX6_in 3 (some .boolean), Cond.methodLink RX6 154 yX6_remembers, Cond.instanceMethod yX6_remembers, Cond.selects RX6 yX6_remembers yX6_remembers, Cond.code yX6_remembers cX6_remembers 2 none, Cond.fieldLink RX6 35 "NearlyBoughtModel" "held" "[I", Cond.fieldLink RX6 19 "NearlyBoughtModel" "s" "[I", Cond.methodLink RX6 157 yX6_whoseBehind, Cond.instanceMethod yX6_whoseBehind, Cond.selects RX6 yX6_whoseBehind yX6_whoseBehind, Cond.code yX6_whoseBehind cX6_whoseBehind 4 (some .int), Cond.methodLink RX6 148 yX6_holds]
end
section
noncomputable def wsX6_never_r2 : List Cond := [Cond.instanceMethod yX6_holds, Cond.selects RX6 yX6_holds yX6_holds, Cond.code yX6_holds cX6_holds 3 (some .int), Cond.methodLink RX6 122 yX6_claim, Cond.instanceMethod yX6_claim, Cond.selects RX6 yX6_claim yX6_claim, Cond.code yX6_claim cX6_claim 6 (some .int), Cond.methodLink RX6 107 yX6_countedNow, Cond.instanceMethod yX6_countedNow, Cond.selects RX6 yX6_countedNow yX6_countedNow, Cond.code yX6_countedNow cX6_countedNow 3 (some .int), Cond.methodLink RX6 101 yX6_pauseNow, Cond.instanceMethod yX6_pauseNow, Cond.selects RX6 yX6_pauseNow yX6_pauseNow, Cond.code yX6_pauseNow cX6_pauseNow 5 (some .int), Cond.fieldLink RX6 31 "NearlyBoughtModel" "feign" "I", Cond.methodLink RX6 97 yX6_better, Cond.static yX6_better, Cond.code yX6_better cX6_better 3 (some .int), Cond.methodLink RX6 104 yX6_countedOf, Cond.instanceMethod yX6_countedOf, Cond.selects RX6 yX6_countedOf yX6_countedOf, Cond.code yX6_countedOf cX6_countedOf 3 (some .int), Cond.methodLink RX6 145 yX6_offers]
noncomputable def wsX6_never_r3 : List Cond := [Cond.instanceMethod yX6_offers, Cond.selects RX6 yX6_offers yX6_offers, Cond.code yX6_offers cX6_offers 8 none, Cond.methodLink RX6 129 yX6_priceOf, Cond.instanceMethod yX6_priceOf, Cond.selects RX6 yX6_priceOf yX6_priceOf, Cond.code yX6_priceOf cX6_priceOf 4 (some .int), Cond.methodLink RX6 110 yX6_costs, Cond.instanceMethod yX6_costs, Cond.selects RX6 yX6_costs yX6_costs, Cond.code yX6_costs cX6_costs 3 (some .int), Cond.methodLink RX6 139 yX6_sells, Cond.instanceMethod yX6_sells, Cond.selects RX6 yX6_sells yX6_sells, Cond.code yX6_sells cX6_sells 4 none, Cond.methodLink RX6 142 yX6_dearest, Cond.instanceMethod yX6_dearest, Cond.selects RX6 yX6_dearest yX6_dearest, Cond.code yX6_dearest cX6_dearest 5 (some .int), Cond.methodLink RX6 125 yX6_isNearly, Cond.instanceMethod yX6_isNearly, Cond.selects RX6 yX6_isNearly yX6_isNearly, Cond.code yX6_isNearly cX6_isNearly 3 (some .boolean), Cond.methodLink RX6 151 yX6_lets]
noncomputable def wsX6_never_r4 : List Cond := [Cond.instanceMethod yX6_lets, Cond.selects RX6 yX6_lets yX6_lets, Cond.code yX6_lets cX6_lets 2 none]
noncomputable def wsX6_never : List Cond := .code yX6_never cX6_never 3 (some .int) :: ((wsX6_never_r1 ++ (wsX6_never_r2 ++ (wsX6_never_r3 ++ wsX6_never_r4))) ++ wsX60)
noncomputable def wsX6_stop_r1 : List Cond := [Cond.methodLink RX6 113 yX6_isPerson, Cond.instanceMethod yX6_isPerson, Cond.selects RX6 yX6_isPerson yX6_isPerson, Cond.initialized RX6, Cond.code yX6_isPerson cX6_isPerson 2 (some .boolean), Cond.fieldLink RX6 13 "NearlyBoughtModel" "told" "[I", Cond.methodLink RX6 56 yX6_in, Cond.static yX6_in, Cond.code yX6_in cX6_in 3 (some .boolean), Cond.methodLink RX6 119 yX6_isThing, Cond.instanceMethod yX6_isThing, Cond.selects RX6 yX6_isThing yX6_isThing, Cond.code yX6_isThing cX6_isThing 2 (some .boolean), Cond.methodLink RX6 154 yX6_remembers, Cond.instanceMethod yX6_remembers, Cond.selects RX6 yX6_remembers yX6_remembers, Cond.code yX6_remembers cX6_remembers 2 none, Cond.fieldLink RX6 35 "NearlyBoughtModel" "held" "[I", Cond.fieldLink RX6 19 "NearlyBoughtModel" "s" "[I", Cond.methodLink RX6 157 yX6_whoseBehind, Cond.instanceMethod yX6_whoseBehind, Cond.selects RX6 yX6_whoseBehind yX6_whoseBehind, Cond.code yX6_whoseBehind cX6_whoseBehind 4 (some .int), Cond.methodLink RX6 148 yX6_holds]
noncomputable def wsX6_stop_r2 : List Cond := [Cond.instanceMethod yX6_holds, Cond.selects RX6 yX6_holds yX6_holds, Cond.code yX6_holds cX6_holds 3 (some .int), Cond.methodLink RX6 122 yX6_claim, Cond.instanceMethod yX6_claim, Cond.selects RX6 yX6_claim yX6_claim, Cond.code yX6_claim cX6_claim 6 (some .int), Cond.methodLink RX6 107 yX6_countedNow, Cond.instanceMethod yX6_countedNow, Cond.selects RX6 yX6_countedNow yX6_countedNow, Cond.code yX6_countedNow cX6_countedNow 3 (some .int), Cond.methodLink RX6 101 yX6_pauseNow, Cond.instanceMethod yX6_pauseNow, Cond.selects RX6 yX6_pauseNow yX6_pauseNow, Cond.code yX6_pauseNow cX6_pauseNow 5 (some .int), Cond.fieldLink RX6 31 "NearlyBoughtModel" "feign" "I", Cond.methodLink RX6 97 yX6_better, Cond.static yX6_better, Cond.code yX6_better cX6_better 3 (some .int), Cond.methodLink RX6 104 yX6_countedOf, Cond.instanceMethod yX6_countedOf, Cond.selects RX6 yX6_countedOf yX6_countedOf, Cond.code yX6_countedOf cX6_countedOf 3 (some .int), Cond.methodLink RX6 145 yX6_offers]
noncomputable def wsX6_stop_r3 : List Cond := [Cond.instanceMethod yX6_offers, Cond.selects RX6 yX6_offers yX6_offers, Cond.code yX6_offers cX6_offers 8 none, Cond.methodLink RX6 129 yX6_priceOf, Cond.instanceMethod yX6_priceOf, Cond.selects RX6 yX6_priceOf yX6_priceOf, Cond.code yX6_priceOf cX6_priceOf 4 (some .int), Cond.methodLink RX6 110 yX6_costs, Cond.instanceMethod yX6_costs, Cond.selects RX6 yX6_costs yX6_costs, Cond.code yX6_costs cX6_costs 3 (some .int), Cond.methodLink RX6 139 yX6_sells, Cond.instanceMethod yX6_sells, Cond.selects RX6 yX6_sells yX6_sells, Cond.code yX6_sells cX6_sells 4 none, Cond.methodLink RX6 142 yX6_dearest, Cond.instanceMethod yX6_dearest, Cond.selects RX6 yX6_dearest yX6_dearest, Cond.code yX6_dearest cX6_dearest 5 (some .int), Cond.methodLink RX6 125 yX6_isNearly, Cond.instanceMethod yX6_isNearly, Cond.selects RX6 yX6_isNearly yX6_isNearly, Cond.code yX6_isNearly cX6_isNearly 3 (some .boolean), Cond.methodLink RX6 151 yX6_lets]
noncomputable def wsX6_stop_r4 : List Cond := [Cond.instanceMethod yX6_lets, Cond.selects RX6 yX6_lets yX6_lets, Cond.code yX6_lets cX6_lets 2 none, Cond.methodLink RX6 160 yX6_goesBehind, Cond.instanceMethod yX6_goesBehind, Cond.selects RX6 yX6_goesBehind yX6_goesBehind, Cond.code yX6_goesBehind cX6_goesBehind 4 (some .int), Cond.methodLink RX6 135 yX6_pauses, Cond.instanceMethod yX6_pauses, Cond.selects RX6 yX6_pauses yX6_pauses, Cond.code yX6_pauses cX6_pauses 6 none]
noncomputable def wsX6_stop : List Cond := .code yX6_stop cX6_stop 7 (some .int) :: ((wsX6_stop_r1 ++ (wsX6_stop_r2 ++ (wsX6_stop_r3 ++ wsX6_stop_r4))) ++ wsX60)
noncomputable def wsX6_rank_r1 : List Cond := [Cond.fieldLink RX6 13 "NearlyBoughtModel" "told" "[I", Cond.methodLink RX6 113 yX6_isPerson, Cond.instanceMethod yX6_isPerson, Cond.selects RX6 yX6_isPerson yX6_isPerson, Cond.initialized RX6, Cond.code yX6_isPerson cX6_isPerson 2 (some .boolean), Cond.methodLink RX6 56 yX6_in, Cond.static yX6_in, Cond.code yX6_in cX6_in 3 (some .boolean), Cond.methodLink RX6 125 yX6_isNearly, Cond.instanceMethod yX6_isNearly, Cond.selects RX6 yX6_isNearly yX6_isNearly, Cond.code yX6_isNearly cX6_isNearly 3 (some .boolean), Cond.methodLink RX6 107 yX6_countedNow, Cond.instanceMethod yX6_countedNow, Cond.selects RX6 yX6_countedNow yX6_countedNow, Cond.code yX6_countedNow cX6_countedNow 3 (some .int), Cond.methodLink RX6 101 yX6_pauseNow, Cond.instanceMethod yX6_pauseNow, Cond.selects RX6 yX6_pauseNow yX6_pauseNow, Cond.code yX6_pauseNow cX6_pauseNow 5 (some .int), Cond.fieldLink RX6 19 "NearlyBoughtModel" "s" "[I", Cond.fieldLink RX6 31 "NearlyBoughtModel" "feign" "I", Cond.methodLink RX6 97 yX6_better]
noncomputable def wsX6_rank_r2 : List Cond := [Cond.static yX6_better, Cond.code yX6_better cX6_better 3 (some .int), Cond.methodLink RX6 104 yX6_countedOf, Cond.instanceMethod yX6_countedOf, Cond.selects RX6 yX6_countedOf yX6_countedOf, Cond.code yX6_countedOf cX6_countedOf 3 (some .int), Cond.methodLink RX6 129 yX6_priceOf, Cond.instanceMethod yX6_priceOf, Cond.selects RX6 yX6_priceOf yX6_priceOf, Cond.code yX6_priceOf cX6_priceOf 4 (some .int), Cond.methodLink RX6 110 yX6_costs, Cond.instanceMethod yX6_costs, Cond.selects RX6 yX6_costs yX6_costs, Cond.code yX6_costs cX6_costs 3 (some .int)]
noncomputable def wsX6_rank : List Cond := .code yX6_rank cX6_rank 8 (some .int) :: ((wsX6_rank_r1 ++ wsX6_rank_r2) ++ wsX60)
noncomputable def wsX6_wants : List Cond := .code yX6_wants cX6_wants 4 (some .int) :: ([.fieldLink RX6 13 "NearlyBoughtModel" "told" "[I", .methodLink RX6 125 yX6_isNearly, .instanceMethod yX6_isNearly, .selects RX6 yX6_isNearly yX6_isNearly, .initialized RX6, .code yX6_isNearly cX6_isNearly 3 (some .boolean), .methodLink RX6 107 yX6_countedNow, .instanceMethod yX6_countedNow, .selects RX6 yX6_countedNow yX6_countedNow, .code yX6_countedNow cX6_countedNow 3 (some .int), .methodLink RX6 101 yX6_pauseNow, .instanceMethod yX6_pauseNow, .selects RX6 yX6_pauseNow yX6_pauseNow, .code yX6_pauseNow cX6_pauseNow 5 (some .int), .fieldLink RX6 19 "NearlyBoughtModel" "s" "[I", .fieldLink RX6 31 "NearlyBoughtModel" "feign" "I", .methodLink RX6 97 yX6_better, .static yX6_better, .code yX6_better cX6_better 3 (some .int), .methodLink RX6 104 yX6_countedOf, .instanceMethod yX6_countedOf, .selects RX6 yX6_countedOf yX6_countedOf, .code yX6_countedOf cX6_countedOf 3 (some .int)] ++ wsX60)
noncomputable def wsX6_wanted_r1 : List Cond := [Cond.fieldLink RX6 13 "NearlyBoughtModel" "told" "[I", Cond.methodLink RX6 56 yX6_in, Cond.static yX6_in, Cond.initialized RX6, Cond.code yX6_in cX6_in 3 (some .boolean), Cond.methodLink RX6 166 yX6_wants, Cond.instanceMethod yX6_wants, Cond.selects RX6 yX6_wants yX6_wants, Cond.code yX6_wants cX6_wants 4 (some .int), Cond.methodLink RX6 125 yX6_isNearly, Cond.instanceMethod yX6_isNearly, Cond.selects RX6 yX6_isNearly yX6_isNearly, Cond.code yX6_isNearly cX6_isNearly 3 (some .boolean), Cond.methodLink RX6 107 yX6_countedNow, Cond.instanceMethod yX6_countedNow, Cond.selects RX6 yX6_countedNow yX6_countedNow, Cond.code yX6_countedNow cX6_countedNow 3 (some .int), Cond.methodLink RX6 101 yX6_pauseNow, Cond.instanceMethod yX6_pauseNow, Cond.selects RX6 yX6_pauseNow yX6_pauseNow, Cond.code yX6_pauseNow cX6_pauseNow 5 (some .int), Cond.fieldLink RX6 19 "NearlyBoughtModel" "s" "[I", Cond.fieldLink RX6 31 "NearlyBoughtModel" "feign" "I", Cond.methodLink RX6 97 yX6_better]
noncomputable def wsX6_wanted_r2 : List Cond := [Cond.static yX6_better, Cond.code yX6_better cX6_better 3 (some .int), Cond.methodLink RX6 104 yX6_countedOf, Cond.instanceMethod yX6_countedOf, Cond.selects RX6 yX6_countedOf yX6_countedOf, Cond.code yX6_countedOf cX6_countedOf 3 (some .int)]
noncomputable def wsX6_wanted : List Cond := .code yX6_wanted cX6_wanted 4 (some .int) :: ((wsX6_wanted_r1 ++ wsX6_wanted_r2) ++ wsX60)
noncomputable def wsX6_seen : List Cond := .code yX6_seen cX6_seen 4 (some .int) :: ([.fieldLink RX6 94 "NearlyBoughtModel" "noted" "I", .fieldLink RX6 28 "NearlyBoughtModel" "notes" "[I", .methodLink RX6 119 yX6_isThing, .instanceMethod yX6_isThing, .selects RX6 yX6_isThing yX6_isThing, .initialized RX6, .code yX6_isThing cX6_isThing 2 (some .boolean), .fieldLink RX6 13 "NearlyBoughtModel" "told" "[I", .methodLink RX6 56 yX6_in, .static yX6_in, .code yX6_in cX6_in 3 (some .boolean), .methodLink RX6 113 yX6_isPerson, .instanceMethod yX6_isPerson, .selects RX6 yX6_isPerson yX6_isPerson, .code yX6_isPerson cX6_isPerson 2 (some .boolean)] ++ wsX60)
noncomputable def wsX6_forget : List Cond := .code yX6_forget cX6_forget 2 (some .int) :: ([.fieldLink RX6 94 "NearlyBoughtModel" "noted" "I"] ++ wsX60)
noncomputable def wsX6_isSo_r1 : List Cond := [Cond.fieldLink RX6 31 "NearlyBoughtModel" "feign" "I", Cond.fieldLink RX6 94 "NearlyBoughtModel" "noted" "I", Cond.fieldLink RX6 28 "NearlyBoughtModel" "notes" "[I", Cond.fieldLink RX6 19 "NearlyBoughtModel" "s" "[I", Cond.methodLink RX6 154 yX6_remembers, Cond.instanceMethod yX6_remembers, Cond.selects RX6 yX6_remembers yX6_remembers, Cond.initialized RX6, Cond.code yX6_remembers cX6_remembers 2 none, Cond.fieldLink RX6 35 "NearlyBoughtModel" "held" "[I", Cond.methodLink RX6 85 yX6_starts, Cond.instanceMethod yX6_starts, Cond.selects RX6 yX6_starts yX6_starts, Cond.code yX6_starts cX6_starts 2 none, Cond.fieldLink RX6 13 "NearlyBoughtModel" "told" "[I", Cond.methodLink RX6 148 yX6_holds, Cond.instanceMethod yX6_holds, Cond.selects RX6 yX6_holds yX6_holds, Cond.code yX6_holds cX6_holds 3 (some .int), Cond.methodLink RX6 122 yX6_claim, Cond.instanceMethod yX6_claim, Cond.selects RX6 yX6_claim yX6_claim, Cond.code yX6_claim cX6_claim 6 (some .int), Cond.methodLink RX6 107 yX6_countedNow]
noncomputable def wsX6_isSo_r2 : List Cond := [Cond.instanceMethod yX6_countedNow, Cond.selects RX6 yX6_countedNow yX6_countedNow, Cond.code yX6_countedNow cX6_countedNow 3 (some .int), Cond.methodLink RX6 101 yX6_pauseNow, Cond.instanceMethod yX6_pauseNow, Cond.selects RX6 yX6_pauseNow yX6_pauseNow, Cond.code yX6_pauseNow cX6_pauseNow 5 (some .int), Cond.methodLink RX6 97 yX6_better, Cond.static yX6_better, Cond.code yX6_better cX6_better 3 (some .int), Cond.methodLink RX6 104 yX6_countedOf, Cond.instanceMethod yX6_countedOf, Cond.selects RX6 yX6_countedOf yX6_countedOf, Cond.code yX6_countedOf cX6_countedOf 3 (some .int), Cond.methodLink RX6 145 yX6_offers, Cond.instanceMethod yX6_offers, Cond.selects RX6 yX6_offers yX6_offers, Cond.code yX6_offers cX6_offers 8 none, Cond.methodLink RX6 129 yX6_priceOf, Cond.instanceMethod yX6_priceOf, Cond.selects RX6 yX6_priceOf yX6_priceOf, Cond.code yX6_priceOf cX6_priceOf 4 (some .int), Cond.methodLink RX6 110 yX6_costs, Cond.instanceMethod yX6_costs]
noncomputable def wsX6_isSo_r3 : List Cond := [Cond.selects RX6 yX6_costs yX6_costs, Cond.code yX6_costs cX6_costs 3 (some .int), Cond.methodLink RX6 139 yX6_sells, Cond.instanceMethod yX6_sells, Cond.selects RX6 yX6_sells yX6_sells, Cond.code yX6_sells cX6_sells 4 none, Cond.methodLink RX6 142 yX6_dearest, Cond.instanceMethod yX6_dearest, Cond.selects RX6 yX6_dearest yX6_dearest, Cond.code yX6_dearest cX6_dearest 5 (some .int), Cond.methodLink RX6 125 yX6_isNearly, Cond.instanceMethod yX6_isNearly, Cond.selects RX6 yX6_isNearly yX6_isNearly, Cond.code yX6_isNearly cX6_isNearly 3 (some .boolean), Cond.methodLink RX6 151 yX6_lets, Cond.instanceMethod yX6_lets, Cond.selects RX6 yX6_lets yX6_lets, Cond.code yX6_lets cX6_lets 2 none]
noncomputable def wsX6_isSo : List Cond := .code yX6_isSo cX6_isSo 5 (some .boolean) :: ((wsX6_isSo_r1 ++ (wsX6_isSo_r2 ++ wsX6_isSo_r3)) ++ wsX60)
noncomputable def wsX6_feigned_r1 : List Cond := [Cond.fieldLink RX6 13 "NearlyBoughtModel" "told" "[I", Cond.methodLink RX6 56 yX6_in, Cond.static yX6_in, Cond.initialized RX6, Cond.code yX6_in cX6_in 3 (some .boolean), Cond.methodLink RX6 169 yX6_isSo, Cond.instanceMethod yX6_isSo, Cond.selects RX6 yX6_isSo yX6_isSo, Cond.code yX6_isSo cX6_isSo 5 (some .boolean), Cond.fieldLink RX6 31 "NearlyBoughtModel" "feign" "I", Cond.fieldLink RX6 94 "NearlyBoughtModel" "noted" "I", Cond.fieldLink RX6 28 "NearlyBoughtModel" "notes" "[I", Cond.fieldLink RX6 19 "NearlyBoughtModel" "s" "[I", Cond.methodLink RX6 154 yX6_remembers, Cond.instanceMethod yX6_remembers, Cond.selects RX6 yX6_remembers yX6_remembers, Cond.code yX6_remembers cX6_remembers 2 none, Cond.fieldLink RX6 35 "NearlyBoughtModel" "held" "[I", Cond.methodLink RX6 85 yX6_starts, Cond.instanceMethod yX6_starts, Cond.selects RX6 yX6_starts yX6_starts, Cond.code yX6_starts cX6_starts 2 none, Cond.methodLink RX6 148 yX6_holds, Cond.instanceMethod yX6_holds]
noncomputable def wsX6_feigned_r2 : List Cond := [Cond.selects RX6 yX6_holds yX6_holds, Cond.code yX6_holds cX6_holds 3 (some .int), Cond.methodLink RX6 122 yX6_claim, Cond.instanceMethod yX6_claim, Cond.selects RX6 yX6_claim yX6_claim, Cond.code yX6_claim cX6_claim 6 (some .int), Cond.methodLink RX6 107 yX6_countedNow, Cond.instanceMethod yX6_countedNow, Cond.selects RX6 yX6_countedNow yX6_countedNow, Cond.code yX6_countedNow cX6_countedNow 3 (some .int), Cond.methodLink RX6 101 yX6_pauseNow, Cond.instanceMethod yX6_pauseNow, Cond.selects RX6 yX6_pauseNow yX6_pauseNow, Cond.code yX6_pauseNow cX6_pauseNow 5 (some .int), Cond.methodLink RX6 97 yX6_better, Cond.static yX6_better, Cond.code yX6_better cX6_better 3 (some .int), Cond.methodLink RX6 104 yX6_countedOf, Cond.instanceMethod yX6_countedOf, Cond.selects RX6 yX6_countedOf yX6_countedOf, Cond.code yX6_countedOf cX6_countedOf 3 (some .int), Cond.methodLink RX6 145 yX6_offers, Cond.instanceMethod yX6_offers, Cond.selects RX6 yX6_offers yX6_offers]
noncomputable def wsX6_feigned_r3 : List Cond := [Cond.code yX6_offers cX6_offers 8 none, Cond.methodLink RX6 129 yX6_priceOf, Cond.instanceMethod yX6_priceOf, Cond.selects RX6 yX6_priceOf yX6_priceOf, Cond.code yX6_priceOf cX6_priceOf 4 (some .int), Cond.methodLink RX6 110 yX6_costs, Cond.instanceMethod yX6_costs, Cond.selects RX6 yX6_costs yX6_costs, Cond.code yX6_costs cX6_costs 3 (some .int), Cond.methodLink RX6 139 yX6_sells, Cond.instanceMethod yX6_sells, Cond.selects RX6 yX6_sells yX6_sells, Cond.code yX6_sells cX6_sells 4 none, Cond.methodLink RX6 142 yX6_dearest, Cond.instanceMethod yX6_dearest, Cond.selects RX6 yX6_dearest yX6_dearest, Cond.code yX6_dearest cX6_dearest 5 (some .int), Cond.methodLink RX6 125 yX6_isNearly, Cond.instanceMethod yX6_isNearly, Cond.selects RX6 yX6_isNearly yX6_isNearly, Cond.code yX6_isNearly cX6_isNearly 3 (some .boolean), Cond.methodLink RX6 151 yX6_lets, Cond.instanceMethod yX6_lets, Cond.selects RX6 yX6_lets yX6_lets]
noncomputable def wsX6_feigned_r4 : List Cond := [Cond.code yX6_lets cX6_lets 2 none]
noncomputable def wsX6_feigned : List Cond := .code yX6_feigned cX6_feigned 4 (some .int) :: ((wsX6_feigned_r1 ++ (wsX6_feigned_r2 ++ (wsX6_feigned_r3 ++ wsX6_feigned_r4))) ++ wsX60)
noncomputable def wsX6_counts : List Cond := .code yX6_counts cX6_counts 11 (some .int) :: ([.fieldLink RX6 13 "NearlyBoughtModel" "told" "[I", .methodLink RX6 113 yX6_isPerson, .instanceMethod yX6_isPerson, .selects RX6 yX6_isPerson yX6_isPerson, .initialized RX6, .code yX6_isPerson cX6_isPerson 2 (some .boolean), .methodLink RX6 56 yX6_in, .static yX6_in, .code yX6_in cX6_in 3 (some .boolean), .methodLink RX6 104 yX6_countedOf, .instanceMethod yX6_countedOf, .selects RX6 yX6_countedOf yX6_countedOf, .code yX6_countedOf cX6_countedOf 3 (some .int)] ++ wsX60)
noncomputable def wsX6_cheapest_r1 : List Cond := [Cond.fieldLink RX6 13 "NearlyBoughtModel" "told" "[I", Cond.methodLink RX6 119 yX6_isThing, Cond.instanceMethod yX6_isThing, Cond.selects RX6 yX6_isThing yX6_isThing, Cond.initialized RX6, Cond.code yX6_isThing cX6_isThing 2 (some .boolean), Cond.methodLink RX6 56 yX6_in, Cond.static yX6_in, Cond.code yX6_in cX6_in 3 (some .boolean), Cond.methodLink RX6 125 yX6_isNearly, Cond.instanceMethod yX6_isNearly, Cond.selects RX6 yX6_isNearly yX6_isNearly, Cond.code yX6_isNearly cX6_isNearly 3 (some .boolean), Cond.methodLink RX6 107 yX6_countedNow, Cond.instanceMethod yX6_countedNow, Cond.selects RX6 yX6_countedNow yX6_countedNow, Cond.code yX6_countedNow cX6_countedNow 3 (some .int), Cond.methodLink RX6 101 yX6_pauseNow, Cond.instanceMethod yX6_pauseNow, Cond.selects RX6 yX6_pauseNow yX6_pauseNow, Cond.code yX6_pauseNow cX6_pauseNow 5 (some .int), Cond.fieldLink RX6 19 "NearlyBoughtModel" "s" "[I", Cond.fieldLink RX6 31 "NearlyBoughtModel" "feign" "I", Cond.methodLink RX6 97 yX6_better]
noncomputable def wsX6_cheapest_r2 : List Cond := [Cond.static yX6_better, Cond.code yX6_better cX6_better 3 (some .int), Cond.methodLink RX6 104 yX6_countedOf, Cond.instanceMethod yX6_countedOf, Cond.selects RX6 yX6_countedOf yX6_countedOf, Cond.code yX6_countedOf cX6_countedOf 3 (some .int), Cond.methodLink RX6 129 yX6_priceOf, Cond.instanceMethod yX6_priceOf, Cond.selects RX6 yX6_priceOf yX6_priceOf, Cond.code yX6_priceOf cX6_priceOf 4 (some .int), Cond.methodLink RX6 110 yX6_costs, Cond.instanceMethod yX6_costs, Cond.selects RX6 yX6_costs yX6_costs, Cond.code yX6_costs cX6_costs 3 (some .int)]
noncomputable def wsX6_cheapest : List Cond := .code yX6_cheapest cX6_cheapest 5 (some .int) :: ((wsX6_cheapest_r1 ++ wsX6_cheapest_r2) ++ wsX60)
noncomputable def wsX6_allCoins : List Cond := .code yX6_allCoins cX6_allCoins 3 (some .int) :: ([.fieldLink RX6 13 "NearlyBoughtModel" "told" "[I", .fieldLink RX6 19 "NearlyBoughtModel" "s" "[I"] ++ wsX60)
noncomputable def wsX6_taken : List Cond := .code yX6_taken cX6_taken 3 (some .int) :: ([.fieldLink RX6 13 "NearlyBoughtModel" "told" "[I", .fieldLink RX6 19 "NearlyBoughtModel" "s" "[I"] ++ wsX60)
noncomputable def wsX6_greens_r1 : List Cond := [Cond.constantLong RX6 172 (7919), Cond.constantLong RX6 174 (6151), Cond.constantLong RX6 176 (65521), Cond.fieldLink RX6 13 "NearlyBoughtModel" "told" "[I", Cond.methodLink RX6 56 yX6_in, Cond.static yX6_in, Cond.initialized RX6, Cond.code yX6_in cX6_in 3 (some .boolean), Cond.methodLink RX6 154 yX6_remembers, Cond.instanceMethod yX6_remembers, Cond.selects RX6 yX6_remembers yX6_remembers, Cond.code yX6_remembers cX6_remembers 2 none, Cond.fieldLink RX6 35 "NearlyBoughtModel" "held" "[I", Cond.fieldLink RX6 19 "NearlyBoughtModel" "s" "[I", Cond.methodLink RX6 135 yX6_pauses, Cond.instanceMethod yX6_pauses, Cond.selects RX6 yX6_pauses yX6_pauses, Cond.code yX6_pauses cX6_pauses 6 none, Cond.methodLink RX6 97 yX6_better, Cond.static yX6_better, Cond.code yX6_better cX6_better 3 (some .int), Cond.methodLink RX6 148 yX6_holds, Cond.instanceMethod yX6_holds, Cond.selects RX6 yX6_holds yX6_holds]
noncomputable def wsX6_greens_r2 : List Cond := [Cond.code yX6_holds cX6_holds 3 (some .int), Cond.methodLink RX6 122 yX6_claim, Cond.instanceMethod yX6_claim, Cond.selects RX6 yX6_claim yX6_claim, Cond.code yX6_claim cX6_claim 6 (some .int), Cond.methodLink RX6 107 yX6_countedNow, Cond.instanceMethod yX6_countedNow, Cond.selects RX6 yX6_countedNow yX6_countedNow, Cond.code yX6_countedNow cX6_countedNow 3 (some .int), Cond.methodLink RX6 101 yX6_pauseNow, Cond.instanceMethod yX6_pauseNow, Cond.selects RX6 yX6_pauseNow yX6_pauseNow, Cond.code yX6_pauseNow cX6_pauseNow 5 (some .int), Cond.fieldLink RX6 31 "NearlyBoughtModel" "feign" "I", Cond.methodLink RX6 104 yX6_countedOf, Cond.instanceMethod yX6_countedOf, Cond.selects RX6 yX6_countedOf yX6_countedOf, Cond.code yX6_countedOf cX6_countedOf 3 (some .int), Cond.methodLink RX6 145 yX6_offers, Cond.instanceMethod yX6_offers, Cond.selects RX6 yX6_offers yX6_offers, Cond.code yX6_offers cX6_offers 8 none, Cond.methodLink RX6 129 yX6_priceOf, Cond.instanceMethod yX6_priceOf]
noncomputable def wsX6_greens_r3 : List Cond := [Cond.selects RX6 yX6_priceOf yX6_priceOf, Cond.code yX6_priceOf cX6_priceOf 4 (some .int), Cond.methodLink RX6 110 yX6_costs, Cond.instanceMethod yX6_costs, Cond.selects RX6 yX6_costs yX6_costs, Cond.code yX6_costs cX6_costs 3 (some .int), Cond.methodLink RX6 139 yX6_sells, Cond.instanceMethod yX6_sells, Cond.selects RX6 yX6_sells yX6_sells, Cond.code yX6_sells cX6_sells 4 none, Cond.methodLink RX6 142 yX6_dearest, Cond.instanceMethod yX6_dearest, Cond.selects RX6 yX6_dearest yX6_dearest, Cond.code yX6_dearest cX6_dearest 5 (some .int), Cond.methodLink RX6 125 yX6_isNearly, Cond.instanceMethod yX6_isNearly, Cond.selects RX6 yX6_isNearly yX6_isNearly, Cond.code yX6_isNearly cX6_isNearly 3 (some .boolean), Cond.methodLink RX6 178 yX6_taken, Cond.instanceMethod yX6_taken, Cond.selects RX6 yX6_taken yX6_taken, Cond.code yX6_taken cX6_taken 3 (some .int), Cond.methodLink RX6 181 yX6_allCoins, Cond.instanceMethod yX6_allCoins]
noncomputable def wsX6_greens_r4 : List Cond := [Cond.selects RX6 yX6_allCoins yX6_allCoins, Cond.code yX6_allCoins cX6_allCoins 3 (some .int), Cond.methodLink RX6 151 yX6_lets, Cond.instanceMethod yX6_lets, Cond.selects RX6 yX6_lets yX6_lets, Cond.code yX6_lets cX6_lets 2 none]
noncomputable def wsX6_greens : List Cond := .code yX6_greens cX6_greens 8 (some .int) :: ((wsX6_greens_r1 ++ (wsX6_greens_r2 ++ (wsX6_greens_r3 ++ wsX6_greens_r4))) ++ wsX60)
noncomputable def wsX6_keep : List Cond := .code yX6_keep cX6_keep 2 (some .int) :: ([.fieldLink RX6 91 "NearlyBoughtModel" "kept" "I", .fieldLink RX6 25 "NearlyBoughtModel" "images" "[I", .fieldLink RX6 19 "NearlyBoughtModel" "s" "[I"] ++ wsX60)
noncomputable def wsX6_back : List Cond := .code yX6_back cX6_back 2 (some .int) :: ([.fieldLink RX6 91 "NearlyBoughtModel" "kept" "I", .fieldLink RX6 19 "NearlyBoughtModel" "s" "[I", .fieldLink RX6 25 "NearlyBoughtModel" "images" "[I", .fieldLink RX6 88 "NearlyBoughtModel" "known" "I"] ++ wsX60)
noncomputable def wsX6_count : List Cond := .code yX6_count cX6_count 2 (some .int) :: ([.fieldLink RX6 13 "NearlyBoughtModel" "told" "[I", .fieldLink RX6 19 "NearlyBoughtModel" "s" "[I", .fieldLink RX6 94 "NearlyBoughtModel" "noted" "I", .fieldLink RX6 88 "NearlyBoughtModel" "known" "I", .fieldLink RX6 91 "NearlyBoughtModel" "kept" "I", .fieldLink RX6 60 "NearlyBoughtModel" "typed" "I", .methodLink RX6 178 yX6_taken, .instanceMethod yX6_taken, .selects RX6 yX6_taken yX6_taken, .initialized RX6, .code yX6_taken cX6_taken 3 (some .int), .methodLink RX6 181 yX6_allCoins, .instanceMethod yX6_allCoins, .selects RX6 yX6_allCoins yX6_allCoins, .code yX6_allCoins cX6_allCoins 3 (some .int)] ++ wsX60)
noncomputable def wsJ9_max_7cf53 : List Cond := .code yJ9_max_7cf53 cJ9_max_7cf53 2 (some .int) :: ([])
noncomputable def wsJ9_min_7cf53 : List Cond := .code yJ9_min_7cf53 cJ9_min_7cf53 2 (some .int) :: ([])
noncomputable def wsL_law_r1 : List Cond := [Cond.classLink RL 7 RX5, Cond.instantiable RX5 11, Cond.initialized RX5, Cond.classLink RL 10 RX6, Cond.instantiable RX6 14, Cond.initialized RX6, Cond.methodLink RL 9 yX5_init, Cond.instanceMethod yX5_init, Cond.code yX5_init cX5_init 2 none, Cond.methodLink RX5 3 objectInit, Cond.instanceMethod objectInit, Cond.code objectInit ⟨#[0xb1]⟩ 1 none, Cond.arrayClass .int, Cond.fieldLink RX5 9 "NearlyBought" "text" "[I", Cond.classLink RX5 13 RX2, Cond.instantiable RX2 2, Cond.initialized RX2, Cond.fieldLink RX5 16 "NearlyBought" "reader" "LNearlyBought$Reader;", Cond.classLink RX5 20 RX4, Cond.instantiable RX4 12, Cond.initialized RX4, Cond.fieldLink RX5 23 "NearlyBought" "draft" "LNearlyBought$Tale;", Cond.fieldLink RX5 27 "NearlyBought" "laid" "LNearlyBought$Tale;", Cond.classLink RX5 30 RX1]
noncomputable def wsL_law_r2 : List Cond := [Cond.instantiable RX1 10, Cond.initialized RX1, Cond.fieldLink RX5 35 "NearlyBought" "now" "LNearlyBought$Market;", Cond.fieldLink RX5 39 "NearlyBought" "trial" "LNearlyBought$Market;", Cond.classLink RX5 42 RX0, Cond.instantiable RX0 3, Cond.initialized RX0, Cond.fieldLink RX5 45 "NearlyBought" "history" "LNearlyBought$History;", Cond.fieldLink RX5 49 "NearlyBought" "kept" "[LNearlyBought$Market;", Cond.classLink RX5 53 RX3, Cond.instantiable RX3 4, Cond.initialized RX3, Cond.fieldLink RX5 56 "NearlyBought" "sights" "LNearlyBought$Sights;", Cond.fieldLink RX5 66 "NearlyBought" "textLength" "I", Cond.instanceMethod yX2_init, Cond.code yX2_init cX2_init 1 none, Cond.methodLink RX2 3 objectInit, Cond.fieldLink RX2 11 "NearlyBought$Reader" "numbers" "[I", Cond.instanceMethod yX4_init, Cond.code yX4_init cX4_init 1 none, Cond.methodLink RX4 3 objectInit, Cond.fieldLink RX4 9 "NearlyBought$Tale" "kind" "[I", Cond.fieldLink RX4 15 "NearlyBought$Tale" "firstCoins" "[I", Cond.fieldLink RX4 18 "NearlyBought$Tale" "firstCost" "[I"]
noncomputable def wsL_law_r3 : List Cond := [Cond.fieldLink RX4 21 "NearlyBought$Tale" "pauser" "[I", Cond.fieldLink RX4 24 "NearlyBought$Tale" "pausedAt" "[I", Cond.fieldLink RX4 27 "NearlyBought$Tale" "pauseBreaths" "[I", Cond.fieldLink RX4 30 "NearlyBought$Tale" "pauseYear" "[I", Cond.methodLink RX5 32 yX1_init, Cond.instanceMethod yX1_init, Cond.code yX1_init cX1_init 2 none, Cond.methodLink RX1 3 objectInit, Cond.fieldLink RX1 9 "NearlyBought$Market" "silent" "I", Cond.fieldLink RX1 15 "NearlyBought$Market" "coins" "[I", Cond.fieldLink RX1 19 "NearlyBought$Market" "owner" "[I", Cond.fieldLink RX1 22 "NearlyBought$Market" "missed" "[I", Cond.classLink RX1 25 "[[I", Cond.fieldLink RX1 27 "NearlyBought$Market" "breaths" "[[I", Cond.fieldLink RX1 30 "NearlyBought$Market" "since" "[[I", Cond.fieldLink RX1 33 "NearlyBought$Market" "counted" "[[I", Cond.fieldLink RX1 36 "NearlyBought$Market" "price" "[[I", Cond.fieldLink RX1 39 "NearlyBought$Market" "tale" "LNearlyBought$Tale;", Cond.methodLink RX5 44 yX0_init, Cond.instanceMethod yX0_init, Cond.code yX0_init cX0_init 3 none, Cond.methodLink RX0 3 objectInit, Cond.classLink RX0 9 RX1, Cond.fieldLink RX0 11 "NearlyBought$History" "before" "[LNearlyBought$Market;"]
noncomputable def wsL_law_r4 : List Cond := [Cond.methodLink RX0 17 yX1_init, Cond.instanceMethod yX3_init, Cond.code yX3_init cX3_init 1 none, Cond.methodLink RX3 3 objectInit, Cond.fieldLink RX3 9 "NearlyBought$Sights" "things" "[I", Cond.fieldLink RX3 15 "NearlyBought$Sights" "persons" "[I", Cond.fieldLink RX3 18 "NearlyBought$Sights" "fairs" "[I", Cond.methodLink RX5 60 yX5_putFirstText, Cond.instanceMethod yX5_putFirstText, Cond.selects RX5 yX5_putFirstText yX5_putFirstText, Cond.code yX5_putFirstText cX5_putFirstText 2 none, Cond.methodLink RX5 211 Lib.Math.min.name, Cond.static Lib.Math.min.name, Cond.initialized "java/lang/Math", Cond.code Lib.Math.min.name Lib.Math.min.code 2 (some .int), Cond.methodLink RX5 206 yJ0_length_8abf5, Cond.instanceMethod yJ0_length_8abf5, Cond.selects RJ0 yJ0_length_8abf5 yJ0_length_8abf5, Cond.initialized RJ0, Cond.code yJ0_length_8abf5 cJ0_length_8abf5 1 (some .int), Cond.fieldLink RJ0 9 "java/lang/String" "value" "[B", Cond.methodLink RJ0 335 yJ0_coder_7d493, Cond.instanceMethod yJ0_coder_7d493, Cond.selects RJ0 yJ0_coder_7d493 yJ0_coder_7d493]
noncomputable def wsL_law_r5 : List Cond := [Cond.code yJ0_coder_7d493 cJ0_coder_7d493 1 (some .byte), Cond.fieldLink RJ0 38 "java/lang/String" "COMPACT_STRINGS" "Z", Cond.fieldLink RJ0 15 "java/lang/String" "coder" "B", Cond.methodLink RX5 214 yJ0_charAt_5068e, Cond.instanceMethod yJ0_charAt_5068e, Cond.selects RJ0 yJ0_charAt_5068e yJ0_charAt_5068e, Cond.code yJ0_charAt_5068e cJ0_charAt_5068e 2 (some .char), Cond.methodLink RJ0 492 yJ0_isLatin1_aae02, Cond.instanceMethod yJ0_isLatin1_aae02, Cond.selects RJ0 yJ0_isLatin1_aae02 yJ0_isLatin1_aae02, Cond.code yJ0_isLatin1_aae02 cJ0_isLatin1_aae02 1 (some .boolean), Cond.methodLink RJ0 495 yJ1_charAt_3b067, Cond.static yJ1_charAt_3b067, Cond.initialized RJ1, Cond.code yJ1_charAt_3b067 cJ1_charAt_3b067 2 (some .char), Cond.methodLink RJ1 9 yJ0_checkIndex_df160, Cond.static yJ0_checkIndex_df160, Cond.code yJ0_checkIndex_df160 cJ0_checkIndex_df160 2 none, Cond.fieldLink RJ0 1053 "jdk/internal/util/Preconditions" "SIOOBE_FORMATTER" "Ljava/util/function/BiFunction;", Cond.methodLink RJ0 1059 yJ3_checkIndex_8e157, Cond.static yJ3_checkIndex_8e157, Cond.initialized RJ3, Cond.code yJ3_checkIndex_8e157 cJ3_checkIndex_8e157 3 (some .int), Cond.methodLink RJ0 498 yJ2_charAt_3b067]
noncomputable def wsL_law_r6 : List Cond := [Cond.static yJ2_charAt_3b067, Cond.initialized RJ2, Cond.code yJ2_charAt_3b067 cJ2_charAt_3b067 2 (some .char), Cond.methodLink RJ2 67 yJ2_checkIndex_2214a, Cond.static yJ2_checkIndex_2214a, Cond.code yJ2_checkIndex_2214a cJ2_checkIndex_2214a 2 none, Cond.methodLink RJ2 48 yJ2_length_9d52b, Cond.static yJ2_length_9d52b, Cond.code yJ2_length_9d52b cJ2_length_9d52b 1 (some .int), Cond.methodLink RJ2 414 yJ0_checkIndex_df160, Cond.methodLink RJ2 71 yJ2_getChar_3b067, Cond.static yJ2_getChar_3b067, Cond.code yJ2_getChar_3b067 cJ2_getChar_3b067 2 (some .char), Cond.fieldLink RJ2 44 "java/lang/StringUTF16" "$assertionsDisabled" "Z", Cond.fieldLink RJ2 59 "java/lang/StringUTF16" "HI_BYTE_SHIFT" "I", Cond.fieldLink RJ2 63 "java/lang/StringUTF16" "LO_BYTE_SHIFT" "I", Cond.methodLink RX5 63 yX5_layTheText, Cond.instanceMethod yX5_layTheText, Cond.selects RX5 yX5_layTheText yX5_layTheText, Cond.code yX5_layTheText cX5_layTheText 1 none, Cond.fieldLink RX5 145 "NearlyBought$History" "size" "I", Cond.fieldLink RX5 201 "NearlyBought" "keptCount" "I", Cond.fieldLink RX5 167 "NearlyBought$Sights" "size" "I", Cond.methodLink RX5 70 yX2_read]
noncomputable def wsL_law_r7 : List Cond := [Cond.instanceMethod yX2_read, Cond.selects RX2 yX2_read yX2_read, Cond.code yX2_read cX2_read 6 (some .int), Cond.fieldLink RX2 20 "NearlyBought$Reader" "at" "I", Cond.methodLink RX2 15 yX4_clear, Cond.instanceMethod yX4_clear, Cond.selects RX4 yX4_clear yX4_clear, Cond.code yX4_clear cX4_clear 1 none, Cond.fieldLink RX4 33 "NearlyBought$Tale" "persons" "I", Cond.fieldLink RX4 37 "NearlyBought$Tale" "things" "I", Cond.fieldLink RX4 40 "NearlyBought$Tale" "pauses" "I", Cond.fieldLink RX4 43 "NearlyBought$Tale" "earned" "I", Cond.fieldLink RX4 46 "NearlyBought$Tale" "dearer" "I", Cond.methodLink RX2 24 yX2_readItem, Cond.instanceMethod yX2_readItem, Cond.selects RX2 yX2_readItem yX2_readItem, Cond.code yX2_readItem cX2_readItem 7 (some .boolean), Cond.methodLink RX2 32 yX2_letterAt, Cond.instanceMethod yX2_letterAt, Cond.selects RX2 yX2_letterAt yX2_letterAt, Cond.code yX2_letterAt cX2_letterAt 3 (some .int), Cond.methodLink RX2 36 yX2_numbersDue, Cond.static yX2_numbersDue, Cond.code yX2_numbersDue cX2_numbersDue 1 (some .int)]
noncomputable def wsL_law_r8 : List Cond := [Cond.methodLink RX2 40 yX2_readNumber, Cond.instanceMethod yX2_readNumber, Cond.selects RX2 yX2_readNumber yX2_readNumber, Cond.code yX2_readNumber cX2_readNumber 6 (some .int), Cond.methodLink RX2 43 Lib.Math.max.name, Cond.static Lib.Math.max.name, Cond.code Lib.Math.max.name Lib.Math.max.code 2 (some .int), Cond.methodLink RX2 28 yX4_takeItem, Cond.instanceMethod yX4_takeItem, Cond.selects RX4 yX4_takeItem yX4_takeItem, Cond.code yX4_takeItem cX4_takeItem 3 (some .boolean), Cond.methodLink RX4 49 yX4_takePerson, Cond.instanceMethod yX4_takePerson, Cond.selects RX4 yX4_takePerson yX4_takePerson, Cond.code yX4_takePerson cX4_takePerson 3 (some .boolean), Cond.methodLink RX4 53 yX4_takeThing, Cond.instanceMethod yX4_takeThing, Cond.selects RX4 yX4_takeThing yX4_takeThing, Cond.code yX4_takeThing cX4_takeThing 2 (some .boolean), Cond.methodLink RX4 57 yX4_takePause, Cond.instanceMethod yX4_takePause, Cond.selects RX4 yX4_takePause yX4_takePause, Cond.code yX4_takePause cX4_takePause 6 (some .boolean), Cond.methodLink RX4 67 yX4_hasPerson]
noncomputable def wsL_law_r9 : List Cond := [Cond.instanceMethod yX4_hasPerson, Cond.selects RX4 yX4_hasPerson yX4_hasPerson, Cond.code yX4_hasPerson cX4_hasPerson 2 (some .boolean), Cond.methodLink RX4 70 yX4_hasThing, Cond.instanceMethod yX4_hasThing, Cond.selects RX4 yX4_hasThing yX4_hasThing, Cond.code yX4_hasThing cX4_hasThing 2 (some .boolean), Cond.methodLink RX4 61 yX4_takeEarned, Cond.instanceMethod yX4_takeEarned, Cond.selects RX4 yX4_takeEarned yX4_takeEarned, Cond.code yX4_takeEarned cX4_takeEarned 2 (some .boolean), Cond.methodLink RX4 64 yX4_takeDearer, Cond.instanceMethod yX4_takeDearer, Cond.selects RX4 yX4_takeDearer yX4_takeDearer, Cond.code yX4_takeDearer cX4_takeDearer 2 (some .boolean), Cond.methodLink RX5 218 yX1_begin, Cond.instanceMethod yX1_begin, Cond.selects RX1 yX1_begin yX1_begin, Cond.code yX1_begin cX1_begin 3 none, Cond.fieldLink RX1 43 "NearlyBought$Market" "year" "I", Cond.fieldLink RX1 46 "NearlyBought$Tale" "firstCoins" "[I", Cond.methodLink RX1 51 arraycopyName, Cond.native arraycopyName, Cond.static arraycopyName]
noncomputable def wsL_law_r10 : List Cond := [Cond.initialized "java/lang/System", Cond.methodLink RX1 57 yJ7_fill_53178, Cond.static yJ7_fill_53178, Cond.initialized RJ7, Cond.code yJ7_fill_53178 cJ7_fill_53178 4 none, Cond.methodLink RX1 63 yX1_addToldPauses, Cond.instanceMethod yX1_addToldPauses, Cond.selects RX1 yX1_addToldPauses yX1_addToldPauses, Cond.code yX1_addToldPauses cX1_addToldPauses 2 none, Cond.fieldLink RX1 74 "NearlyBought$Tale" "pauses" "I", Cond.fieldLink RX1 77 "NearlyBought$Tale" "pauseYear" "[I", Cond.fieldLink RX1 80 "NearlyBought$Tale" "pauser" "[I", Cond.fieldLink RX1 83 "NearlyBought$Tale" "pausedAt" "[I", Cond.fieldLink RX1 86 "NearlyBought$Tale" "pauseBreaths" "[I", Cond.methodLink RX1 89 yX1_addPause, Cond.instanceMethod yX1_addPause, Cond.selects RX1 yX1_addPause yX1_addPause, Cond.code yX1_addPause cX1_addPause 4 none, Cond.methodLink RX1 66 yX4_countedFor, Cond.instanceMethod yX4_countedFor, Cond.selects RX4 yX4_countedFor yX4_countedFor, Cond.code yX4_countedFor cX4_countedFor 3 (some .int), Cond.methodLink RX1 70 yX4_priceFor, Cond.instanceMethod yX4_priceFor]
noncomputable def wsL_law_r11 : List Cond := [Cond.selects RX4 yX4_priceFor yX4_priceFor, Cond.code yX4_priceFor cX4_priceFor 5 (some .int), Cond.methodLink RX4 73 yX4_costIn, Cond.instanceMethod yX4_costIn, Cond.selects RX4 yX4_costIn yX4_costIn, Cond.code yX4_costIn cX4_costIn 3 (some .int), Cond.methodLink RL 12 yX6_init, Cond.instanceMethod yX6_init, Cond.code yX6_init cX6_init 1 none, Cond.methodLink RX6 1 objectInit, Cond.fieldLink RX6 7 "NearlyBoughtModel" "text" "[I", Cond.fieldLink RX6 13 "NearlyBoughtModel" "told" "[I", Cond.fieldLink RX6 16 "NearlyBoughtModel" "draft" "[I", Cond.fieldLink RX6 19 "NearlyBoughtModel" "s" "[I", Cond.fieldLink RX6 22 "NearlyBoughtModel" "past" "[I", Cond.fieldLink RX6 25 "NearlyBoughtModel" "images" "[I", Cond.fieldLink RX6 28 "NearlyBoughtModel" "notes" "[I", Cond.fieldLink RX6 31 "NearlyBoughtModel" "feign" "I", Cond.fieldLink RX6 35 "NearlyBoughtModel" "held" "[I", Cond.methodLink RX6 38 yX6_begins, Cond.instanceMethod yX6_begins, Cond.selects RX6 yX6_begins yX6_begins, Cond.code yX6_begins cX6_begins 2 none, Cond.methodLink RX6 41 yX6_personOf]
noncomputable def wsL_law_r12 : List Cond := [Cond.instanceMethod yX6_personOf, Cond.selects RX6 yX6_personOf yX6_personOf, Cond.code yX6_personOf cX6_personOf 4 none, Cond.methodLink RX6 45 yX6_thingOf, Cond.instanceMethod yX6_thingOf, Cond.selects RX6 yX6_thingOf yX6_thingOf, Cond.code yX6_thingOf cX6_thingOf 2 none, Cond.methodLink RX6 49 yX6_pauseOf, Cond.instanceMethod yX6_pauseOf, Cond.selects RX6 yX6_pauseOf yX6_pauseOf, Cond.code yX6_pauseOf cX6_pauseOf 6 none, Cond.methodLink RX6 53 yX6_lays, Cond.instanceMethod yX6_lays, Cond.selects RX6 yX6_lays yX6_lays, Cond.code yX6_lays cX6_lays 2 none, Cond.fieldLink RX6 88 "NearlyBoughtModel" "known" "I", Cond.fieldLink RX6 91 "NearlyBoughtModel" "kept" "I", Cond.fieldLink RX6 94 "NearlyBoughtModel" "noted" "I", Cond.methodLink RX6 85 yX6_starts, Cond.instanceMethod yX6_starts, Cond.selects RX6 yX6_starts yX6_starts, Cond.code yX6_starts cX6_starts 2 none, Cond.methodLink RL 13 yX5_write, Cond.instanceMethod yX5_write]
noncomputable def wsL_law_r13 : List Cond := [Cond.selects RX5 yX5_write yX5_write, Cond.code yX5_write cX5_write 2 (some .int), Cond.methodLink RL 17 yX6_write, Cond.instanceMethod yX6_write, Cond.selects RX6 yX6_write yX6_write, Cond.code yX6_write cX6_write 2 (some .int), Cond.fieldLink RX6 60 "NearlyBoughtModel" "typed" "I", Cond.methodLink RX6 56 yX6_in, Cond.static yX6_in, Cond.code yX6_in cX6_in 3 (some .boolean), Cond.methodLink RL 18 yX5_wipe, Cond.instanceMethod yX5_wipe, Cond.selects RX5 yX5_wipe yX5_wipe, Cond.code yX5_wipe cX5_wipe 2 (some .int), Cond.methodLink RL 22 yX6_wipe, Cond.instanceMethod yX6_wipe, Cond.selects RX6 yX6_wipe yX6_wipe, Cond.code yX6_wipe cX6_wipe 2 (some .int), Cond.methodLink RL 23 yX5_fault, Cond.instanceMethod yX5_fault, Cond.selects RX5 yX5_fault yX5_fault, Cond.code yX5_fault cX5_fault 1 (some .int), Cond.methodLink RL 26 yX6_fault, Cond.instanceMethod yX6_fault]
noncomputable def wsL_law_r14 : List Cond := [Cond.selects RX6 yX6_fault yX6_fault, Cond.code yX6_fault cX6_fault 1 (some .int), Cond.methodLink RX6 81 yX6_readsAll, Cond.instanceMethod yX6_readsAll, Cond.selects RX6 yX6_readsAll yX6_readsAll, Cond.code yX6_readsAll cX6_readsAll 2 (some .int), Cond.fieldLink RX6 63 "NearlyBoughtModel" "at" "I", Cond.methodLink RX6 78 yX6_readsItem, Cond.instanceMethod yX6_readsItem, Cond.selects RX6 yX6_readsItem yX6_readsItem, Cond.code yX6_readsItem cX6_readsItem 6 (some .boolean), Cond.methodLink RX6 74 yX6_number, Cond.instanceMethod yX6_number, Cond.selects RX6 yX6_number yX6_number, Cond.code yX6_number cX6_number 6 (some .int), Cond.methodLink RX6 66 yX6_letterAt, Cond.instanceMethod yX6_letterAt, Cond.selects RX6 yX6_letterAt yX6_letterAt, Cond.code yX6_letterAt cX6_letterAt 2 (some .int), Cond.methodLink RX6 70 yX6_isFigure, Cond.static yX6_isFigure, Cond.code yX6_isFigure cX6_isFigure 1 (some .boolean), Cond.methodLink RL 27 yX5_lay, Cond.instanceMethod yX5_lay]
noncomputable def wsL_law_r15 : List Cond := [Cond.selects RX5 yX5_lay yX5_lay, Cond.code yX5_lay cX5_lay 1 (some .int), Cond.fieldLink RX5 78 "NearlyBought$Tale" "things" "I", Cond.methodLink RX5 74 yX4_canBeLaid, Cond.instanceMethod yX4_canBeLaid, Cond.selects RX4 yX4_canBeLaid yX4_canBeLaid, Cond.code yX4_canBeLaid cX4_canBeLaid 1 (some .boolean), Cond.methodLink RL 30 yX6_lay, Cond.instanceMethod yX6_lay, Cond.selects RX6 yX6_lay yX6_lay, Cond.code yX6_lay cX6_lay 1 (some .int), Cond.methodLink RL 31 yX5_person, Cond.instanceMethod yX5_person, Cond.selects RX5 yX5_person yX5_person, Cond.code yX5_person cX5_person 3 (some .int), Cond.fieldLink RX5 85 "NearlyBought$Tale" "kind" "[I", Cond.fieldLink RX5 88 "NearlyBought$Market" "coins" "[I", Cond.methodLink RX5 81 yX4_hasPerson, Cond.methodLink RX5 91 yX1_thingsOf, Cond.instanceMethod yX1_thingsOf, Cond.selects RX1 yX1_thingsOf yX1_thingsOf, Cond.code yX1_thingsOf cX1_thingsOf 4 (some .int), Cond.fieldLink RX1 96 "NearlyBought$Tale" "things" "I", Cond.methodLink RX5 95 yX1_worthOf]
noncomputable def wsL_law_r16 : List Cond := [Cond.instanceMethod yX1_worthOf, Cond.selects RX1 yX1_worthOf yX1_worthOf, Cond.code yX1_worthOf cX1_worthOf 4 (some .int), Cond.methodLink RX1 128 yX4_costIn, Cond.methodLink RL 35 yX6_person, Cond.instanceMethod yX6_person, Cond.selects RX6 yX6_person yX6_person, Cond.code yX6_person cX6_person 5 (some .int), Cond.methodLink RX6 113 yX6_isPerson, Cond.instanceMethod yX6_isPerson, Cond.selects RX6 yX6_isPerson yX6_isPerson, Cond.code yX6_isPerson cX6_isPerson 2 (some .boolean), Cond.methodLink RX6 110 yX6_costs, Cond.instanceMethod yX6_costs, Cond.selects RX6 yX6_costs yX6_costs, Cond.code yX6_costs cX6_costs 3 (some .int), Cond.methodLink RX6 116 yX6_thingsOf, Cond.instanceMethod yX6_thingsOf, Cond.selects RX6 yX6_thingsOf yX6_thingsOf, Cond.code yX6_thingsOf cX6_thingsOf 4 (some .int), Cond.methodLink RL 36 yX5_thing, Cond.instanceMethod yX5_thing, Cond.selects RX5 yX5_thing yX5_thing, Cond.code yX5_thing cX5_thing 3 (some .int)]
noncomputable def wsL_law_r17 : List Cond := [Cond.fieldLink RX5 101 "NearlyBought$Market" "year" "I", Cond.fieldLink RX5 108 "NearlyBought$Market" "owner" "[I", Cond.fieldLink RX5 111 "NearlyBought$Market" "missed" "[I", Cond.methodLink RX5 98 yX4_hasThing, Cond.methodLink RX5 104 yX4_costIn, Cond.methodLink RX5 114 yX1_isFree, Cond.instanceMethod yX1_isFree, Cond.selects RX1 yX1_isFree yX1_isFree, Cond.code yX1_isFree cX1_isFree 2 (some .boolean), Cond.methodLink RX5 117 yX1_claimantOf, Cond.instanceMethod yX1_claimantOf, Cond.selects RX1 yX1_claimantOf yX1_claimantOf, Cond.code yX1_claimantOf cX1_claimantOf 5 (some .int), Cond.fieldLink RX1 93 "NearlyBought$Tale" "persons" "I", Cond.methodLink RL 39 yX6_thing, Cond.instanceMethod yX6_thing, Cond.selects RX6 yX6_thing yX6_thing, Cond.code yX6_thing cX6_thing 3 (some .int), Cond.methodLink RX6 119 yX6_isThing, Cond.instanceMethod yX6_isThing, Cond.selects RX6 yX6_isThing yX6_isThing, Cond.code yX6_isThing cX6_isThing 2 (some .boolean), Cond.methodLink RX6 122 yX6_claim, Cond.instanceMethod yX6_claim]
noncomputable def wsL_law_r18 : List Cond := [Cond.selects RX6 yX6_claim yX6_claim, Cond.code yX6_claim cX6_claim 6 (some .int), Cond.methodLink RX6 107 yX6_countedNow, Cond.instanceMethod yX6_countedNow, Cond.selects RX6 yX6_countedNow yX6_countedNow, Cond.code yX6_countedNow cX6_countedNow 3 (some .int), Cond.methodLink RX6 101 yX6_pauseNow, Cond.instanceMethod yX6_pauseNow, Cond.selects RX6 yX6_pauseNow yX6_pauseNow, Cond.code yX6_pauseNow cX6_pauseNow 5 (some .int), Cond.methodLink RX6 97 yX6_better, Cond.static yX6_better, Cond.code yX6_better cX6_better 3 (some .int), Cond.methodLink RX6 104 yX6_countedOf, Cond.instanceMethod yX6_countedOf, Cond.selects RX6 yX6_countedOf yX6_countedOf, Cond.code yX6_countedOf cX6_countedOf 3 (some .int), Cond.methodLink RL 40 yX5_nearly, Cond.instanceMethod yX5_nearly, Cond.selects RX5 yX5_nearly yX5_nearly, Cond.code yX5_nearly cX5_nearly 4 (some .int), Cond.fieldLink RX5 120 "NearlyBought$Market" "breaths" "[[I", Cond.fieldLink RX5 124 "NearlyBought$Market" "counted" "[[I", Cond.fieldLink RX5 127 "NearlyBought$Market" "since" "[[I"]
noncomputable def wsL_law_r19 : List Cond := [Cond.fieldLink RX5 130 "NearlyBought$Market" "price" "[[I", Cond.methodLink RL 44 yX6_nearly, Cond.instanceMethod yX6_nearly, Cond.selects RX6 yX6_nearly yX6_nearly, Cond.code yX6_nearly cX6_nearly 5 (some .int), Cond.methodLink RX6 125 yX6_isNearly, Cond.instanceMethod yX6_isNearly, Cond.selects RX6 yX6_isNearly yX6_isNearly, Cond.code yX6_isNearly cX6_isNearly 3 (some .boolean), Cond.methodLink RX6 129 yX6_priceOf, Cond.instanceMethod yX6_priceOf, Cond.selects RX6 yX6_priceOf yX6_priceOf, Cond.code yX6_priceOf cX6_priceOf 4 (some .int), Cond.methodLink RL 45 yX5_pause, Cond.instanceMethod yX5_pause, Cond.selects RX5 yX5_pause yX5_pause, Cond.code yX5_pause cX5_pause 4 (some .int), Cond.methodLink RX5 133 yX0_remember, Cond.instanceMethod yX0_remember, Cond.selects RX0 yX0_remember yX0_remember, Cond.code yX0_remember cX0_remember 2 none, Cond.fieldLink RX0 20 "NearlyBought$History" "next" "I", Cond.fieldLink RX0 28 "NearlyBought$History" "size" "I", Cond.methodLink RX0 31 Lib.Math.min.name]
noncomputable def wsL_law_r20 : List Cond := [Cond.methodLink RX0 24 yX1_copyFrom, Cond.instanceMethod yX1_copyFrom, Cond.selects RX1 yX1_copyFrom yX1_copyFrom, Cond.code yX1_copyFrom cX1_copyFrom 3 none, Cond.methodLink RX5 137 yX1_addPause, Cond.methodLink RL 48 yX6_pause, Cond.instanceMethod yX6_pause, Cond.selects RX6 yX6_pause yX6_pause, Cond.code yX6_pause cX6_pause 4 (some .int), Cond.methodLink RX6 132 yX6_keeps, Cond.instanceMethod yX6_keeps, Cond.selects RX6 yX6_keeps yX6_keeps, Cond.code yX6_keeps cX6_keeps 2 none, Cond.methodLink RX6 135 yX6_pauses, Cond.instanceMethod yX6_pauses, Cond.selects RX6 yX6_pauses yX6_pauses, Cond.code yX6_pauses cX6_pauses 6 none, Cond.methodLink RL 49 yX5_fair, Cond.instanceMethod yX5_fair, Cond.selects RX5 yX5_fair yX5_fair, Cond.code yX5_fair cX5_fair 1 (some .int), Cond.methodLink RX5 141 yX1_holdFair, Cond.instanceMethod yX1_holdFair, Cond.selects RX1 yX1_holdFair yX1_holdFair]
noncomputable def wsL_law_r21 : List Cond := [Cond.code yX1_holdFair cX1_holdFair 3 (some .int), Cond.fieldLink RX1 106 "NearlyBought$Tale" "earned" "I", Cond.methodLink RX1 109 Lib.Math.min.name, Cond.methodLink RX1 99 yX1_isFree, Cond.methodLink RX1 103 yX1_sell, Cond.instanceMethod yX1_sell, Cond.selects RX1 yX1_sell yX1_sell, Cond.code yX1_sell cX1_sell 5 (some .boolean), Cond.methodLink RX1 118 yX1_claimantOf, Cond.methodLink RX1 122 yX1_buyerInsteadOf, Cond.instanceMethod yX1_buyerInsteadOf, Cond.selects RX1 yX1_buyerInsteadOf yX1_buyerInsteadOf, Cond.code yX1_buyerInsteadOf cX1_buyerInsteadOf 6 (some .int), Cond.methodLink RX1 125 yX1_dearestOf, Cond.instanceMethod yX1_dearestOf, Cond.selects RX1 yX1_dearestOf yX1_dearestOf, Cond.code yX1_dearestOf cX1_dearestOf 4 (some .int), Cond.methodLink RL 52 yX6_fair, Cond.instanceMethod yX6_fair, Cond.selects RX6 yX6_fair yX6_fair, Cond.code yX6_fair cX6_fair 1 (some .int), Cond.methodLink RX6 148 yX6_holds, Cond.instanceMethod yX6_holds, Cond.selects RX6 yX6_holds yX6_holds]
noncomputable def wsL_law_r22 : List Cond := [Cond.code yX6_holds cX6_holds 3 (some .int), Cond.methodLink RX6 145 yX6_offers, Cond.instanceMethod yX6_offers, Cond.selects RX6 yX6_offers yX6_offers, Cond.code yX6_offers cX6_offers 8 none, Cond.methodLink RX6 139 yX6_sells, Cond.instanceMethod yX6_sells, Cond.selects RX6 yX6_sells yX6_sells, Cond.code yX6_sells cX6_sells 4 none, Cond.methodLink RX6 142 yX6_dearest, Cond.instanceMethod yX6_dearest, Cond.selects RX6 yX6_dearest yX6_dearest, Cond.code yX6_dearest cX6_dearest 5 (some .int), Cond.methodLink RL 53 yX5_give, Cond.instanceMethod yX5_give, Cond.selects RX5 yX5_give yX5_give, Cond.code yX5_give cX5_give 4 (some .int), Cond.methodLink RL 56 yX6_give, Cond.instanceMethod yX6_give, Cond.selects RX6 yX6_give yX6_give, Cond.code yX6_give cX6_give 4 (some .int), Cond.methodLink RL 57 yX5_undo, Cond.instanceMethod yX5_undo, Cond.selects RX5 yX5_undo yX5_undo]
noncomputable def wsL_law_r23 : List Cond := [Cond.code yX5_undo cX5_undo 1 (some .int), Cond.methodLink RX5 148 yX0_restore, Cond.instanceMethod yX0_restore, Cond.selects RX0 yX0_restore yX0_restore, Cond.code yX0_restore cX0_restore 2 none, Cond.methodLink RX0 37 Lib.Math.max.name, Cond.methodLink RL 60 yX6_undo, Cond.instanceMethod yX6_undo, Cond.selects RX6 yX6_undo yX6_undo, Cond.code yX6_undo cX6_undo 2 (some .int), Cond.methodLink RL 61 yX5_behind, Cond.instanceMethod yX5_behind, Cond.selects RX5 yX5_behind yX5_behind, Cond.code yX5_behind cX5_behind 3 (some .int), Cond.methodLink RX5 151 yX1_copyFrom, Cond.methodLink RX5 154 yX1_holdFairs, Cond.instanceMethod yX1_holdFairs, Cond.selects RX1 yX1_holdFairs yX1_holdFairs, Cond.code yX1_holdFairs cX1_holdFairs 3 none, Cond.methodLink RX1 114 yX1_holdFair, Cond.methodLink RL 64 yX6_behind, Cond.instanceMethod yX6_behind, Cond.selects RX6 yX6_behind yX6_behind, Cond.code yX6_behind cX6_behind 3 (some .int)]
noncomputable def wsL_law_r24 : List Cond := [Cond.methodLink RX6 154 yX6_remembers, Cond.instanceMethod yX6_remembers, Cond.selects RX6 yX6_remembers yX6_remembers, Cond.code yX6_remembers cX6_remembers 2 none, Cond.methodLink RX6 157 yX6_whoseBehind, Cond.instanceMethod yX6_whoseBehind, Cond.selects RX6 yX6_whoseBehind yX6_whoseBehind, Cond.code yX6_whoseBehind cX6_whoseBehind 4 (some .int), Cond.methodLink RX6 151 yX6_lets, Cond.instanceMethod yX6_lets, Cond.selects RX6 yX6_lets yX6_lets, Cond.code yX6_lets cX6_lets 2 none, Cond.methodLink RL 65 yX5_goes, Cond.instanceMethod yX5_goes, Cond.selects RX5 yX5_goes yX5_goes, Cond.code yX5_goes cX5_goes 2 (some .int), Cond.methodLink RX5 158 yX1_fairsTillGone, Cond.instanceMethod yX1_fairsTillGone, Cond.selects RX1 yX1_fairsTillGone yX1_fairsTillGone, Cond.code yX1_fairsTillGone cX1_fairsTillGone 3 (some .int), Cond.methodLink RL 68 yX6_goes, Cond.instanceMethod yX6_goes, Cond.selects RX6 yX6_goes yX6_goes, Cond.code yX6_goes cX6_goes 2 (some .int)]
noncomputable def wsL_law_r25 : List Cond := [Cond.methodLink RX6 160 yX6_goesBehind, Cond.instanceMethod yX6_goesBehind, Cond.selects RX6 yX6_goesBehind yX6_goesBehind, Cond.code yX6_goesBehind cX6_goesBehind 4 (some .int), Cond.methodLink RL 69 yX5_never, Cond.instanceMethod yX5_never, Cond.selects RX5 yX5_never yX5_never, Cond.code yX5_never cX5_never 3 (some .int), Cond.methodLink RL 72 yX6_never, Cond.instanceMethod yX6_never, Cond.selects RX6 yX6_never yX6_never, Cond.code yX6_never cX6_never 3 (some .int), Cond.methodLink RX6 163 yX6_behind, Cond.methodLink RL 73 yX5_stop, Cond.instanceMethod yX5_stop, Cond.selects RX5 yX5_stop yX5_stop, Cond.code yX5_stop cX5_stop 6 (some .int), Cond.methodLink RL 76 yX6_stop, Cond.instanceMethod yX6_stop, Cond.selects RX6 yX6_stop yX6_stop, Cond.code yX6_stop cX6_stop 7 (some .int), Cond.methodLink RL 77 yX5_rank, Cond.instanceMethod yX5_rank, Cond.selects RX5 yX5_rank yX5_rank]
noncomputable def wsL_law_r26 : List Cond := [Cond.code yX5_rank cX5_rank 4 (some .int), Cond.methodLink RX5 161 yX1_dearerTo, Cond.instanceMethod yX1_dearerTo, Cond.selects RX1 yX1_dearerTo yX1_dearerTo, Cond.code yX1_dearerTo cX1_dearerTo 5 (some .int), Cond.methodLink RL 80 yX6_rank, Cond.instanceMethod yX6_rank, Cond.selects RX6 yX6_rank yX6_rank, Cond.code yX6_rank cX6_rank 8 (some .int), Cond.methodLink RL 81 yX5_wanted, Cond.instanceMethod yX5_wanted, Cond.selects RX5 yX5_wanted yX5_wanted, Cond.code yX5_wanted cX5_wanted 4 (some .int), Cond.methodLink RX5 164 yX1_wantersOf, Cond.instanceMethod yX1_wantersOf, Cond.selects RX1 yX1_wantersOf yX1_wantersOf, Cond.code yX1_wantersOf cX1_wantersOf 4 (some .int), Cond.methodLink RL 84 yX6_wanted, Cond.instanceMethod yX6_wanted, Cond.selects RX6 yX6_wanted yX6_wanted, Cond.code yX6_wanted cX6_wanted 4 (some .int), Cond.methodLink RX6 166 yX6_wants, Cond.instanceMethod yX6_wants, Cond.selects RX6 yX6_wants yX6_wants]
noncomputable def wsL_law_r27 : List Cond := [Cond.code yX6_wants cX6_wants 4 (some .int), Cond.methodLink RL 85 yX5_seen, Cond.instanceMethod yX5_seen, Cond.selects RX5 yX5_seen yX5_seen, Cond.code yX5_seen cX5_seen 4 (some .int), Cond.methodLink RX5 168 yX3_add, Cond.instanceMethod yX3_add, Cond.selects RX3 yX3_add yX3_add, Cond.code yX3_add cX3_add 4 none, Cond.fieldLink RX3 21 "NearlyBought$Sights" "size" "I", Cond.methodLink RL 88 yX6_seen, Cond.instanceMethod yX6_seen, Cond.selects RX6 yX6_seen yX6_seen, Cond.code yX6_seen cX6_seen 4 (some .int), Cond.methodLink RL 89 yX5_forget, Cond.instanceMethod yX5_forget, Cond.selects RX5 yX5_forget yX5_forget, Cond.code yX5_forget cX5_forget 2 (some .int), Cond.methodLink RL 92 yX6_forget, Cond.instanceMethod yX6_forget, Cond.selects RX6 yX6_forget yX6_forget, Cond.code yX6_forget cX6_forget 2 (some .int), Cond.methodLink RL 93 yX5_feigned, Cond.instanceMethod yX5_feigned]
noncomputable def wsL_law_r28 : List Cond := [Cond.selects RX5 yX5_feigned yX5_feigned, Cond.code yX5_feigned cX5_feigned 4 (some .int), Cond.fieldLink RX5 175 "NearlyBought$Tale" "persons" "I", Cond.methodLink RX5 171 yX3_allHoldIn, Cond.instanceMethod yX3_allHoldIn, Cond.selects RX3 yX3_allHoldIn yX3_allHoldIn, Cond.code yX3_allHoldIn cX3_allHoldIn 5 (some .boolean), Cond.fieldLink RX3 35 "NearlyBought$Market" "owner" "[I", Cond.methodLink RX3 25 yX1_begin, Cond.methodLink RX3 31 yX1_holdFair, Cond.methodLink RL 96 yX6_feigned, Cond.instanceMethod yX6_feigned, Cond.selects RX6 yX6_feigned yX6_feigned, Cond.code yX6_feigned cX6_feigned 4 (some .int), Cond.methodLink RX6 169 yX6_isSo, Cond.instanceMethod yX6_isSo, Cond.selects RX6 yX6_isSo yX6_isSo, Cond.code yX6_isSo cX6_isSo 5 (some .boolean), Cond.methodLink RL 97 yX5_counts, Cond.instanceMethod yX5_counts, Cond.selects RX5 yX5_counts yX5_counts, Cond.code yX5_counts cX5_counts 7 (some .int), Cond.methodLink RX5 184 Lib.Math.max.name, Cond.methodLink RX5 178 yX5_uncountedDraws]
noncomputable def wsL_law_r29 : List Cond := [Cond.instanceMethod yX5_uncountedDraws, Cond.selects RX5 yX5_uncountedDraws yX5_uncountedDraws, Cond.code yX5_uncountedDraws cX5_uncountedDraws 4 (some .int), Cond.methodLink RX5 221 yX4_countedFor, Cond.methodLink RX5 181 yX5_greatestDivisor, Cond.static yX5_greatestDivisor, Cond.code yX5_greatestDivisor cX5_greatestDivisor 6 (some .int), Cond.methodLink RL 100 yX6_counts, Cond.instanceMethod yX6_counts, Cond.selects RX6 yX6_counts yX6_counts, Cond.code yX6_counts cX6_counts 11 (some .int), Cond.methodLink RL 101 yX5_cheapest, Cond.instanceMethod yX5_cheapest, Cond.selects RX5 yX5_cheapest yX5_cheapest, Cond.code yX5_cheapest cX5_cheapest 7 (some .int), Cond.methodLink RL 104 yX6_cheapest, Cond.instanceMethod yX6_cheapest, Cond.selects RX6 yX6_cheapest yX6_cheapest, Cond.code yX6_cheapest cX6_cheapest 5 (some .int), Cond.methodLink RL 105 yX5_greens, Cond.instanceMethod yX5_greens, Cond.selects RX5 yX5_greens yX5_greens, Cond.code yX5_greens cX5_greens 5 (some .int), Cond.methodLink RX5 189 yX5_draw]
noncomputable def wsL_law_r30 : List Cond := [Cond.static yX5_draw, Cond.code yX5_draw cX5_draw 4 (some .int), Cond.constantLong RX5 224 (7919), Cond.constantLong RX5 226 (6151), Cond.constantLong RX5 228 (65521), Cond.constantLong RX5 230 (4), Cond.methodLink RX5 192 yX5_addDrawnPause, Cond.instanceMethod yX5_addDrawnPause, Cond.selects RX5 yX5_addDrawnPause yX5_addDrawnPause, Cond.code yX5_addDrawnPause cX5_addDrawnPause 2 none, Cond.methodLink RX5 195 yX1_thingsGone, Cond.instanceMethod yX1_thingsGone, Cond.selects RX1 yX1_thingsGone yX1_thingsGone, Cond.code yX1_thingsGone cX1_thingsGone 3 (some .int), Cond.methodLink RX5 198 yX1_coinsOfAll, Cond.instanceMethod yX1_coinsOfAll, Cond.selects RX1 yX1_coinsOfAll yX1_coinsOfAll, Cond.code yX1_coinsOfAll cX1_coinsOfAll 3 (some .int), Cond.methodLink RL 108 yX6_greens, Cond.instanceMethod yX6_greens, Cond.selects RX6 yX6_greens yX6_greens, Cond.code yX6_greens cX6_greens 8 (some .int), Cond.constantLong RX6 172 (7919), Cond.constantLong RX6 174 (6151)]
noncomputable def wsL_law_r31 : List Cond := [Cond.constantLong RX6 176 (65521), Cond.methodLink RX6 178 yX6_taken, Cond.instanceMethod yX6_taken, Cond.selects RX6 yX6_taken yX6_taken, Cond.code yX6_taken cX6_taken 3 (some .int), Cond.methodLink RX6 181 yX6_allCoins, Cond.instanceMethod yX6_allCoins, Cond.selects RX6 yX6_allCoins yX6_allCoins, Cond.code yX6_allCoins cX6_allCoins 3 (some .int), Cond.methodLink RL 109 yX5_keep, Cond.instanceMethod yX5_keep, Cond.selects RX5 yX5_keep yX5_keep, Cond.code yX5_keep cX5_keep 1 (some .int), Cond.methodLink RL 112 yX6_keep, Cond.instanceMethod yX6_keep, Cond.selects RX6 yX6_keep yX6_keep, Cond.code yX6_keep cX6_keep 2 (some .int), Cond.methodLink RL 113 yX5_back, Cond.instanceMethod yX5_back, Cond.selects RX5 yX5_back yX5_back, Cond.code yX5_back cX5_back 1 (some .int), Cond.methodLink RL 116 yX6_back, Cond.instanceMethod yX6_back, Cond.selects RX6 yX6_back yX6_back]
noncomputable def wsL_law_r32 : List Cond := [Cond.code yX6_back cX6_back 2 (some .int), Cond.methodLink RL 117 yX5_count, Cond.instanceMethod yX5_count, Cond.selects RX5 yX5_count yX5_count, Cond.code yX5_count cX5_count 2 (some .int), Cond.methodLink RL 120 yX6_count, Cond.instanceMethod yX6_count, Cond.selects RX6 yX6_count yX6_count, Cond.code yX6_count cX6_count 2 (some .int)]
noncomputable def wsL_law : List Cond := (wsL_law_r1 ++ (wsL_law_r2 ++ (wsL_law_r3 ++ (wsL_law_r4 ++ (wsL_law_r5 ++ (wsL_law_r6 ++ (wsL_law_r7 ++ (wsL_law_r8 ++ (wsL_law_r9 ++ (wsL_law_r10 ++ (wsL_law_r11 ++ (wsL_law_r12 ++ (wsL_law_r13 ++ (wsL_law_r14 ++ (wsL_law_r15 ++ (wsL_law_r16 ++ (wsL_law_r17 ++ (wsL_law_r18 ++ (wsL_law_r19 ++ (wsL_law_r20 ++ (wsL_law_r21 ++ (wsL_law_r22 ++ (wsL_law_r23 ++ (wsL_law_r24 ++ (wsL_law_r25 ++ (wsL_law_r26 ++ (wsL_law_r27 ++ (wsL_law_r28 ++ (wsL_law_r29 ++ (wsL_law_r30 ++ (wsL_law_r31 ++ wsL_law_r32))))))))))))))))))))))))))))))) ++ wsX50 ++ wsX60 ++ wsX20 ++ wsX40 ++ wsX10 ++ wsX00 ++ wsX30 ++ ([] : List Cond)
end
section
/-- words of one list among another's: the code words by their places (compared as they are named), the others by theirs -/
theorem mem_c {big ws : List Cond} (qc qn : List Nat) (hc : ws.filter k2_isCode = qc.filterMap (fun i => big[i]?)) (hn : ws.filter (fun w => !k2_isCode w) = qn.filterMap (fun i => big[i]?)) : ∀ w ∈ ws, w ∈ big := by
  intro w hw
  have key : ∀ ps : List Nat, w ∈ ps.filterMap (fun i => big[i]?) → w ∈ big := fun ps h => by
    obtain ⟨i, -, hi⟩ := List.mem_filterMap.mp h
    exact List.mem_of_getElem? hi
  by_cases h : k2_isCode w = true
  · exact key qc (hc ▸ List.mem_filter.mpr ⟨hw, h⟩)
  · exact key qn (hn ▸ List.mem_filter.mpr ⟨hw, by simpa using h⟩)
theorem mem_a {big a b : List Cond} (ha : ∀ w ∈ a, w ∈ big) (hb : ∀ w ∈ b, w ∈ big) : ∀ w ∈ a ++ b, w ∈ big := fun w h => (List.mem_append.mp h).elim (ha w) (hb w)
set_option maxRecDepth 20000 in
theorem in_wsL_law_r1 : ∀ w ∈ wsL_law_r1, w ∈ lw_tbl := mem_c [69, 72] [65, 66, 51, 631, 632, 64, 67, 68, 70, 71, 86, 378, 73, 74, 52, 379, 87, 88, 53, 380, 381, 142] rfl (by decide +kernel)
set_option maxRecDepth 20000 in
theorem in_wsL_law_r2 : ∀ w ∈ wsL_law_r2, w ∈ lw_tbl := mem_c [77, 91] [143, 54, 382, 383, 190, 191, 55, 384, 385, 210, 211, 56, 386, 387, 76, 78, 79, 90, 92, 104, 106, 108] rfl (by decide +kernel)
set_option maxRecDepth 20000 in
theorem in_wsL_law_r3 : ∀ w ∈ wsL_law_r3, w ∈ lw_tbl := mem_c [146, 194] [109, 111, 113, 115, 144, 145, 147, 153, 154, 156, 159, 148, 161, 163, 165, 167, 150, 192, 193, 195, 196, 199] rfl (by decide +kernel)
set_option maxRecDepth 20000 in
theorem in_wsL_law_r4 : ∀ w ∈ wsL_law_r4, w ∈ lw_tbl := mem_c [214, 233, 247, 238] [198, 213, 215, 216, 217, 218, 230, 232, 0, 245, 246, 58, 235, 236, 237, 57, 933, 239, 240, 241] rfl (by decide +kernel)
set_option maxRecDepth 20000 in
theorem in_wsL_law_r5 : ∀ w ∈ wsL_law_r5, w ∈ lw_tbl := mem_c [242, 251, 255, 258, 261, 266] [243, 934, 248, 249, 250, 252, 253, 254, 256, 257, 59, 259, 260, 262, 264, 265, 60, 267] rfl (by decide +kernel)
set_option maxRecDepth 20000 in
theorem in_wsL_law_r6 : ∀ w ∈ wsL_law_r6, w ∈ lw_tbl := mem_c [269, 272, 275, 279, 289] [268, 61, 270, 271, 273, 274, 276, 277, 278, 280, 282, 284, 286, 288, 1, 202, 388, 220, 290] rfl (by decide +kernel)
set_option maxRecDepth 20000 in
theorem in_wsL_law_r7 : ∀ w ∈ wsL_law_r7, w ∈ lw_tbl := mem_c [293, 297, 301, 305, 308] [291, 292, 80, 294, 295, 296, 93, 96, 99, 101, 103, 298, 300, 2, 302, 304, 3, 306, 307] rfl (by decide +kernel)
set_option maxRecDepth 20000 in
theorem in_wsL_law_r8 : ∀ w ∈ wsL_law_r8, w ∈ lw_tbl := mem_c [312, 315, 319, 323, 327, 331] [309, 311, 4, 313, 314, 316, 317, 318, 320, 322, 5, 324, 326, 6, 328, 330, 7, 332] rfl (by decide +kernel)
set_option maxRecDepth 20000 in
theorem in_wsL_law_r9 : ∀ w ∈ wsL_law_r9, w ∈ lw_tbl := mem_c [335, 339, 343, 347, 351] [333, 334, 336, 337, 338, 340, 342, 8, 344, 346, 9, 348, 349, 350, 151, 107, 352, 354, 353] rfl (by decide +kernel)
set_option maxRecDepth 20000 in
theorem in_wsL_law_r10 : ∀ w ∈ wsL_law_r10, w ∈ lw_tbl := mem_c [357, 361, 365, 369] [62, 355, 356, 63, 358, 360, 10, 100, 116, 110, 112, 114, 362, 363, 364, 366, 367, 368, 370, 371] rfl (by decide +kernel)
set_option maxRecDepth 20000 in
theorem in_wsL_law_r11 : ∀ w ∈ wsL_law_r11, w ∈ lw_tbl := mem_c [373, 377, 635, 640] [372, 374, 375, 376, 633, 634, 636, 661, 663, 664, 665, 666, 668, 670, 673, 674, 637, 639, 16, 641] rfl (by decide +kernel)
set_option maxRecDepth 20000 in
theorem in_wsL_law_r12 : ∀ w ∈ wsL_law_r12, w ∈ lw_tbl := mem_c [644, 648, 652, 656, 660] [643, 17, 645, 647, 18, 649, 651, 19, 653, 655, 20, 667, 669, 671, 657, 659, 21, 413, 414] rfl (by decide +kernel)
set_option maxRecDepth 20000 in
theorem in_wsL_law_r13 : ∀ w ∈ wsL_law_r13, w ∈ lw_tbl := mem_c [416, 707, 710, 420, 714, 424] [415, 704, 705, 706, 662, 708, 709, 417, 418, 419, 711, 712, 713, 421, 422, 423, 715, 716] rfl (by decide +kernel)
set_option maxRecDepth 20000 in
theorem in_wsL_law_r14 : ∀ w ∈ wsL_law_r14, w ∈ lw_tbl := mem_c [718, 722, 726, 730, 734, 737] [717, 719, 721, 22, 672, 723, 725, 23, 727, 729, 24, 731, 733, 25, 735, 736, 425, 426] rfl (by decide +kernel)
set_option maxRecDepth 20000 in
theorem in_wsL_law_r15 : ∀ w ∈ wsL_law_r15, w ∈ lw_tbl := mem_c [428, 432, 741, 436, 441] [427, 97, 429, 430, 431, 738, 739, 740, 433, 434, 435, 105, 155, 437, 438, 439, 440, 98, 442] rfl (by decide +kernel)
set_option maxRecDepth 20000 in
theorem in_wsL_law_r16 : ∀ w ∈ wsL_law_r16, w ∈ lw_tbl := mem_c [445, 745, 749, 753, 757, 450] [443, 444, 446, 742, 743, 744, 746, 748, 26, 750, 752, 27, 754, 756, 28, 447, 448, 449] rfl (by decide +kernel)
set_option maxRecDepth 20000 in
theorem in_wsL_law_r17 : ∀ w ∈ wsL_law_r17, w ∈ lw_tbl := mem_c [456, 460, 761, 765] [152, 158, 160, 451, 452, 453, 454, 455, 457, 458, 459, 94, 758, 759, 760, 762, 764, 29, 766, 768] rfl (by decide +kernel)
set_option maxRecDepth 20000 in
theorem in_wsL_law_r18 : ∀ w ∈ wsL_law_r18, w ∈ lw_tbl := mem_c [769, 773, 777, 780, 784, 464] [30, 770, 772, 31, 774, 776, 32, 778, 779, 781, 783, 33, 461, 462, 463, 162, 166, 164] rfl (by decide +kernel)
set_option maxRecDepth 20000 in
theorem in_wsL_law_r19 : ∀ w ∈ wsL_law_r19, w ∈ lw_tbl := mem_c [788, 792, 796, 468, 472] [168, 785, 786, 787, 789, 791, 34, 793, 795, 35, 465, 466, 467, 469, 470, 471, 200, 201, 477] rfl (by decide +kernel)
set_option maxRecDepth 20000 in
theorem in_wsL_law_r20 : ∀ w ∈ wsL_law_r20, w ∈ lw_tbl := mem_c [476, 800, 804, 808, 482] [473, 474, 475, 478, 797, 798, 799, 801, 803, 36, 805, 807, 37, 479, 480, 481, 483, 484, 485] rfl (by decide +kernel)
set_option maxRecDepth 20000 in
theorem in_wsL_law_r21 : ∀ w ∈ wsL_law_r21, w ∈ lw_tbl := mem_c [486, 491, 497, 501, 812] [102, 493, 487, 488, 490, 11, 492, 494, 496, 12, 498, 500, 13, 809, 810, 811, 813, 815, 38] rfl (by decide +kernel)
set_option maxRecDepth 20000 in
theorem in_wsL_law_r22 : ∀ w ∈ wsL_law_r22, w ∈ lw_tbl := mem_c [816, 820, 824, 828, 505, 832] [817, 819, 39, 821, 823, 40, 825, 827, 41, 502, 503, 504, 829, 830, 831, 506, 507, 508] rfl (by decide +kernel)
set_option maxRecDepth 20000 in
theorem in_wsL_law_r23 : ∀ w ∈ wsL_law_r23, w ∈ lw_tbl := mem_c [509, 513, 836, 518, 523, 840] [510, 511, 512, 514, 833, 834, 835, 515, 516, 517, 519, 520, 521, 522, 524, 837, 838, 839] rfl (by decide +kernel)
set_option maxRecDepth 20000 in
theorem in_wsL_law_r24 : ∀ w ∈ wsL_law_r24, w ∈ lw_tbl := mem_c [844, 848, 852, 528, 532, 856] [841, 843, 42, 845, 847, 43, 849, 851, 44, 525, 526, 527, 529, 530, 531, 853, 854, 855] rfl (by decide +kernel)
set_option maxRecDepth 20000 in
theorem in_wsL_law_r25 : ∀ w ∈ wsL_law_r25, w ∈ lw_tbl := mem_c [860, 536, 864, 540, 869] [857, 859, 45, 533, 534, 535, 861, 862, 863, 865, 537, 538, 539, 866, 867, 868, 541, 542, 543] rfl (by decide +kernel)
set_option maxRecDepth 20000 in
theorem in_wsL_law_r26 : ∀ w ∈ wsL_law_r26, w ∈ lw_tbl := mem_c [544, 548, 873, 552, 556, 877] [545, 546, 547, 870, 871, 872, 549, 550, 551, 553, 554, 555, 874, 875, 876, 878, 880, 46] rfl (by decide +kernel)
set_option maxRecDepth 20000 in
theorem in_wsL_law_r27 : ∀ w ∈ wsL_law_r27, w ∈ lw_tbl := mem_c [881, 560, 564, 885, 568, 889] [557, 558, 559, 561, 562, 563, 219, 882, 883, 884, 565, 566, 567, 886, 887, 888, 569, 570] rfl (by decide +kernel)
set_option maxRecDepth 20000 in
theorem in_wsL_law_r28 : ∀ w ∈ wsL_law_r28, w ∈ lw_tbl := mem_c [572, 576, 893, 897, 582] [571, 95, 573, 574, 575, 157, 577, 578, 890, 891, 892, 894, 896, 47, 579, 580, 581, 591, 583] rfl (by decide +kernel)
set_option maxRecDepth 20000 in
theorem in_wsL_law_r29 : ∀ w ∈ wsL_law_r29, w ∈ lw_tbl := mem_c [586, 590, 901, 595, 905, 599] [585, 14, 587, 588, 589, 898, 899, 900, 592, 593, 594, 902, 903, 904, 596, 597, 598, 600] rfl (by decide +kernel)
set_option maxRecDepth 20000 in
theorem in_wsL_law_r30 : ∀ w ∈ wsL_law_r30, w ∈ lw_tbl := mem_c [602, 610, 614, 618, 909] [601, 603, 604, 605, 606, 607, 609, 15, 611, 612, 613, 615, 616, 617, 906, 907, 908, 910, 911] rfl (by decide +kernel)
set_option maxRecDepth 20000 in
theorem in_wsL_law_r31 : ∀ w ∈ wsL_law_r31, w ∈ lw_tbl := mem_c [916, 920, 622, 924, 626] [912, 913, 915, 48, 917, 919, 49, 619, 620, 621, 921, 922, 923, 623, 624, 625, 925, 926, 927] rfl (by decide +kernel)
set_option maxRecDepth 20000 in
theorem in_wsL_law_r32 : ∀ w ∈ wsL_law_r32, w ∈ lw_tbl := mem_c [928, 630, 932] [627, 628, 629, 929, 930, 931] rfl (by decide +kernel)
theorem inX0 : ∀ w ∈ wsX00, w ∈ lw_tbl := mem_c [] [203, 205, 207] rfl (by decide +kernel)
theorem inX1 : ∀ w ∈ wsX10, w ∈ lw_tbl := mem_c [] [169, 171, 173, 175, 177, 179, 181, 183, 185, 187] rfl (by decide +kernel)
theorem inX2 : ∀ w ∈ wsX20, w ∈ lw_tbl := mem_c [] [81, 83] rfl (by decide +kernel)
theorem inX3 : ∀ w ∈ wsX30, w ∈ lw_tbl := mem_c [] [221, 223, 225, 227] rfl (by decide +kernel)
theorem inX4 : ∀ w ∈ wsX40, w ∈ lw_tbl := mem_c [] [117, 119, 121, 123, 125, 127, 129, 131, 133, 135, 137, 139] rfl (by decide +kernel)
theorem inX5 : ∀ w ∈ wsX50, w ∈ lw_tbl := mem_c [] [389, 391, 393, 395, 397, 399, 401, 403, 405, 407, 409] rfl (by decide +kernel)
theorem inX6 : ∀ w ∈ wsX60, w ∈ lw_tbl := mem_c [] [675, 677, 679, 681, 683, 685, 687, 689, 691, 693, 695, 697, 699, 701] rfl (by decide +kernel)
theorem wsL_law_in : ∀ w ∈ wsL_law, w ∈ lw_tbl := (mem_a (mem_a (mem_a (mem_a (mem_a (mem_a (mem_a (mem_a (mem_a in_wsL_law_r1 (mem_a in_wsL_law_r2 (mem_a in_wsL_law_r3 (mem_a in_wsL_law_r4 (mem_a in_wsL_law_r5 (mem_a in_wsL_law_r6 (mem_a in_wsL_law_r7 (mem_a in_wsL_law_r8 (mem_a in_wsL_law_r9 (mem_a in_wsL_law_r10 (mem_a in_wsL_law_r11 (mem_a in_wsL_law_r12 (mem_a in_wsL_law_r13 (mem_a in_wsL_law_r14 (mem_a in_wsL_law_r15 (mem_a in_wsL_law_r16 (mem_a in_wsL_law_r17 (mem_a in_wsL_law_r18 (mem_a in_wsL_law_r19 (mem_a in_wsL_law_r20 (mem_a in_wsL_law_r21 (mem_a in_wsL_law_r22 (mem_a in_wsL_law_r23 (mem_a in_wsL_law_r24 (mem_a in_wsL_law_r25 (mem_a in_wsL_law_r26 (mem_a in_wsL_law_r27 (mem_a in_wsL_law_r28 (mem_a in_wsL_law_r29 (mem_a in_wsL_law_r30 (mem_a in_wsL_law_r31 in_wsL_law_r32))))))))))))))))))))))))))))))) inX5) inX6) inX2) inX4) inX1) inX0) inX3) (fun _ h => absurd h List.not_mem_nil))
theorem inlX0 : ∀ w ∈ wsX00, w ∈ wsL_law := fun _ h => List.mem_append_left _ (List.mem_append_left _ (List.mem_append_right _ h))
theorem inlX1 : ∀ w ∈ wsX10, w ∈ wsL_law := fun _ h => List.mem_append_left _ (List.mem_append_left _ (List.mem_append_left _ (List.mem_append_right _ h)))
theorem inlX2 : ∀ w ∈ wsX20, w ∈ wsL_law := fun _ h => List.mem_append_left _ (List.mem_append_left _ (List.mem_append_left _ (List.mem_append_left _ (List.mem_append_left _ (List.mem_append_right _ h)))))
theorem inlX3 : ∀ w ∈ wsX30, w ∈ wsL_law := fun _ h => List.mem_append_left _ (List.mem_append_right _ h)
theorem inlX4 : ∀ w ∈ wsX40, w ∈ wsL_law := fun _ h => List.mem_append_left _ (List.mem_append_left _ (List.mem_append_left _ (List.mem_append_left _ (List.mem_append_right _ h))))
theorem inlX5 : ∀ w ∈ wsX50, w ∈ wsL_law := fun _ h => List.mem_append_left _ (List.mem_append_left _ (List.mem_append_left _ (List.mem_append_left _ (List.mem_append_left _ (List.mem_append_left _ (List.mem_append_left _ (List.mem_append_right _ h)))))))
theorem inlX6 : ∀ w ∈ wsX60, w ∈ wsL_law := fun _ h => List.mem_append_left _ (List.mem_append_left _ (List.mem_append_left _ (List.mem_append_left _ (List.mem_append_left _ (List.mem_append_left _ (List.mem_append_right _ h))))))
theorem inJx145de : ∀ w ∈ wsJx145de0, w ∈ lw_tbl := by decide +kernel
theorem inJx9f9b0 : ∀ w ∈ wsJx9f9b00, w ∈ lw_tbl := by decide +kernel
theorem inJxb160c : ∀ w ∈ wsJxb160c0, w ∈ lw_tbl := by decide +kernel
theorem inJ9 : ∀ w ∈ wsJ90, w ∈ lw_tbl := by decide +kernel
theorem inJ0 : ∀ w ∈ wsJ00, w ∈ lw_tbl := by decide +kernel
theorem inJ1 : ∀ w ∈ wsJ10, w ∈ lw_tbl := by decide +kernel
theorem inJ2 : ∀ w ∈ wsJ20, w ∈ lw_tbl := by decide +kernel
theorem inJ10 : ∀ w ∈ wsJ100, w ∈ lw_tbl := by decide +kernel
theorem inJxfd54e : ∀ w ∈ wsJxfd54e0, w ∈ lw_tbl := by decide +kernel
theorem inJx3cf43 : ∀ w ∈ wsJx3cf430, w ∈ lw_tbl := by decide +kernel
theorem inJ7 : ∀ w ∈ wsJ70, w ∈ lw_tbl := by decide +kernel
theorem inJ3 : ∀ w ∈ wsJ30, w ∈ lw_tbl := by decide +kernel
set_option maxRecDepth 20000 in
theorem ggX0_init_X1_init : GoodIn wsX0_init wsX1_init := goodIn_r _ [10, 11, 2, 3, 12, 13, 14, 15, 16, 17, 18, 19, 20, 21, 22, 26, 27, 28, 29, 30, 31, 32, 33, 34, 35] (by decide +kernel) (by decide +kernel)
set_option maxRecDepth 20000 in
theorem gX0_init_X1_init : GoodIn wsX0_init (wsX1_init) := ggX0_init_X1_init
abbrev vwCl : List vw_C := [(RX0, TX0, 3), (RX1, TX1, 10), (RX2, TX2, 2), (RX3, TX3, 4), (RX4, TX4, 12), (RX5, TX5, 11), (RX6, TX6, 14)]
end
section
theorem goodIn_c {big ws : List Cond} (qc qn : List Nat) (hc : ws.filter k2_isCode = qc.filterMap (fun i => big[i]?)) (hn : ws.filter (fun w => !k2_isCode w) = qn.filterMap (fun i => big[i]?)) (h : ws.all goodWord = true) : GoodIn big ws := fun w hw => ⟨mem_c qc qn hc hn w hw, good_of_word (List.all_eq_true.mp h w hw)⟩

set_option maxRecDepth 20000 in
theorem ggX0_remember_X1_copyFrom : GoodIn wsX0_remember wsX1_copyFrom := goodIn_c [12] [13, 14, 15, 16, 17, 18, 19, 20, 21, 22, 23, 24, 25, 29, 30, 31, 32, 33, 34, 35, 36, 37, 38] rfl (by decide +kernel) (by decide +kernel)
set_option maxRecDepth 20000 in
theorem gX0_remember_X1_copyFrom : GoodIn wsX0_remember (wsV RX0 24 RX1 yX1_copyFrom wsX1_copyFrom) := goodIn_app (goodIn_of _ (by decide +kernel)) ggX0_remember_X1_copyFrom
set_option maxRecDepth 20000 in
theorem ggX0_restore_X1_copyFrom : GoodIn wsX0_restore wsX1_copyFrom := goodIn_c [12] [13, 14, 15, 16, 17, 18, 19, 20, 21, 22, 23, 24, 25, 29, 30, 31, 32, 33, 34, 35, 36, 37, 38] rfl (by decide +kernel) (by decide +kernel)
set_option maxRecDepth 20000 in
theorem gX0_restore_X1_copyFrom : GoodIn wsX0_restore (wsV RX0 24 RX1 yX1_copyFrom wsX1_copyFrom) := goodIn_app (goodIn_of _ (by decide +kernel)) ggX0_restore_X1_copyFrom
set_option maxRecDepth 20000 in
theorem ggX1_begin_J7_fill_53178 : GoodIn wsX1_begin wsJ7_fill_53178 := goodIn_c [19] [] rfl (by decide +kernel) (by decide +kernel)
set_option maxRecDepth 20000 in
theorem gX1_begin_J7_fill_53178 : GoodIn wsX1_begin (va_wsS RX1 57 yJ7_fill_53178 wsJ7_fill_53178) := goodIn_app (goodIn_of _ (by decide +kernel)) ggX1_begin_J7_fill_53178
set_option maxRecDepth 20000 in
theorem ggX1_begin_X1_addToldPauses : GoodIn wsX1_begin wsX1_addToldPauses := goodIn_c [24, 33, 38, 43, 47] [3, 25, 26, 1, 27, 2, 28, 29, 30, 31, 32, 23, 12, 13, 14, 15, 34, 35, 36, 37, 39, 40, 41, 42, 44, 45, 46, 48, 49, 50, 51, 52, 53, 54, 55, 56, 57, 58, 59, 60, 61, 62, 63, 64, 65, 66, 67, 68, 69, 70, 71] rfl (by decide +kernel) (by decide +kernel)
set_option maxRecDepth 20000 in
theorem gX1_begin_X1_addToldPauses : GoodIn wsX1_begin (wsV RX1 63 RX1 yX1_addToldPauses wsX1_addToldPauses) := goodIn_app (goodIn_of _ (by decide +kernel)) ggX1_begin_X1_addToldPauses
set_option maxRecDepth 20000 in
theorem ggX1_addPause_X4_countedFor : GoodIn wsX1_addPause wsX4_countedFor := goodIn_c [11] [12, 33, 34, 35, 36, 37, 38, 39, 40, 41, 42, 43, 44] rfl (by decide +kernel) (by decide +kernel)
set_option maxRecDepth 20000 in
theorem gX1_addPause_X4_countedFor : GoodIn wsX1_addPause (wsV RX1 66 RX4 yX4_countedFor wsX4_countedFor) := goodIn_app (goodIn_of _ (by decide +kernel)) ggX1_addPause_X4_countedFor
set_option maxRecDepth 20000 in
theorem ggX1_addPause_X4_priceFor : GoodIn wsX1_addPause wsX4_priceFor := goodIn_c [16, 20] [12, 17, 18, 19, 10, 21, 22, 33, 34, 35, 36, 37, 38, 39, 40, 41, 42, 43, 44] rfl (by decide +kernel) (by decide +kernel)
set_option maxRecDepth 20000 in
theorem gX1_addPause_X4_priceFor : GoodIn wsX1_addPause (wsV RX1 70 RX4 yX4_priceFor wsX4_priceFor) := goodIn_app (goodIn_of _ (by decide +kernel)) ggX1_addPause_X4_priceFor
set_option maxRecDepth 20000 in
theorem ggX1_addToldPauses_X1_addPause : GoodIn wsX1_addToldPauses wsX1_addPause := goodIn_c [13, 22, 27, 31] [14, 15, 4, 16, 1, 17, 18, 19, 20, 21, 23, 24, 25, 26, 28, 29, 30, 32, 33, 34, 35, 36, 37, 38, 39, 40, 41, 42, 43, 44, 45, 46, 47, 48, 49, 50, 51, 52, 53, 54, 55] rfl (by decide +kernel) (by decide +kernel)
set_option maxRecDepth 20000 in
theorem gX1_addToldPauses_X1_addPause : GoodIn wsX1_addToldPauses (wsV RX1 89 RX1 yX1_addPause wsX1_addPause) := goodIn_app (goodIn_of _ (by decide +kernel)) ggX1_addToldPauses_X1_addPause
set_option maxRecDepth 20000 in
theorem ggX1_holdFair_X1_isFree : GoodIn wsX1_holdFair wsX1_isFree := goodIn_c [15] [16, 68, 69, 70, 71, 72, 73, 74, 75, 76, 77] rfl (by decide +kernel) (by decide +kernel)
set_option maxRecDepth 20000 in
theorem gX1_holdFair_X1_isFree : GoodIn wsX1_holdFair (wsV RX1 99 RX1 yX1_isFree wsX1_isFree) := goodIn_app (goodIn_of _ (by decide +kernel)) ggX1_holdFair_X1_isFree
set_option maxRecDepth 20000 in
theorem ggX1_holdFair_X1_sell : GoodIn wsX1_holdFair wsX1_sell := goodIn_c [20, 9, 26, 31, 35] [21, 4, 22, 6, 7, 8, 16, 23, 24, 25, 14, 1, 3, 27, 28, 29, 30, 32, 33, 34, 2, 68, 69, 70, 71, 72, 73, 74, 75, 76, 77, 78, 79, 80, 81, 82, 83, 84, 85, 86, 87, 88, 89] rfl (by decide +kernel) (by decide +kernel)
set_option maxRecDepth 20000 in
theorem gX1_holdFair_X1_sell : GoodIn wsX1_holdFair (wsV RX1 103 RX1 yX1_sell wsX1_sell) := goodIn_app (goodIn_of _ (by decide +kernel)) ggX1_holdFair_X1_sell
set_option maxRecDepth 20000 in
theorem ggX1_holdFair_X1_addToldPauses : GoodIn wsX1_holdFair wsX1_addToldPauses := goodIn_c [39, 49, 56, 61, 65] [1, 40, 41, 10, 42, 43, 44, 45, 46, 47, 48, 14, 50, 51, 27, 21, 52, 53, 54, 55, 57, 58, 59, 60, 62, 63, 64, 66, 67, 68, 69, 70, 71, 72, 73, 74, 75, 76, 77, 78, 79, 80, 81, 82, 83, 84, 85, 86, 87, 88, 89] rfl (by decide +kernel) (by decide +kernel)
set_option maxRecDepth 20000 in
theorem gX1_holdFair_X1_addToldPauses : GoodIn wsX1_holdFair (wsV RX1 63 RX1 yX1_addToldPauses wsX1_addToldPauses) := goodIn_app (goodIn_of _ (by decide +kernel)) ggX1_holdFair_X1_addToldPauses
set_option maxRecDepth 20000 in
theorem ggX1_holdFairs_X1_holdFair : GoodIn wsX1_holdFairs wsX1_holdFair := goodIn_c [5, 14, 19, 24, 30, 35, 39, 43, 53, 60, 65, 69] [6, 7, 8, 9, 10, 11, 12, 13, 15, 16, 17, 18, 4, 20, 21, 22, 23, 25, 26, 27, 28, 29, 31, 32, 33, 34, 36, 37, 38, 40, 41, 42, 44, 45, 46, 47, 48, 49, 50, 51, 52, 54, 55, 56, 57, 58, 59, 61, 62, 63, 64, 66, 67, 68, 70, 71, 72, 73, 74, 75, 76, 77, 78, 79, 80, 81, 82, 83, 84, 85, 86, 87, 88, 89, 90, 91, 92, 93] rfl (by decide +kernel) (by decide +kernel)
set_option maxRecDepth 20000 in
theorem gX1_holdFairs_X1_holdFair : GoodIn wsX1_holdFairs (wsV RX1 114 RX1 yX1_holdFair wsX1_holdFair) := goodIn_app (goodIn_of _ (by decide +kernel)) ggX1_holdFairs_X1_holdFair
set_option maxRecDepth 20000 in
theorem ggX1_fairsTillGone_X1_isFree : GoodIn wsX1_fairsTillGone wsX1_isFree := goodIn_c [5] [6, 72, 73, 74, 75, 76, 77, 78, 79, 80, 81] rfl (by decide +kernel) (by decide +kernel)
set_option maxRecDepth 20000 in
theorem gX1_fairsTillGone_X1_isFree : GoodIn wsX1_fairsTillGone (wsV RX1 99 RX1 yX1_isFree wsX1_isFree) := goodIn_app (goodIn_of _ (by decide +kernel)) ggX1_fairsTillGone_X1_isFree
set_option maxRecDepth 20000 in
theorem ggX1_fairsTillGone_X1_holdFair : GoodIn wsX1_fairsTillGone wsX1_holdFair := goodIn_c [10, 19, 5, 24, 30, 35, 39, 43, 53, 60, 65, 69] [11, 12, 13, 14, 15, 16, 17, 18, 20, 1, 2, 3, 4, 6, 21, 22, 23, 25, 26, 27, 28, 29, 31, 32, 33, 34, 36, 37, 38, 40, 41, 42, 44, 45, 46, 47, 48, 49, 50, 51, 52, 54, 55, 56, 57, 58, 59, 61, 62, 63, 64, 66, 67, 68, 70, 71, 72, 73, 74, 75, 76, 77, 78, 79, 80, 81, 82, 83, 84, 85, 86, 87, 88, 89, 90, 91, 92, 93] rfl (by decide +kernel) (by decide +kernel)
set_option maxRecDepth 20000 in
theorem gX1_fairsTillGone_X1_holdFair : GoodIn wsX1_fairsTillGone (wsV RX1 114 RX1 yX1_holdFair wsX1_holdFair) := goodIn_app (goodIn_of _ (by decide +kernel)) ggX1_fairsTillGone_X1_holdFair
set_option maxRecDepth 20000 in
theorem ggX1_sell_X1_claimantOf : GoodIn wsX1_sell wsX1_claimantOf := goodIn_c [13] [14, 15, 16, 26, 27, 28, 29, 30, 31, 32, 33, 34, 35, 36, 37, 38, 39, 40, 41, 42, 43, 44, 45, 46, 47] rfl (by decide +kernel) (by decide +kernel)
set_option maxRecDepth 20000 in
theorem gX1_sell_X1_claimantOf : GoodIn wsX1_sell (wsV RX1 118 RX1 yX1_claimantOf wsX1_claimantOf) := goodIn_app (goodIn_of _ (by decide +kernel)) ggX1_sell_X1_claimantOf
set_option maxRecDepth 20000 in
theorem ggX1_sell_X1_buyerInsteadOf : GoodIn wsX1_sell wsX1_buyerInsteadOf := goodIn_c [20, 24] [14, 15, 2, 21, 22, 23, 12, 25, 1, 26, 27, 28, 29, 30, 31, 32, 33, 34, 35, 36, 37, 38, 39, 40, 41, 42, 43, 44, 45, 46, 47] rfl (by decide +kernel) (by decide +kernel)
set_option maxRecDepth 20000 in
theorem gX1_sell_X1_buyerInsteadOf : GoodIn wsX1_sell (wsV RX1 122 RX1 yX1_buyerInsteadOf wsX1_buyerInsteadOf) := goodIn_app (goodIn_of _ (by decide +kernel)) ggX1_sell_X1_buyerInsteadOf
set_option maxRecDepth 20000 in
theorem ggX1_buyerInsteadOf_X1_dearestOf : GoodIn wsX1_buyerInsteadOf wsX1_dearestOf := goodIn_c [8] [1, 9, 10, 11, 12, 13, 14, 15, 16, 17, 18, 19, 20, 21, 22, 23, 24, 25, 26, 27, 28, 29, 30, 31, 32] rfl (by decide +kernel) (by decide +kernel)
set_option maxRecDepth 20000 in
theorem gX1_buyerInsteadOf_X1_dearestOf : GoodIn wsX1_buyerInsteadOf (wsV RX1 125 RX1 yX1_dearestOf wsX1_dearestOf) := goodIn_app (goodIn_of _ (by decide +kernel)) ggX1_buyerInsteadOf_X1_dearestOf
set_option maxRecDepth 20000 in
theorem ggX1_worthOf_X4_costIn : GoodIn wsX1_worthOf wsX4_costIn := goodIn_c [10] [11, 12, 23, 24, 25, 26, 27, 28, 29, 30, 31, 32, 33, 34] rfl (by decide +kernel) (by decide +kernel)
set_option maxRecDepth 20000 in
theorem gX1_worthOf_X4_costIn : GoodIn wsX1_worthOf (wsV RX1 128 RX4 yX4_costIn wsX4_costIn) := goodIn_app (goodIn_of _ (by decide +kernel)) ggX1_worthOf_X4_costIn
set_option maxRecDepth 20000 in
theorem ggX1_thingsGone_X1_isFree : GoodIn wsX1_thingsGone wsX1_isFree := goodIn_c [7] [8, 9, 10, 11, 12, 13, 14, 15, 16, 17, 18] rfl (by decide +kernel) (by decide +kernel)
set_option maxRecDepth 20000 in
theorem gX1_thingsGone_X1_isFree : GoodIn wsX1_thingsGone (wsV RX1 99 RX1 yX1_isFree wsX1_isFree) := goodIn_app (goodIn_of _ (by decide +kernel)) ggX1_thingsGone_X1_isFree
set_option maxRecDepth 20000 in
theorem ggX2_read_X4_clear : GoodIn wsX2_read wsX4_clear := goodIn_c [7] [8, 9, 10, 11, 12, 74, 75, 76, 77, 78, 79, 80, 81, 82, 83, 84, 85] rfl (by decide +kernel) (by decide +kernel)
set_option maxRecDepth 20000 in
theorem gX2_read_X4_clear : GoodIn wsX2_read (wsV RX2 15 RX4 yX4_clear wsX4_clear) := goodIn_app (goodIn_of _ (by decide +kernel)) ggX2_read_X4_clear
set_option maxRecDepth 20000 in
theorem ggX2_read_X2_readItem : GoodIn wsX2_read wsX2_readItem := goodIn_c [17, 21, 24, 28, 32] [1, 2, 18, 19, 20, 16, 22, 23, 25, 26, 27, 29, 30, 31, 72, 73] rfl (by decide +kernel) (by decide +kernel)
set_option maxRecDepth 20000 in
theorem gX2_read_X2_readItem : GoodIn wsX2_read (wsV RX2 24 RX2 yX2_readItem wsX2_readItem) := goodIn_app (goodIn_of _ (by decide +kernel)) ggX2_read_X2_readItem
set_option maxRecDepth 20000 in
theorem ggX2_read_X4_takeItem : GoodIn wsX2_read wsX4_takeItem := goodIn_c [36, 40, 46, 51, 59, 63, 67, 71] [37, 38, 39, 6, 8, 41, 42, 43, 44, 45, 9, 47, 48, 49, 50, 10, 52, 53, 54, 55, 56, 57, 58, 60, 61, 62, 64, 65, 66, 11, 68, 69, 70, 12, 74, 75, 76, 77, 78, 79, 80, 81, 82, 83, 84, 85] rfl (by decide +kernel) (by decide +kernel)
set_option maxRecDepth 20000 in
theorem gX2_read_X4_takeItem : GoodIn wsX2_read (wsV RX2 28 RX4 yX4_takeItem wsX4_takeItem) := goodIn_app (goodIn_of _ (by decide +kernel)) ggX2_read_X4_takeItem
set_option maxRecDepth 20000 in
theorem ggX2_readItem_X2_letterAt : GoodIn wsX2_readItem wsX2_letterAt := goodIn_c [7] [1, 19, 20] rfl (by decide +kernel) (by decide +kernel)
set_option maxRecDepth 20000 in
theorem gX2_readItem_X2_letterAt : GoodIn wsX2_readItem (wsV RX2 32 RX2 yX2_letterAt wsX2_letterAt) := goodIn_app (goodIn_of _ (by decide +kernel)) ggX2_readItem_X2_letterAt
set_option maxRecDepth 20000 in
theorem ggX2_readItem_X2_numbersDue : GoodIn wsX2_readItem wsX2_numbersDue := goodIn_c [10] [] rfl (by decide +kernel) (by decide +kernel)
set_option maxRecDepth 20000 in
theorem gX2_readItem_X2_numbersDue : GoodIn wsX2_readItem (va_wsS RX2 36 yX2_numbersDue wsX2_numbersDue) := goodIn_app (goodIn_of _ (by decide +kernel)) ggX2_readItem_X2_numbersDue
set_option maxRecDepth 20000 in
theorem ggX2_readItem_X2_readNumber : GoodIn wsX2_readItem wsX2_readNumber := goodIn_c [14, 18, 7] [15, 16, 17, 1, 3, 4, 5, 6, 19, 20] rfl (by decide +kernel) (by decide +kernel)
set_option maxRecDepth 20000 in
theorem gX2_readItem_X2_readNumber : GoodIn wsX2_readItem (wsV RX2 40 RX2 yX2_readNumber wsX2_readNumber) := goodIn_app (goodIn_of _ (by decide +kernel)) ggX2_readItem_X2_readNumber
set_option maxRecDepth 20000 in
theorem ggX2_readNumber_X2_letterAt : GoodIn wsX2_readNumber wsX2_letterAt := goodIn_c [10] [5, 11, 12] rfl (by decide +kernel) (by decide +kernel)
set_option maxRecDepth 20000 in
theorem gX2_readNumber_X2_letterAt : GoodIn wsX2_readNumber (wsV RX2 32 RX2 yX2_letterAt wsX2_letterAt) := goodIn_app (goodIn_of _ (by decide +kernel)) ggX2_readNumber_X2_letterAt
set_option maxRecDepth 20000 in
theorem ggX3_allHoldIn_X1_begin : GoodIn wsX3_allHoldIn wsX1_begin := goodIn_c [10, 29, 33, 42, 47, 52, 56] [11, 12, 13, 14, 15, 16, 17, 18, 19, 20, 21, 22, 23, 24, 25, 26, 27, 28, 30, 31, 32, 9, 34, 35, 36, 37, 38, 39, 40, 41, 43, 44, 45, 46, 48, 49, 50, 51, 53, 54, 55, 57, 58, 94, 95, 96, 97, 98, 99, 100, 101, 102, 103, 104, 105, 106, 107, 108, 109, 110, 111, 112, 113, 114, 115] rfl (by decide +kernel) (by decide +kernel)
set_option maxRecDepth 20000 in
theorem gX3_allHoldIn_X1_begin : GoodIn wsX3_allHoldIn (wsV RX3 25 RX1 yX1_begin wsX1_begin) := goodIn_app (goodIn_of _ (by decide +kernel)) ggX3_allHoldIn_X1_begin
set_option maxRecDepth 20000 in
theorem ggX3_allHoldIn_X1_holdFair : GoodIn wsX3_allHoldIn wsX1_holdFair := goodIn_c [62, 69, 73, 77, 81, 85, 89, 33, 42, 47, 52, 56] [13, 63, 64, 15, 65, 66, 67, 68, 11, 70, 71, 72, 9, 20, 74, 75, 76, 25, 21, 78, 79, 80, 24, 82, 83, 84, 86, 87, 88, 30, 31, 32, 34, 35, 36, 12, 37, 38, 39, 40, 41, 22, 23, 43, 44, 45, 46, 48, 49, 50, 51, 53, 54, 55, 57, 58, 94, 95, 96, 97, 98, 99, 100, 101, 102, 103, 104, 105, 106, 107, 108, 109, 110, 111, 112, 113, 114, 115] rfl (by decide +kernel) (by decide +kernel)
set_option maxRecDepth 20000 in
theorem gX3_allHoldIn_X1_holdFair : GoodIn wsX3_allHoldIn (wsV RX3 31 RX1 yX1_holdFair wsX1_holdFair) := goodIn_app (goodIn_of _ (by decide +kernel)) ggX3_allHoldIn_X1_holdFair
set_option maxRecDepth 20000 in
theorem ggX4_takeItem_X4_takePerson : GoodIn wsX4_takeItem wsX4_takePerson := goodIn_c [5] [6, 7, 8, 42, 43, 44, 45, 46, 47, 48, 49, 50, 51, 52, 53] rfl (by decide +kernel) (by decide +kernel)
set_option maxRecDepth 20000 in
theorem gX4_takeItem_X4_takePerson : GoodIn wsX4_takeItem (wsV RX4 49 RX4 yX4_takePerson wsX4_takePerson) := goodIn_app (goodIn_of _ (by decide +kernel)) ggX4_takeItem_X4_takePerson
set_option maxRecDepth 20000 in
theorem ggX4_takeItem_X4_takeThing : GoodIn wsX4_takeItem wsX4_takeThing := goodIn_c [12] [13, 14, 42, 43, 44, 45, 46, 47, 48, 49, 50, 51, 52, 53] rfl (by decide +kernel) (by decide +kernel)
set_option maxRecDepth 20000 in
theorem gX4_takeItem_X4_takeThing : GoodIn wsX4_takeItem (wsV RX4 53 RX4 yX4_takeThing wsX4_takeThing) := goodIn_app (goodIn_of _ (by decide +kernel)) ggX4_takeItem_X4_takeThing
set_option maxRecDepth 20000 in
theorem ggX4_takeItem_X4_takePause : GoodIn wsX4_takeItem wsX4_takePause := goodIn_c [18, 27, 31] [19, 20, 21, 22, 23, 24, 25, 26, 4, 6, 28, 29, 30, 13, 42, 43, 44, 45, 46, 47, 48, 49, 50, 51, 52, 53] rfl (by decide +kernel) (by decide +kernel)
set_option maxRecDepth 20000 in
theorem gX4_takeItem_X4_takePause : GoodIn wsX4_takeItem (wsV RX4 57 RX4 yX4_takePause wsX4_takePause) := goodIn_app (goodIn_of _ (by decide +kernel)) ggX4_takeItem_X4_takePause
set_option maxRecDepth 20000 in
theorem ggX4_takeItem_X4_takeEarned : GoodIn wsX4_takeItem wsX4_takeEarned := goodIn_c [35] [36, 42, 43, 44, 45, 46, 47, 48, 49, 50, 51, 52, 53] rfl (by decide +kernel) (by decide +kernel)
set_option maxRecDepth 20000 in
theorem gX4_takeItem_X4_takeEarned : GoodIn wsX4_takeItem (wsV RX4 61 RX4 yX4_takeEarned wsX4_takeEarned) := goodIn_app (goodIn_of _ (by decide +kernel)) ggX4_takeItem_X4_takeEarned
set_option maxRecDepth 20000 in
theorem ggX4_takeItem_X4_takeDearer : GoodIn wsX4_takeItem wsX4_takeDearer := goodIn_c [40] [41, 42, 43, 44, 45, 46, 47, 48, 49, 50, 51, 52, 53] rfl (by decide +kernel) (by decide +kernel)
set_option maxRecDepth 20000 in
theorem gX4_takeItem_X4_takeDearer : GoodIn wsX4_takeItem (wsV RX4 64 RX4 yX4_takeDearer wsX4_takeDearer) := goodIn_app (goodIn_of _ (by decide +kernel)) ggX4_takeItem_X4_takeDearer
set_option maxRecDepth 20000 in
theorem ggX4_takePause_X4_hasPerson : GoodIn wsX4_takePause wsX4_hasPerson := goodIn_c [10] [11, 17, 18, 19, 20, 21, 22, 23, 24, 25, 26, 27, 28] rfl (by decide +kernel) (by decide +kernel)
set_option maxRecDepth 20000 in
theorem gX4_takePause_X4_hasPerson : GoodIn wsX4_takePause (wsV RX4 67 RX4 yX4_hasPerson wsX4_hasPerson) := goodIn_app (goodIn_of _ (by decide +kernel)) ggX4_takePause_X4_hasPerson
set_option maxRecDepth 20000 in
theorem ggX4_takePause_X4_hasThing : GoodIn wsX4_takePause wsX4_hasThing := goodIn_c [15] [16, 17, 18, 19, 20, 21, 22, 23, 24, 25, 26, 27, 28] rfl (by decide +kernel) (by decide +kernel)
set_option maxRecDepth 20000 in
theorem gX4_takePause_X4_hasThing : GoodIn wsX4_takePause (wsV RX4 70 RX4 yX4_hasThing wsX4_hasThing) := goodIn_app (goodIn_of _ (by decide +kernel)) ggX4_takePause_X4_hasThing
set_option maxRecDepth 20000 in
theorem ggX4_priceFor_X4_costIn : GoodIn wsX4_priceFor wsX4_costIn := goodIn_c [6] [7, 8, 9, 10, 11, 12, 13, 14, 15, 16, 17, 18, 19, 20] rfl (by decide +kernel) (by decide +kernel)
set_option maxRecDepth 20000 in
theorem gX4_priceFor_X4_costIn : GoodIn wsX4_priceFor (wsV RX4 73 RX4 yX4_costIn wsX4_costIn) := goodIn_app (goodIn_of _ (by decide +kernel)) ggX4_priceFor_X4_costIn
set_option maxRecDepth 20000 in
theorem ggX5_init_X2_init : GoodIn wsX5_init wsX2_init := goodIn_c [31, 3] [32, 2, 4, 33, 250, 251] rfl (by decide +kernel) (by decide +kernel)
set_option maxRecDepth 20000 in
theorem gX5_init_X2_init_n15 : GoodIn wsX5_init (wsX2_init) := ggX5_init_X2_init
set_option maxRecDepth 20000 in
theorem ggX5_init_X4_init : GoodIn wsX5_init wsX4_init := goodIn_c [35, 3] [36, 2, 4, 37, 38, 39, 40, 41, 42, 43, 252, 253, 254, 255, 256, 257, 258, 259, 260, 261, 262, 263] rfl (by decide +kernel) (by decide +kernel)
set_option maxRecDepth 20000 in
theorem gX5_init_X4_init_n22 : GoodIn wsX5_init (wsX4_init) := ggX5_init_X4_init
set_option maxRecDepth 20000 in
theorem ggX5_init_X1_init : GoodIn wsX5_init wsX1_init := goodIn_c [46, 3] [47, 2, 48, 4, 49, 50, 51, 52, 53, 54, 55, 56, 57, 264, 265, 266, 267, 268, 269, 270, 271, 272, 273] rfl (by decide +kernel) (by decide +kernel)
set_option maxRecDepth 20000 in
theorem gX5_init_X1_init : GoodIn wsX5_init (wsX1_init) := ggX5_init_X1_init
set_option maxRecDepth 20000 in
theorem ggX5_init_X0_init : GoodIn wsX5_init wsX0_init := goodIn_c [60, 3, 46] [61, 2, 62, 63, 16, 17, 64, 45, 47, 48, 4, 49, 50, 51, 52, 53, 54, 55, 56, 57, 274, 275, 276, 264, 265, 266, 267, 268, 269, 270, 271, 272, 273] rfl (by decide +kernel) (by decide +kernel)
set_option maxRecDepth 20000 in
theorem gX5_init_X0_init : GoodIn wsX5_init (wsX0_init) := ggX5_init_X0_init
set_option maxRecDepth 20000 in
theorem ggX5_init_X3_init : GoodIn wsX5_init wsX3_init := goodIn_c [66, 3] [67, 2, 4, 68, 69, 70, 277, 278, 279, 280] rfl (by decide +kernel) (by decide +kernel)
set_option maxRecDepth 20000 in
theorem gX5_init_X3_init_n55 : GoodIn wsX5_init (wsX3_init) := ggX5_init_X3_init
set_option maxRecDepth 20000 in
theorem ggX5_init_X5_putFirstText : GoodIn wsX5_init wsX5_putFirstText := goodIn_c [75, 79, 84, 89, 95, 99, 103, 106, 111, 115, 118, 121, 125] [76, 77, 78, 29, 5, 80, 81, 82, 83, 85, 86, 87, 88, 90, 91, 92, 93, 94, 96, 97, 98, 100, 101, 102, 104, 105, 107, 108, 109, 110, 112, 113, 114, 116, 117, 119, 120, 122, 123, 124, 126, 127, 128, 239, 240, 241, 242, 243, 244, 245, 246, 247, 248, 249] rfl (by decide +kernel) (by decide +kernel)
set_option maxRecDepth 20000 in
theorem gX5_init_X5_putFirstText : GoodIn wsX5_init (wsV RX5 60 RX5 yX5_putFirstText wsX5_putFirstText) := goodIn_app (goodIn_of _ (by decide +kernel)) ggX5_init_X5_putFirstText
set_option maxRecDepth 20000 in
theorem ggX5_init_X5_layTheText : GoodIn wsX5_init wsX5_layTheText := goodIn_c [132, 139, 144, 153, 157, 160, 164, 167, 171, 175, 179, 183, 187, 191, 195, 199, 203, 213, 217, 226, 230, 234, 238] [9, 5, 29, 14, 18, 23, 133, 134, 28, 135, 136, 137, 138, 8, 140, 33, 141, 142, 143, 12, 145, 146, 147, 148, 149, 150, 151, 152, 154, 155, 156, 158, 159, 161, 162, 163, 165, 166, 78, 168, 169, 170, 172, 173, 174, 37, 38, 176, 177, 178, 39, 180, 181, 182, 40, 41, 42, 43, 184, 185, 186, 188, 189, 190, 192, 193, 194, 196, 197, 198, 200, 201, 202, 17, 204, 48, 57, 205, 49, 206, 207, 208, 209, 50, 51, 53, 54, 55, 56, 210, 211, 212, 214, 215, 216, 218, 219, 220, 221, 222, 223, 224, 225, 227, 228, 229, 231, 232, 233, 235, 236, 237, 239, 240, 241, 242, 243, 244, 245, 246, 247, 248, 249, 274, 275, 276, 277, 278, 279, 280, 250, 251, 252, 253, 254, 255, 256, 257, 258, 259, 260, 261, 262, 263, 264, 265, 266, 267, 268, 269, 270, 271, 272, 273] rfl (by decide +kernel) (by decide +kernel)
set_option maxRecDepth 20000 in
theorem gX5_init_X5_layTheText : GoodIn wsX5_init (wsV RX5 63 RX5 yX5_layTheText wsX5_layTheText) := goodIn_app (goodIn_of _ (by decide +kernel)) ggX5_init_X5_layTheText
set_option maxRecDepth 20000 in
theorem ggX5_fault_X2_read : GoodIn wsX5_fault wsX2_read := goodIn_c [9, 16, 25, 29, 32, 36, 40, 44, 48, 54, 59, 67, 71, 75, 79] [10, 11, 12, 13, 14, 15, 17, 18, 19, 20, 21, 22, 23, 24, 8, 26, 27, 28, 30, 31, 33, 34, 35, 37, 38, 39, 41, 42, 43, 45, 46, 47, 49, 50, 51, 52, 53, 55, 56, 57, 58, 60, 61, 62, 63, 64, 65, 66, 68, 69, 70, 72, 73, 74, 76, 77, 78, 91, 92, 93, 94, 95, 96, 97, 98, 99, 100, 101, 102, 103, 104] rfl (by decide +kernel) (by decide +kernel)
set_option maxRecDepth 20000 in
theorem gX5_fault_X2_read : GoodIn wsX5_fault (wsV RX5 70 RX2 yX2_read wsX2_read) := goodIn_app (goodIn_of _ (by decide +kernel)) ggX5_fault_X2_read
set_option maxRecDepth 20000 in
theorem ggX5_lay_X2_read : GoodIn wsX5_lay wsX2_read := goodIn_c [11, 18, 27, 31, 34, 38, 42, 46, 50, 56, 61, 69, 73, 77, 81] [12, 13, 14, 15, 16, 17, 19, 20, 21, 22, 23, 24, 25, 26, 10, 28, 29, 30, 32, 33, 35, 36, 37, 39, 40, 41, 43, 44, 45, 47, 48, 49, 51, 52, 53, 54, 55, 57, 58, 59, 60, 62, 63, 64, 65, 66, 67, 68, 70, 71, 72, 74, 75, 76, 78, 79, 80, 169, 170, 157, 158, 159, 160, 161, 162, 163, 164, 165, 166, 167, 168] rfl (by decide +kernel) (by decide +kernel)
set_option maxRecDepth 20000 in
theorem gX5_lay_X2_read : GoodIn wsX5_lay (wsV RX5 70 RX2 yX2_read wsX2_read) := goodIn_app (goodIn_of _ (by decide +kernel)) ggX5_lay_X2_read
set_option maxRecDepth 20000 in
theorem ggX5_lay_X4_canBeLaid : GoodIn wsX5_lay wsX4_canBeLaid := goodIn_c [85] [19, 20, 157, 158, 159, 160, 161, 162, 163, 164, 165, 166, 167, 168] rfl (by decide +kernel) (by decide +kernel)
set_option maxRecDepth 20000 in
theorem gX5_lay_X4_canBeLaid : GoodIn wsX5_lay (wsV RX5 74 RX4 yX4_canBeLaid wsX4_canBeLaid) := goodIn_app (goodIn_of _ (by decide +kernel)) ggX5_lay_X4_canBeLaid
set_option maxRecDepth 20000 in
theorem ggX5_lay_X5_layTheText : GoodIn wsX5_lay wsX5_layTheText := goodIn_c [90, 11, 18, 27, 31, 34, 38, 42, 46, 50, 56, 61, 69, 73, 77, 81, 101, 120, 124, 133, 137, 141, 145] [1, 2, 3, 5, 91, 92, 93, 94, 95, 96, 7, 8, 9, 10, 12, 13, 14, 15, 16, 17, 19, 20, 21, 22, 23, 24, 25, 26, 28, 29, 30, 32, 33, 35, 36, 37, 39, 40, 41, 43, 44, 45, 47, 48, 49, 51, 52, 53, 54, 55, 57, 58, 59, 60, 62, 63, 64, 65, 66, 67, 68, 70, 71, 72, 74, 75, 76, 78, 79, 80, 97, 98, 99, 100, 102, 103, 104, 105, 106, 107, 108, 109, 110, 111, 112, 113, 114, 115, 116, 117, 118, 119, 121, 122, 123, 125, 126, 127, 128, 129, 130, 131, 132, 134, 135, 136, 138, 139, 140, 142, 143, 144, 146, 147, 148, 149, 150, 151, 152, 153, 154, 155, 156, 171, 172, 173, 174, 175, 176, 177, 169, 170, 157, 158, 159, 160, 161, 162, 163, 164, 165, 166, 167, 168, 178, 179, 180, 181, 182, 183, 184, 185, 186, 187] rfl (by decide +kernel) (by decide +kernel)
set_option maxRecDepth 20000 in
theorem gX5_lay_X5_layTheText : GoodIn wsX5_lay (wsV RX5 63 RX5 yX5_layTheText wsX5_layTheText) := goodIn_app (goodIn_of _ (by decide +kernel)) ggX5_lay_X5_layTheText
set_option maxRecDepth 20000 in
theorem ggX5_person_X4_hasPerson : GoodIn wsX5_person wsX4_hasPerson := goodIn_c [9] [10, 42, 43, 44, 45, 46, 47, 48, 49, 50, 51, 52, 53] rfl (by decide +kernel) (by decide +kernel)
set_option maxRecDepth 20000 in
theorem gX5_person_X4_hasPerson : GoodIn wsX5_person (wsV RX5 81 RX4 yX4_hasPerson wsX4_hasPerson) := goodIn_app (goodIn_of _ (by decide +kernel)) ggX5_person_X4_hasPerson
set_option maxRecDepth 20000 in
theorem ggX5_person_X1_thingsOf : GoodIn wsX5_person wsX1_thingsOf := goodIn_c [15] [16, 17, 18, 54, 55, 56, 57, 58, 59, 60, 61, 62, 63, 42, 43, 44, 45, 46, 47, 48, 49, 50, 51, 52, 53] rfl (by decide +kernel) (by decide +kernel)
set_option maxRecDepth 20000 in
theorem gX5_person_X1_thingsOf : GoodIn wsX5_person (wsV RX5 91 RX1 yX1_thingsOf wsX1_thingsOf) := goodIn_app (goodIn_of _ (by decide +kernel)) ggX5_person_X1_thingsOf
set_option maxRecDepth 20000 in
theorem ggX5_person_X1_worthOf : GoodIn wsX5_person wsX1_worthOf := goodIn_c [22, 28] [23, 16, 17, 18, 24, 25, 26, 27, 8, 29, 30, 54, 55, 56, 57, 58, 59, 60, 61, 62, 63, 42, 43, 44, 45, 46, 47, 48, 49, 50, 51, 52, 53] rfl (by decide +kernel) (by decide +kernel)
set_option maxRecDepth 20000 in
theorem gX5_person_X1_worthOf : GoodIn wsX5_person (wsV RX5 95 RX1 yX1_worthOf wsX1_worthOf) := goodIn_app (goodIn_of _ (by decide +kernel)) ggX5_person_X1_worthOf
set_option maxRecDepth 20000 in
theorem ggX5_thing_X4_hasThing : GoodIn wsX5_thing wsX4_hasThing := goodIn_c [10] [11, 52, 53, 54, 55, 56, 57, 58, 59, 60, 61, 62, 63] rfl (by decide +kernel) (by decide +kernel)
set_option maxRecDepth 20000 in
theorem gX5_thing_X4_hasThing : GoodIn wsX5_thing (wsV RX5 98 RX4 yX4_hasThing wsX4_hasThing) := goodIn_app (goodIn_of _ (by decide +kernel)) ggX5_thing_X4_hasThing
set_option maxRecDepth 20000 in
theorem ggX5_thing_X4_costIn : GoodIn wsX5_thing wsX4_costIn := goodIn_c [15] [16, 17, 52, 53, 54, 55, 56, 57, 58, 59, 60, 61, 62, 63] rfl (by decide +kernel) (by decide +kernel)
set_option maxRecDepth 20000 in
theorem gX5_thing_X4_costIn : GoodIn wsX5_thing (wsV RX5 104 RX4 yX4_costIn wsX4_costIn) := goodIn_app (goodIn_of _ (by decide +kernel)) ggX5_thing_X4_costIn
set_option maxRecDepth 20000 in
theorem ggX5_thing_X1_isFree : GoodIn wsX5_thing wsX1_isFree := goodIn_c [22] [23, 42, 43, 44, 45, 46, 47, 48, 49, 50, 51] rfl (by decide +kernel) (by decide +kernel)
set_option maxRecDepth 20000 in
theorem gX5_thing_X1_isFree : GoodIn wsX5_thing (wsV RX5 114 RX1 yX1_isFree wsX1_isFree) := goodIn_app (goodIn_of _ (by decide +kernel)) ggX5_thing_X1_isFree
set_option maxRecDepth 20000 in
theorem ggX5_thing_X1_claimantOf : GoodIn wsX5_thing wsX1_claimantOf := goodIn_c [27] [28, 29, 30, 42, 43, 44, 45, 46, 47, 48, 49, 50, 51, 52, 53, 54, 55, 56, 57, 58, 59, 60, 61, 62, 63] rfl (by decide +kernel) (by decide +kernel)
set_option maxRecDepth 20000 in
theorem gX5_thing_X1_claimantOf : GoodIn wsX5_thing (wsV RX5 117 RX1 yX1_claimantOf wsX1_claimantOf) := goodIn_app (goodIn_of _ (by decide +kernel)) ggX5_thing_X1_claimantOf
set_option maxRecDepth 20000 in
theorem ggX5_nearly_X4_hasPerson : GoodIn wsX5_nearly wsX4_hasPerson := goodIn_c [11] [12, 39, 40, 41, 42, 43, 44, 45, 46, 47, 48, 49, 50] rfl (by decide +kernel) (by decide +kernel)
set_option maxRecDepth 20000 in
theorem gX5_nearly_X4_hasPerson : GoodIn wsX5_nearly (wsV RX5 81 RX4 yX4_hasPerson wsX4_hasPerson) := goodIn_app (goodIn_of _ (by decide +kernel)) ggX5_nearly_X4_hasPerson
set_option maxRecDepth 20000 in
theorem ggX5_nearly_X4_hasThing : GoodIn wsX5_nearly wsX4_hasThing := goodIn_c [16] [17, 39, 40, 41, 42, 43, 44, 45, 46, 47, 48, 49, 50] rfl (by decide +kernel) (by decide +kernel)
set_option maxRecDepth 20000 in
theorem gX5_nearly_X4_hasThing : GoodIn wsX5_nearly (wsV RX5 98 RX4 yX4_hasThing wsX4_hasThing) := goodIn_app (goodIn_of _ (by decide +kernel)) ggX5_nearly_X4_hasThing
set_option maxRecDepth 20000 in
theorem ggX5_pause_X4_hasPerson : GoodIn wsX5_pause wsX4_hasPerson := goodIn_c [9] [10, 87, 88, 89, 90, 91, 92, 93, 94, 95, 96, 97, 98] rfl (by decide +kernel) (by decide +kernel)
set_option maxRecDepth 20000 in
theorem gX5_pause_X4_hasPerson : GoodIn wsX5_pause (wsV RX5 81 RX4 yX4_hasPerson wsX4_hasPerson) := goodIn_app (goodIn_of _ (by decide +kernel)) ggX5_pause_X4_hasPerson
set_option maxRecDepth 20000 in
theorem ggX5_pause_X4_hasThing : GoodIn wsX5_pause wsX4_hasThing := goodIn_c [14] [15, 87, 88, 89, 90, 91, 92, 93, 94, 95, 96, 97, 98] rfl (by decide +kernel) (by decide +kernel)
set_option maxRecDepth 20000 in
theorem gX5_pause_X4_hasThing : GoodIn wsX5_pause (wsV RX5 98 RX4 yX4_hasThing wsX4_hasThing) := goodIn_app (goodIn_of _ (by decide +kernel)) ggX5_pause_X4_hasThing
set_option maxRecDepth 20000 in
theorem ggX5_pause_X0_remember : GoodIn wsX5_pause wsX0_remember := goodIn_c [20, 27, 32] [21, 22, 23, 24, 25, 26, 28, 29, 30, 31, 33, 34, 35, 36, 37, 38, 39, 40, 41, 42, 43, 44, 45, 99, 100, 101, 77, 78, 79, 80, 81, 82, 83, 84, 85, 86] rfl (by decide +kernel) (by decide +kernel)
set_option maxRecDepth 20000 in
theorem gX5_pause_X0_remember : GoodIn wsX5_pause (wsV RX5 133 RX0 yX0_remember wsX0_remember) := goodIn_app (goodIn_of _ (by decide +kernel)) ggX5_pause_X0_remember
set_option maxRecDepth 20000 in
theorem ggX5_pause_X1_addPause : GoodIn wsX5_pause wsX1_addPause := goodIn_c [49, 54, 59, 63] [42, 43, 33, 44, 50, 45, 51, 52, 53, 8, 55, 56, 57, 58, 60, 61, 62, 64, 65, 77, 78, 79, 80, 81, 82, 83, 84, 85, 86, 87, 88, 89, 90, 91, 92, 93, 94, 95, 96, 97, 98] rfl (by decide +kernel) (by decide +kernel)
set_option maxRecDepth 20000 in
theorem gX5_pause_X1_addPause : GoodIn wsX5_pause (wsV RX5 137 RX1 yX1_addPause wsX1_addPause) := goodIn_app (goodIn_of _ (by decide +kernel)) ggX5_pause_X1_addPause
set_option maxRecDepth 20000 in
theorem ggX5_fair_X0_remember : GoodIn wsX5_fair wsX0_remember := goodIn_c [8, 15, 20] [9, 10, 11, 12, 13, 14, 16, 17, 18, 19, 21, 22, 23, 24, 25, 26, 27, 28, 29, 30, 31, 32, 33, 113, 114, 115, 103, 104, 105, 106, 107, 108, 109, 110, 111, 112] rfl (by decide +kernel) (by decide +kernel)
set_option maxRecDepth 20000 in
theorem gX5_fair_X0_remember : GoodIn wsX5_fair (wsV RX5 133 RX0 yX0_remember wsX0_remember) := goodIn_app (goodIn_of _ (by decide +kernel)) ggX5_fair_X0_remember
set_option maxRecDepth 20000 in
theorem ggX5_fair_X1_holdFair : GoodIn wsX5_fair wsX1_holdFair := goodIn_c [37, 15, 46, 50, 54, 58, 62, 66, 75, 80, 85, 89] [38, 39, 40, 23, 41, 42, 13, 14, 21, 43, 44, 45, 19, 28, 47, 48, 49, 33, 29, 51, 52, 53, 32, 55, 56, 57, 59, 60, 61, 63, 64, 65, 67, 68, 69, 22, 70, 71, 72, 73, 74, 30, 31, 76, 77, 78, 79, 81, 82, 83, 84, 86, 87, 88, 90, 91, 103, 104, 105, 106, 107, 108, 109, 110, 111, 112, 116, 117, 118, 119, 120, 121, 122, 123, 124, 125, 126, 127] rfl (by decide +kernel) (by decide +kernel)
set_option maxRecDepth 20000 in
theorem gX5_fair_X1_holdFair : GoodIn wsX5_fair (wsV RX5 141 RX1 yX1_holdFair wsX1_holdFair) := goodIn_app (goodIn_of _ (by decide +kernel)) ggX5_fair_X1_holdFair
set_option maxRecDepth 20000 in
theorem ggX5_give_X4_hasPerson : GoodIn wsX5_give wsX4_hasPerson := goodIn_c [9] [10, 62, 63, 64, 65, 66, 67, 68, 69, 70, 71, 72, 73] rfl (by decide +kernel) (by decide +kernel)
set_option maxRecDepth 20000 in
theorem gX5_give_X4_hasPerson : GoodIn wsX5_give (wsV RX5 81 RX4 yX4_hasPerson wsX4_hasPerson) := goodIn_app (goodIn_of _ (by decide +kernel)) ggX5_give_X4_hasPerson
set_option maxRecDepth 20000 in
theorem ggX5_give_X0_remember : GoodIn wsX5_give wsX0_remember := goodIn_c [15, 22, 27] [16, 17, 18, 19, 20, 21, 23, 24, 25, 26, 28, 29, 30, 31, 32, 33, 34, 35, 36, 37, 38, 39, 40, 74, 75, 76, 52, 53, 54, 55, 56, 57, 58, 59, 60, 61] rfl (by decide +kernel) (by decide +kernel)
set_option maxRecDepth 20000 in
theorem gX5_give_X0_remember : GoodIn wsX5_give (wsV RX5 133 RX0 yX0_remember wsX0_remember) := goodIn_app (goodIn_of _ (by decide +kernel)) ggX5_give_X0_remember
set_option maxRecDepth 20000 in
theorem ggX5_undo_X0_restore : GoodIn wsX5_undo wsX0_restore := goodIn_c [8, 14, 20] [9, 10, 11, 12, 13, 15, 16, 17, 18, 19, 21, 22, 23, 24, 25, 26, 27, 28, 29, 30, 31, 32, 33, 45, 46, 47, 48, 49, 50, 51, 52, 53, 54, 55, 56, 57] rfl (by decide +kernel) (by decide +kernel)
set_option maxRecDepth 20000 in
theorem gX5_undo_X0_restore : GoodIn wsX5_undo (wsV RX5 148 RX0 yX0_restore wsX0_restore) := goodIn_app (goodIn_of _ (by decide +kernel)) ggX5_undo_X0_restore
set_option maxRecDepth 20000 in
theorem ggX5_behind_X4_hasThing : GoodIn wsX5_behind wsX4_hasThing := goodIn_c [9] [10, 114, 115, 116, 117, 118, 119, 120, 121, 122, 123, 124, 125] rfl (by decide +kernel) (by decide +kernel)
set_option maxRecDepth 20000 in
theorem gX5_behind_X4_hasThing : GoodIn wsX5_behind (wsV RX5 98 RX4 yX4_hasThing wsX4_hasThing) := goodIn_app (goodIn_of _ (by decide +kernel)) ggX5_behind_X4_hasThing
set_option maxRecDepth 20000 in
theorem ggX5_behind_X1_copyFrom : GoodIn wsX5_behind wsX1_copyFrom := goodIn_c [15] [16, 17, 18, 19, 20, 21, 22, 23, 24, 25, 26, 27, 28, 104, 105, 106, 107, 108, 109, 110, 111, 112, 113] rfl (by decide +kernel) (by decide +kernel)
set_option maxRecDepth 20000 in
theorem gX5_behind_X1_copyFrom : GoodIn wsX5_behind (wsV RX5 151 RX1 yX1_copyFrom wsX1_copyFrom) := goodIn_app (goodIn_of _ (by decide +kernel)) ggX5_behind_X1_copyFrom
set_option maxRecDepth 20000 in
theorem ggX5_behind_X1_holdFairs : GoodIn wsX5_behind wsX1_holdFairs := goodIn_c [32, 36, 44, 48, 52, 56, 60, 64, 68, 77, 81, 86, 90] [33, 34, 35, 14, 37, 38, 39, 18, 40, 41, 42, 43, 16, 45, 46, 47, 23, 49, 50, 51, 28, 24, 53, 54, 55, 27, 57, 58, 59, 61, 62, 63, 65, 66, 67, 69, 70, 71, 17, 72, 73, 74, 75, 76, 25, 26, 78, 79, 80, 8, 82, 83, 84, 85, 87, 88, 89, 91, 92, 104, 105, 106, 107, 108, 109, 110, 111, 112, 113, 114, 115, 116, 117, 118, 119, 120, 121, 122, 123, 124, 125] rfl (by decide +kernel) (by decide +kernel)
set_option maxRecDepth 20000 in
theorem gX5_behind_X1_holdFairs : GoodIn wsX5_behind (wsV RX5 154 RX1 yX1_holdFairs wsX1_holdFairs) := goodIn_app (goodIn_of _ (by decide +kernel)) ggX5_behind_X1_holdFairs
set_option maxRecDepth 20000 in
theorem ggX5_goes_X4_hasThing : GoodIn wsX5_goes wsX4_hasThing := goodIn_c [8] [9, 103, 104, 105, 106, 107, 108, 109, 110, 111, 112, 113, 114] rfl (by decide +kernel) (by decide +kernel)
set_option maxRecDepth 20000 in
theorem gX5_goes_X4_hasThing : GoodIn wsX5_goes (wsV RX5 98 RX4 yX4_hasThing wsX4_hasThing) := goodIn_app (goodIn_of _ (by decide +kernel)) ggX5_goes_X4_hasThing
set_option maxRecDepth 20000 in
theorem ggX5_goes_X1_copyFrom : GoodIn wsX5_goes wsX1_copyFrom := goodIn_c [14] [15, 16, 17, 18, 19, 20, 21, 22, 23, 24, 25, 26, 27, 115, 116, 117, 118, 119, 120, 121, 122, 123, 124] rfl (by decide +kernel) (by decide +kernel)
set_option maxRecDepth 20000 in
theorem gX5_goes_X1_copyFrom : GoodIn wsX5_goes (wsV RX5 151 RX1 yX1_copyFrom wsX1_copyFrom) := goodIn_app (goodIn_of _ (by decide +kernel)) ggX5_goes_X1_copyFrom
set_option maxRecDepth 20000 in
theorem ggX5_goes_X1_fairsTillGone : GoodIn wsX5_goes wsX1_fairsTillGone := goodIn_c [31, 35, 39, 47, 51, 55, 59, 63, 67, 76, 80, 85, 89] [32, 33, 34, 13, 22, 36, 37, 38, 40, 41, 42, 17, 43, 44, 45, 46, 15, 48, 49, 50, 27, 23, 52, 53, 54, 26, 56, 57, 58, 60, 61, 62, 64, 65, 66, 68, 69, 70, 16, 71, 72, 73, 74, 75, 24, 25, 77, 78, 79, 7, 81, 82, 83, 84, 86, 87, 88, 90, 91, 115, 116, 117, 118, 119, 120, 121, 122, 123, 124, 103, 104, 105, 106, 107, 108, 109, 110, 111, 112, 113, 114] rfl (by decide +kernel) (by decide +kernel)
set_option maxRecDepth 20000 in
theorem gX5_goes_X1_fairsTillGone : GoodIn wsX5_goes (wsV RX5 158 RX1 yX1_fairsTillGone wsX1_fairsTillGone) := goodIn_app (goodIn_of _ (by decide +kernel)) ggX5_goes_X1_fairsTillGone
set_option maxRecDepth 20000 in
theorem ggX5_never_X1_copyFrom : GoodIn wsX5_never wsX1_copyFrom := goodIn_c [9] [10, 11, 12, 13, 14, 15, 16, 17, 18, 19, 20, 21, 22, 112, 113, 114, 115, 116, 117, 118, 119, 120, 121] rfl (by decide +kernel) (by decide +kernel)
set_option maxRecDepth 20000 in
theorem gX5_never_X1_copyFrom : GoodIn wsX5_never (wsV RX5 151 RX1 yX1_copyFrom wsX1_copyFrom) := goodIn_app (goodIn_of _ (by decide +kernel)) ggX5_never_X1_copyFrom
set_option maxRecDepth 20000 in
theorem ggX5_never_X1_holdFairs : GoodIn wsX5_never wsX1_holdFairs := goodIn_c [26, 30, 38, 42, 46, 50, 54, 58, 62, 71, 76, 81, 85] [27, 28, 29, 8, 31, 32, 33, 12, 34, 35, 36, 37, 10, 39, 40, 41, 17, 43, 44, 45, 22, 18, 47, 48, 49, 21, 51, 52, 53, 55, 56, 57, 59, 60, 61, 63, 64, 65, 11, 66, 67, 68, 69, 70, 19, 20, 72, 73, 74, 75, 77, 78, 79, 80, 82, 83, 84, 86, 87, 112, 113, 114, 115, 116, 117, 118, 119, 120, 121, 100, 101, 102, 103, 104, 105, 106, 107, 108, 109, 110, 111] rfl (by decide +kernel) (by decide +kernel)
set_option maxRecDepth 20000 in
theorem gX5_never_X1_holdFairs : GoodIn wsX5_never (wsV RX5 154 RX1 yX1_holdFairs wsX1_holdFairs) := goodIn_app (goodIn_of _ (by decide +kernel)) ggX5_never_X1_holdFairs
set_option maxRecDepth 20000 in
theorem ggX5_never_X1_isFree : GoodIn wsX5_never wsX1_isFree := goodIn_c [42] [17, 112, 113, 114, 115, 116, 117, 118, 119, 120, 121] rfl (by decide +kernel) (by decide +kernel)
set_option maxRecDepth 20000 in
theorem gX5_never_X1_isFree : GoodIn wsX5_never (wsV RX5 114 RX1 yX1_isFree wsX1_isFree) := goodIn_app (goodIn_of _ (by decide +kernel)) ggX5_never_X1_isFree
set_option maxRecDepth 20000 in
theorem ggX5_stop_X4_hasPerson : GoodIn wsX5_stop wsX4_hasPerson := goodIn_c [9] [10, 120, 121, 122, 123, 124, 125, 126, 127, 128, 129, 130, 131] rfl (by decide +kernel) (by decide +kernel)
set_option maxRecDepth 20000 in
theorem gX5_stop_X4_hasPerson : GoodIn wsX5_stop (wsV RX5 81 RX4 yX4_hasPerson wsX4_hasPerson) := goodIn_app (goodIn_of _ (by decide +kernel)) ggX5_stop_X4_hasPerson
set_option maxRecDepth 20000 in
theorem ggX5_stop_X4_hasThing : GoodIn wsX5_stop wsX4_hasThing := goodIn_c [14] [15, 120, 121, 122, 123, 124, 125, 126, 127, 128, 129, 130, 131] rfl (by decide +kernel) (by decide +kernel)
set_option maxRecDepth 20000 in
theorem gX5_stop_X4_hasThing : GoodIn wsX5_stop (wsV RX5 98 RX4 yX4_hasThing wsX4_hasThing) := goodIn_app (goodIn_of _ (by decide +kernel)) ggX5_stop_X4_hasThing
set_option maxRecDepth 20000 in
theorem ggX5_stop_X1_copyFrom : GoodIn wsX5_stop wsX1_copyFrom := goodIn_c [20] [21, 22, 23, 24, 25, 26, 27, 28, 29, 30, 31, 32, 33, 110, 111, 112, 113, 114, 115, 116, 117, 118, 119] rfl (by decide +kernel) (by decide +kernel)
set_option maxRecDepth 20000 in
theorem gX5_stop_X1_copyFrom : GoodIn wsX5_stop (wsV RX5 151 RX1 yX1_copyFrom wsX1_copyFrom) := goodIn_app (goodIn_of _ (by decide +kernel)) ggX5_stop_X1_copyFrom
set_option maxRecDepth 20000 in
theorem ggX5_stop_X1_addPause : GoodIn wsX5_stop wsX1_addPause := goodIn_c [37, 42, 47, 51] [30, 31, 21, 32, 38, 33, 39, 40, 41, 8, 43, 44, 45, 46, 48, 49, 50, 52, 53, 110, 111, 112, 113, 114, 115, 116, 117, 118, 119, 120, 121, 122, 123, 124, 125, 126, 127, 128, 129, 130, 131] rfl (by decide +kernel) (by decide +kernel)
set_option maxRecDepth 20000 in
theorem gX5_stop_X1_addPause : GoodIn wsX5_stop (wsV RX5 137 RX1 yX1_addPause wsX1_addPause) := goodIn_app (goodIn_of _ (by decide +kernel)) ggX5_stop_X1_addPause
set_option maxRecDepth 20000 in
theorem ggX5_stop_X1_fairsTillGone : GoodIn wsX5_stop wsX1_fairsTillGone := goodIn_c [57, 61, 65, 72, 76, 80, 84, 88, 92, 37, 42, 47, 51] [58, 59, 60, 19, 28, 62, 63, 64, 38, 66, 67, 23, 68, 69, 70, 71, 21, 73, 74, 75, 33, 29, 77, 78, 79, 32, 81, 82, 83, 85, 86, 87, 89, 90, 91, 93, 94, 95, 22, 96, 97, 98, 35, 36, 30, 31, 39, 40, 41, 8, 43, 44, 45, 46, 48, 49, 50, 52, 53, 110, 111, 112, 113, 114, 115, 116, 117, 118, 119, 120, 121, 122, 123, 124, 125, 126, 127, 128, 129, 130, 131] rfl (by decide +kernel) (by decide +kernel)
set_option maxRecDepth 20000 in
theorem gX5_stop_X1_fairsTillGone : GoodIn wsX5_stop (wsV RX5 158 RX1 yX1_fairsTillGone wsX1_fairsTillGone) := goodIn_app (goodIn_of _ (by decide +kernel)) ggX5_stop_X1_fairsTillGone
set_option maxRecDepth 20000 in
theorem ggX5_rank_X4_hasPerson : GoodIn wsX5_rank wsX4_hasPerson := goodIn_c [9] [10, 30, 31, 32, 33, 34, 35, 36, 37, 38, 39, 40, 41] rfl (by decide +kernel) (by decide +kernel)
set_option maxRecDepth 20000 in
theorem gX5_rank_X4_hasPerson : GoodIn wsX5_rank (wsV RX5 81 RX4 yX4_hasPerson wsX4_hasPerson) := goodIn_app (goodIn_of _ (by decide +kernel)) ggX5_rank_X4_hasPerson
set_option maxRecDepth 20000 in
theorem ggX5_rank_X1_dearerTo : GoodIn wsX5_rank wsX1_dearerTo := goodIn_c [15] [16, 17, 18, 42, 43, 44, 45, 46, 47, 48, 49, 50, 51, 30, 31, 32, 33, 34, 35, 36, 37, 38, 39, 40, 41] rfl (by decide +kernel) (by decide +kernel)
set_option maxRecDepth 20000 in
theorem gX5_rank_X1_dearerTo : GoodIn wsX5_rank (wsV RX5 161 RX1 yX1_dearerTo wsX1_dearerTo) := goodIn_app (goodIn_of _ (by decide +kernel)) ggX5_rank_X1_dearerTo
set_option maxRecDepth 20000 in
theorem ggX5_wanted_X1_wantersOf : GoodIn wsX5_wanted wsX1_wantersOf := goodIn_c [8] [9, 10, 11, 35, 36, 37, 38, 39, 40, 41, 42, 43, 44, 23, 24, 25, 26, 27, 28, 29, 30, 31, 32, 33, 34] rfl (by decide +kernel) (by decide +kernel)
set_option maxRecDepth 20000 in
theorem gX5_wanted_X1_wantersOf : GoodIn wsX5_wanted (wsV RX5 164 RX1 yX1_wantersOf wsX1_wantersOf) := goodIn_app (goodIn_of _ (by decide +kernel)) ggX5_wanted_X1_wantersOf
set_option maxRecDepth 20000 in
theorem ggX5_seen_X4_hasThing : GoodIn wsX5_seen wsX4_hasThing := goodIn_c [8] [9, 39, 40, 41, 42, 43, 44, 45, 46, 47, 48, 49, 50] rfl (by decide +kernel) (by decide +kernel)
set_option maxRecDepth 20000 in
theorem gX5_seen_X4_hasThing : GoodIn wsX5_seen (wsV RX5 98 RX4 yX4_hasThing wsX4_hasThing) := goodIn_app (goodIn_of _ (by decide +kernel)) ggX5_seen_X4_hasThing
set_option maxRecDepth 20000 in
theorem ggX5_seen_X4_hasPerson : GoodIn wsX5_seen wsX4_hasPerson := goodIn_c [13] [14, 39, 40, 41, 42, 43, 44, 45, 46, 47, 48, 49, 50] rfl (by decide +kernel) (by decide +kernel)
set_option maxRecDepth 20000 in
theorem gX5_seen_X4_hasPerson : GoodIn wsX5_seen (wsV RX5 81 RX4 yX4_hasPerson wsX4_hasPerson) := goodIn_app (goodIn_of _ (by decide +kernel)) ggX5_seen_X4_hasPerson
set_option maxRecDepth 20000 in
theorem ggX5_seen_X3_add : GoodIn wsX5_seen wsX3_add := goodIn_c [19] [20, 21, 22, 23, 35, 36, 37, 38] rfl (by decide +kernel) (by decide +kernel)
set_option maxRecDepth 20000 in
theorem gX5_seen_X3_add : GoodIn wsX5_seen (wsV RX5 168 RX3 yX3_add wsX3_add) := goodIn_app (goodIn_of _ (by decide +kernel)) ggX5_seen_X3_add
set_option maxRecDepth 20000 in
theorem ggX5_feigned_X3_allHoldIn : GoodIn wsX5_feigned wsX3_allHoldIn := goodIn_c [9, 19, 38, 42, 51, 56, 61, 65, 71, 78, 82, 86, 90, 94, 98] [10, 11, 12, 13, 14, 15, 16, 17, 18, 20, 21, 22, 23, 24, 25, 26, 27, 28, 29, 30, 31, 32, 33, 34, 35, 36, 37, 39, 40, 41, 43, 44, 45, 46, 47, 48, 49, 50, 52, 53, 54, 55, 57, 58, 59, 60, 62, 63, 64, 66, 67, 68, 69, 70, 72, 73, 74, 75, 76, 77, 79, 80, 81, 83, 84, 85, 87, 88, 89, 91, 92, 93, 95, 96, 97, 122, 123, 124, 125, 126, 127, 128, 129, 130, 131, 132, 133, 134, 135, 110, 111, 112, 113, 114, 115, 116, 117, 118, 119, 120, 121] rfl (by decide +kernel) (by decide +kernel)
set_option maxRecDepth 20000 in
theorem gX5_feigned_X3_allHoldIn : GoodIn wsX5_feigned (wsV RX5 171 RX3 yX3_allHoldIn wsX3_allHoldIn) := goodIn_app (goodIn_of _ (by decide +kernel)) ggX5_feigned_X3_allHoldIn
set_option maxRecDepth 20000 in
theorem ggX5_counts_X4_hasPerson : GoodIn wsX5_counts wsX4_hasPerson := goodIn_c [10] [11, 36, 37, 38, 39, 40, 41, 42, 43, 44, 45, 46, 47] rfl (by decide +kernel) (by decide +kernel)
set_option maxRecDepth 20000 in
theorem gX5_counts_X4_hasPerson : GoodIn wsX5_counts (wsV RX5 81 RX4 yX4_hasPerson wsX4_hasPerson) := goodIn_app (goodIn_of _ (by decide +kernel)) ggX5_counts_X4_hasPerson
set_option maxRecDepth 20000 in
theorem ggX5_counts_X5_uncountedDraws : GoodIn wsX5_counts wsX5_uncountedDraws := goodIn_c [16, 20] [1, 17, 18, 19, 9, 21, 25, 26, 27, 28, 29, 30, 31, 32, 33, 34, 35, 36, 37, 38, 39, 40, 41, 42, 43, 44, 45, 46, 47] rfl (by decide +kernel) (by decide +kernel)
set_option maxRecDepth 20000 in
theorem gX5_counts_X5_uncountedDraws : GoodIn wsX5_counts (wsV RX5 178 RX5 yX5_uncountedDraws wsX5_uncountedDraws) := goodIn_app (goodIn_of _ (by decide +kernel)) ggX5_counts_X5_uncountedDraws
set_option maxRecDepth 20000 in
theorem ggX5_counts_X5_greatestDivisor : GoodIn wsX5_counts wsX5_greatestDivisor := goodIn_c [24] [] rfl (by decide +kernel) (by decide +kernel)
set_option maxRecDepth 20000 in
theorem gX5_counts_X5_greatestDivisor : GoodIn wsX5_counts (va_wsS RX5 181 yX5_greatestDivisor wsX5_greatestDivisor) := goodIn_app (goodIn_of _ (by decide +kernel)) ggX5_counts_X5_greatestDivisor
set_option maxRecDepth 20000 in
theorem ggX5_cheapest_X4_hasThing : GoodIn wsX5_cheapest wsX4_hasThing := goodIn_c [9] [10, 22, 23, 24, 25, 26, 27, 28, 29, 30, 31, 32, 33] rfl (by decide +kernel) (by decide +kernel)
set_option maxRecDepth 20000 in
theorem gX5_cheapest_X4_hasThing : GoodIn wsX5_cheapest (wsV RX5 98 RX4 yX4_hasThing wsX4_hasThing) := goodIn_app (goodIn_of _ (by decide +kernel)) ggX5_cheapest_X4_hasThing
set_option maxRecDepth 20000 in
theorem ggX5_greens_X1_copyFrom : GoodIn wsX5_greens wsX1_copyFrom := goodIn_c [7] [8, 9, 10, 11, 12, 13, 14, 15, 16, 17, 18, 19, 20, 117, 118, 119, 120, 121, 122, 123, 124, 125, 126] rfl (by decide +kernel) (by decide +kernel)
set_option maxRecDepth 20000 in
theorem gX5_greens_X1_copyFrom : GoodIn wsX5_greens (wsV RX5 151 RX1 yX1_copyFrom wsX1_copyFrom) := goodIn_app (goodIn_of _ (by decide +kernel)) ggX5_greens_X1_copyFrom
set_option maxRecDepth 20000 in
theorem ggX5_greens_X5_draw : GoodIn wsX5_greens wsX5_draw := goodIn_c [24] [25, 26, 27, 28] rfl (by decide +kernel) (by decide +kernel)
set_option maxRecDepth 20000 in
theorem gX5_greens_X5_draw : GoodIn wsX5_greens (va_wsS RX5 189 yX5_draw wsX5_draw) := goodIn_app (goodIn_of _ (by decide +kernel)) ggX5_greens_X5_draw
set_option maxRecDepth 20000 in
theorem ggX5_greens_X5_addDrawnPause : GoodIn wsX5_greens wsX5_addDrawnPause := goodIn_c [32, 39, 45, 50, 54] [33, 34, 35, 1, 36, 37, 38, 6, 17, 18, 8, 19, 40, 20, 41, 42, 43, 44, 46, 47, 48, 49, 51, 52, 53, 55, 56, 106, 107, 108, 109, 110, 111, 112, 113, 114, 115, 116, 127, 128, 129, 130, 131, 132, 133, 134, 135, 136, 137, 138, 117, 118, 119, 120, 121, 122, 123, 124, 125, 126] rfl (by decide +kernel) (by decide +kernel)
set_option maxRecDepth 20000 in
theorem gX5_greens_X5_addDrawnPause : GoodIn wsX5_greens (wsV RX5 192 RX5 yX5_addDrawnPause wsX5_addDrawnPause) := goodIn_app (goodIn_of _ (by decide +kernel)) ggX5_greens_X5_addDrawnPause
set_option maxRecDepth 20000 in
theorem ggX5_greens_X1_holdFair : GoodIn wsX5_greens wsX1_holdFair := goodIn_c [60, 67, 71, 75, 79, 83, 87, 91, 39, 45, 50, 54] [40, 61, 62, 10, 63, 64, 65, 66, 8, 68, 69, 70, 6, 15, 72, 73, 74, 20, 16, 76, 77, 78, 19, 80, 81, 82, 84, 85, 86, 88, 89, 90, 92, 93, 94, 9, 95, 96, 97, 37, 38, 17, 18, 41, 42, 43, 44, 46, 47, 48, 49, 51, 52, 53, 55, 56, 117, 118, 119, 120, 121, 122, 123, 124, 125, 126, 127, 128, 129, 130, 131, 132, 133, 134, 135, 136, 137, 138] rfl (by decide +kernel) (by decide +kernel)
set_option maxRecDepth 20000 in
theorem gX5_greens_X1_holdFair : GoodIn wsX5_greens (wsV RX5 141 RX1 yX1_holdFair wsX1_holdFair) := goodIn_app (goodIn_of _ (by decide +kernel)) ggX5_greens_X1_holdFair
set_option maxRecDepth 20000 in
theorem ggX5_greens_X1_thingsGone : GoodIn wsX5_greens wsX1_thingsGone := goodIn_c [101, 71] [40, 61, 68, 69, 70, 6, 15, 117, 118, 119, 120, 121, 122, 123, 124, 125, 126, 127, 128, 129, 130, 131, 132, 133, 134, 135, 136, 137, 138] rfl (by decide +kernel) (by decide +kernel)
set_option maxRecDepth 20000 in
theorem gX5_greens_X1_thingsGone : GoodIn wsX5_greens (wsV RX5 195 RX1 yX1_thingsGone wsX1_thingsGone) := goodIn_app (goodIn_of _ (by decide +kernel)) ggX5_greens_X1_thingsGone
set_option maxRecDepth 20000 in
theorem ggX5_greens_X1_coinsOfAll : GoodIn wsX5_greens wsX1_coinsOfAll := goodIn_c [105] [40, 62, 10, 117, 118, 119, 120, 121, 122, 123, 124, 125, 126, 127, 128, 129, 130, 131, 132, 133, 134, 135, 136, 137, 138] rfl (by decide +kernel) (by decide +kernel)
set_option maxRecDepth 20000 in
theorem gX5_greens_X1_coinsOfAll : GoodIn wsX5_greens (wsV RX5 198 RX1 yX1_coinsOfAll wsX1_coinsOfAll) := goodIn_app (goodIn_of _ (by decide +kernel)) ggX5_greens_X1_coinsOfAll
set_option maxRecDepth 20000 in
theorem ggX5_keep_X1_copyFrom : GoodIn wsX5_keep wsX1_copyFrom := goodIn_c [8] [9, 10, 11, 12, 13, 14, 15, 16, 17, 18, 19, 20, 21, 33, 34, 35, 36, 37, 38, 39, 40, 41, 42] rfl (by decide +kernel) (by decide +kernel)
set_option maxRecDepth 20000 in
theorem gX5_keep_X1_copyFrom : GoodIn wsX5_keep (wsV RX5 151 RX1 yX1_copyFrom wsX1_copyFrom) := goodIn_app (goodIn_of _ (by decide +kernel)) ggX5_keep_X1_copyFrom
set_option maxRecDepth 20000 in
theorem ggX5_back_X1_copyFrom : GoodIn wsX5_back wsX1_copyFrom := goodIn_c [10] [11, 12, 13, 14, 15, 16, 17, 18, 19, 20, 21, 22, 23, 38, 39, 40, 41, 42, 43, 44, 45, 46, 47] rfl (by decide +kernel) (by decide +kernel)
set_option maxRecDepth 20000 in
theorem gX5_back_X1_copyFrom : GoodIn wsX5_back (wsV RX5 151 RX1 yX1_copyFrom wsX1_copyFrom) := goodIn_app (goodIn_of _ (by decide +kernel)) ggX5_back_X1_copyFrom
set_option maxRecDepth 20000 in
theorem ggX5_count_X1_thingsGone : GoodIn wsX5_count wsX1_thingsGone := goodIn_c [16, 22] [17, 18, 19, 20, 21, 15, 23, 53, 54, 55, 56, 57, 58, 59, 60, 61, 62, 41, 42, 43, 44, 45, 46, 47, 48, 49, 50, 51, 52] rfl (by decide +kernel) (by decide +kernel)
set_option maxRecDepth 20000 in
theorem gX5_count_X1_thingsGone : GoodIn wsX5_count (wsV RX5 195 RX1 yX1_thingsGone wsX1_thingsGone) := goodIn_app (goodIn_of _ (by decide +kernel)) ggX5_count_X1_thingsGone
set_option maxRecDepth 20000 in
theorem ggX5_count_X1_coinsOfAll : GoodIn wsX5_count wsX1_coinsOfAll := goodIn_c [27] [17, 28, 29, 53, 54, 55, 56, 57, 58, 59, 60, 61, 62, 41, 42, 43, 44, 45, 46, 47, 48, 49, 50, 51, 52] rfl (by decide +kernel) (by decide +kernel)
set_option maxRecDepth 20000 in
theorem gX5_count_X1_coinsOfAll : GoodIn wsX5_count (wsV RX5 198 RX1 yX1_coinsOfAll wsX1_coinsOfAll) := goodIn_app (goodIn_of _ (by decide +kernel)) ggX5_count_X1_coinsOfAll
set_option maxRecDepth 20000 in
theorem ggX5_putFirstText_J0_length_8abf5 : GoodIn wsX5_putFirstText wsJ0_length_8abf5 := goodIn_c [11, 16] [12, 13, 14, 15, 10, 17, 18] rfl (by decide +kernel) (by decide +kernel)
set_option maxRecDepth 20000 in
theorem gX5_putFirstText_J0_length_8abf5 : GoodIn wsX5_putFirstText (wsV RX5 206 RJ0 yJ0_length_8abf5 wsJ0_length_8abf5) := goodIn_app (goodIn_of _ (by decide +kernel)) ggX5_putFirstText_J0_length_8abf5
set_option maxRecDepth 20000 in
theorem ggX5_putFirstText_J0_charAt_5068e : GoodIn wsX5_putFirstText wsJ0_charAt_5068e := goodIn_c [22, 26, 30, 33, 38, 42, 45, 48, 52] [12, 23, 24, 25, 10, 17, 18, 27, 28, 29, 31, 32, 34, 35, 36, 37, 39, 40, 41, 43, 44, 46, 47, 49, 50, 51, 53, 54, 55] rfl (by decide +kernel) (by decide +kernel)
set_option maxRecDepth 20000 in
theorem gX5_putFirstText_J0_charAt_5068e : GoodIn wsX5_putFirstText (wsV RX5 214 RJ0 yJ0_charAt_5068e wsJ0_charAt_5068e) := goodIn_app (goodIn_of _ (by decide +kernel)) ggX5_putFirstText_J0_charAt_5068e
set_option maxRecDepth 20000 in
theorem ggX5_layTheText_X2_read : GoodIn wsX5_layTheText wsX2_read := goodIn_c [15, 22, 31, 35, 38, 42, 46, 50, 54, 60, 65, 73, 77, 81, 85] [16, 17, 18, 19, 20, 21, 23, 24, 25, 26, 27, 28, 29, 30, 14, 32, 33, 34, 36, 37, 39, 40, 41, 43, 44, 45, 47, 48, 49, 51, 52, 53, 55, 56, 57, 58, 59, 61, 62, 63, 64, 66, 67, 68, 69, 70, 71, 72, 74, 75, 76, 78, 79, 80, 82, 83, 84, 153, 154, 155, 156, 157, 158, 159, 160, 161, 162, 163, 164, 165, 166] rfl (by decide +kernel) (by decide +kernel)
set_option maxRecDepth 20000 in
theorem gX5_layTheText_X2_read : GoodIn wsX5_layTheText (wsV RX5 70 RX2 yX2_read wsX2_read) := goodIn_app (goodIn_of _ (by decide +kernel)) ggX5_layTheText_X2_read
set_option maxRecDepth 20000 in
theorem ggX5_layTheText_X1_begin : GoodIn wsX5_layTheText wsX1_begin := goodIn_c [90, 109, 113, 122, 126, 130, 134] [91, 92, 93, 94, 95, 96, 97, 98, 99, 100, 101, 102, 103, 104, 105, 106, 107, 108, 110, 111, 112, 89, 114, 115, 116, 117, 118, 119, 120, 121, 123, 124, 125, 21, 55, 127, 128, 129, 131, 132, 133, 61, 27, 167, 168, 169, 170, 171, 172, 173, 174, 175, 176, 155, 156, 157, 158, 159, 160, 161, 162, 163, 164, 165, 166] rfl (by decide +kernel) (by decide +kernel)
set_option maxRecDepth 20000 in
theorem gX5_layTheText_X1_begin : GoodIn wsX5_layTheText (wsV RX5 218 RX1 yX1_begin wsX1_begin) := goodIn_app (goodIn_of _ (by decide +kernel)) ggX5_layTheText_X1_begin
set_option maxRecDepth 20000 in
theorem ggX5_uncountedDraws_X4_countedFor : GoodIn wsX5_uncountedDraws wsX4_countedFor := goodIn_c [6] [7, 19, 20, 21, 22, 23, 24, 25, 26, 27, 28, 29, 30] rfl (by decide +kernel) (by decide +kernel)
set_option maxRecDepth 20000 in
theorem gX5_uncountedDraws_X4_countedFor : GoodIn wsX5_uncountedDraws (wsV RX5 221 RX4 yX4_countedFor wsX4_countedFor) := goodIn_app (goodIn_of _ (by decide +kernel)) ggX5_uncountedDraws_X4_countedFor
set_option maxRecDepth 20000 in
theorem ggX5_addDrawnPause_X1_addPause : GoodIn wsX5_addDrawnPause wsX1_addPause := goodIn_c [9, 20, 25, 29] [10, 11, 12, 13, 14, 15, 16, 17, 18, 19, 21, 22, 23, 24, 26, 27, 28, 30, 31, 55, 56, 57, 58, 59, 60, 61, 62, 63, 64, 43, 44, 45, 46, 47, 48, 49, 50, 51, 52, 53, 54] rfl (by decide +kernel) (by decide +kernel)
set_option maxRecDepth 20000 in
theorem gX5_addDrawnPause_X1_addPause : GoodIn wsX5_addDrawnPause (wsV RX5 137 RX1 yX1_addPause wsX1_addPause) := goodIn_app (goodIn_of _ (by decide +kernel)) ggX5_addDrawnPause_X1_addPause
set_option maxRecDepth 20000 in
theorem ggX6_init_X6_begins : GoodIn wsX6_init wsX6_begins := goodIn_c [18] [7, 42, 43, 44, 45, 46, 47, 48, 49, 50, 51, 52, 53, 54, 55] rfl (by decide +kernel) (by decide +kernel)
set_option maxRecDepth 20000 in
theorem gX6_init_X6_begins : GoodIn wsX6_init (wsV RX6 38 RX6 yX6_begins wsX6_begins) := goodIn_app (goodIn_of _ (by decide +kernel)) ggX6_init_X6_begins
set_option maxRecDepth 20000 in
theorem ggX6_init_X6_personOf : GoodIn wsX6_init wsX6_personOf := goodIn_c [22] [7, 42, 43, 44, 45, 46, 47, 48, 49, 50, 51, 52, 53, 54, 55] rfl (by decide +kernel) (by decide +kernel)
set_option maxRecDepth 20000 in
theorem gX6_init_X6_personOf : GoodIn wsX6_init (wsV RX6 41 RX6 yX6_personOf wsX6_personOf) := goodIn_app (goodIn_of _ (by decide +kernel)) ggX6_init_X6_personOf
set_option maxRecDepth 20000 in
theorem ggX6_init_X6_thingOf : GoodIn wsX6_init wsX6_thingOf := goodIn_c [26] [7, 42, 43, 44, 45, 46, 47, 48, 49, 50, 51, 52, 53, 54, 55] rfl (by decide +kernel) (by decide +kernel)
set_option maxRecDepth 20000 in
theorem gX6_init_X6_thingOf : GoodIn wsX6_init (wsV RX6 45 RX6 yX6_thingOf wsX6_thingOf) := goodIn_app (goodIn_of _ (by decide +kernel)) ggX6_init_X6_thingOf
set_option maxRecDepth 20000 in
theorem ggX6_init_X6_pauseOf : GoodIn wsX6_init wsX6_pauseOf := goodIn_c [30] [7, 42, 43, 44, 45, 46, 47, 48, 49, 50, 51, 52, 53, 54, 55] rfl (by decide +kernel) (by decide +kernel)
set_option maxRecDepth 20000 in
theorem gX6_init_X6_pauseOf : GoodIn wsX6_init (wsV RX6 49 RX6 yX6_pauseOf wsX6_pauseOf) := goodIn_app (goodIn_of _ (by decide +kernel)) ggX6_init_X6_pauseOf
set_option maxRecDepth 20000 in
theorem ggX6_init_X6_lays : GoodIn wsX6_init wsX6_lays := goodIn_c [34, 41] [6, 7, 35, 36, 37, 38, 39, 40, 17, 8, 42, 43, 44, 45, 46, 47, 48, 49, 50, 51, 52, 53, 54, 55] rfl (by decide +kernel) (by decide +kernel)
set_option maxRecDepth 20000 in
theorem gX6_init_X6_lays : GoodIn wsX6_init (wsV RX6 53 RX6 yX6_lays wsX6_lays) := goodIn_app (goodIn_of _ (by decide +kernel)) ggX6_init_X6_lays
set_option maxRecDepth 20000 in
theorem ggX6_isPerson_X6_in : GoodIn wsX6_isPerson wsX6_in := goodIn_c [5] [] rfl (by decide +kernel) (by decide +kernel)
set_option maxRecDepth 20000 in
theorem gX6_isPerson_X6_in : GoodIn wsX6_isPerson (va_wsS RX6 56 yX6_in wsX6_in) := goodIn_app (goodIn_of _ (by decide +kernel)) ggX6_isPerson_X6_in
set_option maxRecDepth 20000 in
theorem ggX6_isThing_X6_in : GoodIn wsX6_isThing wsX6_in := goodIn_c [5] [] rfl (by decide +kernel) (by decide +kernel)
set_option maxRecDepth 20000 in
theorem gX6_isThing_X6_in : GoodIn wsX6_isThing (va_wsS RX6 56 yX6_in wsX6_in) := goodIn_app (goodIn_of _ (by decide +kernel)) ggX6_isThing_X6_in
set_option maxRecDepth 20000 in
theorem ggX6_write_X6_in : GoodIn wsX6_write wsX6_in := goodIn_c [6] [] rfl (by decide +kernel) (by decide +kernel)
set_option maxRecDepth 20000 in
theorem gX6_write_X6_in : GoodIn wsX6_write (va_wsS RX6 56 yX6_in wsX6_in) := goodIn_app (goodIn_of _ (by decide +kernel)) ggX6_write_X6_in
set_option maxRecDepth 20000 in
theorem ggX6_isFigure_X6_in : GoodIn wsX6_isFigure wsX6_in := goodIn_c [4] [] rfl (by decide +kernel) (by decide +kernel)
set_option maxRecDepth 20000 in
theorem gX6_isFigure_X6_in : GoodIn wsX6_isFigure (va_wsS RX6 56 yX6_in wsX6_in) := goodIn_app (goodIn_of _ (by decide +kernel)) ggX6_isFigure_X6_in
set_option maxRecDepth 20000 in
theorem ggX6_number_X6_letterAt : GoodIn wsX6_number wsX6_letterAt := goodIn_c [6] [7, 8, 15, 16, 17, 18, 19, 20, 21, 22, 23, 24, 25, 26, 27, 28] rfl (by decide +kernel) (by decide +kernel)
set_option maxRecDepth 20000 in
theorem gX6_number_X6_letterAt : GoodIn wsX6_number (wsV RX6 66 RX6 yX6_letterAt wsX6_letterAt) := goodIn_app (goodIn_of _ (by decide +kernel)) ggX6_number_X6_letterAt
set_option maxRecDepth 20000 in
theorem ggX6_number_X6_isFigure : GoodIn wsX6_number wsX6_isFigure := goodIn_c [11, 14] [12, 13, 5] rfl (by decide +kernel) (by decide +kernel)
set_option maxRecDepth 20000 in
theorem gX6_number_X6_isFigure : GoodIn wsX6_number (va_wsS RX6 70 yX6_isFigure wsX6_isFigure) := goodIn_app (goodIn_of _ (by decide +kernel)) ggX6_number_X6_isFigure
set_option maxRecDepth 20000 in
theorem ggX6_number_X6_in : GoodIn wsX6_number wsX6_in := goodIn_c [14] [] rfl (by decide +kernel) (by decide +kernel)
set_option maxRecDepth 20000 in
theorem gX6_number_X6_in : GoodIn wsX6_number (va_wsS RX6 56 yX6_in wsX6_in) := goodIn_app (goodIn_of _ (by decide +kernel)) ggX6_number_X6_in
set_option maxRecDepth 20000 in
theorem ggX6_readsItem_X6_number : GoodIn wsX6_readsItem wsX6_number := goodIn_c [6, 11, 16, 19] [7, 8, 9, 10, 5, 12, 13, 14, 15, 17, 18, 32, 33, 34, 35, 36, 37, 38, 39, 40, 41, 42, 43, 44, 45] rfl (by decide +kernel) (by decide +kernel)
set_option maxRecDepth 20000 in
theorem gX6_readsItem_X6_number : GoodIn wsX6_readsItem (wsV RX6 74 RX6 yX6_number wsX6_number) := goodIn_app (goodIn_of _ (by decide +kernel)) ggX6_readsItem_X6_number
set_option maxRecDepth 20000 in
theorem ggX6_readsItem_X6_personOf : GoodIn wsX6_readsItem wsX6_personOf := goodIn_c [23] [1, 32, 33, 34, 35, 36, 37, 38, 39, 40, 41, 42, 43, 44, 45] rfl (by decide +kernel) (by decide +kernel)
set_option maxRecDepth 20000 in
theorem gX6_readsItem_X6_personOf : GoodIn wsX6_readsItem (wsV RX6 41 RX6 yX6_personOf wsX6_personOf) := goodIn_app (goodIn_of _ (by decide +kernel)) ggX6_readsItem_X6_personOf
set_option maxRecDepth 20000 in
theorem ggX6_readsItem_X6_thingOf : GoodIn wsX6_readsItem wsX6_thingOf := goodIn_c [27] [1, 32, 33, 34, 35, 36, 37, 38, 39, 40, 41, 42, 43, 44, 45] rfl (by decide +kernel) (by decide +kernel)
set_option maxRecDepth 20000 in
theorem gX6_readsItem_X6_thingOf : GoodIn wsX6_readsItem (wsV RX6 45 RX6 yX6_thingOf wsX6_thingOf) := goodIn_app (goodIn_of _ (by decide +kernel)) ggX6_readsItem_X6_thingOf
set_option maxRecDepth 20000 in
theorem ggX6_readsItem_X6_pauseOf : GoodIn wsX6_readsItem wsX6_pauseOf := goodIn_c [31] [1, 32, 33, 34, 35, 36, 37, 38, 39, 40, 41, 42, 43, 44, 45] rfl (by decide +kernel) (by decide +kernel)
set_option maxRecDepth 20000 in
theorem gX6_readsItem_X6_pauseOf : GoodIn wsX6_readsItem (wsV RX6 49 RX6 yX6_pauseOf wsX6_pauseOf) := goodIn_app (goodIn_of _ (by decide +kernel)) ggX6_readsItem_X6_pauseOf
set_option maxRecDepth 20000 in
theorem ggX6_readsAll_X6_begins : GoodIn wsX6_readsAll wsX6_begins := goodIn_c [8] [9, 40, 41, 42, 43, 44, 45, 46, 47, 48, 49, 50, 51, 52, 53] rfl (by decide +kernel) (by decide +kernel)
set_option maxRecDepth 20000 in
theorem gX6_readsAll_X6_begins : GoodIn wsX6_readsAll (wsV RX6 38 RX6 yX6_begins wsX6_begins) := goodIn_app (goodIn_of _ (by decide +kernel)) ggX6_readsAll_X6_begins
set_option maxRecDepth 20000 in
theorem ggX6_readsAll_X6_readsItem : GoodIn wsX6_readsAll wsX6_readsItem := goodIn_c [13, 17, 21, 24, 27, 31, 35, 39] [9, 14, 15, 16, 7, 1, 18, 19, 20, 2, 3, 22, 23, 25, 26, 28, 29, 30, 32, 33, 34, 36, 37, 38, 40, 41, 42, 43, 44, 45, 46, 47, 48, 49, 50, 51, 52, 53] rfl (by decide +kernel) (by decide +kernel)
set_option maxRecDepth 20000 in
theorem gX6_readsAll_X6_readsItem : GoodIn wsX6_readsAll (wsV RX6 78 RX6 yX6_readsItem wsX6_readsItem) := goodIn_app (goodIn_of _ (by decide +kernel)) ggX6_readsAll_X6_readsItem
set_option maxRecDepth 20000 in
theorem ggX6_fault_X6_readsAll : GoodIn wsX6_fault wsX6_readsAll := goodIn_c [5, 12, 17, 21, 25, 28, 31, 35, 39, 43] [6, 7, 8, 9, 10, 11, 4, 13, 14, 15, 16, 18, 19, 20, 22, 23, 24, 26, 27, 29, 30, 32, 33, 34, 36, 37, 38, 40, 41, 42, 44, 45, 46, 47, 48, 49, 50, 51, 52, 53, 54, 55, 56, 57] rfl (by decide +kernel) (by decide +kernel)
set_option maxRecDepth 20000 in
theorem gX6_fault_X6_readsAll : GoodIn wsX6_fault (wsV RX6 81 RX6 yX6_readsAll wsX6_readsAll) := goodIn_app (goodIn_of _ (by decide +kernel)) ggX6_fault_X6_readsAll
set_option maxRecDepth 20000 in
theorem ggX6_lays_X6_starts : GoodIn wsX6_lays wsX6_starts := goodIn_c [10] [11, 1, 12, 13, 14, 15, 16, 17, 18, 19, 20, 21, 22, 23, 24, 25] rfl (by decide +kernel) (by decide +kernel)
set_option maxRecDepth 20000 in
theorem gX6_lays_X6_starts : GoodIn wsX6_lays (wsV RX6 85 RX6 yX6_starts wsX6_starts) := goodIn_app (goodIn_of _ (by decide +kernel)) ggX6_lays_X6_starts
set_option maxRecDepth 20000 in
theorem ggX6_lay_X6_readsAll : GoodIn wsX6_lay wsX6_readsAll := goodIn_c [7, 14, 18, 22, 26, 29, 32, 36, 40, 44] [8, 9, 10, 11, 12, 13, 6, 1, 15, 16, 17, 19, 20, 21, 23, 24, 25, 27, 28, 30, 31, 33, 34, 35, 37, 38, 39, 41, 42, 43, 57, 58, 59, 60, 61, 62, 63, 64, 65, 66, 67, 68, 69, 70] rfl (by decide +kernel) (by decide +kernel)
set_option maxRecDepth 20000 in
theorem gX6_lay_X6_readsAll : GoodIn wsX6_lay (wsV RX6 81 RX6 yX6_readsAll wsX6_readsAll) := goodIn_app (goodIn_of _ (by decide +kernel)) ggX6_lay_X6_readsAll
set_option maxRecDepth 20000 in
theorem ggX6_lay_X6_lays : GoodIn wsX6_lay wsX6_lays := goodIn_c [48, 55] [2, 1, 49, 50, 51, 52, 53, 54, 6, 56, 57, 58, 59, 60, 61, 62, 63, 64, 65, 66, 67, 68, 69, 70] rfl (by decide +kernel) (by decide +kernel)
set_option maxRecDepth 20000 in
theorem gX6_lay_X6_lays : GoodIn wsX6_lay (wsV RX6 53 RX6 yX6_lays wsX6_lays) := goodIn_app (goodIn_of _ (by decide +kernel)) ggX6_lay_X6_lays
set_option maxRecDepth 20000 in
theorem ggX6_pauseNow_X6_better : GoodIn wsX6_pauseNow wsX6_better := goodIn_c [7] [] rfl (by decide +kernel) (by decide +kernel)
set_option maxRecDepth 20000 in
theorem gX6_pauseNow_X6_better : GoodIn wsX6_pauseNow (va_wsS RX6 97 yX6_better wsX6_better) := goodIn_app (goodIn_of _ (by decide +kernel)) ggX6_pauseNow_X6_better
set_option maxRecDepth 20000 in
theorem ggX6_countedNow_X6_pauseNow : GoodIn wsX6_countedNow wsX6_pauseNow := goodIn_c [6, 11] [7, 1, 8, 9, 10, 5, 16, 17, 18, 19, 20, 21, 22, 23, 24, 25, 26, 27, 28, 29] rfl (by decide +kernel) (by decide +kernel)
set_option maxRecDepth 20000 in
theorem gX6_countedNow_X6_pauseNow : GoodIn wsX6_countedNow (wsV RX6 101 RX6 yX6_pauseNow wsX6_pauseNow) := goodIn_app (goodIn_of _ (by decide +kernel)) ggX6_countedNow_X6_pauseNow
set_option maxRecDepth 20000 in
theorem ggX6_countedNow_X6_countedOf : GoodIn wsX6_countedNow wsX6_countedOf := goodIn_c [15] [] rfl (by decide +kernel) (by decide +kernel)
set_option maxRecDepth 20000 in
theorem gX6_countedNow_X6_countedOf : GoodIn wsX6_countedNow (wsV RX6 104 RX6 yX6_countedOf wsX6_countedOf) := goodIn_app (goodIn_of _ (by decide +kernel)) ggX6_countedNow_X6_countedOf
set_option maxRecDepth 20000 in
theorem ggX6_isNearly_X6_countedNow : GoodIn wsX6_isNearly wsX6_countedNow := goodIn_c [5, 10, 15, 19] [6, 7, 8, 9, 4, 11, 12, 13, 14, 16, 17, 18, 20, 21, 22, 23, 24, 25, 26, 27, 28, 29, 30, 31, 32, 33] rfl (by decide +kernel) (by decide +kernel)
set_option maxRecDepth 20000 in
theorem gX6_isNearly_X6_countedNow : GoodIn wsX6_isNearly (wsV RX6 107 RX6 yX6_countedNow wsX6_countedNow) := goodIn_app (goodIn_of _ (by decide +kernel)) ggX6_isNearly_X6_countedNow
set_option maxRecDepth 20000 in
theorem ggX6_priceOf_X6_pauseNow : GoodIn wsX6_priceOf wsX6_pauseNow := goodIn_c [6, 11] [7, 1, 8, 9, 10, 5, 16, 17, 18, 19, 20, 21, 22, 23, 24, 25, 26, 27, 28, 29] rfl (by decide +kernel) (by decide +kernel)
set_option maxRecDepth 20000 in
theorem gX6_priceOf_X6_pauseNow : GoodIn wsX6_priceOf (wsV RX6 101 RX6 yX6_pauseNow wsX6_pauseNow) := goodIn_app (goodIn_of _ (by decide +kernel)) ggX6_priceOf_X6_pauseNow
set_option maxRecDepth 20000 in
theorem ggX6_priceOf_X6_costs : GoodIn wsX6_priceOf wsX6_costs := goodIn_c [15] [1, 16, 17, 18, 19, 20, 21, 22, 23, 24, 25, 26, 27, 28, 29] rfl (by decide +kernel) (by decide +kernel)
set_option maxRecDepth 20000 in
theorem gX6_priceOf_X6_costs : GoodIn wsX6_priceOf (wsV RX6 110 RX6 yX6_costs wsX6_costs) := goodIn_app (goodIn_of _ (by decide +kernel)) ggX6_priceOf_X6_costs
set_option maxRecDepth 20000 in
theorem ggX6_claim_X6_countedNow : GoodIn wsX6_claim wsX6_countedNow := goodIn_c [6, 10, 15, 19] [1, 7, 8, 9, 5, 11, 12, 13, 14, 16, 17, 18, 20, 21, 22, 23, 24, 25, 26, 27, 28, 29, 30, 31, 32, 33] rfl (by decide +kernel) (by decide +kernel)
set_option maxRecDepth 20000 in
theorem gX6_claim_X6_countedNow : GoodIn wsX6_claim (wsV RX6 107 RX6 yX6_countedNow wsX6_countedNow) := goodIn_app (goodIn_of _ (by decide +kernel)) ggX6_claim_X6_countedNow
set_option maxRecDepth 20000 in
theorem ggX6_person_X6_isPerson : GoodIn wsX6_person wsX6_isPerson := goodIn_c [7, 10] [2, 8, 9, 6, 19, 20, 21, 22, 23, 24, 25, 26, 27, 28, 29, 30, 31, 32] rfl (by decide +kernel) (by decide +kernel)
set_option maxRecDepth 20000 in
theorem gX6_person_X6_isPerson : GoodIn wsX6_person (wsV RX6 113 RX6 yX6_isPerson wsX6_isPerson) := goodIn_app (goodIn_of _ (by decide +kernel)) ggX6_person_X6_isPerson
set_option maxRecDepth 20000 in
theorem ggX6_person_X6_costs : GoodIn wsX6_person wsX6_costs := goodIn_c [14] [2, 19, 20, 21, 22, 23, 24, 25, 26, 27, 28, 29, 30, 31, 32] rfl (by decide +kernel) (by decide +kernel)
set_option maxRecDepth 20000 in
theorem gX6_person_X6_costs : GoodIn wsX6_person (wsV RX6 110 RX6 yX6_costs wsX6_costs) := goodIn_app (goodIn_of _ (by decide +kernel)) ggX6_person_X6_costs
set_option maxRecDepth 20000 in
theorem ggX6_person_X6_thingsOf : GoodIn wsX6_person wsX6_thingsOf := goodIn_c [18] [2, 1, 19, 20, 21, 22, 23, 24, 25, 26, 27, 28, 29, 30, 31, 32] rfl (by decide +kernel) (by decide +kernel)
set_option maxRecDepth 20000 in
theorem gX6_person_X6_thingsOf : GoodIn wsX6_person (wsV RX6 116 RX6 yX6_thingsOf wsX6_thingsOf) := goodIn_app (goodIn_of _ (by decide +kernel)) ggX6_person_X6_thingsOf
set_option maxRecDepth 20000 in
theorem ggX6_thing_X6_isThing : GoodIn wsX6_thing wsX6_isThing := goodIn_c [6, 10] [7, 8, 9, 5, 35, 36, 37, 38, 39, 40, 41, 42, 43, 44, 45, 46, 47, 48] rfl (by decide +kernel) (by decide +kernel)
set_option maxRecDepth 20000 in
theorem gX6_thing_X6_isThing : GoodIn wsX6_thing (wsV RX6 119 RX6 yX6_isThing wsX6_isThing) := goodIn_app (goodIn_of _ (by decide +kernel)) ggX6_thing_X6_isThing
set_option maxRecDepth 20000 in
theorem ggX6_thing_X6_costs : GoodIn wsX6_thing wsX6_costs := goodIn_c [14] [7, 35, 36, 37, 38, 39, 40, 41, 42, 43, 44, 45, 46, 47, 48] rfl (by decide +kernel) (by decide +kernel)
set_option maxRecDepth 20000 in
theorem gX6_thing_X6_costs : GoodIn wsX6_thing (wsV RX6 110 RX6 yX6_costs wsX6_costs) := goodIn_app (goodIn_of _ (by decide +kernel)) ggX6_thing_X6_costs
set_option maxRecDepth 20000 in
theorem ggX6_thing_X6_claim : GoodIn wsX6_thing wsX6_claim := goodIn_c [18, 22, 26, 30, 34] [7, 19, 20, 21, 5, 23, 24, 25, 1, 27, 28, 29, 31, 32, 33, 35, 36, 37, 38, 39, 40, 41, 42, 43, 44, 45, 46, 47, 48] rfl (by decide +kernel) (by decide +kernel)
set_option maxRecDepth 20000 in
theorem gX6_thing_X6_claim : GoodIn wsX6_thing (wsV RX6 122 RX6 yX6_claim wsX6_claim) := goodIn_app (goodIn_of _ (by decide +kernel)) ggX6_thing_X6_claim
set_option maxRecDepth 20000 in
theorem ggX6_nearly_X6_isPerson : GoodIn wsX6_nearly wsX6_isPerson := goodIn_c [5, 9] [6, 7, 8, 4, 43, 44, 45, 46, 47, 48, 49, 50, 51, 52, 53, 54, 55, 56] rfl (by decide +kernel) (by decide +kernel)
set_option maxRecDepth 20000 in
theorem gX6_nearly_X6_isPerson : GoodIn wsX6_nearly (wsV RX6 113 RX6 yX6_isPerson wsX6_isPerson) := goodIn_app (goodIn_of _ (by decide +kernel)) ggX6_nearly_X6_isPerson
set_option maxRecDepth 20000 in
theorem ggX6_nearly_X6_isThing : GoodIn wsX6_nearly wsX6_isThing := goodIn_c [13, 9] [6, 7, 8, 4, 43, 44, 45, 46, 47, 48, 49, 50, 51, 52, 53, 54, 55, 56] rfl (by decide +kernel) (by decide +kernel)
set_option maxRecDepth 20000 in
theorem gX6_nearly_X6_isThing : GoodIn wsX6_nearly (wsV RX6 119 RX6 yX6_isThing wsX6_isThing) := goodIn_app (goodIn_of _ (by decide +kernel)) ggX6_nearly_X6_isThing
set_option maxRecDepth 20000 in
theorem ggX6_nearly_X6_pauseNow : GoodIn wsX6_nearly wsX6_pauseNow := goodIn_c [17, 22] [18, 6, 19, 20, 21, 4, 43, 44, 45, 46, 47, 48, 49, 50, 51, 52, 53, 54, 55, 56] rfl (by decide +kernel) (by decide +kernel)
set_option maxRecDepth 20000 in
theorem gX6_nearly_X6_pauseNow : GoodIn wsX6_nearly (wsV RX6 101 RX6 yX6_pauseNow wsX6_pauseNow) := goodIn_app (goodIn_of _ (by decide +kernel)) ggX6_nearly_X6_pauseNow
set_option maxRecDepth 20000 in
theorem ggX6_nearly_X6_countedNow : GoodIn wsX6_nearly wsX6_countedNow := goodIn_c [26, 17, 22, 30] [6, 14, 15, 16, 4, 18, 19, 20, 21, 27, 28, 29, 43, 44, 45, 46, 47, 48, 49, 50, 51, 52, 53, 54, 55, 56] rfl (by decide +kernel) (by decide +kernel)
set_option maxRecDepth 20000 in
theorem gX6_nearly_X6_countedNow : GoodIn wsX6_nearly (wsV RX6 107 RX6 yX6_countedNow wsX6_countedNow) := goodIn_app (goodIn_of _ (by decide +kernel)) ggX6_nearly_X6_countedNow
set_option maxRecDepth 20000 in
theorem ggX6_nearly_X6_isNearly : GoodIn wsX6_nearly wsX6_isNearly := goodIn_c [34, 26, 17, 22, 30] [23, 24, 25, 4, 6, 14, 15, 16, 18, 19, 20, 21, 27, 28, 29, 43, 44, 45, 46, 47, 48, 49, 50, 51, 52, 53, 54, 55, 56] rfl (by decide +kernel) (by decide +kernel)
set_option maxRecDepth 20000 in
theorem gX6_nearly_X6_isNearly : GoodIn wsX6_nearly (wsV RX6 125 RX6 yX6_isNearly wsX6_isNearly) := goodIn_app (goodIn_of _ (by decide +kernel)) ggX6_nearly_X6_isNearly
set_option maxRecDepth 20000 in
theorem ggX6_nearly_X6_priceOf : GoodIn wsX6_nearly wsX6_priceOf := goodIn_c [38, 17, 22, 42] [6, 14, 15, 16, 4, 18, 19, 20, 21, 39, 40, 41, 43, 44, 45, 46, 47, 48, 49, 50, 51, 52, 53, 54, 55, 56] rfl (by decide +kernel) (by decide +kernel)
set_option maxRecDepth 20000 in
theorem gX6_nearly_X6_priceOf : GoodIn wsX6_nearly (wsV RX6 129 RX6 yX6_priceOf wsX6_priceOf) := goodIn_app (goodIn_of _ (by decide +kernel)) ggX6_nearly_X6_priceOf
set_option maxRecDepth 20000 in
theorem ggX6_pauses_X6_better : GoodIn wsX6_pauses wsX6_better := goodIn_c [5] [] rfl (by decide +kernel) (by decide +kernel)
set_option maxRecDepth 20000 in
theorem gX6_pauses_X6_better : GoodIn wsX6_pauses (va_wsS RX6 97 yX6_better wsX6_better) := goodIn_app (goodIn_of _ (by decide +kernel)) ggX6_pauses_X6_better
set_option maxRecDepth 20000 in
theorem ggX6_pause_X6_isPerson : GoodIn wsX6_pause wsX6_isPerson := goodIn_c [5, 9] [6, 7, 8, 4, 41, 42, 43, 44, 45, 46, 47, 48, 49, 50, 51, 52, 53, 54] rfl (by decide +kernel) (by decide +kernel)
set_option maxRecDepth 20000 in
theorem gX6_pause_X6_isPerson : GoodIn wsX6_pause (wsV RX6 113 RX6 yX6_isPerson wsX6_isPerson) := goodIn_app (goodIn_of _ (by decide +kernel)) ggX6_pause_X6_isPerson
set_option maxRecDepth 20000 in
theorem ggX6_pause_X6_isThing : GoodIn wsX6_pause wsX6_isThing := goodIn_c [13, 9] [6, 7, 8, 4, 41, 42, 43, 44, 45, 46, 47, 48, 49, 50, 51, 52, 53, 54] rfl (by decide +kernel) (by decide +kernel)
set_option maxRecDepth 20000 in
theorem gX6_pause_X6_isThing : GoodIn wsX6_pause (wsV RX6 119 RX6 yX6_isThing wsX6_isThing) := goodIn_app (goodIn_of _ (by decide +kernel)) ggX6_pause_X6_isThing
set_option maxRecDepth 20000 in
theorem ggX6_pause_X6_in : GoodIn wsX6_pause wsX6_in := goodIn_c [9] [] rfl (by decide +kernel) (by decide +kernel)
set_option maxRecDepth 20000 in
theorem gX6_pause_X6_in : GoodIn wsX6_pause (va_wsS RX6 56 yX6_in wsX6_in) := goodIn_app (goodIn_of _ (by decide +kernel)) ggX6_pause_X6_in
set_option maxRecDepth 20000 in
theorem ggX6_pause_X6_keeps : GoodIn wsX6_pause wsX6_keeps := goodIn_c [17] [18, 19, 20, 41, 42, 43, 44, 45, 46, 47, 48, 49, 50, 51, 52, 53, 54] rfl (by decide +kernel) (by decide +kernel)
set_option maxRecDepth 20000 in
theorem gX6_pause_X6_keeps : GoodIn wsX6_pause (wsV RX6 132 RX6 yX6_keeps wsX6_keeps) := goodIn_app (goodIn_of _ (by decide +kernel)) ggX6_pause_X6_keeps
set_option maxRecDepth 20000 in
theorem ggX6_pause_X6_pauses : GoodIn wsX6_pause wsX6_pauses := goodIn_c [24, 27] [20, 25, 26, 4, 41, 42, 43, 44, 45, 46, 47, 48, 49, 50, 51, 52, 53, 54] rfl (by decide +kernel) (by decide +kernel)
set_option maxRecDepth 20000 in
theorem gX6_pause_X6_pauses : GoodIn wsX6_pause (wsV RX6 135 RX6 yX6_pauses wsX6_pauses) := goodIn_app (goodIn_of _ (by decide +kernel)) ggX6_pause_X6_pauses
set_option maxRecDepth 20000 in
theorem ggX6_pause_X6_countedNow : GoodIn wsX6_pause wsX6_countedNow := goodIn_c [31, 35, 27, 40] [6, 32, 33, 34, 4, 20, 36, 25, 26, 37, 38, 39, 41, 42, 43, 44, 45, 46, 47, 48, 49, 50, 51, 52, 53, 54] rfl (by decide +kernel) (by decide +kernel)
set_option maxRecDepth 20000 in
theorem gX6_pause_X6_countedNow : GoodIn wsX6_pause (wsV RX6 107 RX6 yX6_countedNow wsX6_countedNow) := goodIn_app (goodIn_of _ (by decide +kernel)) ggX6_pause_X6_countedNow
set_option maxRecDepth 20000 in
theorem ggX6_dearest_X6_isNearly : GoodIn wsX6_dearest wsX6_isNearly := goodIn_c [6, 10, 14, 19, 23] [7, 8, 9, 5, 1, 11, 12, 13, 15, 16, 17, 18, 20, 21, 22, 32, 33, 34, 35, 36, 37, 38, 39, 40, 41, 42, 43, 44, 45] rfl (by decide +kernel) (by decide +kernel)
set_option maxRecDepth 20000 in
theorem gX6_dearest_X6_isNearly : GoodIn wsX6_dearest (wsV RX6 125 RX6 yX6_isNearly wsX6_isNearly) := goodIn_app (goodIn_of _ (by decide +kernel)) ggX6_dearest_X6_isNearly
set_option maxRecDepth 20000 in
theorem ggX6_dearest_X6_priceOf : GoodIn wsX6_dearest wsX6_priceOf := goodIn_c [27, 14, 19, 31] [1, 11, 12, 13, 5, 15, 16, 17, 18, 28, 29, 30, 32, 33, 34, 35, 36, 37, 38, 39, 40, 41, 42, 43, 44, 45] rfl (by decide +kernel) (by decide +kernel)
set_option maxRecDepth 20000 in
theorem gX6_dearest_X6_priceOf : GoodIn wsX6_dearest (wsV RX6 129 RX6 yX6_priceOf wsX6_priceOf) := goodIn_app (goodIn_of _ (by decide +kernel)) ggX6_dearest_X6_priceOf
set_option maxRecDepth 20000 in
theorem ggX6_offers_X6_priceOf : GoodIn wsX6_offers wsX6_priceOf := goodIn_c [7, 11, 15, 19] [2, 8, 9, 10, 6, 1, 12, 13, 14, 16, 17, 18, 40, 41, 42, 43, 44, 45, 46, 47, 48, 49, 50, 51, 52, 53] rfl (by decide +kernel) (by decide +kernel)
set_option maxRecDepth 20000 in
theorem gX6_offers_X6_priceOf : GoodIn wsX6_offers (wsV RX6 129 RX6 yX6_priceOf wsX6_priceOf) := goodIn_app (goodIn_of _ (by decide +kernel)) ggX6_offers_X6_priceOf
set_option maxRecDepth 20000 in
theorem ggX6_offers_X6_sells : GoodIn wsX6_offers wsX6_sells := goodIn_c [23] [1, 40, 41, 42, 43, 44, 45, 46, 47, 48, 49, 50, 51, 52, 53] rfl (by decide +kernel) (by decide +kernel)
set_option maxRecDepth 20000 in
theorem gX6_offers_X6_sells : GoodIn wsX6_offers (wsV RX6 139 RX6 yX6_sells wsX6_sells) := goodIn_app (goodIn_of _ (by decide +kernel)) ggX6_offers_X6_sells
set_option maxRecDepth 20000 in
theorem ggX6_offers_X6_dearest : GoodIn wsX6_offers wsX6_dearest := goodIn_c [27, 31, 35, 11, 15, 39, 7, 19] [2, 28, 29, 30, 6, 32, 33, 34, 8, 9, 10, 1, 12, 13, 14, 36, 37, 38, 3, 4, 5, 16, 17, 18, 40, 41, 42, 43, 44, 45, 46, 47, 48, 49, 50, 51, 52, 53] rfl (by decide +kernel) (by decide +kernel)
set_option maxRecDepth 20000 in
theorem gX6_offers_X6_dearest : GoodIn wsX6_offers (wsV RX6 142 RX6 yX6_dearest wsX6_dearest) := goodIn_app (goodIn_of _ (by decide +kernel)) ggX6_offers_X6_dearest
set_option maxRecDepth 20000 in
theorem ggX6_holds_X6_claim : GoodIn wsX6_holds wsX6_claim := goodIn_c [7, 11, 15, 19, 23] [1, 8, 9, 10, 6, 12, 13, 14, 2, 16, 17, 18, 20, 21, 22, 48, 49, 50, 51, 52, 53, 54, 55, 56, 57, 58, 59, 60, 61] rfl (by decide +kernel) (by decide +kernel)
set_option maxRecDepth 20000 in
theorem gX6_holds_X6_claim : GoodIn wsX6_holds (wsV RX6 122 RX6 yX6_claim wsX6_claim) := goodIn_app (goodIn_of _ (by decide +kernel)) ggX6_holds_X6_claim
set_option maxRecDepth 20000 in
theorem ggX6_holds_X6_offers : GoodIn wsX6_holds wsX6_offers := goodIn_c [27, 31, 15, 19, 35, 39, 43, 47, 11, 23] [2, 1, 28, 29, 30, 6, 12, 13, 14, 16, 17, 18, 32, 33, 34, 36, 37, 38, 40, 41, 42, 44, 45, 46, 8, 9, 10, 20, 21, 22, 48, 49, 50, 51, 52, 53, 54, 55, 56, 57, 58, 59, 60, 61] rfl (by decide +kernel) (by decide +kernel)
set_option maxRecDepth 20000 in
theorem gX6_holds_X6_offers : GoodIn wsX6_holds (wsV RX6 145 RX6 yX6_offers wsX6_offers) := goodIn_app (goodIn_of _ (by decide +kernel)) ggX6_holds_X6_offers
set_option maxRecDepth 20000 in
theorem ggX6_fair_X6_keeps : GoodIn wsX6_fair wsX6_keeps := goodIn_c [6] [7, 8, 1, 58, 59, 60, 61, 62, 63, 64, 65, 66, 67, 68, 69, 70, 71] rfl (by decide +kernel) (by decide +kernel)
set_option maxRecDepth 20000 in
theorem gX6_fair_X6_keeps : GoodIn wsX6_fair (wsV RX6 132 RX6 yX6_keeps wsX6_keeps) := goodIn_app (goodIn_of _ (by decide +kernel)) ggX6_fair_X6_keeps
set_option maxRecDepth 20000 in
theorem ggX6_fair_X6_holds : GoodIn wsX6_fair wsX6_holds := goodIn_c [12, 17, 21, 25, 29, 33, 37, 41, 45, 49, 53, 57] [13, 1, 14, 15, 16, 5, 18, 19, 20, 22, 23, 24, 26, 27, 28, 30, 31, 32, 34, 35, 36, 38, 39, 40, 42, 43, 44, 46, 47, 48, 50, 51, 52, 54, 55, 56, 58, 59, 60, 61, 62, 63, 64, 65, 66, 67, 68, 69, 70, 71] rfl (by decide +kernel) (by decide +kernel)
set_option maxRecDepth 20000 in
theorem gX6_fair_X6_holds : GoodIn wsX6_fair (wsV RX6 148 RX6 yX6_holds wsX6_holds) := goodIn_app (goodIn_of _ (by decide +kernel)) ggX6_fair_X6_holds
set_option maxRecDepth 20000 in
theorem ggX6_give_X6_isPerson : GoodIn wsX6_give wsX6_isPerson := goodIn_c [6, 10] [7, 8, 9, 5, 17, 18, 19, 20, 21, 22, 23, 24, 25, 26, 27, 28, 29, 30] rfl (by decide +kernel) (by decide +kernel)
set_option maxRecDepth 20000 in
theorem gX6_give_X6_isPerson : GoodIn wsX6_give (wsV RX6 113 RX6 yX6_isPerson wsX6_isPerson) := goodIn_app (goodIn_of _ (by decide +kernel)) ggX6_give_X6_isPerson
set_option maxRecDepth 20000 in
theorem ggX6_give_X6_in : GoodIn wsX6_give wsX6_in := goodIn_c [10] [] rfl (by decide +kernel) (by decide +kernel)
set_option maxRecDepth 20000 in
theorem gX6_give_X6_in : GoodIn wsX6_give (va_wsS RX6 56 yX6_in wsX6_in) := goodIn_app (goodIn_of _ (by decide +kernel)) ggX6_give_X6_in
set_option maxRecDepth 20000 in
theorem ggX6_give_X6_keeps : GoodIn wsX6_give wsX6_keeps := goodIn_c [14] [15, 16, 1, 17, 18, 19, 20, 21, 22, 23, 24, 25, 26, 27, 28, 29, 30] rfl (by decide +kernel) (by decide +kernel)
set_option maxRecDepth 20000 in
theorem gX6_give_X6_keeps : GoodIn wsX6_give (wsV RX6 132 RX6 yX6_keeps wsX6_keeps) := goodIn_app (goodIn_of _ (by decide +kernel)) ggX6_give_X6_keeps
set_option maxRecDepth 20000 in
theorem ggX6_whoseBehind_X6_holds : GoodIn wsX6_whoseBehind wsX6_holds := goodIn_c [6, 11, 15, 19, 23, 27, 31, 35, 39, 43, 47, 51] [7, 1, 8, 9, 10, 5, 12, 13, 14, 16, 17, 18, 20, 21, 22, 24, 25, 26, 28, 29, 30, 32, 33, 34, 36, 37, 38, 40, 41, 42, 44, 45, 46, 48, 49, 50, 57, 58, 59, 60, 61, 62, 63, 64, 65, 66, 67, 68, 69, 70] rfl (by decide +kernel) (by decide +kernel)
set_option maxRecDepth 20000 in
theorem gX6_whoseBehind_X6_holds : GoodIn wsX6_whoseBehind (wsV RX6 148 RX6 yX6_holds wsX6_holds) := goodIn_app (goodIn_of _ (by decide +kernel)) ggX6_whoseBehind_X6_holds
set_option maxRecDepth 20000 in
theorem ggX6_whoseBehind_X6_lets : GoodIn wsX6_whoseBehind wsX6_lets := goodIn_c [55] [1, 56, 57, 58, 59, 60, 61, 62, 63, 64, 65, 66, 67, 68, 69, 70] rfl (by decide +kernel) (by decide +kernel)
set_option maxRecDepth 20000 in
theorem gX6_whoseBehind_X6_lets : GoodIn wsX6_whoseBehind (wsV RX6 151 RX6 yX6_lets wsX6_lets) := goodIn_app (goodIn_of _ (by decide +kernel)) ggX6_whoseBehind_X6_lets
set_option maxRecDepth 20000 in
theorem ggX6_goesBehind_X6_holds : GoodIn wsX6_goesBehind wsX6_holds := goodIn_c [6, 11, 15, 19, 23, 27, 31, 35, 39, 43, 47, 51] [7, 1, 8, 9, 10, 5, 12, 13, 14, 16, 17, 18, 20, 21, 22, 24, 25, 26, 28, 29, 30, 32, 33, 34, 36, 37, 38, 40, 41, 42, 44, 45, 46, 48, 49, 50, 57, 58, 59, 60, 61, 62, 63, 64, 65, 66, 67, 68, 69, 70] rfl (by decide +kernel) (by decide +kernel)
set_option maxRecDepth 20000 in
theorem gX6_goesBehind_X6_holds : GoodIn wsX6_goesBehind (wsV RX6 148 RX6 yX6_holds wsX6_holds) := goodIn_app (goodIn_of _ (by decide +kernel)) ggX6_goesBehind_X6_holds
set_option maxRecDepth 20000 in
theorem ggX6_goesBehind_X6_lets : GoodIn wsX6_goesBehind wsX6_lets := goodIn_c [55] [1, 56, 57, 58, 59, 60, 61, 62, 63, 64, 65, 66, 67, 68, 69, 70] rfl (by decide +kernel) (by decide +kernel)
set_option maxRecDepth 20000 in
theorem gX6_goesBehind_X6_lets : GoodIn wsX6_goesBehind (wsV RX6 151 RX6 yX6_lets wsX6_lets) := goodIn_app (goodIn_of _ (by decide +kernel)) ggX6_goesBehind_X6_lets
set_option maxRecDepth 20000 in
theorem ggX6_behind_X6_isThing : GoodIn wsX6_behind wsX6_isThing := goodIn_c [5, 9] [6, 7, 8, 4, 72, 73, 74, 75, 76, 77, 78, 79, 80, 81, 82, 83, 84, 85] rfl (by decide +kernel) (by decide +kernel)
set_option maxRecDepth 20000 in
theorem gX6_behind_X6_isThing : GoodIn wsX6_behind (wsV RX6 119 RX6 yX6_isThing wsX6_isThing) := goodIn_app (goodIn_of _ (by decide +kernel)) ggX6_behind_X6_isThing
set_option maxRecDepth 20000 in
theorem ggX6_behind_X6_in : GoodIn wsX6_behind wsX6_in := goodIn_c [9] [] rfl (by decide +kernel) (by decide +kernel)
set_option maxRecDepth 20000 in
theorem gX6_behind_X6_in : GoodIn wsX6_behind (va_wsS RX6 56 yX6_in wsX6_in) := goodIn_app (goodIn_of _ (by decide +kernel)) ggX6_behind_X6_in
set_option maxRecDepth 20000 in
theorem ggX6_behind_X6_remembers : GoodIn wsX6_behind wsX6_remembers := goodIn_c [13] [14, 15, 72, 73, 74, 75, 76, 77, 78, 79, 80, 81, 82, 83, 84, 85] rfl (by decide +kernel) (by decide +kernel)
set_option maxRecDepth 20000 in
theorem gX6_behind_X6_remembers : GoodIn wsX6_behind (wsV RX6 154 RX6 yX6_remembers wsX6_remembers) := goodIn_app (goodIn_of _ (by decide +kernel)) ggX6_behind_X6_remembers
set_option maxRecDepth 20000 in
theorem ggX6_behind_X6_whoseBehind : GoodIn wsX6_behind wsX6_whoseBehind := goodIn_c [19, 23, 27, 31, 35, 39, 43, 47, 51, 55, 59, 63, 67, 71] [15, 20, 21, 22, 4, 6, 24, 25, 26, 28, 29, 30, 32, 33, 34, 36, 37, 38, 40, 41, 42, 44, 45, 46, 48, 49, 50, 52, 53, 54, 56, 57, 58, 60, 61, 62, 64, 65, 66, 68, 69, 70, 14, 72, 73, 74, 75, 76, 77, 78, 79, 80, 81, 82, 83, 84, 85] rfl (by decide +kernel) (by decide +kernel)
set_option maxRecDepth 20000 in
theorem gX6_behind_X6_whoseBehind : GoodIn wsX6_behind (wsV RX6 157 RX6 yX6_whoseBehind wsX6_whoseBehind) := goodIn_app (goodIn_of _ (by decide +kernel)) ggX6_behind_X6_whoseBehind
set_option maxRecDepth 20000 in
theorem ggX6_goes_X6_isThing : GoodIn wsX6_goes wsX6_isThing := goodIn_c [5, 9] [6, 7, 8, 4, 72, 73, 74, 75, 76, 77, 78, 79, 80, 81, 82, 83, 84, 85] rfl (by decide +kernel) (by decide +kernel)
set_option maxRecDepth 20000 in
theorem gX6_goes_X6_isThing : GoodIn wsX6_goes (wsV RX6 119 RX6 yX6_isThing wsX6_isThing) := goodIn_app (goodIn_of _ (by decide +kernel)) ggX6_goes_X6_isThing
set_option maxRecDepth 20000 in
theorem ggX6_goes_X6_remembers : GoodIn wsX6_goes wsX6_remembers := goodIn_c [13] [14, 15, 72, 73, 74, 75, 76, 77, 78, 79, 80, 81, 82, 83, 84, 85] rfl (by decide +kernel) (by decide +kernel)
set_option maxRecDepth 20000 in
theorem gX6_goes_X6_remembers : GoodIn wsX6_goes (wsV RX6 154 RX6 yX6_remembers wsX6_remembers) := goodIn_app (goodIn_of _ (by decide +kernel)) ggX6_goes_X6_remembers
set_option maxRecDepth 20000 in
theorem ggX6_goes_X6_goesBehind : GoodIn wsX6_goes wsX6_goesBehind := goodIn_c [19, 23, 27, 31, 35, 39, 43, 47, 51, 55, 59, 63, 67, 71] [15, 20, 21, 22, 4, 6, 24, 25, 26, 28, 29, 30, 32, 33, 34, 36, 37, 38, 40, 41, 42, 44, 45, 46, 48, 49, 50, 52, 53, 54, 56, 57, 58, 60, 61, 62, 64, 65, 66, 68, 69, 70, 14, 72, 73, 74, 75, 76, 77, 78, 79, 80, 81, 82, 83, 84, 85] rfl (by decide +kernel) (by decide +kernel)
set_option maxRecDepth 20000 in
theorem gX6_goes_X6_goesBehind : GoodIn wsX6_goes (wsV RX6 160 RX6 yX6_goesBehind wsX6_goesBehind) := goodIn_app (goodIn_of _ (by decide +kernel)) ggX6_goes_X6_goesBehind
set_option maxRecDepth 20000 in
theorem ggX6_never_X6_behind : GoodIn wsX6_never wsX6_behind := goodIn_c [6, 10, 13, 17, 23, 27, 31, 35, 39, 43, 47, 51, 55, 59, 63, 67, 71, 75] [7, 8, 9, 5, 1, 11, 12, 14, 15, 16, 18, 19, 20, 21, 22, 24, 25, 26, 28, 29, 30, 32, 33, 34, 36, 37, 38, 40, 41, 42, 44, 45, 46, 48, 49, 50, 52, 53, 54, 56, 57, 58, 60, 61, 62, 64, 65, 66, 68, 69, 70, 72, 73, 74, 76, 77, 78, 79, 80, 81, 82, 83, 84, 85, 86, 87, 88, 89] rfl (by decide +kernel) (by decide +kernel)
set_option maxRecDepth 20000 in
theorem gX6_never_X6_behind : GoodIn wsX6_never (wsV RX6 163 RX6 yX6_behind wsX6_behind) := goodIn_app (goodIn_of _ (by decide +kernel)) ggX6_never_X6_behind
set_option maxRecDepth 20000 in
theorem ggX6_stop_X6_isPerson : GoodIn wsX6_stop wsX6_isPerson := goodIn_c [5, 9] [6, 7, 8, 4, 84, 85, 86, 87, 88, 89, 90, 91, 92, 93, 94, 95, 96, 97] rfl (by decide +kernel) (by decide +kernel)
set_option maxRecDepth 20000 in
theorem gX6_stop_X6_isPerson : GoodIn wsX6_stop (wsV RX6 113 RX6 yX6_isPerson wsX6_isPerson) := goodIn_app (goodIn_of _ (by decide +kernel)) ggX6_stop_X6_isPerson
set_option maxRecDepth 20000 in
theorem ggX6_stop_X6_isThing : GoodIn wsX6_stop wsX6_isThing := goodIn_c [13, 9] [6, 7, 8, 4, 84, 85, 86, 87, 88, 89, 90, 91, 92, 93, 94, 95, 96, 97] rfl (by decide +kernel) (by decide +kernel)
set_option maxRecDepth 20000 in
theorem gX6_stop_X6_isThing : GoodIn wsX6_stop (wsV RX6 119 RX6 yX6_isThing wsX6_isThing) := goodIn_app (goodIn_of _ (by decide +kernel)) ggX6_stop_X6_isThing
set_option maxRecDepth 20000 in
theorem ggX6_stop_X6_in : GoodIn wsX6_stop wsX6_in := goodIn_c [9] [] rfl (by decide +kernel) (by decide +kernel)
set_option maxRecDepth 20000 in
theorem gX6_stop_X6_in : GoodIn wsX6_stop (va_wsS RX6 56 yX6_in wsX6_in) := goodIn_app (goodIn_of _ (by decide +kernel)) ggX6_stop_X6_in
set_option maxRecDepth 20000 in
theorem ggX6_stop_X6_remembers : GoodIn wsX6_stop wsX6_remembers := goodIn_c [17] [18, 19, 84, 85, 86, 87, 88, 89, 90, 91, 92, 93, 94, 95, 96, 97] rfl (by decide +kernel) (by decide +kernel)
set_option maxRecDepth 20000 in
theorem gX6_stop_X6_remembers : GoodIn wsX6_stop (wsV RX6 154 RX6 yX6_remembers wsX6_remembers) := goodIn_app (goodIn_of _ (by decide +kernel)) ggX6_stop_X6_remembers
set_option maxRecDepth 20000 in
theorem ggX6_stop_X6_whoseBehind : GoodIn wsX6_stop wsX6_whoseBehind := goodIn_c [23, 27, 31, 35, 39, 43, 47, 51, 55, 59, 63, 67, 71, 75] [19, 24, 25, 26, 4, 6, 28, 29, 30, 32, 33, 34, 36, 37, 38, 40, 41, 42, 44, 45, 46, 48, 49, 50, 52, 53, 54, 56, 57, 58, 60, 61, 62, 64, 65, 66, 68, 69, 70, 72, 73, 74, 18, 84, 85, 86, 87, 88, 89, 90, 91, 92, 93, 94, 95, 96, 97] rfl (by decide +kernel) (by decide +kernel)
set_option maxRecDepth 20000 in
theorem gX6_stop_X6_whoseBehind : GoodIn wsX6_stop (wsV RX6 157 RX6 yX6_whoseBehind wsX6_whoseBehind) := goodIn_app (goodIn_of _ (by decide +kernel)) ggX6_stop_X6_whoseBehind
set_option maxRecDepth 20000 in
theorem ggX6_stop_X6_goesBehind : GoodIn wsX6_stop wsX6_goesBehind := goodIn_c [79, 27, 31, 35, 39, 43, 47, 51, 55, 59, 63, 67, 71, 75] [19, 24, 25, 26, 4, 6, 28, 29, 30, 32, 33, 34, 36, 37, 38, 40, 41, 42, 44, 45, 46, 48, 49, 50, 52, 53, 54, 56, 57, 58, 60, 61, 62, 64, 65, 66, 68, 69, 70, 72, 73, 74, 18, 84, 85, 86, 87, 88, 89, 90, 91, 92, 93, 94, 95, 96, 97] rfl (by decide +kernel) (by decide +kernel)
set_option maxRecDepth 20000 in
theorem gX6_stop_X6_goesBehind : GoodIn wsX6_stop (wsV RX6 160 RX6 yX6_goesBehind wsX6_goesBehind) := goodIn_app (goodIn_of _ (by decide +kernel)) ggX6_stop_X6_goesBehind
set_option maxRecDepth 20000 in
theorem ggX6_stop_X6_pauses : GoodIn wsX6_stop wsX6_pauses := goodIn_c [83, 43] [19, 41, 42, 4, 84, 85, 86, 87, 88, 89, 90, 91, 92, 93, 94, 95, 96, 97] rfl (by decide +kernel) (by decide +kernel)
set_option maxRecDepth 20000 in
theorem gX6_stop_X6_pauses : GoodIn wsX6_stop (wsV RX6 135 RX6 yX6_pauses wsX6_pauses) := goodIn_app (goodIn_of _ (by decide +kernel)) ggX6_stop_X6_pauses
set_option maxRecDepth 20000 in
theorem ggX6_rank_X6_isPerson : GoodIn wsX6_rank wsX6_isPerson := goodIn_c [6, 9] [1, 7, 8, 5, 39, 40, 41, 42, 43, 44, 45, 46, 47, 48, 49, 50, 51, 52] rfl (by decide +kernel) (by decide +kernel)
set_option maxRecDepth 20000 in
theorem gX6_rank_X6_isPerson : GoodIn wsX6_rank (wsV RX6 113 RX6 yX6_isPerson wsX6_isPerson) := goodIn_app (goodIn_of _ (by decide +kernel)) ggX6_rank_X6_isPerson
set_option maxRecDepth 20000 in
theorem ggX6_rank_X6_isNearly : GoodIn wsX6_rank wsX6_isNearly := goodIn_c [13, 17, 21, 26, 30] [14, 15, 16, 5, 1, 18, 19, 20, 22, 23, 24, 25, 27, 28, 29, 39, 40, 41, 42, 43, 44, 45, 46, 47, 48, 49, 50, 51, 52] rfl (by decide +kernel) (by decide +kernel)
set_option maxRecDepth 20000 in
theorem gX6_rank_X6_isNearly : GoodIn wsX6_rank (wsV RX6 125 RX6 yX6_isNearly wsX6_isNearly) := goodIn_app (goodIn_of _ (by decide +kernel)) ggX6_rank_X6_isNearly
set_option maxRecDepth 20000 in
theorem ggX6_rank_X6_priceOf : GoodIn wsX6_rank wsX6_priceOf := goodIn_c [34, 21, 26, 38] [1, 18, 19, 20, 5, 22, 23, 24, 25, 35, 36, 37, 39, 40, 41, 42, 43, 44, 45, 46, 47, 48, 49, 50, 51, 52] rfl (by decide +kernel) (by decide +kernel)
set_option maxRecDepth 20000 in
theorem gX6_rank_X6_priceOf : GoodIn wsX6_rank (wsV RX6 129 RX6 yX6_priceOf wsX6_priceOf) := goodIn_app (goodIn_of _ (by decide +kernel)) ggX6_rank_X6_priceOf
set_option maxRecDepth 20000 in
theorem ggX6_wants_X6_isNearly : GoodIn wsX6_wants wsX6_isNearly := goodIn_c [6, 10, 14, 19, 23] [7, 8, 9, 5, 1, 11, 12, 13, 15, 16, 17, 18, 20, 21, 22, 24, 25, 26, 27, 28, 29, 30, 31, 32, 33, 34, 35, 36, 37] rfl (by decide +kernel) (by decide +kernel)
set_option maxRecDepth 20000 in
theorem gX6_wants_X6_isNearly : GoodIn wsX6_wants (wsV RX6 125 RX6 yX6_isNearly wsX6_isNearly) := goodIn_app (goodIn_of _ (by decide +kernel)) ggX6_wants_X6_isNearly
set_option maxRecDepth 20000 in
theorem ggX6_wanted_X6_in : GoodIn wsX6_wanted wsX6_in := goodIn_c [5] [] rfl (by decide +kernel) (by decide +kernel)
set_option maxRecDepth 20000 in
theorem gX6_wanted_X6_in : GoodIn wsX6_wanted (va_wsS RX6 56 yX6_in wsX6_in) := goodIn_app (goodIn_of _ (by decide +kernel)) ggX6_wanted_X6_in
set_option maxRecDepth 20000 in
theorem ggX6_wanted_X6_wants : GoodIn wsX6_wanted wsX6_wants := goodIn_c [9, 13, 17, 21, 26, 30] [1, 10, 11, 12, 4, 14, 15, 16, 18, 19, 20, 22, 23, 24, 25, 27, 28, 29, 31, 32, 33, 34, 35, 36, 37, 38, 39, 40, 41, 42, 43, 44] rfl (by decide +kernel) (by decide +kernel)
set_option maxRecDepth 20000 in
theorem gX6_wanted_X6_wants : GoodIn wsX6_wanted (wsV RX6 166 RX6 yX6_wants wsX6_wants) := goodIn_app (goodIn_of _ (by decide +kernel)) ggX6_wanted_X6_wants
set_option maxRecDepth 20000 in
theorem ggX6_seen_X6_isThing : GoodIn wsX6_seen wsX6_isThing := goodIn_c [7, 11] [8, 9, 10, 6, 16, 17, 18, 19, 20, 21, 22, 23, 24, 25, 26, 27, 28, 29] rfl (by decide +kernel) (by decide +kernel)
set_option maxRecDepth 20000 in
theorem gX6_seen_X6_isThing : GoodIn wsX6_seen (wsV RX6 119 RX6 yX6_isThing wsX6_isThing) := goodIn_app (goodIn_of _ (by decide +kernel)) ggX6_seen_X6_isThing
set_option maxRecDepth 20000 in
theorem ggX6_seen_X6_isPerson : GoodIn wsX6_seen wsX6_isPerson := goodIn_c [15, 11] [8, 9, 10, 6, 16, 17, 18, 19, 20, 21, 22, 23, 24, 25, 26, 27, 28, 29] rfl (by decide +kernel) (by decide +kernel)
set_option maxRecDepth 20000 in
theorem gX6_seen_X6_isPerson : GoodIn wsX6_seen (wsV RX6 113 RX6 yX6_isPerson wsX6_isPerson) := goodIn_app (goodIn_of _ (by decide +kernel)) ggX6_seen_X6_isPerson
set_option maxRecDepth 20000 in
theorem ggX6_seen_X6_in : GoodIn wsX6_seen wsX6_in := goodIn_c [11] [] rfl (by decide +kernel) (by decide +kernel)
set_option maxRecDepth 20000 in
theorem gX6_seen_X6_in : GoodIn wsX6_seen (va_wsS RX6 56 yX6_in wsX6_in) := goodIn_app (goodIn_of _ (by decide +kernel)) ggX6_seen_X6_in
set_option maxRecDepth 20000 in
theorem ggX6_isSo_X6_remembers : GoodIn wsX6_isSo wsX6_remembers := goodIn_c [9] [10, 4, 67, 68, 69, 70, 71, 72, 73, 74, 75, 76, 77, 78, 79, 80] rfl (by decide +kernel) (by decide +kernel)
set_option maxRecDepth 20000 in
theorem gX6_isSo_X6_remembers : GoodIn wsX6_isSo (wsV RX6 154 RX6 yX6_remembers wsX6_remembers) := goodIn_app (goodIn_of _ (by decide +kernel)) ggX6_isSo_X6_remembers
set_option maxRecDepth 20000 in
theorem ggX6_isSo_X6_starts : GoodIn wsX6_isSo wsX6_starts := goodIn_c [14] [4, 15, 67, 68, 69, 70, 71, 72, 73, 74, 75, 76, 77, 78, 79, 80] rfl (by decide +kernel) (by decide +kernel)
set_option maxRecDepth 20000 in
theorem gX6_isSo_X6_starts : GoodIn wsX6_isSo (wsV RX6 85 RX6 yX6_starts wsX6_starts) := goodIn_app (goodIn_of _ (by decide +kernel)) ggX6_isSo_X6_starts
set_option maxRecDepth 20000 in
theorem ggX6_isSo_X6_holds : GoodIn wsX6_isSo wsX6_holds := goodIn_c [19, 23, 27, 31, 34, 38, 42, 46, 50, 54, 58, 62] [15, 4, 20, 21, 22, 8, 24, 25, 26, 28, 29, 30, 1, 32, 33, 35, 36, 37, 39, 40, 41, 43, 44, 45, 47, 48, 49, 51, 52, 53, 55, 56, 57, 59, 60, 61, 67, 68, 69, 70, 71, 72, 73, 74, 75, 76, 77, 78, 79, 80] rfl (by decide +kernel) (by decide +kernel)
set_option maxRecDepth 20000 in
theorem gX6_isSo_X6_holds : GoodIn wsX6_isSo (wsV RX6 148 RX6 yX6_holds wsX6_holds) := goodIn_app (goodIn_of _ (by decide +kernel)) ggX6_isSo_X6_holds
set_option maxRecDepth 20000 in
theorem ggX6_isSo_X6_lets : GoodIn wsX6_isSo wsX6_lets := goodIn_c [66] [4, 10, 67, 68, 69, 70, 71, 72, 73, 74, 75, 76, 77, 78, 79, 80] rfl (by decide +kernel) (by decide +kernel)
set_option maxRecDepth 20000 in
theorem gX6_isSo_X6_lets : GoodIn wsX6_isSo (wsV RX6 151 RX6 yX6_lets wsX6_lets) := goodIn_app (goodIn_of _ (by decide +kernel)) ggX6_isSo_X6_lets
set_option maxRecDepth 20000 in
theorem ggX6_feigned_X6_in : GoodIn wsX6_feigned wsX6_in := goodIn_c [5] [] rfl (by decide +kernel) (by decide +kernel)
set_option maxRecDepth 20000 in
theorem gX6_feigned_X6_in : GoodIn wsX6_feigned (va_wsS RX6 56 yX6_in wsX6_in) := goodIn_app (goodIn_of _ (by decide +kernel)) ggX6_feigned_X6_in
set_option maxRecDepth 20000 in
theorem ggX6_feigned_X6_isSo : GoodIn wsX6_feigned wsX6_isSo := goodIn_c [9, 17, 22, 26, 30, 34, 38, 41, 45, 49, 53, 57, 61, 65, 69, 73] [10, 11, 12, 13, 14, 15, 16, 4, 18, 19, 20, 21, 1, 23, 24, 25, 27, 28, 29, 31, 32, 33, 35, 36, 37, 39, 40, 42, 43, 44, 46, 47, 48, 50, 51, 52, 54, 55, 56, 58, 59, 60, 62, 63, 64, 66, 67, 68, 70, 71, 72, 74, 75, 76, 77, 78, 79, 80, 81, 82, 83, 84, 85, 86, 87] rfl (by decide +kernel) (by decide +kernel)
set_option maxRecDepth 20000 in
theorem gX6_feigned_X6_isSo : GoodIn wsX6_feigned (wsV RX6 169 RX6 yX6_isSo wsX6_isSo) := goodIn_app (goodIn_of _ (by decide +kernel)) ggX6_feigned_X6_isSo
set_option maxRecDepth 20000 in
theorem ggX6_counts_X6_isPerson : GoodIn wsX6_counts wsX6_isPerson := goodIn_c [6, 9] [1, 7, 8, 5, 14, 15, 16, 17, 18, 19, 20, 21, 22, 23, 24, 25, 26, 27] rfl (by decide +kernel) (by decide +kernel)
set_option maxRecDepth 20000 in
theorem gX6_counts_X6_isPerson : GoodIn wsX6_counts (wsV RX6 113 RX6 yX6_isPerson wsX6_isPerson) := goodIn_app (goodIn_of _ (by decide +kernel)) ggX6_counts_X6_isPerson
set_option maxRecDepth 20000 in
theorem ggX6_counts_X6_in : GoodIn wsX6_counts wsX6_in := goodIn_c [9] [] rfl (by decide +kernel) (by decide +kernel)
set_option maxRecDepth 20000 in
theorem gX6_counts_X6_in : GoodIn wsX6_counts (va_wsS RX6 56 yX6_in wsX6_in) := goodIn_app (goodIn_of _ (by decide +kernel)) ggX6_counts_X6_in
set_option maxRecDepth 20000 in
theorem ggX6_counts_X6_countedOf : GoodIn wsX6_counts wsX6_countedOf := goodIn_c [13] [] rfl (by decide +kernel) (by decide +kernel)
set_option maxRecDepth 20000 in
theorem gX6_counts_X6_countedOf : GoodIn wsX6_counts (wsV RX6 104 RX6 yX6_countedOf wsX6_countedOf) := goodIn_app (goodIn_of _ (by decide +kernel)) ggX6_counts_X6_countedOf
set_option maxRecDepth 20000 in
theorem ggX6_cheapest_X6_isThing : GoodIn wsX6_cheapest wsX6_isThing := goodIn_c [6, 9] [1, 7, 8, 5, 39, 40, 41, 42, 43, 44, 45, 46, 47, 48, 49, 50, 51, 52] rfl (by decide +kernel) (by decide +kernel)
set_option maxRecDepth 20000 in
theorem gX6_cheapest_X6_isThing : GoodIn wsX6_cheapest (wsV RX6 119 RX6 yX6_isThing wsX6_isThing) := goodIn_app (goodIn_of _ (by decide +kernel)) ggX6_cheapest_X6_isThing
set_option maxRecDepth 20000 in
theorem ggX6_cheapest_X6_in : GoodIn wsX6_cheapest wsX6_in := goodIn_c [9] [] rfl (by decide +kernel) (by decide +kernel)
set_option maxRecDepth 20000 in
theorem gX6_cheapest_X6_in : GoodIn wsX6_cheapest (va_wsS RX6 56 yX6_in wsX6_in) := goodIn_app (goodIn_of _ (by decide +kernel)) ggX6_cheapest_X6_in
set_option maxRecDepth 20000 in
theorem ggX6_cheapest_X6_isNearly : GoodIn wsX6_cheapest wsX6_isNearly := goodIn_c [13, 17, 21, 26, 30] [14, 15, 16, 5, 1, 18, 19, 20, 22, 23, 24, 25, 27, 28, 29, 39, 40, 41, 42, 43, 44, 45, 46, 47, 48, 49, 50, 51, 52] rfl (by decide +kernel) (by decide +kernel)
set_option maxRecDepth 20000 in
theorem gX6_cheapest_X6_isNearly : GoodIn wsX6_cheapest (wsV RX6 125 RX6 yX6_isNearly wsX6_isNearly) := goodIn_app (goodIn_of _ (by decide +kernel)) ggX6_cheapest_X6_isNearly
set_option maxRecDepth 20000 in
theorem ggX6_cheapest_X6_priceOf : GoodIn wsX6_cheapest wsX6_priceOf := goodIn_c [34, 21, 26, 38] [1, 18, 19, 20, 5, 22, 23, 24, 25, 35, 36, 37, 39, 40, 41, 42, 43, 44, 45, 46, 47, 48, 49, 50, 51, 52] rfl (by decide +kernel) (by decide +kernel)
set_option maxRecDepth 20000 in
theorem gX6_cheapest_X6_priceOf : GoodIn wsX6_cheapest (wsV RX6 129 RX6 yX6_priceOf wsX6_priceOf) := goodIn_app (goodIn_of _ (by decide +kernel)) ggX6_cheapest_X6_priceOf
set_option maxRecDepth 20000 in
theorem ggX6_greens_X6_in : GoodIn wsX6_greens wsX6_in := goodIn_c [8] [] rfl (by decide +kernel) (by decide +kernel)
set_option maxRecDepth 20000 in
theorem gX6_greens_X6_in : GoodIn wsX6_greens (va_wsS RX6 56 yX6_in wsX6_in) := goodIn_app (goodIn_of _ (by decide +kernel)) ggX6_greens_X6_in
set_option maxRecDepth 20000 in
theorem ggX6_greens_X6_remembers : GoodIn wsX6_greens wsX6_remembers := goodIn_c [12] [13, 14, 79, 80, 81, 82, 83, 84, 85, 86, 87, 88, 89, 90, 91, 92] rfl (by decide +kernel) (by decide +kernel)
set_option maxRecDepth 20000 in
theorem gX6_greens_X6_remembers : GoodIn wsX6_greens (wsV RX6 154 RX6 yX6_remembers wsX6_remembers) := goodIn_app (goodIn_of _ (by decide +kernel)) ggX6_greens_X6_remembers
set_option maxRecDepth 20000 in
theorem ggX6_greens_X6_pauses : GoodIn wsX6_greens wsX6_pauses := goodIn_c [18, 21] [14, 19, 20, 7, 79, 80, 81, 82, 83, 84, 85, 86, 87, 88, 89, 90, 91, 92] rfl (by decide +kernel) (by decide +kernel)
set_option maxRecDepth 20000 in
theorem gX6_greens_X6_pauses : GoodIn wsX6_greens (wsV RX6 135 RX6 yX6_pauses wsX6_pauses) := goodIn_app (goodIn_of _ (by decide +kernel)) ggX6_greens_X6_pauses
set_option maxRecDepth 20000 in
theorem ggX6_greens_X6_holds : GoodIn wsX6_greens wsX6_holds := goodIn_c [25, 29, 33, 37, 21, 42, 46, 50, 54, 58, 62, 66] [4, 14, 26, 27, 28, 7, 30, 31, 32, 34, 35, 36, 38, 19, 20, 39, 40, 41, 43, 44, 45, 47, 48, 49, 51, 52, 53, 55, 56, 57, 59, 60, 61, 63, 64, 65, 79, 80, 81, 82, 83, 84, 85, 86, 87, 88, 89, 90, 91, 92] rfl (by decide +kernel) (by decide +kernel)
set_option maxRecDepth 20000 in
theorem gX6_greens_X6_holds : GoodIn wsX6_greens (wsV RX6 148 RX6 yX6_holds wsX6_holds) := goodIn_app (goodIn_of _ (by decide +kernel)) ggX6_greens_X6_holds
set_option maxRecDepth 20000 in
theorem ggX6_greens_X6_taken : GoodIn wsX6_greens wsX6_taken := goodIn_c [70] [4, 14, 79, 80, 81, 82, 83, 84, 85, 86, 87, 88, 89, 90, 91, 92] rfl (by decide +kernel) (by decide +kernel)
set_option maxRecDepth 20000 in
theorem gX6_greens_X6_taken : GoodIn wsX6_greens (wsV RX6 178 RX6 yX6_taken wsX6_taken) := goodIn_app (goodIn_of _ (by decide +kernel)) ggX6_greens_X6_taken
set_option maxRecDepth 20000 in
theorem ggX6_greens_X6_allCoins : GoodIn wsX6_greens wsX6_allCoins := goodIn_c [74] [4, 14, 79, 80, 81, 82, 83, 84, 85, 86, 87, 88, 89, 90, 91, 92] rfl (by decide +kernel) (by decide +kernel)
set_option maxRecDepth 20000 in
theorem gX6_greens_X6_allCoins : GoodIn wsX6_greens (wsV RX6 181 RX6 yX6_allCoins wsX6_allCoins) := goodIn_app (goodIn_of _ (by decide +kernel)) ggX6_greens_X6_allCoins
set_option maxRecDepth 20000 in
theorem ggX6_greens_X6_lets : GoodIn wsX6_greens wsX6_lets := goodIn_c [78] [14, 13, 79, 80, 81, 82, 83, 84, 85, 86, 87, 88, 89, 90, 91, 92] rfl (by decide +kernel) (by decide +kernel)
set_option maxRecDepth 20000 in
theorem gX6_greens_X6_lets : GoodIn wsX6_greens (wsV RX6 151 RX6 yX6_lets wsX6_lets) := goodIn_app (goodIn_of _ (by decide +kernel)) ggX6_greens_X6_lets
set_option maxRecDepth 20000 in
theorem ggX6_count_X6_taken : GoodIn wsX6_count wsX6_taken := goodIn_c [11] [1, 2, 16, 17, 18, 19, 20, 21, 22, 23, 24, 25, 26, 27, 28, 29] rfl (by decide +kernel) (by decide +kernel)
set_option maxRecDepth 20000 in
theorem gX6_count_X6_taken : GoodIn wsX6_count (wsV RX6 178 RX6 yX6_taken wsX6_taken) := goodIn_app (goodIn_of _ (by decide +kernel)) ggX6_count_X6_taken
set_option maxRecDepth 20000 in
theorem ggX6_count_X6_allCoins : GoodIn wsX6_count wsX6_allCoins := goodIn_c [15] [1, 2, 16, 17, 18, 19, 20, 21, 22, 23, 24, 25, 26, 27, 28, 29] rfl (by decide +kernel) (by decide +kernel)
set_option maxRecDepth 20000 in
theorem gX6_count_X6_allCoins : GoodIn wsX6_count (wsV RX6 181 RX6 yX6_allCoins wsX6_allCoins) := goodIn_app (goodIn_of _ (by decide +kernel)) ggX6_count_X6_allCoins
set_option maxRecDepth 20000 in
theorem ggJ0_length_8abf5_J0_coder_7d493 : GoodIn wsJ0_length_8abf5 wsJ0_coder_7d493 := goodIn_c [6] [7, 8] rfl (by decide +kernel) (by decide +kernel)
set_option maxRecDepth 20000 in
theorem gJ0_length_8abf5_J0_coder_7d493 : GoodIn wsJ0_length_8abf5 (wsV RJ0 335 RJ0 yJ0_coder_7d493 wsJ0_coder_7d493) := goodIn_app (goodIn_of _ (by decide +kernel)) ggJ0_length_8abf5_J0_coder_7d493
set_option maxRecDepth 20000 in
theorem ggJ0_charAt_5068e_J0_isLatin1_aae02 : GoodIn wsJ0_charAt_5068e wsJ0_isLatin1_aae02 := goodIn_c [6] [7, 8] rfl (by decide +kernel) (by decide +kernel)
set_option maxRecDepth 20000 in
theorem gJ0_charAt_5068e_J0_isLatin1_aae02 : GoodIn wsJ0_charAt_5068e (wsV RJ0 492 RJ0 yJ0_isLatin1_aae02 wsJ0_isLatin1_aae02) := goodIn_app (goodIn_of _ (by decide +kernel)) ggJ0_charAt_5068e_J0_isLatin1_aae02
set_option maxRecDepth 20000 in
theorem ggJ0_charAt_5068e_J1_charAt_3b067 : GoodIn wsJ0_charAt_5068e wsJ1_charAt_3b067 := goodIn_c [12, 15, 20] [13, 14, 5, 16, 17, 18, 19] rfl (by decide +kernel) (by decide +kernel)
set_option maxRecDepth 20000 in
theorem gJ0_charAt_5068e_J1_charAt_3b067 : GoodIn wsJ0_charAt_5068e (va_wsS RJ0 495 yJ1_charAt_3b067 wsJ1_charAt_3b067) := goodIn_app (goodIn_of _ (by decide +kernel)) ggJ0_charAt_5068e_J1_charAt_3b067
set_option maxRecDepth 20000 in
theorem ggJ0_charAt_5068e_J2_charAt_3b067 : GoodIn wsJ0_charAt_5068e wsJ2_charAt_3b067 := goodIn_c [24, 27, 30, 15, 20, 34] [25, 26, 23, 28, 29, 31, 14, 5, 16, 17, 18, 19, 32, 33, 35, 36, 37] rfl (by decide +kernel) (by decide +kernel)
set_option maxRecDepth 20000 in
theorem gJ0_charAt_5068e_J2_charAt_3b067 : GoodIn wsJ0_charAt_5068e (va_wsS RJ0 498 yJ2_charAt_3b067 wsJ2_charAt_3b067) := goodIn_app (goodIn_of _ (by decide +kernel)) ggJ0_charAt_5068e_J2_charAt_3b067
set_option maxRecDepth 20000 in
theorem ggJ0_checkIndex_df160_J3_checkIndex_8e157 : GoodIn wsJ0_checkIndex_df160 wsJ3_checkIndex_8e157 := goodIn_c [5] [] rfl (by decide +kernel) (by decide +kernel)
set_option maxRecDepth 20000 in
theorem gJ0_checkIndex_df160_J3_checkIndex_8e157 : GoodIn wsJ0_checkIndex_df160 (va_wsS RJ0 1059 yJ3_checkIndex_8e157 wsJ3_checkIndex_8e157) := goodIn_app (goodIn_of _ (by decide +kernel)) ggJ0_checkIndex_df160_J3_checkIndex_8e157
set_option maxRecDepth 20000 in
theorem ggJ1_charAt_3b067_J0_checkIndex_df160 : GoodIn wsJ1_charAt_3b067 wsJ0_checkIndex_df160 := goodIn_c [4, 9] [5, 6, 7, 8] rfl (by decide +kernel) (by decide +kernel)
set_option maxRecDepth 20000 in
theorem gJ1_charAt_3b067_J0_checkIndex_df160 : GoodIn wsJ1_charAt_3b067 (va_wsS RJ1 9 yJ0_checkIndex_df160 wsJ0_checkIndex_df160) := goodIn_app (goodIn_of _ (by decide +kernel)) ggJ1_charAt_3b067_J0_checkIndex_df160
set_option maxRecDepth 20000 in
theorem ggJ2_getChar_3b067_J2_length_9d52b : GoodIn wsJ2_getChar_3b067 wsJ2_length_9d52b := goodIn_c [7] [] rfl (by decide +kernel) (by decide +kernel)
set_option maxRecDepth 20000 in
theorem gJ2_getChar_3b067_J2_length_9d52b : GoodIn wsJ2_getChar_3b067 (va_wsS RJ2 48 yJ2_length_9d52b wsJ2_length_9d52b) := goodIn_app (goodIn_of _ (by decide +kernel)) ggJ2_getChar_3b067_J2_length_9d52b
set_option maxRecDepth 20000 in
theorem ggJ2_charAt_3b067_J2_checkIndex_2214a : GoodIn wsJ2_charAt_3b067 wsJ2_checkIndex_2214a := goodIn_c [4, 7, 11, 16] [5, 6, 3, 8, 9, 10, 12, 13, 14, 15] rfl (by decide +kernel) (by decide +kernel)
set_option maxRecDepth 20000 in
theorem gJ2_charAt_3b067_J2_checkIndex_2214a : GoodIn wsJ2_charAt_3b067 (va_wsS RJ2 67 yJ2_checkIndex_2214a wsJ2_checkIndex_2214a) := goodIn_app (goodIn_of _ (by decide +kernel)) ggJ2_charAt_3b067_J2_checkIndex_2214a
set_option maxRecDepth 20000 in
theorem ggJ2_charAt_3b067_J2_getChar_3b067 : GoodIn wsJ2_charAt_3b067 wsJ2_getChar_3b067 := goodIn_c [19, 7] [20, 21, 22, 5, 6, 3] rfl (by decide +kernel) (by decide +kernel)
set_option maxRecDepth 20000 in
theorem gJ2_charAt_3b067_J2_getChar_3b067 : GoodIn wsJ2_charAt_3b067 (va_wsS RJ2 71 yJ2_getChar_3b067 wsJ2_getChar_3b067) := goodIn_app (goodIn_of _ (by decide +kernel)) ggJ2_charAt_3b067_J2_getChar_3b067
set_option maxRecDepth 20000 in
theorem ggJ2_checkIndex_2214a_J2_length_9d52b : GoodIn wsJ2_checkIndex_2214a wsJ2_length_9d52b := goodIn_c [4] [] rfl (by decide +kernel) (by decide +kernel)
set_option maxRecDepth 20000 in
theorem gJ2_checkIndex_2214a_J2_length_9d52b : GoodIn wsJ2_checkIndex_2214a (va_wsS RJ2 48 yJ2_length_9d52b wsJ2_length_9d52b) := goodIn_app (goodIn_of _ (by decide +kernel)) ggJ2_checkIndex_2214a_J2_length_9d52b
set_option maxRecDepth 20000 in
theorem ggJ2_checkIndex_2214a_J0_checkIndex_df160 : GoodIn wsJ2_checkIndex_2214a wsJ0_checkIndex_df160 := goodIn_c [8, 13] [9, 10, 11, 12] rfl (by decide +kernel) (by decide +kernel)
set_option maxRecDepth 20000 in
theorem gJ2_checkIndex_2214a_J0_checkIndex_df160 : GoodIn wsJ2_checkIndex_2214a (va_wsS RJ2 414 yJ0_checkIndex_df160 wsJ0_checkIndex_df160) := goodIn_app (goodIn_of _ (by decide +kernel)) ggJ2_checkIndex_2214a_J0_checkIndex_df160
set_option maxRecDepth 20000 in
theorem ggL_law_X5_init : GoodIn wsL_law wsX5_init := goodIn_c [8, 11, 39, 43, 54, 68, 74, 82, 86, 91, 96, 102, 106, 110, 113, 118, 122, 125, 128, 132, 139, 146, 151, 160, 164, 167, 171, 174, 178, 182, 186, 190, 194, 198, 202, 206, 210, 220, 224, 233, 237, 241, 245] [9, 10, 12, 13, 14, 15, 16, 17, 18, 19, 20, 21, 22, 23, 24, 25, 26, 27, 28, 29, 30, 31, 32, 33, 34, 35, 36, 37, 38, 40, 41, 42, 44, 45, 46, 47, 48, 49, 50, 51, 52, 53, 55, 56, 57, 58, 59, 60, 61, 62, 63, 64, 65, 66, 67, 69, 70, 71, 72, 73, 75, 76, 77, 78, 79, 80, 81, 2, 83, 84, 85, 87, 88, 89, 90, 92, 93, 94, 95, 97, 98, 99, 100, 101, 103, 104, 105, 107, 108, 109, 111, 112, 114, 115, 116, 117, 119, 120, 121, 123, 124, 126, 127, 129, 130, 131, 133, 134, 135, 136, 137, 138, 140, 141, 142, 143, 144, 145, 147, 148, 149, 150, 152, 153, 154, 155, 156, 157, 158, 159, 161, 162, 163, 165, 166, 168, 169, 170, 172, 173, 175, 176, 177, 179, 180, 181, 183, 184, 185, 187, 188, 189, 191, 192, 193, 195, 196, 197, 199, 200, 201, 203, 204, 205, 207, 208, 209, 211, 212, 213, 214, 215, 216, 217, 218, 219, 221, 222, 223, 225, 226, 227, 228, 229, 230, 231, 232, 234, 235, 236, 238, 239, 240, 242, 243, 244, 753, 754, 755, 756, 757, 758, 759, 760, 761, 762, 763, 778, 779, 780, 781, 782, 783, 784, 785, 786, 787, 788, 789, 790, 791, 792, 793, 794, 795, 796, 797, 798, 799, 800, 801, 802, 803, 804, 805, 806, 807, 808] rfl (by decide +kernel) (by decide +kernel)
set_option maxRecDepth 20000 in
theorem gL_law_X5_init : GoodIn wsL_law (wsX5_init) := ggL_law_X5_init
set_option maxRecDepth 20000 in
theorem ggL_law_X6_init : GoodIn wsL_law wsX6_init := goodIn_c [248, 11, 262, 266, 270, 274, 278, 285] [249, 10, 12, 250, 251, 252, 253, 254, 255, 256, 257, 258, 259, 260, 261, 5, 263, 264, 265, 267, 268, 269, 271, 272, 273, 275, 276, 277, 279, 280, 281, 282, 283, 284, 764, 765, 766, 767, 768, 769, 770, 771, 772, 773, 774, 775, 776, 777] rfl (by decide +kernel) (by decide +kernel)
set_option maxRecDepth 20000 in
theorem gL_law_X6_init : GoodIn wsL_law (wsX6_init) := ggL_law_X6_init
set_option maxRecDepth 20000 in
theorem ggL_law_X5_write : GoodIn wsL_law wsX5_write := goodIn_c [289] [37, 13, 753, 754, 755, 756, 757, 758, 759, 760, 761, 762, 763] rfl (by decide +kernel) (by decide +kernel)
set_option maxRecDepth 20000 in
theorem gL_law_X5_write : GoodIn wsL_law (wsV RL 13 RX5 yX5_write wsX5_write) := goodIn_app (goodIn_of _ (by decide +kernel)) ggL_law_X5_write
set_option maxRecDepth 20000 in
theorem ggL_law_X6_write : GoodIn wsL_law wsX6_write := goodIn_c [293, 297] [294, 250, 295, 296, 5, 764, 765, 766, 767, 768, 769, 770, 771, 772, 773, 774, 775, 776, 777] rfl (by decide +kernel) (by decide +kernel)
set_option maxRecDepth 20000 in
theorem gL_law_X6_write : GoodIn wsL_law (wsV RL 17 RX6 yX6_write wsX6_write) := goodIn_app (goodIn_of _ (by decide +kernel)) ggL_law_X6_write
set_option maxRecDepth 20000 in
theorem ggL_law_X5_wipe : GoodIn wsL_law wsX5_wipe := goodIn_c [301] [37, 753, 754, 755, 756, 757, 758, 759, 760, 761, 762, 763] rfl (by decide +kernel) (by decide +kernel)
set_option maxRecDepth 20000 in
theorem gL_law_X5_wipe : GoodIn wsL_law (wsV RL 18 RX5 yX5_wipe wsX5_wipe) := goodIn_app (goodIn_of _ (by decide +kernel)) ggL_law_X5_wipe
set_option maxRecDepth 20000 in
theorem ggL_law_X6_wipe : GoodIn wsL_law wsX6_wipe := goodIn_c [305] [294, 764, 765, 766, 767, 768, 769, 770, 771, 772, 773, 774, 775, 776, 777] rfl (by decide +kernel) (by decide +kernel)
set_option maxRecDepth 20000 in
theorem gL_law_X6_wipe : GoodIn wsL_law (wsV RL 22 RX6 yX6_wipe wsX6_wipe) := goodIn_app (goodIn_of _ (by decide +kernel)) ggL_law_X6_wipe
set_option maxRecDepth 20000 in
theorem ggL_law_X5_fault : GoodIn wsL_law wsX5_fault := goodIn_c [309, 146, 151, 160, 164, 167, 171, 174, 178, 182, 186, 190, 194, 198, 202, 206] [17, 13, 37, 21, 143, 144, 145, 16, 147, 41, 148, 149, 150, 20, 152, 153, 154, 155, 156, 157, 158, 159, 161, 162, 163, 165, 166, 168, 169, 170, 172, 173, 85, 175, 176, 177, 179, 180, 181, 45, 46, 183, 184, 185, 47, 187, 188, 189, 48, 49, 50, 51, 191, 192, 193, 195, 196, 197, 199, 200, 201, 203, 204, 205, 753, 754, 755, 756, 757, 758, 759, 760, 761, 762, 763, 778, 779, 780, 781, 782, 783, 784, 785, 786, 787, 788, 789, 790, 791] rfl (by decide +kernel) (by decide +kernel)
set_option maxRecDepth 20000 in
theorem gL_law_X5_fault : GoodIn wsL_law (wsV RL 23 RX5 yX5_fault wsX5_fault) := goodIn_app (goodIn_of _ (by decide +kernel)) ggL_law_X5_fault
set_option maxRecDepth 20000 in
theorem ggL_law_X6_fault : GoodIn wsL_law wsX6_fault := goodIn_c [313, 317, 262, 322, 326, 330, 333, 297, 266, 270, 274] [314, 315, 316, 5, 318, 294, 250, 259, 260, 261, 252, 319, 320, 321, 323, 324, 325, 327, 328, 329, 331, 332, 295, 296, 263, 264, 265, 267, 268, 269, 271, 272, 273, 764, 765, 766, 767, 768, 769, 770, 771, 772, 773, 774, 775, 776, 777] rfl (by decide +kernel) (by decide +kernel)
set_option maxRecDepth 20000 in
theorem gL_law_X6_fault : GoodIn wsL_law (wsV RL 26 RX6 yX6_fault wsX6_fault) := goodIn_app (goodIn_of _ (by decide +kernel)) ggL_law_X6_fault
set_option maxRecDepth 20000 in
theorem ggL_law_X5_lay : GoodIn wsL_law wsX5_lay := goodIn_c [337, 146, 151, 160, 164, 167, 171, 174, 178, 182, 186, 190, 194, 198, 202, 206, 342, 139, 210, 220, 224, 233, 237, 241, 245] [17, 13, 37, 21, 22, 338, 143, 144, 145, 16, 147, 41, 148, 149, 150, 20, 152, 153, 154, 155, 156, 157, 158, 159, 161, 162, 163, 165, 166, 168, 169, 170, 172, 173, 85, 175, 176, 177, 179, 180, 181, 45, 46, 183, 184, 185, 47, 187, 188, 189, 48, 49, 50, 51, 191, 192, 193, 195, 196, 197, 199, 200, 201, 203, 204, 205, 339, 340, 341, 136, 137, 138, 2, 26, 31, 140, 141, 36, 142, 207, 208, 209, 25, 211, 56, 65, 212, 57, 213, 214, 215, 216, 58, 59, 61, 62, 63, 64, 217, 218, 219, 221, 222, 223, 225, 226, 227, 228, 229, 230, 231, 232, 234, 235, 236, 238, 239, 240, 242, 243, 244, 753, 754, 755, 756, 757, 758, 759, 760, 761, 762, 763, 780, 781, 782, 783, 784, 785, 786, 787, 788, 789, 790, 791, 778, 779, 802, 803, 804, 805, 806, 807, 808, 792, 793, 794, 795, 796, 797, 798, 799, 800, 801] rfl (by decide +kernel) (by decide +kernel)
set_option maxRecDepth 20000 in
theorem gL_law_X5_lay : GoodIn wsL_law (wsV RL 27 RX5 yX5_lay wsX5_lay) := goodIn_app (goodIn_of _ (by decide +kernel)) ggL_law_X5_lay
set_option maxRecDepth 20000 in
theorem ggL_law_X6_lay : GoodIn wsL_law wsX6_lay := goodIn_c [346, 317, 262, 322, 326, 330, 333, 297, 266, 270, 274, 278, 285] [252, 251, 314, 315, 316, 5, 318, 294, 250, 259, 260, 261, 319, 320, 321, 323, 324, 325, 327, 328, 329, 331, 332, 295, 296, 263, 264, 265, 267, 268, 269, 271, 272, 273, 275, 276, 277, 279, 280, 281, 282, 283, 284, 253, 764, 765, 766, 767, 768, 769, 770, 771, 772, 773, 774, 775, 776, 777] rfl (by decide +kernel) (by decide +kernel)
set_option maxRecDepth 20000 in
theorem gL_law_X6_lay : GoodIn wsL_law (wsV RL 30 RX6 yX6_lay wsX6_lay) := goodIn_app (goodIn_of _ (by decide +kernel)) ggL_law_X6_lay
set_option maxRecDepth 20000 in
theorem ggL_law_X5_person : GoodIn wsL_law wsX5_person := goodIn_c [350, 194, 357, 362, 245] [22, 351, 26, 352, 353, 192, 193, 20, 152, 354, 355, 356, 25, 65, 358, 58, 359, 360, 361, 57, 211, 363, 243, 244, 47, 156, 753, 754, 755, 756, 757, 758, 759, 760, 761, 762, 763, 780, 781, 782, 783, 784, 785, 786, 787, 788, 789, 790, 791, 792, 793, 794, 795, 796, 797, 798, 799, 800, 801] rfl (by decide +kernel) (by decide +kernel)
set_option maxRecDepth 20000 in
theorem gL_law_X5_person : GoodIn wsL_law (wsV RL 31 RX5 yX5_person wsX5_person) := goodIn_app (goodIn_of _ (by decide +kernel)) ggL_law_X5_person
set_option maxRecDepth 20000 in
theorem ggL_law_X6_person : GoodIn wsL_law wsX6_person := goodIn_c [367, 371, 297, 375, 379] [253, 251, 368, 369, 370, 5, 295, 296, 372, 373, 374, 376, 377, 378, 764, 765, 766, 767, 768, 769, 770, 771, 772, 773, 774, 775, 776, 777] rfl (by decide +kernel) (by decide +kernel)
set_option maxRecDepth 20000 in
theorem gL_law_X6_person : GoodIn wsL_law (wsV RL 35 RX6 yX6_person wsX6_person) := goodIn_app (goodIn_of _ (by decide +kernel)) ggL_law_X6_person
set_option maxRecDepth 20000 in
theorem ggL_law_X5_thing : GoodIn wsL_law wsX5_thing := goodIn_c [383, 198, 245, 392, 396] [22, 26, 384, 385, 386, 387, 196, 197, 20, 153, 388, 243, 244, 47, 156, 389, 390, 391, 25, 58, 393, 394, 395, 65, 397, 63, 753, 754, 755, 756, 757, 758, 759, 760, 761, 762, 763, 792, 793, 794, 795, 796, 797, 798, 799, 800, 801, 780, 781, 782, 783, 784, 785, 786, 787, 788, 789, 790, 791] rfl (by decide +kernel) (by decide +kernel)
set_option maxRecDepth 20000 in
theorem gL_law_X5_thing : GoodIn wsL_law (wsV RL 36 RX5 yX5_thing wsX5_thing) := goodIn_app (goodIn_of _ (by decide +kernel)) ggL_law_X5_thing
set_option maxRecDepth 20000 in
theorem ggL_law_X6_thing : GoodIn wsL_law wsX6_thing := goodIn_c [401, 405, 297, 375, 409, 413, 417, 420, 424] [253, 402, 403, 404, 5, 251, 295, 296, 372, 373, 374, 406, 407, 408, 410, 411, 412, 414, 415, 416, 257, 418, 419, 421, 422, 423, 764, 765, 766, 767, 768, 769, 770, 771, 772, 773, 774, 775, 776, 777] rfl (by decide +kernel) (by decide +kernel)
set_option maxRecDepth 20000 in
theorem gL_law_X6_thing : GoodIn wsL_law (wsV RL 39 RX6 yX6_thing wsX6_thing) := goodIn_app (goodIn_of _ (by decide +kernel)) ggL_law_X6_thing
set_option maxRecDepth 20000 in
theorem ggL_law_X5_nearly : GoodIn wsL_law wsX5_nearly := goodIn_c [428, 194, 198] [22, 26, 429, 430, 431, 432, 353, 192, 193, 20, 152, 387, 196, 197, 153, 753, 754, 755, 756, 757, 758, 759, 760, 761, 762, 763, 792, 793, 794, 795, 796, 797, 798, 799, 800, 801, 780, 781, 782, 783, 784, 785, 786, 787, 788, 789, 790, 791] rfl (by decide +kernel) (by decide +kernel)
set_option maxRecDepth 20000 in
theorem gL_law_X5_nearly : GoodIn wsL_law (wsV RL 40 RX5 yX5_nearly wsX5_nearly) := goodIn_app (goodIn_of _ (by decide +kernel)) ggL_law_X5_nearly
set_option maxRecDepth 20000 in
theorem ggL_law_X6_nearly : GoodIn wsL_law wsX6_nearly := goodIn_c [436, 371, 297, 405, 417, 420, 413, 424, 440, 444, 375] [368, 369, 370, 5, 251, 295, 296, 402, 403, 404, 414, 415, 416, 253, 257, 418, 419, 410, 411, 412, 421, 422, 423, 437, 438, 439, 441, 442, 443, 372, 373, 374, 764, 765, 766, 767, 768, 769, 770, 771, 772, 773, 774, 775, 776, 777] rfl (by decide +kernel) (by decide +kernel)
set_option maxRecDepth 20000 in
theorem gL_law_X6_nearly : GoodIn wsL_law (wsV RL 44 RX6 yX6_nearly wsX6_nearly) := goodIn_app (goodIn_of _ (by decide +kernel)) ggL_law_X6_nearly
set_option maxRecDepth 20000 in
theorem ggL_law_X5_pause : GoodIn wsL_law wsX5_pause := goodIn_c [448, 194, 198, 452, 86, 459, 233, 237, 241, 245] [22, 31, 26, 430, 353, 192, 193, 20, 152, 387, 196, 197, 153, 449, 450, 451, 30, 71, 453, 454, 455, 84, 85, 456, 457, 458, 25, 211, 56, 57, 213, 214, 215, 216, 58, 59, 61, 62, 63, 64, 460, 231, 232, 65, 234, 235, 236, 45, 238, 239, 240, 242, 243, 244, 47, 156, 753, 754, 755, 756, 757, 758, 759, 760, 761, 762, 763, 792, 793, 794, 795, 796, 797, 798, 799, 800, 801, 780, 781, 782, 783, 784, 785, 786, 787, 788, 789, 790, 791, 802, 803, 804] rfl (by decide +kernel) (by decide +kernel)
set_option maxRecDepth 20000 in
theorem gL_law_X5_pause : GoodIn wsL_law (wsV RL 45 RX5 yX5_pause wsX5_pause) := goodIn_app (goodIn_of _ (by decide +kernel)) ggL_law_X5_pause
set_option maxRecDepth 20000 in
theorem ggL_law_X6_pause : GoodIn wsL_law wsX6_pause := goodIn_c [464, 371, 297, 405, 468, 472, 420, 413, 417, 424] [368, 369, 370, 5, 251, 295, 296, 402, 403, 404, 465, 466, 467, 279, 254, 253, 469, 470, 471, 418, 419, 410, 411, 412, 414, 415, 416, 257, 421, 422, 423, 764, 765, 766, 767, 768, 769, 770, 771, 772, 773, 774, 775, 776, 777] rfl (by decide +kernel) (by decide +kernel)
set_option maxRecDepth 20000 in
theorem gL_law_X6_pause : GoodIn wsL_law (wsV RL 48 RX6 yX6_pause wsX6_pause) := goodIn_app (goodIn_of _ (by decide +kernel)) ggL_law_X6_pause
set_option maxRecDepth 20000 in
theorem ggL_law_X5_fair : GoodIn wsL_law wsX5_fair := goodIn_c [476, 452, 86, 459, 480, 392, 487, 396, 492, 496, 224, 233, 237, 241, 245] [26, 384, 31, 449, 450, 451, 30, 71, 453, 454, 455, 84, 85, 456, 457, 458, 25, 211, 56, 57, 213, 214, 215, 216, 58, 59, 61, 62, 63, 64, 477, 478, 479, 65, 358, 397, 481, 482, 483, 390, 391, 484, 485, 486, 488, 394, 395, 489, 490, 491, 493, 494, 495, 221, 222, 223, 225, 226, 227, 228, 229, 230, 231, 232, 234, 235, 236, 20, 45, 238, 239, 240, 242, 243, 244, 47, 156, 753, 754, 755, 756, 757, 758, 759, 760, 761, 762, 763, 792, 793, 794, 795, 796, 797, 798, 799, 800, 801, 802, 803, 804, 780, 781, 782, 783, 784, 785, 786, 787, 788, 789, 790, 791] rfl (by decide +kernel) (by decide +kernel)
set_option maxRecDepth 20000 in
theorem gL_law_X5_fair : GoodIn wsL_law (wsV RL 49 RX5 yX5_fair wsX5_fair) := goodIn_app (goodIn_of _ (by decide +kernel)) ggL_law_X5_fair
set_option maxRecDepth 20000 in
theorem ggL_law_X6_fair : GoodIn wsL_law wsX6_fair := goodIn_c [500, 468, 504, 409, 413, 417, 420, 424, 508, 444, 375, 512, 516, 440] [253, 465, 466, 467, 5, 279, 254, 501, 502, 503, 251, 406, 407, 408, 410, 411, 412, 414, 415, 416, 257, 418, 419, 421, 422, 423, 505, 506, 507, 441, 442, 443, 372, 373, 374, 509, 510, 511, 513, 514, 515, 437, 438, 439, 764, 765, 766, 767, 768, 769, 770, 771, 772, 773, 774, 775, 776, 777] rfl (by decide +kernel) (by decide +kernel)
set_option maxRecDepth 20000 in
theorem gL_law_X6_fair : GoodIn wsL_law (wsV RL 52 RX6 yX6_fair wsX6_fair) := goodIn_app (goodIn_of _ (by decide +kernel)) ggL_law_X6_fair
set_option maxRecDepth 20000 in
theorem ggL_law_X5_give : GoodIn wsL_law wsX5_give := goodIn_c [520, 194, 452, 86, 459] [22, 26, 352, 31, 353, 192, 193, 20, 152, 449, 450, 451, 30, 71, 453, 454, 455, 84, 85, 456, 457, 458, 25, 211, 56, 57, 213, 214, 215, 216, 58, 59, 61, 62, 63, 64, 753, 754, 755, 756, 757, 758, 759, 760, 761, 762, 763, 792, 793, 794, 795, 796, 797, 798, 799, 800, 801, 780, 781, 782, 783, 784, 785, 786, 787, 788, 789, 790, 791, 802, 803, 804] rfl (by decide +kernel) (by decide +kernel)
set_option maxRecDepth 20000 in
theorem gL_law_X5_give : GoodIn wsL_law (wsV RL 53 RX5 yX5_give wsX5_give) := goodIn_app (goodIn_of _ (by decide +kernel)) ggL_law_X5_give
set_option maxRecDepth 20000 in
theorem ggL_law_X6_give : GoodIn wsL_law wsX6_give := goodIn_c [524, 371, 297, 468] [253, 368, 369, 370, 5, 251, 295, 296, 465, 466, 467, 279, 254, 764, 765, 766, 767, 768, 769, 770, 771, 772, 773, 774, 775, 776, 777] rfl (by decide +kernel) (by decide +kernel)
set_option maxRecDepth 20000 in
theorem gL_law_X6_give : GoodIn wsL_law (wsV RL 56 RX6 yX6_give wsX6_give) := goodIn_app (goodIn_of _ (by decide +kernel)) ggL_law_X6_give
set_option maxRecDepth 20000 in
theorem ggL_law_X5_undo : GoodIn wsL_law wsX5_undo := goodIn_c [528, 532, 174, 459] [31, 140, 26, 529, 530, 531, 30, 453, 454, 533, 173, 85, 71, 456, 457, 458, 25, 211, 56, 57, 213, 214, 215, 216, 58, 59, 61, 62, 63, 64, 753, 754, 755, 756, 757, 758, 759, 760, 761, 762, 763, 802, 803, 804, 792, 793, 794, 795, 796, 797, 798, 799, 800, 801] rfl (by decide +kernel) (by decide +kernel)
set_option maxRecDepth 20000 in
theorem gL_law_X5_undo : GoodIn wsL_law (wsV RL 57 RX5 yX5_undo wsX5_undo) := goodIn_app (goodIn_of _ (by decide +kernel)) ggL_law_X5_undo
set_option maxRecDepth 20000 in
theorem ggL_law_X6_undo : GoodIn wsL_law wsX6_undo := goodIn_c [537] [279, 253, 254, 764, 765, 766, 767, 768, 769, 770, 771, 772, 773, 774, 775, 776, 777] rfl (by decide +kernel) (by decide +kernel)
set_option maxRecDepth 20000 in
theorem gL_law_X6_undo : GoodIn wsL_law (wsV RL 60 RX6 yX6_undo wsX6_undo) := goodIn_app (goodIn_of _ (by decide +kernel)) ggL_law_X6_undo
set_option maxRecDepth 20000 in
theorem ggL_law_X5_behind : GoodIn wsL_law wsX5_behind := goodIn_c [541, 198, 459, 546, 480, 86, 392, 487, 396, 492, 496, 224, 233, 237, 241, 245] [22, 27, 26, 385, 387, 196, 197, 20, 153, 542, 457, 458, 25, 211, 56, 57, 213, 214, 215, 216, 58, 59, 61, 62, 63, 64, 543, 544, 545, 547, 478, 479, 65, 358, 397, 481, 482, 84, 85, 483, 390, 391, 484, 485, 486, 488, 394, 395, 489, 490, 491, 493, 494, 495, 221, 222, 223, 225, 226, 227, 228, 229, 230, 231, 232, 234, 235, 236, 45, 238, 239, 240, 242, 243, 244, 47, 156, 753, 754, 755, 756, 757, 758, 759, 760, 761, 762, 763, 792, 793, 794, 795, 796, 797, 798, 799, 800, 801, 780, 781, 782, 783, 784, 785, 786, 787, 788, 789, 790, 791] rfl (by decide +kernel) (by decide +kernel)
set_option maxRecDepth 20000 in
theorem gL_law_X5_behind : GoodIn wsL_law (wsV RL 61 RX5 yX5_behind wsX5_behind) := goodIn_app (goodIn_of _ (by decide +kernel)) ggL_law_X5_behind
set_option maxRecDepth 20000 in
theorem ggL_law_X6_behind : GoodIn wsL_law wsX6_behind := goodIn_c [551, 405, 297, 555, 559, 504, 409, 413, 417, 420, 424, 508, 444, 375, 512, 516, 440, 563] [402, 403, 404, 5, 251, 295, 296, 552, 553, 554, 258, 253, 556, 557, 558, 501, 502, 503, 406, 407, 408, 410, 411, 412, 414, 415, 416, 257, 418, 419, 421, 422, 423, 505, 506, 507, 441, 442, 443, 372, 373, 374, 509, 510, 511, 513, 514, 515, 437, 438, 439, 560, 561, 562, 764, 765, 766, 767, 768, 769, 770, 771, 772, 773, 774, 775, 776, 777] rfl (by decide +kernel) (by decide +kernel)
set_option maxRecDepth 20000 in
theorem gL_law_X6_behind : GoodIn wsL_law (wsV RL 64 RX6 yX6_behind wsX6_behind) := goodIn_app (goodIn_of _ (by decide +kernel)) ggL_law_X6_behind
set_option maxRecDepth 20000 in
theorem ggL_law_X5_goes : GoodIn wsL_law wsX5_goes := goodIn_c [567, 198, 459, 571, 392, 480, 86, 487, 396, 492, 496, 224, 233, 237, 241, 245] [22, 27, 26, 387, 196, 197, 20, 153, 542, 457, 458, 25, 211, 56, 57, 213, 214, 215, 216, 58, 59, 61, 62, 63, 64, 568, 569, 570, 483, 390, 391, 547, 478, 479, 65, 358, 397, 481, 482, 84, 85, 484, 485, 486, 488, 394, 395, 489, 490, 491, 493, 494, 495, 221, 222, 223, 225, 226, 227, 228, 229, 230, 231, 232, 234, 235, 236, 45, 238, 239, 240, 242, 243, 244, 47, 156, 753, 754, 755, 756, 757, 758, 759, 760, 761, 762, 763, 780, 781, 782, 783, 784, 785, 786, 787, 788, 789, 790, 791, 792, 793, 794, 795, 796, 797, 798, 799, 800, 801] rfl (by decide +kernel) (by decide +kernel)
set_option maxRecDepth 20000 in
theorem gL_law_X5_goes : GoodIn wsL_law (wsV RL 65 RX5 yX5_goes wsX5_goes) := goodIn_app (goodIn_of _ (by decide +kernel)) ggL_law_X5_goes
set_option maxRecDepth 20000 in
theorem ggL_law_X6_goes : GoodIn wsL_law wsX6_goes := goodIn_c [575, 405, 297, 555, 579, 504, 409, 413, 417, 420, 424, 508, 444, 375, 512, 516, 440, 563] [402, 403, 404, 5, 251, 295, 296, 552, 553, 554, 258, 253, 576, 577, 578, 501, 502, 503, 406, 407, 408, 410, 411, 412, 414, 415, 416, 257, 418, 419, 421, 422, 423, 505, 506, 507, 441, 442, 443, 372, 373, 374, 509, 510, 511, 513, 514, 515, 437, 438, 439, 560, 561, 562, 764, 765, 766, 767, 768, 769, 770, 771, 772, 773, 774, 775, 776, 777] rfl (by decide +kernel) (by decide +kernel)
set_option maxRecDepth 20000 in
theorem gL_law_X6_goes : GoodIn wsL_law (wsV RL 68 RX6 yX6_goes wsX6_goes) := goodIn_app (goodIn_of _ (by decide +kernel)) ggL_law_X6_goes
set_option maxRecDepth 20000 in
theorem ggL_law_X5_never : GoodIn wsL_law wsX5_never := goodIn_c [583, 459, 546, 480, 86, 392, 487, 396, 492, 496, 224, 233, 237, 241, 245] [27, 26, 22, 338, 542, 457, 458, 25, 211, 56, 57, 213, 214, 215, 216, 58, 59, 61, 62, 63, 64, 543, 544, 545, 547, 478, 479, 65, 358, 397, 481, 482, 84, 85, 483, 390, 391, 484, 485, 486, 488, 394, 395, 489, 490, 491, 493, 494, 495, 221, 222, 223, 225, 226, 227, 228, 229, 230, 231, 232, 234, 235, 236, 20, 45, 238, 239, 240, 242, 243, 244, 47, 156, 389, 753, 754, 755, 756, 757, 758, 759, 760, 761, 762, 763, 780, 781, 782, 783, 784, 785, 786, 787, 788, 789, 790, 791, 792, 793, 794, 795, 796, 797, 798, 799, 800, 801] rfl (by decide +kernel) (by decide +kernel)
set_option maxRecDepth 20000 in
theorem gL_law_X5_never : GoodIn wsL_law (wsV RL 69 RX5 yX5_never wsX5_never) := goodIn_app (goodIn_of _ (by decide +kernel)) ggL_law_X5_never
set_option maxRecDepth 20000 in
theorem ggL_law_X6_never : GoodIn wsL_law wsX6_never := goodIn_c [587, 551, 405, 297, 555, 559, 504, 409, 413, 417, 420, 424, 508, 444, 375, 512, 516, 440, 563] [251, 588, 549, 550, 5, 402, 403, 404, 295, 296, 552, 553, 554, 258, 253, 556, 557, 558, 501, 502, 503, 406, 407, 408, 410, 411, 412, 414, 415, 416, 257, 418, 419, 421, 422, 423, 505, 506, 507, 441, 442, 443, 372, 373, 374, 509, 510, 511, 513, 514, 515, 437, 438, 439, 560, 561, 562, 764, 765, 766, 767, 768, 769, 770, 771, 772, 773, 774, 775, 776, 777] rfl (by decide +kernel) (by decide +kernel)
set_option maxRecDepth 20000 in
theorem gL_law_X6_never : GoodIn wsL_law (wsV RL 72 RX6 yX6_never wsX6_never) := goodIn_app (goodIn_of _ (by decide +kernel)) ggL_law_X6_never
set_option maxRecDepth 20000 in
theorem ggL_law_X5_stop : GoodIn wsL_law wsX5_stop := goodIn_c [592, 194, 198, 459, 233, 237, 241, 245, 571, 392, 480, 86, 487, 396, 492, 496, 224] [22, 27, 26, 385, 353, 192, 193, 20, 152, 387, 196, 197, 153, 542, 457, 458, 25, 211, 56, 57, 213, 214, 215, 216, 58, 59, 61, 62, 63, 64, 460, 231, 232, 65, 234, 235, 236, 45, 238, 239, 240, 242, 243, 244, 47, 156, 568, 569, 570, 483, 390, 391, 547, 478, 479, 358, 397, 481, 482, 84, 85, 484, 485, 486, 488, 394, 395, 489, 490, 491, 493, 494, 495, 221, 222, 223, 225, 226, 227, 228, 229, 230, 753, 754, 755, 756, 757, 758, 759, 760, 761, 762, 763, 792, 793, 794, 795, 796, 797, 798, 799, 800, 801, 780, 781, 782, 783, 784, 785, 786, 787, 788, 789, 790, 791] rfl (by decide +kernel) (by decide +kernel)
set_option maxRecDepth 20000 in
theorem gL_law_X5_stop : GoodIn wsL_law (wsV RL 73 RX5 yX5_stop wsX5_stop) := goodIn_app (goodIn_of _ (by decide +kernel)) ggL_law_X5_stop
set_option maxRecDepth 20000 in
theorem ggL_law_X6_stop : GoodIn wsL_law wsX6_stop := goodIn_c [596, 371, 297, 405, 555, 559, 504, 409, 413, 417, 420, 424, 508, 444, 375, 512, 516, 440, 563, 579, 472] [368, 369, 370, 5, 251, 295, 296, 402, 403, 404, 552, 553, 554, 258, 253, 556, 557, 558, 501, 502, 503, 406, 407, 408, 410, 411, 412, 414, 415, 416, 257, 418, 419, 421, 422, 423, 505, 506, 507, 441, 442, 443, 372, 373, 374, 509, 510, 511, 513, 514, 515, 437, 438, 439, 560, 561, 562, 576, 577, 578, 469, 470, 471, 764, 765, 766, 767, 768, 769, 770, 771, 772, 773, 774, 775, 776, 777] rfl (by decide +kernel) (by decide +kernel)
set_option maxRecDepth 20000 in
theorem gL_law_X6_stop : GoodIn wsL_law (wsV RL 76 RX6 yX6_stop wsX6_stop) := goodIn_app (goodIn_of _ (by decide +kernel)) ggL_law_X6_stop
set_option maxRecDepth 20000 in
theorem ggL_law_X5_rank : GoodIn wsL_law wsX5_rank := goodIn_c [600, 194, 604] [22, 338, 26, 432, 353, 192, 193, 20, 152, 601, 602, 603, 25, 65, 358, 64, 753, 754, 755, 756, 757, 758, 759, 760, 761, 762, 763, 780, 781, 782, 783, 784, 785, 786, 787, 788, 789, 790, 791, 792, 793, 794, 795, 796, 797, 798, 799, 800, 801] rfl (by decide +kernel) (by decide +kernel)
set_option maxRecDepth 20000 in
theorem gL_law_X5_rank : GoodIn wsL_law (wsV RL 77 RX5 yX5_rank wsX5_rank) := goodIn_app (goodIn_of _ (by decide +kernel)) ggL_law_X5_rank
set_option maxRecDepth 20000 in
theorem ggL_law_X6_rank : GoodIn wsL_law wsX6_rank := goodIn_c [608, 371, 297, 440, 413, 417, 420, 424, 444, 375] [251, 368, 369, 370, 5, 295, 296, 437, 438, 439, 410, 411, 412, 414, 415, 416, 253, 257, 418, 419, 421, 422, 423, 441, 442, 443, 372, 373, 374, 764, 765, 766, 767, 768, 769, 770, 771, 772, 773, 774, 775, 776, 777] rfl (by decide +kernel) (by decide +kernel)
set_option maxRecDepth 20000 in
theorem gL_law_X6_rank : GoodIn wsL_law (wsV RL 80 RX6 yX6_rank wsX6_rank) := goodIn_app (goodIn_of _ (by decide +kernel)) ggL_law_X6_rank
set_option maxRecDepth 20000 in
theorem ggL_law_X5_wanted : GoodIn wsL_law wsX5_wanted := goodIn_c [612, 616] [22, 338, 26, 613, 614, 615, 25, 65, 397, 64, 753, 754, 755, 756, 757, 758, 759, 760, 761, 762, 763, 780, 781, 782, 783, 784, 785, 786, 787, 788, 789, 790, 791, 792, 793, 794, 795, 796, 797, 798, 799, 800, 801] rfl (by decide +kernel) (by decide +kernel)
set_option maxRecDepth 20000 in
theorem gL_law_X5_wanted : GoodIn wsL_law (wsV RL 81 RX5 yX5_wanted wsX5_wanted) := goodIn_app (goodIn_of _ (by decide +kernel)) ggL_law_X5_wanted
set_option maxRecDepth 20000 in
theorem ggL_law_X6_wanted : GoodIn wsL_law wsX6_wanted := goodIn_c [620, 297, 624, 440, 413, 417, 420, 424] [251, 295, 296, 5, 621, 622, 623, 437, 438, 439, 410, 411, 412, 414, 415, 416, 253, 257, 418, 419, 421, 422, 423, 764, 765, 766, 767, 768, 769, 770, 771, 772, 773, 774, 775, 776, 777] rfl (by decide +kernel) (by decide +kernel)
set_option maxRecDepth 20000 in
theorem gL_law_X6_wanted : GoodIn wsL_law (wsV RL 84 RX6 yX6_wanted wsX6_wanted) := goodIn_app (goodIn_of _ (by decide +kernel)) ggL_law_X6_wanted
set_option maxRecDepth 20000 in
theorem ggL_law_X5_seen : GoodIn wsL_law wsX5_seen := goodIn_c [628, 198, 194, 632] [22, 36, 142, 387, 196, 197, 20, 153, 353, 192, 193, 152, 629, 630, 631, 35, 633, 76, 77, 78, 753, 754, 755, 756, 757, 758, 759, 760, 761, 762, 763, 805, 806, 807, 808, 780, 781, 782, 783, 784, 785, 786, 787, 788, 789, 790, 791] rfl (by decide +kernel) (by decide +kernel)
set_option maxRecDepth 20000 in
theorem gL_law_X5_seen : GoodIn wsL_law (wsV RL 85 RX5 yX5_seen wsX5_seen) := goodIn_app (goodIn_of _ (by decide +kernel)) ggL_law_X5_seen
set_option maxRecDepth 20000 in
theorem ggL_law_X6_seen : GoodIn wsL_law wsX6_seen := goodIn_c [637, 405, 297, 371] [281, 256, 402, 403, 404, 5, 251, 295, 296, 368, 369, 370, 764, 765, 766, 767, 768, 769, 770, 771, 772, 773, 774, 775, 776, 777] rfl (by decide +kernel) (by decide +kernel)
set_option maxRecDepth 20000 in
theorem gL_law_X6_seen : GoodIn wsL_law (wsV RL 88 RX6 yX6_seen wsX6_seen) := goodIn_app (goodIn_of _ (by decide +kernel)) ggL_law_X6_seen
set_option maxRecDepth 20000 in
theorem ggL_law_X5_forget : GoodIn wsL_law wsX5_forget := goodIn_c [641] [36, 142, 753, 754, 755, 756, 757, 758, 759, 760, 761, 762, 763, 805, 806, 807, 808] rfl (by decide +kernel) (by decide +kernel)
set_option maxRecDepth 20000 in
theorem gL_law_X5_forget : GoodIn wsL_law (wsV RL 89 RX5 yX5_forget wsX5_forget) := goodIn_app (goodIn_of _ (by decide +kernel)) ggL_law_X5_forget
set_option maxRecDepth 20000 in
theorem ggL_law_X6_forget : GoodIn wsL_law wsX6_forget := goodIn_c [645] [281, 764, 765, 766, 767, 768, 769, 770, 771, 772, 773, 774, 775, 776, 777] rfl (by decide +kernel) (by decide +kernel)
set_option maxRecDepth 20000 in
theorem gL_law_X6_forget : GoodIn wsL_law (wsV RL 92 RX6 yX6_forget wsX6_forget) := goodIn_app (goodIn_of _ (by decide +kernel)) ggL_law_X6_forget
set_option maxRecDepth 20000 in
theorem ggL_law_X5_feigned : GoodIn wsL_law wsX5_feigned := goodIn_c [649, 654, 210, 220, 224, 233, 237, 241, 245, 480, 86, 392, 487, 396, 492, 496] [36, 27, 22, 650, 651, 652, 653, 35, 633, 78, 655, 76, 77, 656, 208, 209, 25, 211, 56, 65, 212, 57, 213, 214, 215, 216, 58, 59, 61, 62, 63, 64, 217, 218, 219, 221, 222, 223, 225, 226, 227, 228, 229, 230, 231, 232, 234, 235, 236, 20, 45, 238, 239, 240, 242, 243, 244, 47, 156, 657, 478, 479, 358, 397, 481, 482, 84, 85, 483, 390, 391, 484, 485, 486, 488, 394, 395, 489, 490, 491, 493, 494, 495, 753, 754, 755, 756, 757, 758, 759, 760, 761, 762, 763, 780, 781, 782, 783, 784, 785, 786, 787, 788, 789, 790, 791, 805, 806, 807, 808, 792, 793, 794, 795, 796, 797, 798, 799, 800, 801] rfl (by decide +kernel) (by decide +kernel)
set_option maxRecDepth 20000 in
theorem gL_law_X5_feigned : GoodIn wsL_law (wsV RL 93 RX5 yX5_feigned wsX5_feigned) := goodIn_app (goodIn_of _ (by decide +kernel)) ggL_law_X5_feigned
set_option maxRecDepth 20000 in
theorem ggL_law_X6_feigned : GoodIn wsL_law wsX6_feigned := goodIn_c [661, 297, 665, 555, 285, 504, 409, 413, 417, 420, 424, 508, 444, 375, 512, 516, 440, 563] [251, 295, 296, 5, 662, 663, 664, 257, 281, 256, 253, 552, 553, 554, 258, 282, 283, 284, 501, 502, 503, 406, 407, 408, 410, 411, 412, 414, 415, 416, 418, 419, 421, 422, 423, 505, 506, 507, 441, 442, 443, 372, 373, 374, 509, 510, 511, 513, 514, 515, 437, 438, 439, 560, 561, 562, 764, 765, 766, 767, 768, 769, 770, 771, 772, 773, 774, 775, 776, 777] rfl (by decide +kernel) (by decide +kernel)
set_option maxRecDepth 20000 in
theorem gL_law_X6_feigned : GoodIn wsL_law (wsV RL 96 RX6 yX6_feigned wsX6_feigned) := goodIn_app (goodIn_of _ (by decide +kernel)) ggL_law_X6_feigned
set_option maxRecDepth 20000 in
theorem ggL_law_X5_counts : GoodIn wsL_law wsX5_counts := goodIn_c [669, 174, 194, 674, 237, 678] [22, 670, 173, 85, 353, 192, 193, 20, 152, 671, 672, 673, 2, 675, 235, 236, 45, 676, 677, 753, 754, 755, 756, 757, 758, 759, 760, 761, 762, 763, 780, 781, 782, 783, 784, 785, 786, 787, 788, 789, 790, 791] rfl (by decide +kernel) (by decide +kernel)
set_option maxRecDepth 20000 in
theorem gL_law_X5_counts : GoodIn wsL_law (wsV RL 97 RX5 yX5_counts wsX5_counts) := goodIn_app (goodIn_of _ (by decide +kernel)) ggL_law_X5_counts
set_option maxRecDepth 20000 in
theorem ggL_law_X6_counts : GoodIn wsL_law wsX6_counts := goodIn_c [682, 371, 297, 424] [251, 368, 369, 370, 5, 295, 296, 421, 422, 423, 764, 765, 766, 767, 768, 769, 770, 771, 772, 773, 774, 775, 776, 777] rfl (by decide +kernel) (by decide +kernel)
set_option maxRecDepth 20000 in
theorem gL_law_X6_counts : GoodIn wsL_law (wsV RL 100 RX6 yX6_counts wsX6_counts) := goodIn_app (goodIn_of _ (by decide +kernel)) ggL_law_X6_counts
set_option maxRecDepth 20000 in
theorem ggL_law_X5_cheapest : GoodIn wsL_law wsX5_cheapest := goodIn_c [686, 198] [22, 650, 26, 432, 387, 196, 197, 20, 153, 753, 754, 755, 756, 757, 758, 759, 760, 761, 762, 763, 780, 781, 782, 783, 784, 785, 786, 787, 788, 789, 790, 791, 792, 793, 794, 795, 796, 797, 798, 799, 800, 801] rfl (by decide +kernel) (by decide +kernel)
set_option maxRecDepth 20000 in
theorem gL_law_X5_cheapest : GoodIn wsL_law (wsV RL 101 RX5 yX5_cheapest wsX5_cheapest) := goodIn_app (goodIn_of _ (by decide +kernel)) ggL_law_X5_cheapest
set_option maxRecDepth 20000 in
theorem ggL_law_X6_cheapest : GoodIn wsL_law wsX6_cheapest := goodIn_c [690, 405, 297, 440, 413, 417, 420, 424, 444, 375] [251, 402, 403, 404, 5, 295, 296, 437, 438, 439, 410, 411, 412, 414, 415, 416, 253, 257, 418, 419, 421, 422, 423, 441, 442, 443, 372, 373, 374, 764, 765, 766, 767, 768, 769, 770, 771, 772, 773, 774, 775, 776, 777] rfl (by decide +kernel) (by decide +kernel)
set_option maxRecDepth 20000 in
theorem gL_law_X6_cheapest : GoodIn wsL_law (wsV RL 104 RX6 yX6_cheapest wsX6_cheapest) := goodIn_app (goodIn_of _ (by decide +kernel)) ggL_law_X6_cheapest
set_option maxRecDepth 20000 in
theorem ggL_law_X5_greens : GoodIn wsL_law wsX5_greens := goodIn_c [694, 459, 697, 705, 233, 237, 241, 245, 480, 86, 392, 487, 396, 492, 496, 224, 709, 713] [27, 26, 542, 457, 458, 25, 211, 56, 57, 213, 214, 215, 216, 58, 59, 61, 62, 63, 64, 695, 696, 2, 698, 699, 700, 701, 702, 703, 704, 22, 650, 338, 460, 231, 232, 65, 234, 235, 236, 20, 45, 238, 239, 240, 242, 243, 244, 47, 156, 477, 478, 479, 358, 397, 481, 482, 84, 85, 483, 390, 391, 484, 485, 486, 488, 394, 395, 489, 490, 491, 493, 494, 495, 221, 222, 223, 225, 226, 227, 228, 229, 230, 706, 707, 708, 710, 711, 712, 753, 754, 755, 756, 757, 758, 759, 760, 761, 762, 763, 792, 793, 794, 795, 796, 797, 798, 799, 800, 801, 780, 781, 782, 783, 784, 785, 786, 787, 788, 789, 790, 791] rfl (by decide +kernel) (by decide +kernel)
set_option maxRecDepth 20000 in
theorem gL_law_X5_greens : GoodIn wsL_law (wsV RL 105 RX5 yX5_greens wsX5_greens) := goodIn_app (goodIn_of _ (by decide +kernel)) ggL_law_X5_greens
set_option maxRecDepth 20000 in
theorem ggL_law_X6_greens : GoodIn wsL_law wsX6_greens := goodIn_c [717, 297, 555, 472, 420, 504, 409, 413, 417, 424, 508, 444, 375, 512, 516, 440, 724, 728, 563] [718, 719, 720, 251, 295, 296, 5, 552, 553, 554, 258, 253, 469, 470, 471, 418, 419, 501, 502, 503, 406, 407, 408, 410, 411, 412, 414, 415, 416, 257, 421, 422, 423, 505, 506, 507, 441, 442, 443, 372, 373, 374, 509, 510, 511, 513, 514, 515, 437, 438, 439, 721, 722, 723, 725, 726, 727, 560, 561, 562, 764, 765, 766, 767, 768, 769, 770, 771, 772, 773, 774, 775, 776, 777] rfl (by decide +kernel) (by decide +kernel)
set_option maxRecDepth 20000 in
theorem gL_law_X6_greens : GoodIn wsL_law (wsV RL 108 RX6 yX6_greens wsX6_greens) := goodIn_app (goodIn_of _ (by decide +kernel)) ggL_law_X6_greens
set_option maxRecDepth 20000 in
theorem ggL_law_X5_keep : GoodIn wsL_law wsX5_keep := goodIn_c [732, 459] [141, 32, 26, 542, 457, 458, 25, 211, 56, 57, 213, 214, 215, 216, 58, 59, 61, 62, 63, 64, 753, 754, 755, 756, 757, 758, 759, 760, 761, 762, 763, 792, 793, 794, 795, 796, 797, 798, 799, 800, 801] rfl (by decide +kernel) (by decide +kernel)
set_option maxRecDepth 20000 in
theorem gL_law_X5_keep : GoodIn wsL_law (wsV RL 109 RX5 yX5_keep wsX5_keep) := goodIn_app (goodIn_of _ (by decide +kernel)) ggL_law_X5_keep
set_option maxRecDepth 20000 in
theorem ggL_law_X6_keep : GoodIn wsL_law wsX6_keep := goodIn_c [736] [280, 255, 253, 764, 765, 766, 767, 768, 769, 770, 771, 772, 773, 774, 775, 776, 777] rfl (by decide +kernel) (by decide +kernel)
set_option maxRecDepth 20000 in
theorem gL_law_X6_keep : GoodIn wsL_law (wsV RL 112 RX6 yX6_keep wsX6_keep) := goodIn_app (goodIn_of _ (by decide +kernel)) ggL_law_X6_keep
set_option maxRecDepth 20000 in
theorem ggL_law_X5_back : GoodIn wsL_law wsX5_back := goodIn_c [740, 459] [141, 26, 32, 31, 140, 542, 457, 458, 25, 211, 56, 57, 213, 214, 215, 216, 58, 59, 61, 62, 63, 64, 753, 754, 755, 756, 757, 758, 759, 760, 761, 762, 763, 802, 803, 804, 792, 793, 794, 795, 796, 797, 798, 799, 800, 801] rfl (by decide +kernel) (by decide +kernel)
set_option maxRecDepth 20000 in
theorem gL_law_X5_back : GoodIn wsL_law (wsV RL 113 RX5 yX5_back wsX5_back) := goodIn_app (goodIn_of _ (by decide +kernel)) ggL_law_X5_back
set_option maxRecDepth 20000 in
theorem ggL_law_X6_back : GoodIn wsL_law wsX6_back := goodIn_c [744] [280, 253, 255, 279, 764, 765, 766, 767, 768, 769, 770, 771, 772, 773, 774, 775, 776, 777] rfl (by decide +kernel) (by decide +kernel)
set_option maxRecDepth 20000 in
theorem gL_law_X6_back : GoodIn wsL_law (wsV RL 116 RX6 yX6_back wsX6_back) := goodIn_app (goodIn_of _ (by decide +kernel)) ggL_law_X6_back
set_option maxRecDepth 20000 in
theorem ggL_law_X5_count : GoodIn wsL_law wsX5_count := goodIn_c [748, 709, 392, 713] [22, 650, 338, 26, 384, 36, 142, 31, 140, 141, 37, 706, 707, 708, 25, 65, 358, 483, 390, 391, 58, 710, 711, 712, 397, 57, 753, 754, 755, 756, 757, 758, 759, 760, 761, 762, 763, 780, 781, 782, 783, 784, 785, 786, 787, 788, 789, 790, 791, 792, 793, 794, 795, 796, 797, 798, 799, 800, 801, 805, 806, 807, 808, 802, 803, 804] rfl (by decide +kernel) (by decide +kernel)
set_option maxRecDepth 20000 in
theorem gL_law_X5_count : GoodIn wsL_law (wsV RL 117 RX5 yX5_count wsX5_count) := goodIn_app (goodIn_of _ (by decide +kernel)) ggL_law_X5_count
set_option maxRecDepth 20000 in
theorem ggL_law_X6_count : GoodIn wsL_law wsX6_count := goodIn_c [752, 724, 728] [251, 253, 281, 279, 280, 294, 721, 722, 723, 5, 725, 726, 727, 764, 765, 766, 767, 768, 769, 770, 771, 772, 773, 774, 775, 776, 777] rfl (by decide +kernel) (by decide +kernel)
set_option maxRecDepth 20000 in
theorem gL_law_X6_count : GoodIn wsL_law (wsV RL 120 RX6 yX6_count wsX6_count) := goodIn_app (goodIn_of _ (by decide +kernel)) ggL_law_X6_count
end
section
theorem dX0_init_0 : decode cX0_init 0 = .ok (.aload_n 0, 1) := by decide +kernel
theorem dX0_init_1 : decode cX0_init 1 = .ok (.invokespecial 3, 3) := by decide +kernel
theorem dX0_init_4 : decode cX0_init 4 = .ok (.aload_n 0, 1) := by decide +kernel
theorem dX0_init_5 : decode cX0_init 5 = .ok (.bipush 8, 2) := by decide +kernel
theorem dX0_init_7 : decode cX0_init 7 = .ok (.anewarray 9, 3) := by decide +kernel
theorem dX0_init_10 : decode cX0_init 10 = .ok (.putfield 11, 3) := by decide +kernel
theorem dX0_init_13 : decode cX0_init 13 = .ok (.iconst 0, 1) := by decide +kernel
theorem dX0_init_14 : decode cX0_init 14 = .ok (.istore_n 2, 1) := by decide +kernel
theorem dX0_init_15 : decode cX0_init 15 = .ok (.iload_n 2, 1) := by decide +kernel
theorem dX0_init_16 : decode cX0_init 16 = .ok (.bipush 8, 2) := by decide +kernel
theorem dX0_init_18 : decode cX0_init 18 = .ok (.if_icmp .ge 23, 3) := by decide +kernel
theorem dX0_init_21 : decode cX0_init 21 = .ok (.aload_n 0, 1) := by decide +kernel
theorem dX0_init_22 : decode cX0_init 22 = .ok (.getfield 11, 3) := by decide +kernel
theorem dX0_init_25 : decode cX0_init 25 = .ok (.iload_n 2, 1) := by decide +kernel
theorem dX0_init_26 : decode cX0_init 26 = .ok (.new 9, 3) := by decide +kernel
theorem dX0_init_29 : decode cX0_init 29 = .ok (.dup, 1) := by decide +kernel
theorem dX0_init_30 : decode cX0_init 30 = .ok (.aload_n 1, 1) := by decide +kernel
theorem dX0_init_31 : decode cX0_init 31 = .ok (.invokespecial 17, 3) := by decide +kernel
theorem dX0_init_34 : decode cX0_init 34 = .ok (.aastore, 1) := by decide +kernel
theorem dX0_init_35 : decode cX0_init 35 = .ok (.iinc 2 1, 3) := by decide +kernel
theorem dX0_init_38 : decode cX0_init 38 = .ok (.goto (-23), 3) := by decide +kernel
theorem dX0_init_41 : decode cX0_init 41 = .ok (.return_, 1) := by decide +kernel
theorem dX0_remember_0 : decode cX0_remember 0 = .ok (.aload_n 0, 1) := by decide +kernel
theorem dX0_remember_1 : decode cX0_remember 1 = .ok (.getfield 11, 3) := by decide +kernel
theorem dX0_remember_4 : decode cX0_remember 4 = .ok (.aload_n 0, 1) := by decide +kernel
theorem dX0_remember_5 : decode cX0_remember 5 = .ok (.getfield 20, 3) := by decide +kernel
theorem dX0_remember_8 : decode cX0_remember 8 = .ok (.aaload, 1) := by decide +kernel
theorem dX0_remember_9 : decode cX0_remember 9 = .ok (.aload_n 1, 1) := by decide +kernel
theorem dX0_remember_10 : decode cX0_remember 10 = .ok (.invokevirtual 24, 3) := by decide +kernel
theorem dX0_remember_13 : decode cX0_remember 13 = .ok (.aload_n 0, 1) := by decide +kernel
theorem dX0_remember_14 : decode cX0_remember 14 = .ok (.aload_n 0, 1) := by decide +kernel
theorem dX0_remember_15 : decode cX0_remember 15 = .ok (.getfield 20, 3) := by decide +kernel
theorem dX0_remember_18 : decode cX0_remember 18 = .ok (.iconst 1, 1) := by decide +kernel
theorem dX0_remember_19 : decode cX0_remember 19 = .ok (.iadd, 1) := by decide +kernel
theorem dX0_remember_20 : decode cX0_remember 20 = .ok (.bipush 8, 2) := by decide +kernel
theorem dX0_remember_22 : decode cX0_remember 22 = .ok (.irem, 1) := by decide +kernel
theorem dX0_remember_23 : decode cX0_remember 23 = .ok (.putfield 20, 3) := by decide +kernel
theorem dX0_remember_26 : decode cX0_remember 26 = .ok (.aload_n 0, 1) := by decide +kernel
theorem dX0_remember_27 : decode cX0_remember 27 = .ok (.aload_n 0, 1) := by decide +kernel
theorem dX0_remember_28 : decode cX0_remember 28 = .ok (.getfield 28, 3) := by decide +kernel
theorem dX0_remember_31 : decode cX0_remember 31 = .ok (.iconst 1, 1) := by decide +kernel
theorem dX0_remember_32 : decode cX0_remember 32 = .ok (.iadd, 1) := by decide +kernel
theorem dX0_remember_33 : decode cX0_remember 33 = .ok (.bipush 8, 2) := by decide +kernel
theorem dX0_remember_35 : decode cX0_remember 35 = .ok (.invokestatic 31, 3) := by decide +kernel
theorem dX0_remember_38 : decode cX0_remember 38 = .ok (.putfield 28, 3) := by decide +kernel
theorem dX0_remember_41 : decode cX0_remember 41 = .ok (.return_, 1) := by decide +kernel
theorem dX0_restore_0 : decode cX0_restore 0 = .ok (.aload_n 0, 1) := by decide +kernel
theorem dX0_restore_1 : decode cX0_restore 1 = .ok (.aload_n 0, 1) := by decide +kernel
theorem dX0_restore_2 : decode cX0_restore 2 = .ok (.getfield 20, 3) := by decide +kernel
theorem dX0_restore_5 : decode cX0_restore 5 = .ok (.bipush 8, 2) := by decide +kernel
theorem dX0_restore_7 : decode cX0_restore 7 = .ok (.iadd, 1) := by decide +kernel
theorem dX0_restore_8 : decode cX0_restore 8 = .ok (.iconst 1, 1) := by decide +kernel
theorem dX0_restore_9 : decode cX0_restore 9 = .ok (.isub, 1) := by decide +kernel
theorem dX0_restore_10 : decode cX0_restore 10 = .ok (.bipush 8, 2) := by decide +kernel
theorem dX0_restore_12 : decode cX0_restore 12 = .ok (.irem, 1) := by decide +kernel
theorem dX0_restore_13 : decode cX0_restore 13 = .ok (.putfield 20, 3) := by decide +kernel
theorem dX0_restore_16 : decode cX0_restore 16 = .ok (.aload_n 0, 1) := by decide +kernel
theorem dX0_restore_17 : decode cX0_restore 17 = .ok (.aload_n 0, 1) := by decide +kernel
theorem dX0_restore_18 : decode cX0_restore 18 = .ok (.getfield 28, 3) := by decide +kernel
theorem dX0_restore_21 : decode cX0_restore 21 = .ok (.iconst 1, 1) := by decide +kernel
theorem dX0_restore_22 : decode cX0_restore 22 = .ok (.isub, 1) := by decide +kernel
theorem dX0_restore_23 : decode cX0_restore 23 = .ok (.iconst 0, 1) := by decide +kernel
theorem dX0_restore_24 : decode cX0_restore 24 = .ok (.invokestatic 37, 3) := by decide +kernel
theorem dX0_restore_27 : decode cX0_restore 27 = .ok (.putfield 28, 3) := by decide +kernel
theorem dX0_restore_30 : decode cX0_restore 30 = .ok (.aload_n 1, 1) := by decide +kernel
theorem dX0_restore_31 : decode cX0_restore 31 = .ok (.aload_n 0, 1) := by decide +kernel
theorem dX0_restore_32 : decode cX0_restore 32 = .ok (.getfield 11, 3) := by decide +kernel
theorem dX0_restore_35 : decode cX0_restore 35 = .ok (.aload_n 0, 1) := by decide +kernel
theorem dX0_restore_36 : decode cX0_restore 36 = .ok (.getfield 20, 3) := by decide +kernel
theorem dX0_restore_39 : decode cX0_restore 39 = .ok (.aaload, 1) := by decide +kernel
theorem dX0_restore_40 : decode cX0_restore 40 = .ok (.invokevirtual 24, 3) := by decide +kernel
theorem dX0_restore_43 : decode cX0_restore 43 = .ok (.return_, 1) := by decide +kernel
theorem dX1_init_0 : decode cX1_init 0 = .ok (.aload_n 0, 1) := by decide +kernel
theorem dX1_init_1 : decode cX1_init 1 = .ok (.invokespecial 3, 3) := by decide +kernel
theorem dX1_init_4 : decode cX1_init 4 = .ok (.aload_n 0, 1) := by decide +kernel
theorem dX1_init_5 : decode cX1_init 5 = .ok (.bipush (-4), 2) := by decide +kernel
theorem dX1_init_7 : decode cX1_init 7 = .ok (.putfield 9, 3) := by decide +kernel
theorem dX1_init_10 : decode cX1_init 10 = .ok (.aload_n 0, 1) := by decide +kernel
theorem dX1_init_11 : decode cX1_init 11 = .ok (.bipush 6, 2) := by decide +kernel
theorem dX1_init_13 : decode cX1_init 13 = .ok (.newarray .int, 2) := by decide +kernel
theorem dX1_init_15 : decode cX1_init 15 = .ok (.putfield 15, 3) := by decide +kernel
theorem dX1_init_18 : decode cX1_init 18 = .ok (.aload_n 0, 1) := by decide +kernel
theorem dX1_init_19 : decode cX1_init 19 = .ok (.bipush 6, 2) := by decide +kernel
theorem dX1_init_21 : decode cX1_init 21 = .ok (.newarray .int, 2) := by decide +kernel
theorem dX1_init_23 : decode cX1_init 23 = .ok (.putfield 19, 3) := by decide +kernel
theorem dX1_init_26 : decode cX1_init 26 = .ok (.aload_n 0, 1) := by decide +kernel
theorem dX1_init_27 : decode cX1_init 27 = .ok (.bipush 6, 2) := by decide +kernel
theorem dX1_init_29 : decode cX1_init 29 = .ok (.newarray .int, 2) := by decide +kernel
theorem dX1_init_31 : decode cX1_init 31 = .ok (.putfield 22, 3) := by decide +kernel
theorem dX1_init_34 : decode cX1_init 34 = .ok (.aload_n 0, 1) := by decide +kernel
theorem dX1_init_35 : decode cX1_init 35 = .ok (.bipush 6, 2) := by decide +kernel
theorem dX1_init_37 : decode cX1_init 37 = .ok (.bipush 6, 2) := by decide +kernel
theorem dX1_init_39 : decode cX1_init 39 = .ok (.multianewarray 25 2, 4) := by decide +kernel
theorem dX1_init_43 : decode cX1_init 43 = .ok (.putfield 27, 3) := by decide +kernel
theorem dX1_init_46 : decode cX1_init 46 = .ok (.aload_n 0, 1) := by decide +kernel
theorem dX1_init_47 : decode cX1_init 47 = .ok (.bipush 6, 2) := by decide +kernel
theorem dX1_init_49 : decode cX1_init 49 = .ok (.bipush 6, 2) := by decide +kernel
theorem dX1_init_51 : decode cX1_init 51 = .ok (.multianewarray 25 2, 4) := by decide +kernel
theorem dX1_init_55 : decode cX1_init 55 = .ok (.putfield 30, 3) := by decide +kernel
theorem dX1_init_58 : decode cX1_init 58 = .ok (.aload_n 0, 1) := by decide +kernel
theorem dX1_init_59 : decode cX1_init 59 = .ok (.bipush 6, 2) := by decide +kernel
theorem dX1_init_61 : decode cX1_init 61 = .ok (.bipush 6, 2) := by decide +kernel
theorem dX1_init_63 : decode cX1_init 63 = .ok (.multianewarray 25 2, 4) := by decide +kernel
theorem dX1_init_67 : decode cX1_init 67 = .ok (.putfield 33, 3) := by decide +kernel
theorem dX1_init_70 : decode cX1_init 70 = .ok (.aload_n 0, 1) := by decide +kernel
theorem dX1_init_71 : decode cX1_init 71 = .ok (.bipush 6, 2) := by decide +kernel
theorem dX1_init_73 : decode cX1_init 73 = .ok (.bipush 6, 2) := by decide +kernel
theorem dX1_init_75 : decode cX1_init 75 = .ok (.multianewarray 25 2, 4) := by decide +kernel
theorem dX1_init_79 : decode cX1_init 79 = .ok (.putfield 36, 3) := by decide +kernel
theorem dX1_init_82 : decode cX1_init 82 = .ok (.aload_n 0, 1) := by decide +kernel
theorem dX1_init_83 : decode cX1_init 83 = .ok (.aload_n 1, 1) := by decide +kernel
theorem dX1_init_84 : decode cX1_init 84 = .ok (.putfield 39, 3) := by decide +kernel
theorem dX1_init_87 : decode cX1_init 87 = .ok (.return_, 1) := by decide +kernel
theorem dX1_begin_0 : decode cX1_begin 0 = .ok (.aload_n 0, 1) := by decide +kernel
theorem dX1_begin_1 : decode cX1_begin 1 = .ok (.iconst 0, 1) := by decide +kernel
theorem dX1_begin_2 : decode cX1_begin 2 = .ok (.putfield 43, 3) := by decide +kernel
theorem dX1_begin_5 : decode cX1_begin 5 = .ok (.aload_n 0, 1) := by decide +kernel
theorem dX1_begin_6 : decode cX1_begin 6 = .ok (.iload_n 1, 1) := by decide +kernel
theorem dX1_begin_7 : decode cX1_begin 7 = .ok (.putfield 9, 3) := by decide +kernel
theorem dX1_begin_10 : decode cX1_begin 10 = .ok (.aload_n 0, 1) := by decide +kernel
theorem dX1_begin_11 : decode cX1_begin 11 = .ok (.getfield 39, 3) := by decide +kernel
theorem dX1_begin_14 : decode cX1_begin 14 = .ok (.getfield 46, 3) := by decide +kernel
theorem dX1_begin_17 : decode cX1_begin 17 = .ok (.iconst 0, 1) := by decide +kernel
theorem dX1_begin_18 : decode cX1_begin 18 = .ok (.aload_n 0, 1) := by decide +kernel
theorem dX1_begin_19 : decode cX1_begin 19 = .ok (.getfield 15, 3) := by decide +kernel
theorem dX1_begin_22 : decode cX1_begin 22 = .ok (.iconst 0, 1) := by decide +kernel
theorem dX1_begin_23 : decode cX1_begin 23 = .ok (.bipush 6, 2) := by decide +kernel
theorem dX1_begin_25 : decode cX1_begin 25 = .ok (.invokestatic 51, 3) := by decide +kernel
theorem dX1_begin_28 : decode cX1_begin 28 = .ok (.aload_n 0, 1) := by decide +kernel
theorem dX1_begin_29 : decode cX1_begin 29 = .ok (.getfield 19, 3) := by decide +kernel
theorem dX1_begin_32 : decode cX1_begin 32 = .ok (.bipush (-4), 2) := by decide +kernel
theorem dX1_begin_34 : decode cX1_begin 34 = .ok (.invokestatic 57, 3) := by decide +kernel
theorem dX1_begin_37 : decode cX1_begin 37 = .ok (.aload_n 0, 1) := by decide +kernel
theorem dX1_begin_38 : decode cX1_begin 38 = .ok (.getfield 22, 3) := by decide +kernel
theorem dX1_begin_41 : decode cX1_begin 41 = .ok (.iconst 0, 1) := by decide +kernel
theorem dX1_begin_42 : decode cX1_begin 42 = .ok (.invokestatic 57, 3) := by decide +kernel
theorem dX1_begin_45 : decode cX1_begin 45 = .ok (.iconst 0, 1) := by decide +kernel
theorem dX1_begin_46 : decode cX1_begin 46 = .ok (.istore_n 2, 1) := by decide +kernel
theorem dX1_begin_47 : decode cX1_begin 47 = .ok (.iload_n 2, 1) := by decide +kernel
theorem dX1_begin_48 : decode cX1_begin 48 = .ok (.bipush 6, 2) := by decide +kernel
theorem dX1_begin_50 : decode cX1_begin 50 = .ok (.if_icmp .ge 51, 3) := by decide +kernel
theorem dX1_begin_53 : decode cX1_begin 53 = .ok (.aload_n 0, 1) := by decide +kernel
theorem dX1_begin_54 : decode cX1_begin 54 = .ok (.getfield 27, 3) := by decide +kernel
theorem dX1_begin_57 : decode cX1_begin 57 = .ok (.iload_n 2, 1) := by decide +kernel
theorem dX1_begin_58 : decode cX1_begin 58 = .ok (.aaload, 1) := by decide +kernel
theorem dX1_begin_59 : decode cX1_begin 59 = .ok (.iconst 0, 1) := by decide +kernel
theorem dX1_begin_60 : decode cX1_begin 60 = .ok (.invokestatic 57, 3) := by decide +kernel
theorem dX1_begin_63 : decode cX1_begin 63 = .ok (.aload_n 0, 1) := by decide +kernel
theorem dX1_begin_64 : decode cX1_begin 64 = .ok (.getfield 30, 3) := by decide +kernel
theorem dX1_begin_67 : decode cX1_begin 67 = .ok (.iload_n 2, 1) := by decide +kernel
theorem dX1_begin_68 : decode cX1_begin 68 = .ok (.aaload, 1) := by decide +kernel
theorem dX1_begin_69 : decode cX1_begin 69 = .ok (.bipush (-4), 2) := by decide +kernel
theorem dX1_begin_71 : decode cX1_begin 71 = .ok (.invokestatic 57, 3) := by decide +kernel
theorem dX1_begin_74 : decode cX1_begin 74 = .ok (.aload_n 0, 1) := by decide +kernel
theorem dX1_begin_75 : decode cX1_begin 75 = .ok (.getfield 33, 3) := by decide +kernel
theorem dX1_begin_78 : decode cX1_begin 78 = .ok (.iload_n 2, 1) := by decide +kernel
theorem dX1_begin_79 : decode cX1_begin 79 = .ok (.aaload, 1) := by decide +kernel
theorem dX1_begin_80 : decode cX1_begin 80 = .ok (.iconst 0, 1) := by decide +kernel
theorem dX1_begin_81 : decode cX1_begin 81 = .ok (.invokestatic 57, 3) := by decide +kernel
theorem dX1_begin_84 : decode cX1_begin 84 = .ok (.aload_n 0, 1) := by decide +kernel
theorem dX1_begin_85 : decode cX1_begin 85 = .ok (.getfield 36, 3) := by decide +kernel
theorem dX1_begin_88 : decode cX1_begin 88 = .ok (.iload_n 2, 1) := by decide +kernel
theorem dX1_begin_89 : decode cX1_begin 89 = .ok (.aaload, 1) := by decide +kernel
theorem dX1_begin_90 : decode cX1_begin 90 = .ok (.bipush (-4), 2) := by decide +kernel
theorem dX1_begin_92 : decode cX1_begin 92 = .ok (.invokestatic 57, 3) := by decide +kernel
theorem dX1_begin_95 : decode cX1_begin 95 = .ok (.iinc 2 1, 3) := by decide +kernel
theorem dX1_begin_98 : decode cX1_begin 98 = .ok (.goto (-51), 3) := by decide +kernel
theorem dX1_begin_101 : decode cX1_begin 101 = .ok (.aload_n 0, 1) := by decide +kernel
theorem dX1_begin_102 : decode cX1_begin 102 = .ok (.invokevirtual 63, 3) := by decide +kernel
theorem dX1_begin_105 : decode cX1_begin 105 = .ok (.return_, 1) := by decide +kernel
theorem dX1_copyFrom_0 : decode cX1_copyFrom 0 = .ok (.aload_n 0, 1) := by decide +kernel
theorem dX1_copyFrom_1 : decode cX1_copyFrom 1 = .ok (.aload_n 1, 1) := by decide +kernel
theorem dX1_copyFrom_2 : decode cX1_copyFrom 2 = .ok (.getfield 43, 3) := by decide +kernel
theorem dX1_copyFrom_5 : decode cX1_copyFrom 5 = .ok (.putfield 43, 3) := by decide +kernel
theorem dX1_copyFrom_8 : decode cX1_copyFrom 8 = .ok (.aload_n 0, 1) := by decide +kernel
theorem dX1_copyFrom_9 : decode cX1_copyFrom 9 = .ok (.aload_n 1, 1) := by decide +kernel
theorem dX1_copyFrom_10 : decode cX1_copyFrom 10 = .ok (.getfield 9, 3) := by decide +kernel
theorem dX1_copyFrom_13 : decode cX1_copyFrom 13 = .ok (.putfield 9, 3) := by decide +kernel
theorem dX1_copyFrom_16 : decode cX1_copyFrom 16 = .ok (.aload_n 1, 1) := by decide +kernel
theorem dX1_copyFrom_17 : decode cX1_copyFrom 17 = .ok (.getfield 15, 3) := by decide +kernel
theorem dX1_copyFrom_20 : decode cX1_copyFrom 20 = .ok (.iconst 0, 1) := by decide +kernel
theorem dX1_copyFrom_21 : decode cX1_copyFrom 21 = .ok (.aload_n 0, 1) := by decide +kernel
theorem dX1_copyFrom_22 : decode cX1_copyFrom 22 = .ok (.getfield 15, 3) := by decide +kernel
theorem dX1_copyFrom_25 : decode cX1_copyFrom 25 = .ok (.iconst 0, 1) := by decide +kernel
theorem dX1_copyFrom_26 : decode cX1_copyFrom 26 = .ok (.bipush 6, 2) := by decide +kernel
theorem dX1_copyFrom_28 : decode cX1_copyFrom 28 = .ok (.invokestatic 51, 3) := by decide +kernel
theorem dX1_copyFrom_31 : decode cX1_copyFrom 31 = .ok (.aload_n 1, 1) := by decide +kernel
theorem dX1_copyFrom_32 : decode cX1_copyFrom 32 = .ok (.getfield 19, 3) := by decide +kernel
theorem dX1_copyFrom_35 : decode cX1_copyFrom 35 = .ok (.iconst 0, 1) := by decide +kernel
theorem dX1_copyFrom_36 : decode cX1_copyFrom 36 = .ok (.aload_n 0, 1) := by decide +kernel
theorem dX1_copyFrom_37 : decode cX1_copyFrom 37 = .ok (.getfield 19, 3) := by decide +kernel
theorem dX1_copyFrom_40 : decode cX1_copyFrom 40 = .ok (.iconst 0, 1) := by decide +kernel
theorem dX1_copyFrom_41 : decode cX1_copyFrom 41 = .ok (.bipush 6, 2) := by decide +kernel
theorem dX1_copyFrom_43 : decode cX1_copyFrom 43 = .ok (.invokestatic 51, 3) := by decide +kernel
theorem dX1_copyFrom_46 : decode cX1_copyFrom 46 = .ok (.aload_n 1, 1) := by decide +kernel
theorem dX1_copyFrom_47 : decode cX1_copyFrom 47 = .ok (.getfield 22, 3) := by decide +kernel
theorem dX1_copyFrom_50 : decode cX1_copyFrom 50 = .ok (.iconst 0, 1) := by decide +kernel
theorem dX1_copyFrom_51 : decode cX1_copyFrom 51 = .ok (.aload_n 0, 1) := by decide +kernel
theorem dX1_copyFrom_52 : decode cX1_copyFrom 52 = .ok (.getfield 22, 3) := by decide +kernel
theorem dX1_copyFrom_55 : decode cX1_copyFrom 55 = .ok (.iconst 0, 1) := by decide +kernel
theorem dX1_copyFrom_56 : decode cX1_copyFrom 56 = .ok (.bipush 6, 2) := by decide +kernel
theorem dX1_copyFrom_58 : decode cX1_copyFrom 58 = .ok (.invokestatic 51, 3) := by decide +kernel
theorem dX1_copyFrom_61 : decode cX1_copyFrom 61 = .ok (.iconst 0, 1) := by decide +kernel
theorem dX1_copyFrom_62 : decode cX1_copyFrom 62 = .ok (.istore_n 2, 1) := by decide +kernel
theorem dX1_copyFrom_63 : decode cX1_copyFrom 63 = .ok (.iload_n 2, 1) := by decide +kernel
theorem dX1_copyFrom_64 : decode cX1_copyFrom 64 = .ok (.bipush 6, 2) := by decide +kernel
theorem dX1_copyFrom_66 : decode cX1_copyFrom 66 = .ok (.if_icmp .ge 85, 3) := by decide +kernel
theorem dX1_copyFrom_69 : decode cX1_copyFrom 69 = .ok (.aload_n 1, 1) := by decide +kernel
theorem dX1_copyFrom_70 : decode cX1_copyFrom 70 = .ok (.getfield 27, 3) := by decide +kernel
theorem dX1_copyFrom_73 : decode cX1_copyFrom 73 = .ok (.iload_n 2, 1) := by decide +kernel
theorem dX1_copyFrom_74 : decode cX1_copyFrom 74 = .ok (.aaload, 1) := by decide +kernel
theorem dX1_copyFrom_75 : decode cX1_copyFrom 75 = .ok (.iconst 0, 1) := by decide +kernel
theorem dX1_copyFrom_76 : decode cX1_copyFrom 76 = .ok (.aload_n 0, 1) := by decide +kernel
theorem dX1_copyFrom_77 : decode cX1_copyFrom 77 = .ok (.getfield 27, 3) := by decide +kernel
theorem dX1_copyFrom_80 : decode cX1_copyFrom 80 = .ok (.iload_n 2, 1) := by decide +kernel
theorem dX1_copyFrom_81 : decode cX1_copyFrom 81 = .ok (.aaload, 1) := by decide +kernel
theorem dX1_copyFrom_82 : decode cX1_copyFrom 82 = .ok (.iconst 0, 1) := by decide +kernel
theorem dX1_copyFrom_83 : decode cX1_copyFrom 83 = .ok (.bipush 6, 2) := by decide +kernel
theorem dX1_copyFrom_85 : decode cX1_copyFrom 85 = .ok (.invokestatic 51, 3) := by decide +kernel
theorem dX1_copyFrom_88 : decode cX1_copyFrom 88 = .ok (.aload_n 1, 1) := by decide +kernel
theorem dX1_copyFrom_89 : decode cX1_copyFrom 89 = .ok (.getfield 30, 3) := by decide +kernel
theorem dX1_copyFrom_92 : decode cX1_copyFrom 92 = .ok (.iload_n 2, 1) := by decide +kernel
theorem dX1_copyFrom_93 : decode cX1_copyFrom 93 = .ok (.aaload, 1) := by decide +kernel
theorem dX1_copyFrom_94 : decode cX1_copyFrom 94 = .ok (.iconst 0, 1) := by decide +kernel
theorem dX1_copyFrom_95 : decode cX1_copyFrom 95 = .ok (.aload_n 0, 1) := by decide +kernel
theorem dX1_copyFrom_96 : decode cX1_copyFrom 96 = .ok (.getfield 30, 3) := by decide +kernel
theorem dX1_copyFrom_99 : decode cX1_copyFrom 99 = .ok (.iload_n 2, 1) := by decide +kernel
theorem dX1_copyFrom_100 : decode cX1_copyFrom 100 = .ok (.aaload, 1) := by decide +kernel
theorem dX1_copyFrom_101 : decode cX1_copyFrom 101 = .ok (.iconst 0, 1) := by decide +kernel
theorem dX1_copyFrom_102 : decode cX1_copyFrom 102 = .ok (.bipush 6, 2) := by decide +kernel
theorem dX1_copyFrom_104 : decode cX1_copyFrom 104 = .ok (.invokestatic 51, 3) := by decide +kernel
theorem dX1_copyFrom_107 : decode cX1_copyFrom 107 = .ok (.aload_n 1, 1) := by decide +kernel
theorem dX1_copyFrom_108 : decode cX1_copyFrom 108 = .ok (.getfield 33, 3) := by decide +kernel
theorem dX1_copyFrom_111 : decode cX1_copyFrom 111 = .ok (.iload_n 2, 1) := by decide +kernel
theorem dX1_copyFrom_112 : decode cX1_copyFrom 112 = .ok (.aaload, 1) := by decide +kernel
theorem dX1_copyFrom_113 : decode cX1_copyFrom 113 = .ok (.iconst 0, 1) := by decide +kernel
theorem dX1_copyFrom_114 : decode cX1_copyFrom 114 = .ok (.aload_n 0, 1) := by decide +kernel
theorem dX1_copyFrom_115 : decode cX1_copyFrom 115 = .ok (.getfield 33, 3) := by decide +kernel
theorem dX1_copyFrom_118 : decode cX1_copyFrom 118 = .ok (.iload_n 2, 1) := by decide +kernel
theorem dX1_copyFrom_119 : decode cX1_copyFrom 119 = .ok (.aaload, 1) := by decide +kernel
theorem dX1_copyFrom_120 : decode cX1_copyFrom 120 = .ok (.iconst 0, 1) := by decide +kernel
theorem dX1_copyFrom_121 : decode cX1_copyFrom 121 = .ok (.bipush 6, 2) := by decide +kernel
theorem dX1_copyFrom_123 : decode cX1_copyFrom 123 = .ok (.invokestatic 51, 3) := by decide +kernel
theorem dX1_copyFrom_126 : decode cX1_copyFrom 126 = .ok (.aload_n 1, 1) := by decide +kernel
theorem dX1_copyFrom_127 : decode cX1_copyFrom 127 = .ok (.getfield 36, 3) := by decide +kernel
theorem dX1_copyFrom_130 : decode cX1_copyFrom 130 = .ok (.iload_n 2, 1) := by decide +kernel
theorem dX1_copyFrom_131 : decode cX1_copyFrom 131 = .ok (.aaload, 1) := by decide +kernel
theorem dX1_copyFrom_132 : decode cX1_copyFrom 132 = .ok (.iconst 0, 1) := by decide +kernel
theorem dX1_copyFrom_133 : decode cX1_copyFrom 133 = .ok (.aload_n 0, 1) := by decide +kernel
theorem dX1_copyFrom_134 : decode cX1_copyFrom 134 = .ok (.getfield 36, 3) := by decide +kernel
theorem dX1_copyFrom_137 : decode cX1_copyFrom 137 = .ok (.iload_n 2, 1) := by decide +kernel
theorem dX1_copyFrom_138 : decode cX1_copyFrom 138 = .ok (.aaload, 1) := by decide +kernel
theorem dX1_copyFrom_139 : decode cX1_copyFrom 139 = .ok (.iconst 0, 1) := by decide +kernel
theorem dX1_copyFrom_140 : decode cX1_copyFrom 140 = .ok (.bipush 6, 2) := by decide +kernel
theorem dX1_copyFrom_142 : decode cX1_copyFrom 142 = .ok (.invokestatic 51, 3) := by decide +kernel
theorem dX1_copyFrom_145 : decode cX1_copyFrom 145 = .ok (.iinc 2 1, 3) := by decide +kernel
theorem dX1_copyFrom_148 : decode cX1_copyFrom 148 = .ok (.goto (-85), 3) := by decide +kernel
theorem dX1_copyFrom_151 : decode cX1_copyFrom 151 = .ok (.return_, 1) := by decide +kernel
theorem dX1_addPause_0 : decode cX1_addPause 0 = .ok (.iload_n 3, 1) := by decide +kernel
theorem dX1_addPause_1 : decode cX1_addPause 1 = .ok (.aload_n 0, 1) := by decide +kernel
theorem dX1_addPause_2 : decode cX1_addPause 2 = .ok (.getfield 27, 3) := by decide +kernel
theorem dX1_addPause_5 : decode cX1_addPause 5 = .ok (.iload_n 1, 1) := by decide +kernel
theorem dX1_addPause_6 : decode cX1_addPause 6 = .ok (.aaload, 1) := by decide +kernel
theorem dX1_addPause_7 : decode cX1_addPause 7 = .ok (.iload_n 2, 1) := by decide +kernel
theorem dX1_addPause_8 : decode cX1_addPause 8 = .ok (.iaload, 1) := by decide +kernel
theorem dX1_addPause_9 : decode cX1_addPause 9 = .ok (.if_icmp .gt 4, 3) := by decide +kernel
theorem dX1_addPause_12 : decode cX1_addPause 12 = .ok (.return_, 1) := by decide +kernel
theorem dX1_addPause_13 : decode cX1_addPause 13 = .ok (.aload_n 0, 1) := by decide +kernel
theorem dX1_addPause_14 : decode cX1_addPause 14 = .ok (.getfield 27, 3) := by decide +kernel
theorem dX1_addPause_17 : decode cX1_addPause 17 = .ok (.iload_n 1, 1) := by decide +kernel
theorem dX1_addPause_18 : decode cX1_addPause 18 = .ok (.aaload, 1) := by decide +kernel
theorem dX1_addPause_19 : decode cX1_addPause 19 = .ok (.iload_n 2, 1) := by decide +kernel
theorem dX1_addPause_20 : decode cX1_addPause 20 = .ok (.iload_n 3, 1) := by decide +kernel
theorem dX1_addPause_21 : decode cX1_addPause 21 = .ok (.iastore, 1) := by decide +kernel
theorem dX1_addPause_22 : decode cX1_addPause 22 = .ok (.aload_n 0, 1) := by decide +kernel
theorem dX1_addPause_23 : decode cX1_addPause 23 = .ok (.getfield 30, 3) := by decide +kernel
theorem dX1_addPause_26 : decode cX1_addPause 26 = .ok (.iload_n 1, 1) := by decide +kernel
theorem dX1_addPause_27 : decode cX1_addPause 27 = .ok (.aaload, 1) := by decide +kernel
theorem dX1_addPause_28 : decode cX1_addPause 28 = .ok (.iload_n 2, 1) := by decide +kernel
theorem dX1_addPause_29 : decode cX1_addPause 29 = .ok (.aload_n 0, 1) := by decide +kernel
theorem dX1_addPause_30 : decode cX1_addPause 30 = .ok (.getfield 43, 3) := by decide +kernel
theorem dX1_addPause_33 : decode cX1_addPause 33 = .ok (.iastore, 1) := by decide +kernel
theorem dX1_addPause_34 : decode cX1_addPause 34 = .ok (.aload_n 0, 1) := by decide +kernel
theorem dX1_addPause_35 : decode cX1_addPause 35 = .ok (.getfield 33, 3) := by decide +kernel
theorem dX1_addPause_38 : decode cX1_addPause 38 = .ok (.iload_n 1, 1) := by decide +kernel
theorem dX1_addPause_39 : decode cX1_addPause 39 = .ok (.aaload, 1) := by decide +kernel
theorem dX1_addPause_40 : decode cX1_addPause 40 = .ok (.iload_n 2, 1) := by decide +kernel
theorem dX1_addPause_41 : decode cX1_addPause 41 = .ok (.aload_n 0, 1) := by decide +kernel
theorem dX1_addPause_42 : decode cX1_addPause 42 = .ok (.getfield 39, 3) := by decide +kernel
theorem dX1_addPause_45 : decode cX1_addPause 45 = .ok (.iload_n 1, 1) := by decide +kernel
theorem dX1_addPause_46 : decode cX1_addPause 46 = .ok (.iload_n 3, 1) := by decide +kernel
theorem dX1_addPause_47 : decode cX1_addPause 47 = .ok (.invokevirtual 66, 3) := by decide +kernel
theorem dX1_addPause_50 : decode cX1_addPause 50 = .ok (.iastore, 1) := by decide +kernel
theorem dX1_addPause_51 : decode cX1_addPause 51 = .ok (.aload_n 0, 1) := by decide +kernel
theorem dX1_addPause_52 : decode cX1_addPause 52 = .ok (.getfield 36, 3) := by decide +kernel
theorem dX1_addPause_55 : decode cX1_addPause 55 = .ok (.iload_n 1, 1) := by decide +kernel
theorem dX1_addPause_56 : decode cX1_addPause 56 = .ok (.aaload, 1) := by decide +kernel
theorem dX1_addPause_57 : decode cX1_addPause 57 = .ok (.iload_n 2, 1) := by decide +kernel
theorem dX1_addPause_58 : decode cX1_addPause 58 = .ok (.aload_n 0, 1) := by decide +kernel
theorem dX1_addPause_59 : decode cX1_addPause 59 = .ok (.getfield 33, 3) := by decide +kernel
theorem dX1_addPause_62 : decode cX1_addPause 62 = .ok (.iload_n 1, 1) := by decide +kernel
theorem dX1_addPause_63 : decode cX1_addPause 63 = .ok (.aaload, 1) := by decide +kernel
theorem dX1_addPause_64 : decode cX1_addPause 64 = .ok (.iload_n 2, 1) := by decide +kernel
theorem dX1_addPause_65 : decode cX1_addPause 65 = .ok (.iaload, 1) := by decide +kernel
theorem dX1_addPause_66 : decode cX1_addPause 66 = .ok (.bipush 9, 2) := by decide +kernel
theorem dX1_addPause_68 : decode cX1_addPause 68 = .ok (.if_icmp .lt 19, 3) := by decide +kernel
theorem dX1_addPause_71 : decode cX1_addPause 71 = .ok (.aload_n 0, 1) := by decide +kernel
theorem dX1_addPause_72 : decode cX1_addPause 72 = .ok (.getfield 39, 3) := by decide +kernel
theorem dX1_addPause_75 : decode cX1_addPause 75 = .ok (.iload_n 1, 1) := by decide +kernel
theorem dX1_addPause_76 : decode cX1_addPause 76 = .ok (.iload_n 2, 1) := by decide +kernel
theorem dX1_addPause_77 : decode cX1_addPause 77 = .ok (.aload_n 0, 1) := by decide +kernel
theorem dX1_addPause_78 : decode cX1_addPause 78 = .ok (.getfield 43, 3) := by decide +kernel
theorem dX1_addPause_81 : decode cX1_addPause 81 = .ok (.invokevirtual 70, 3) := by decide +kernel
theorem dX1_addPause_84 : decode cX1_addPause 84 = .ok (.goto 5, 3) := by decide +kernel
theorem dX1_addPause_87 : decode cX1_addPause 87 = .ok (.bipush (-4), 2) := by decide +kernel
theorem dX1_addPause_89 : decode cX1_addPause 89 = .ok (.iastore, 1) := by decide +kernel
theorem dX1_addPause_90 : decode cX1_addPause 90 = .ok (.return_, 1) := by decide +kernel
theorem dX1_addToldPauses_0 : decode cX1_addToldPauses 0 = .ok (.iconst 0, 1) := by decide +kernel
theorem dX1_addToldPauses_1 : decode cX1_addToldPauses 1 = .ok (.istore_n 1, 1) := by decide +kernel
theorem dX1_addToldPauses_2 : decode cX1_addToldPauses 2 = .ok (.iload_n 1, 1) := by decide +kernel
theorem dX1_addToldPauses_3 : decode cX1_addToldPauses 3 = .ok (.aload_n 0, 1) := by decide +kernel
theorem dX1_addToldPauses_4 : decode cX1_addToldPauses 4 = .ok (.getfield 39, 3) := by decide +kernel
theorem dX1_addToldPauses_7 : decode cX1_addToldPauses 7 = .ok (.getfield 74, 3) := by decide +kernel
theorem dX1_addToldPauses_10 : decode cX1_addToldPauses 10 = .ok (.if_icmp .ge 72, 3) := by decide +kernel
theorem dX1_addToldPauses_13 : decode cX1_addToldPauses 13 = .ok (.aload_n 0, 1) := by decide +kernel
theorem dX1_addToldPauses_14 : decode cX1_addToldPauses 14 = .ok (.getfield 39, 3) := by decide +kernel
theorem dX1_addToldPauses_17 : decode cX1_addToldPauses 17 = .ok (.getfield 77, 3) := by decide +kernel
theorem dX1_addToldPauses_20 : decode cX1_addToldPauses 20 = .ok (.iload_n 1, 1) := by decide +kernel
theorem dX1_addToldPauses_21 : decode cX1_addToldPauses 21 = .ok (.iaload, 1) := by decide +kernel
theorem dX1_addToldPauses_22 : decode cX1_addToldPauses 22 = .ok (.aload_n 0, 1) := by decide +kernel
theorem dX1_addToldPauses_23 : decode cX1_addToldPauses 23 = .ok (.getfield 43, 3) := by decide +kernel
theorem dX1_addToldPauses_26 : decode cX1_addToldPauses 26 = .ok (.if_icmp .ne 50, 3) := by decide +kernel
theorem dX1_addToldPauses_29 : decode cX1_addToldPauses 29 = .ok (.aload_n 0, 1) := by decide +kernel
theorem dX1_addToldPauses_30 : decode cX1_addToldPauses 30 = .ok (.getfield 39, 3) := by decide +kernel
theorem dX1_addToldPauses_33 : decode cX1_addToldPauses 33 = .ok (.getfield 80, 3) := by decide +kernel
theorem dX1_addToldPauses_36 : decode cX1_addToldPauses 36 = .ok (.iload_n 1, 1) := by decide +kernel
theorem dX1_addToldPauses_37 : decode cX1_addToldPauses 37 = .ok (.iaload, 1) := by decide +kernel
theorem dX1_addToldPauses_38 : decode cX1_addToldPauses 38 = .ok (.aload_n 0, 1) := by decide +kernel
theorem dX1_addToldPauses_39 : decode cX1_addToldPauses 39 = .ok (.getfield 9, 3) := by decide +kernel
theorem dX1_addToldPauses_42 : decode cX1_addToldPauses 42 = .ok (.if_icmp .eq 34, 3) := by decide +kernel
theorem dX1_addToldPauses_45 : decode cX1_addToldPauses 45 = .ok (.aload_n 0, 1) := by decide +kernel
theorem dX1_addToldPauses_46 : decode cX1_addToldPauses 46 = .ok (.aload_n 0, 1) := by decide +kernel
theorem dX1_addToldPauses_47 : decode cX1_addToldPauses 47 = .ok (.getfield 39, 3) := by decide +kernel
theorem dX1_addToldPauses_50 : decode cX1_addToldPauses 50 = .ok (.getfield 80, 3) := by decide +kernel
theorem dX1_addToldPauses_53 : decode cX1_addToldPauses 53 = .ok (.iload_n 1, 1) := by decide +kernel
theorem dX1_addToldPauses_54 : decode cX1_addToldPauses 54 = .ok (.iaload, 1) := by decide +kernel
theorem dX1_addToldPauses_55 : decode cX1_addToldPauses 55 = .ok (.aload_n 0, 1) := by decide +kernel
theorem dX1_addToldPauses_56 : decode cX1_addToldPauses 56 = .ok (.getfield 39, 3) := by decide +kernel
theorem dX1_addToldPauses_59 : decode cX1_addToldPauses 59 = .ok (.getfield 83, 3) := by decide +kernel
theorem dX1_addToldPauses_62 : decode cX1_addToldPauses 62 = .ok (.iload_n 1, 1) := by decide +kernel
theorem dX1_addToldPauses_63 : decode cX1_addToldPauses 63 = .ok (.iaload, 1) := by decide +kernel
theorem dX1_addToldPauses_64 : decode cX1_addToldPauses 64 = .ok (.aload_n 0, 1) := by decide +kernel
theorem dX1_addToldPauses_65 : decode cX1_addToldPauses 65 = .ok (.getfield 39, 3) := by decide +kernel
theorem dX1_addToldPauses_68 : decode cX1_addToldPauses 68 = .ok (.getfield 86, 3) := by decide +kernel
theorem dX1_addToldPauses_71 : decode cX1_addToldPauses 71 = .ok (.iload_n 1, 1) := by decide +kernel
theorem dX1_addToldPauses_72 : decode cX1_addToldPauses 72 = .ok (.iaload, 1) := by decide +kernel
theorem dX1_addToldPauses_73 : decode cX1_addToldPauses 73 = .ok (.invokevirtual 89, 3) := by decide +kernel
theorem dX1_addToldPauses_76 : decode cX1_addToldPauses 76 = .ok (.iinc 1 1, 3) := by decide +kernel
theorem dX1_addToldPauses_79 : decode cX1_addToldPauses 79 = .ok (.goto (-77), 3) := by decide +kernel
theorem dX1_addToldPauses_82 : decode cX1_addToldPauses 82 = .ok (.return_, 1) := by decide +kernel
theorem dX1_isFree_0 : decode cX1_isFree 0 = .ok (.aload_n 0, 1) := by decide +kernel
theorem dX1_isFree_1 : decode cX1_isFree 1 = .ok (.getfield 19, 3) := by decide +kernel
theorem dX1_isFree_4 : decode cX1_isFree 4 = .ok (.iload_n 1, 1) := by decide +kernel
theorem dX1_isFree_5 : decode cX1_isFree 5 = .ok (.iaload, 1) := by decide +kernel
theorem dX1_isFree_6 : decode cX1_isFree 6 = .ok (.bipush (-4), 2) := by decide +kernel
theorem dX1_isFree_8 : decode cX1_isFree 8 = .ok (.if_icmp .ne 7, 3) := by decide +kernel
theorem dX1_isFree_11 : decode cX1_isFree 11 = .ok (.iconst 1, 1) := by decide +kernel
theorem dX1_isFree_12 : decode cX1_isFree 12 = .ok (.goto 4, 3) := by decide +kernel
theorem dX1_isFree_15 : decode cX1_isFree 15 = .ok (.iconst 0, 1) := by decide +kernel
theorem dX1_isFree_16 : decode cX1_isFree 16 = .ok (.ireturn, 1) := by decide +kernel
theorem dX1_claimantOf_0 : decode cX1_claimantOf 0 = .ok (.bipush (-4), 2) := by decide +kernel
theorem dX1_claimantOf_2 : decode cX1_claimantOf 2 = .ok (.istore_n 2, 1) := by decide +kernel
theorem dX1_claimantOf_3 : decode cX1_claimantOf 3 = .ok (.bipush 8, 2) := by decide +kernel
theorem dX1_claimantOf_5 : decode cX1_claimantOf 5 = .ok (.istore_n 3, 1) := by decide +kernel
theorem dX1_claimantOf_6 : decode cX1_claimantOf 6 = .ok (.iconst 0, 1) := by decide +kernel
theorem dX1_claimantOf_7 : decode cX1_claimantOf 7 = .ok (.istore 4, 2) := by decide +kernel
theorem dX1_claimantOf_9 : decode cX1_claimantOf 9 = .ok (.iload 4, 2) := by decide +kernel
theorem dX1_claimantOf_11 : decode cX1_claimantOf 11 = .ok (.aload_n 0, 1) := by decide +kernel
theorem dX1_claimantOf_12 : decode cX1_claimantOf 12 = .ok (.getfield 39, 3) := by decide +kernel
theorem dX1_claimantOf_15 : decode cX1_claimantOf 15 = .ok (.getfield 93, 3) := by decide +kernel
theorem dX1_claimantOf_18 : decode cX1_claimantOf 18 = .ok (.if_icmp .ge 35, 3) := by decide +kernel
theorem dX1_claimantOf_21 : decode cX1_claimantOf 21 = .ok (.aload_n 0, 1) := by decide +kernel
theorem dX1_claimantOf_22 : decode cX1_claimantOf 22 = .ok (.getfield 33, 3) := by decide +kernel
theorem dX1_claimantOf_25 : decode cX1_claimantOf 25 = .ok (.iload 4, 2) := by decide +kernel
theorem dX1_claimantOf_27 : decode cX1_claimantOf 27 = .ok (.aaload, 1) := by decide +kernel
theorem dX1_claimantOf_28 : decode cX1_claimantOf 28 = .ok (.iload_n 1, 1) := by decide +kernel
theorem dX1_claimantOf_29 : decode cX1_claimantOf 29 = .ok (.iaload, 1) := by decide +kernel
theorem dX1_claimantOf_30 : decode cX1_claimantOf 30 = .ok (.iload_n 3, 1) := by decide +kernel
theorem dX1_claimantOf_31 : decode cX1_claimantOf 31 = .ok (.if_icmp .le 16, 3) := by decide +kernel
theorem dX1_claimantOf_34 : decode cX1_claimantOf 34 = .ok (.iload 4, 2) := by decide +kernel
theorem dX1_claimantOf_36 : decode cX1_claimantOf 36 = .ok (.istore_n 2, 1) := by decide +kernel
theorem dX1_claimantOf_37 : decode cX1_claimantOf 37 = .ok (.aload_n 0, 1) := by decide +kernel
theorem dX1_claimantOf_38 : decode cX1_claimantOf 38 = .ok (.getfield 33, 3) := by decide +kernel
theorem dX1_claimantOf_41 : decode cX1_claimantOf 41 = .ok (.iload 4, 2) := by decide +kernel
theorem dX1_claimantOf_43 : decode cX1_claimantOf 43 = .ok (.aaload, 1) := by decide +kernel
theorem dX1_claimantOf_44 : decode cX1_claimantOf 44 = .ok (.iload_n 1, 1) := by decide +kernel
theorem dX1_claimantOf_45 : decode cX1_claimantOf 45 = .ok (.iaload, 1) := by decide +kernel
theorem dX1_claimantOf_46 : decode cX1_claimantOf 46 = .ok (.istore_n 3, 1) := by decide +kernel
theorem dX1_claimantOf_47 : decode cX1_claimantOf 47 = .ok (.iinc 4 1, 3) := by decide +kernel
theorem dX1_claimantOf_50 : decode cX1_claimantOf 50 = .ok (.goto (-41), 3) := by decide +kernel
theorem dX1_claimantOf_53 : decode cX1_claimantOf 53 = .ok (.iload_n 2, 1) := by decide +kernel
theorem dX1_claimantOf_54 : decode cX1_claimantOf 54 = .ok (.ireturn, 1) := by decide +kernel
theorem dX1_holdFair_0 : decode cX1_holdFair 0 = .ok (.iconst 0, 1) := by decide +kernel
theorem dX1_holdFair_1 : decode cX1_holdFair 1 = .ok (.istore_n 1, 1) := by decide +kernel
theorem dX1_holdFair_2 : decode cX1_holdFair 2 = .ok (.iconst 0, 1) := by decide +kernel
theorem dX1_holdFair_3 : decode cX1_holdFair 3 = .ok (.istore_n 2, 1) := by decide +kernel
theorem dX1_holdFair_4 : decode cX1_holdFair 4 = .ok (.iload_n 2, 1) := by decide +kernel
theorem dX1_holdFair_5 : decode cX1_holdFair 5 = .ok (.aload_n 0, 1) := by decide +kernel
theorem dX1_holdFair_6 : decode cX1_holdFair 6 = .ok (.getfield 39, 3) := by decide +kernel
theorem dX1_holdFair_9 : decode cX1_holdFair 9 = .ok (.getfield 96, 3) := by decide +kernel
theorem dX1_holdFair_12 : decode cX1_holdFair 12 = .ok (.if_icmp .ge 28, 3) := by decide +kernel
theorem dX1_holdFair_15 : decode cX1_holdFair 15 = .ok (.aload_n 0, 1) := by decide +kernel
theorem dX1_holdFair_16 : decode cX1_holdFair 16 = .ok (.iload_n 2, 1) := by decide +kernel
theorem dX1_holdFair_17 : decode cX1_holdFair 17 = .ok (.invokevirtual 99, 3) := by decide +kernel
theorem dX1_holdFair_20 : decode cX1_holdFair 20 = .ok (.ifCond .eq 14, 3) := by decide +kernel
theorem dX1_holdFair_23 : decode cX1_holdFair 23 = .ok (.aload_n 0, 1) := by decide +kernel
theorem dX1_holdFair_24 : decode cX1_holdFair 24 = .ok (.iload_n 2, 1) := by decide +kernel
theorem dX1_holdFair_25 : decode cX1_holdFair 25 = .ok (.invokevirtual 103, 3) := by decide +kernel
theorem dX1_holdFair_28 : decode cX1_holdFair 28 = .ok (.ifCond .eq 6, 3) := by decide +kernel
theorem dX1_holdFair_31 : decode cX1_holdFair 31 = .ok (.iinc 1 1, 3) := by decide +kernel
theorem dX1_holdFair_34 : decode cX1_holdFair 34 = .ok (.iinc 2 1, 3) := by decide +kernel
theorem dX1_holdFair_37 : decode cX1_holdFair 37 = .ok (.goto (-33), 3) := by decide +kernel
theorem dX1_holdFair_40 : decode cX1_holdFair 40 = .ok (.iconst 0, 1) := by decide +kernel
theorem dX1_holdFair_41 : decode cX1_holdFair 41 = .ok (.istore_n 2, 1) := by decide +kernel
theorem dX1_holdFair_42 : decode cX1_holdFair 42 = .ok (.iload_n 2, 1) := by decide +kernel
theorem dX1_holdFair_43 : decode cX1_holdFair 43 = .ok (.aload_n 0, 1) := by decide +kernel
theorem dX1_holdFair_44 : decode cX1_holdFair 44 = .ok (.getfield 39, 3) := by decide +kernel
theorem dX1_holdFair_47 : decode cX1_holdFair 47 = .ok (.getfield 93, 3) := by decide +kernel
theorem dX1_holdFair_50 : decode cX1_holdFair 50 = .ok (.if_icmp .ge 35, 3) := by decide +kernel
theorem dX1_holdFair_53 : decode cX1_holdFair 53 = .ok (.aload_n 0, 1) := by decide +kernel
theorem dX1_holdFair_54 : decode cX1_holdFair 54 = .ok (.getfield 15, 3) := by decide +kernel
theorem dX1_holdFair_57 : decode cX1_holdFair 57 = .ok (.iload_n 2, 1) := by decide +kernel
theorem dX1_holdFair_58 : decode cX1_holdFair 58 = .ok (.aload_n 0, 1) := by decide +kernel
theorem dX1_holdFair_59 : decode cX1_holdFair 59 = .ok (.getfield 15, 3) := by decide +kernel
theorem dX1_holdFair_62 : decode cX1_holdFair 62 = .ok (.iload_n 2, 1) := by decide +kernel
theorem dX1_holdFair_63 : decode cX1_holdFair 63 = .ok (.iaload, 1) := by decide +kernel
theorem dX1_holdFair_64 : decode cX1_holdFair 64 = .ok (.aload_n 0, 1) := by decide +kernel
theorem dX1_holdFair_65 : decode cX1_holdFair 65 = .ok (.getfield 39, 3) := by decide +kernel
theorem dX1_holdFair_68 : decode cX1_holdFair 68 = .ok (.getfield 106, 3) := by decide +kernel
theorem dX1_holdFair_71 : decode cX1_holdFair 71 = .ok (.iadd, 1) := by decide +kernel
theorem dX1_holdFair_72 : decode cX1_holdFair 72 = .ok (.sipush 999, 3) := by decide +kernel
theorem dX1_holdFair_75 : decode cX1_holdFair 75 = .ok (.invokestatic 109, 3) := by decide +kernel
theorem dX1_holdFair_78 : decode cX1_holdFair 78 = .ok (.iastore, 1) := by decide +kernel
theorem dX1_holdFair_79 : decode cX1_holdFair 79 = .ok (.iinc 2 1, 3) := by decide +kernel
theorem dX1_holdFair_82 : decode cX1_holdFair 82 = .ok (.goto (-40), 3) := by decide +kernel
theorem dX1_holdFair_85 : decode cX1_holdFair 85 = .ok (.aload_n 0, 1) := by decide +kernel
theorem dX1_holdFair_86 : decode cX1_holdFair 86 = .ok (.dup, 1) := by decide +kernel
theorem dX1_holdFair_87 : decode cX1_holdFair 87 = .ok (.getfield 43, 3) := by decide +kernel
theorem dX1_holdFair_90 : decode cX1_holdFair 90 = .ok (.iconst 1, 1) := by decide +kernel
theorem dX1_holdFair_91 : decode cX1_holdFair 91 = .ok (.iadd, 1) := by decide +kernel
theorem dX1_holdFair_92 : decode cX1_holdFair 92 = .ok (.putfield 43, 3) := by decide +kernel
theorem dX1_holdFair_95 : decode cX1_holdFair 95 = .ok (.aload_n 0, 1) := by decide +kernel
theorem dX1_holdFair_96 : decode cX1_holdFair 96 = .ok (.invokevirtual 63, 3) := by decide +kernel
theorem dX1_holdFair_99 : decode cX1_holdFair 99 = .ok (.iload_n 1, 1) := by decide +kernel
theorem dX1_holdFair_100 : decode cX1_holdFair 100 = .ok (.ireturn, 1) := by decide +kernel
theorem dX1_holdFairs_0 : decode cX1_holdFairs 0 = .ok (.iconst 0, 1) := by decide +kernel
theorem dX1_holdFairs_1 : decode cX1_holdFairs 1 = .ok (.istore_n 2, 1) := by decide +kernel
theorem dX1_holdFairs_2 : decode cX1_holdFairs 2 = .ok (.iload_n 2, 1) := by decide +kernel
theorem dX1_holdFairs_3 : decode cX1_holdFairs 3 = .ok (.iload_n 1, 1) := by decide +kernel
theorem dX1_holdFairs_4 : decode cX1_holdFairs 4 = .ok (.if_icmp .ge 14, 3) := by decide +kernel
theorem dX1_holdFairs_7 : decode cX1_holdFairs 7 = .ok (.aload_n 0, 1) := by decide +kernel
theorem dX1_holdFairs_8 : decode cX1_holdFairs 8 = .ok (.invokevirtual 114, 3) := by decide +kernel
theorem dX1_holdFairs_11 : decode cX1_holdFairs 11 = .ok (.pop, 1) := by decide +kernel
theorem dX1_holdFairs_12 : decode cX1_holdFairs 12 = .ok (.iinc 2 1, 3) := by decide +kernel
theorem dX1_holdFairs_15 : decode cX1_holdFairs 15 = .ok (.goto (-13), 3) := by decide +kernel
theorem dX1_holdFairs_18 : decode cX1_holdFairs 18 = .ok (.return_, 1) := by decide +kernel
theorem dX1_fairsTillGone_0 : decode cX1_fairsTillGone 0 = .ok (.iconst 0, 1) := by decide +kernel
theorem dX1_fairsTillGone_1 : decode cX1_fairsTillGone 1 = .ok (.istore_n 2, 1) := by decide +kernel
theorem dX1_fairsTillGone_2 : decode cX1_fairsTillGone 2 = .ok (.iload_n 2, 1) := by decide +kernel
theorem dX1_fairsTillGone_3 : decode cX1_fairsTillGone 3 = .ok (.bipush 9, 2) := by decide +kernel
theorem dX1_fairsTillGone_5 : decode cX1_fairsTillGone 5 = .ok (.if_icmp .ge 22, 3) := by decide +kernel
theorem dX1_fairsTillGone_8 : decode cX1_fairsTillGone 8 = .ok (.aload_n 0, 1) := by decide +kernel
theorem dX1_fairsTillGone_9 : decode cX1_fairsTillGone 9 = .ok (.iload_n 1, 1) := by decide +kernel
theorem dX1_fairsTillGone_10 : decode cX1_fairsTillGone 10 = .ok (.invokevirtual 99, 3) := by decide +kernel
theorem dX1_fairsTillGone_13 : decode cX1_fairsTillGone 13 = .ok (.ifCond .eq 14, 3) := by decide +kernel
theorem dX1_fairsTillGone_16 : decode cX1_fairsTillGone 16 = .ok (.aload_n 0, 1) := by decide +kernel
theorem dX1_fairsTillGone_17 : decode cX1_fairsTillGone 17 = .ok (.invokevirtual 114, 3) := by decide +kernel
theorem dX1_fairsTillGone_20 : decode cX1_fairsTillGone 20 = .ok (.pop, 1) := by decide +kernel
theorem dX1_fairsTillGone_21 : decode cX1_fairsTillGone 21 = .ok (.iinc 2 1, 3) := by decide +kernel
theorem dX1_fairsTillGone_24 : decode cX1_fairsTillGone 24 = .ok (.goto (-22), 3) := by decide +kernel
theorem dX1_fairsTillGone_27 : decode cX1_fairsTillGone 27 = .ok (.aload_n 0, 1) := by decide +kernel
theorem dX1_fairsTillGone_28 : decode cX1_fairsTillGone 28 = .ok (.iload_n 1, 1) := by decide +kernel
theorem dX1_fairsTillGone_29 : decode cX1_fairsTillGone 29 = .ok (.invokevirtual 99, 3) := by decide +kernel
theorem dX1_fairsTillGone_32 : decode cX1_fairsTillGone 32 = .ok (.ifCond .eq 8, 3) := by decide +kernel
theorem dX1_fairsTillGone_35 : decode cX1_fairsTillGone 35 = .ok (.bipush (-4), 2) := by decide +kernel
theorem dX1_fairsTillGone_37 : decode cX1_fairsTillGone 37 = .ok (.goto 4, 3) := by decide +kernel
theorem dX1_fairsTillGone_40 : decode cX1_fairsTillGone 40 = .ok (.iload_n 2, 1) := by decide +kernel
theorem dX1_fairsTillGone_41 : decode cX1_fairsTillGone 41 = .ok (.ireturn, 1) := by decide +kernel
theorem dX1_sell_0 : decode cX1_sell 0 = .ok (.aload_n 0, 1) := by decide +kernel
theorem dX1_sell_1 : decode cX1_sell 1 = .ok (.iload_n 1, 1) := by decide +kernel
theorem dX1_sell_2 : decode cX1_sell 2 = .ok (.invokevirtual 118, 3) := by decide +kernel
theorem dX1_sell_5 : decode cX1_sell 5 = .ok (.istore_n 2, 1) := by decide +kernel
theorem dX1_sell_6 : decode cX1_sell 6 = .ok (.iload_n 2, 1) := by decide +kernel
theorem dX1_sell_7 : decode cX1_sell 7 = .ok (.bipush (-4), 2) := by decide +kernel
theorem dX1_sell_9 : decode cX1_sell 9 = .ok (.if_icmp .ne 5, 3) := by decide +kernel
theorem dX1_sell_12 : decode cX1_sell 12 = .ok (.iconst 0, 1) := by decide +kernel
theorem dX1_sell_13 : decode cX1_sell 13 = .ok (.ireturn, 1) := by decide +kernel
theorem dX1_sell_14 : decode cX1_sell 14 = .ok (.aload_n 0, 1) := by decide +kernel
theorem dX1_sell_15 : decode cX1_sell 15 = .ok (.getfield 36, 3) := by decide +kernel
theorem dX1_sell_18 : decode cX1_sell 18 = .ok (.iload_n 2, 1) := by decide +kernel
theorem dX1_sell_19 : decode cX1_sell 19 = .ok (.aaload, 1) := by decide +kernel
theorem dX1_sell_20 : decode cX1_sell 20 = .ok (.iload_n 1, 1) := by decide +kernel
theorem dX1_sell_21 : decode cX1_sell 21 = .ok (.iaload, 1) := by decide +kernel
theorem dX1_sell_22 : decode cX1_sell 22 = .ok (.istore_n 3, 1) := by decide +kernel
theorem dX1_sell_23 : decode cX1_sell 23 = .ok (.iload_n 2, 1) := by decide +kernel
theorem dX1_sell_24 : decode cX1_sell 24 = .ok (.istore 4, 2) := by decide +kernel
theorem dX1_sell_26 : decode cX1_sell 26 = .ok (.aload_n 0, 1) := by decide +kernel
theorem dX1_sell_27 : decode cX1_sell 27 = .ok (.getfield 15, 3) := by decide +kernel
theorem dX1_sell_30 : decode cX1_sell 30 = .ok (.iload_n 2, 1) := by decide +kernel
theorem dX1_sell_31 : decode cX1_sell 31 = .ok (.iaload, 1) := by decide +kernel
theorem dX1_sell_32 : decode cX1_sell 32 = .ok (.iload_n 3, 1) := by decide +kernel
theorem dX1_sell_33 : decode cX1_sell 33 = .ok (.if_icmp .ge 44, 3) := by decide +kernel
theorem dX1_sell_36 : decode cX1_sell 36 = .ok (.aload_n 0, 1) := by decide +kernel
theorem dX1_sell_37 : decode cX1_sell 37 = .ok (.getfield 22, 3) := by decide +kernel
theorem dX1_sell_40 : decode cX1_sell 40 = .ok (.iload_n 1, 1) := by decide +kernel
theorem dX1_sell_41 : decode cX1_sell 41 = .ok (.aload_n 0, 1) := by decide +kernel
theorem dX1_sell_42 : decode cX1_sell 42 = .ok (.getfield 22, 3) := by decide +kernel
theorem dX1_sell_45 : decode cX1_sell 45 = .ok (.iload_n 1, 1) := by decide +kernel
theorem dX1_sell_46 : decode cX1_sell 46 = .ok (.iaload, 1) := by decide +kernel
theorem dX1_sell_47 : decode cX1_sell 47 = .ok (.iconst 1, 1) := by decide +kernel
theorem dX1_sell_48 : decode cX1_sell 48 = .ok (.iadd, 1) := by decide +kernel
theorem dX1_sell_49 : decode cX1_sell 49 = .ok (.iconst 3, 1) := by decide +kernel
theorem dX1_sell_50 : decode cX1_sell 50 = .ok (.invokestatic 109, 3) := by decide +kernel
theorem dX1_sell_53 : decode cX1_sell 53 = .ok (.iastore, 1) := by decide +kernel
theorem dX1_sell_54 : decode cX1_sell 54 = .ok (.aload_n 0, 1) := by decide +kernel
theorem dX1_sell_55 : decode cX1_sell 55 = .ok (.getfield 22, 3) := by decide +kernel
theorem dX1_sell_58 : decode cX1_sell 58 = .ok (.iload_n 1, 1) := by decide +kernel
theorem dX1_sell_59 : decode cX1_sell 59 = .ok (.iaload, 1) := by decide +kernel
theorem dX1_sell_60 : decode cX1_sell 60 = .ok (.iconst 3, 1) := by decide +kernel
theorem dX1_sell_61 : decode cX1_sell 61 = .ok (.if_icmp .ne 12, 3) := by decide +kernel
theorem dX1_sell_64 : decode cX1_sell 64 = .ok (.aload_n 0, 1) := by decide +kernel
theorem dX1_sell_65 : decode cX1_sell 65 = .ok (.iload_n 2, 1) := by decide +kernel
theorem dX1_sell_66 : decode cX1_sell 66 = .ok (.iload_n 3, 1) := by decide +kernel
theorem dX1_sell_67 : decode cX1_sell 67 = .ok (.invokevirtual 122, 3) := by decide +kernel
theorem dX1_sell_70 : decode cX1_sell 70 = .ok (.goto 5, 3) := by decide +kernel
theorem dX1_sell_73 : decode cX1_sell 73 = .ok (.bipush (-4), 2) := by decide +kernel
theorem dX1_sell_75 : decode cX1_sell 75 = .ok (.istore 4, 2) := by decide +kernel
theorem dX1_sell_77 : decode cX1_sell 77 = .ok (.iload 4, 2) := by decide +kernel
theorem dX1_sell_79 : decode cX1_sell 79 = .ok (.bipush (-4), 2) := by decide +kernel
theorem dX1_sell_81 : decode cX1_sell 81 = .ok (.if_icmp .ne 5, 3) := by decide +kernel
theorem dX1_sell_84 : decode cX1_sell 84 = .ok (.iconst 0, 1) := by decide +kernel
theorem dX1_sell_85 : decode cX1_sell 85 = .ok (.ireturn, 1) := by decide +kernel
theorem dX1_sell_86 : decode cX1_sell 86 = .ok (.aload_n 0, 1) := by decide +kernel
theorem dX1_sell_87 : decode cX1_sell 87 = .ok (.getfield 15, 3) := by decide +kernel
theorem dX1_sell_90 : decode cX1_sell 90 = .ok (.iload 4, 2) := by decide +kernel
theorem dX1_sell_92 : decode cX1_sell 92 = .ok (.dup2, 1) := by decide +kernel
theorem dX1_sell_93 : decode cX1_sell 93 = .ok (.iaload, 1) := by decide +kernel
theorem dX1_sell_94 : decode cX1_sell 94 = .ok (.iload_n 3, 1) := by decide +kernel
theorem dX1_sell_95 : decode cX1_sell 95 = .ok (.isub, 1) := by decide +kernel
theorem dX1_sell_96 : decode cX1_sell 96 = .ok (.iastore, 1) := by decide +kernel
theorem dX1_sell_97 : decode cX1_sell 97 = .ok (.aload_n 0, 1) := by decide +kernel
theorem dX1_sell_98 : decode cX1_sell 98 = .ok (.getfield 19, 3) := by decide +kernel
theorem dX1_sell_101 : decode cX1_sell 101 = .ok (.iload_n 1, 1) := by decide +kernel
theorem dX1_sell_102 : decode cX1_sell 102 = .ok (.iload 4, 2) := by decide +kernel
theorem dX1_sell_104 : decode cX1_sell 104 = .ok (.iastore, 1) := by decide +kernel
theorem dX1_sell_105 : decode cX1_sell 105 = .ok (.iconst 1, 1) := by decide +kernel
theorem dX1_sell_106 : decode cX1_sell 106 = .ok (.ireturn, 1) := by decide +kernel
theorem dX1_buyerInsteadOf_0 : decode cX1_buyerInsteadOf 0 = .ok (.bipush (-4), 2) := by decide +kernel
theorem dX1_buyerInsteadOf_2 : decode cX1_buyerInsteadOf 2 = .ok (.istore_n 3, 1) := by decide +kernel
theorem dX1_buyerInsteadOf_3 : decode cX1_buyerInsteadOf 3 = .ok (.iload_n 2, 1) := by decide +kernel
theorem dX1_buyerInsteadOf_4 : decode cX1_buyerInsteadOf 4 = .ok (.istore 4, 2) := by decide +kernel
theorem dX1_buyerInsteadOf_6 : decode cX1_buyerInsteadOf 6 = .ok (.iconst 0, 1) := by decide +kernel
theorem dX1_buyerInsteadOf_7 : decode cX1_buyerInsteadOf 7 = .ok (.istore 5, 2) := by decide +kernel
theorem dX1_buyerInsteadOf_9 : decode cX1_buyerInsteadOf 9 = .ok (.iload 5, 2) := by decide +kernel
theorem dX1_buyerInsteadOf_11 : decode cX1_buyerInsteadOf 11 = .ok (.aload_n 0, 1) := by decide +kernel
theorem dX1_buyerInsteadOf_12 : decode cX1_buyerInsteadOf 12 = .ok (.getfield 39, 3) := by decide +kernel
theorem dX1_buyerInsteadOf_15 : decode cX1_buyerInsteadOf 15 = .ok (.getfield 93, 3) := by decide +kernel
theorem dX1_buyerInsteadOf_18 : decode cX1_buyerInsteadOf 18 = .ok (.if_icmp .ge 48, 3) := by decide +kernel
theorem dX1_buyerInsteadOf_21 : decode cX1_buyerInsteadOf 21 = .ok (.iload 5, 2) := by decide +kernel
theorem dX1_buyerInsteadOf_23 : decode cX1_buyerInsteadOf 23 = .ok (.iload_n 1, 1) := by decide +kernel
theorem dX1_buyerInsteadOf_24 : decode cX1_buyerInsteadOf 24 = .ok (.if_icmp .eq 36, 3) := by decide +kernel
theorem dX1_buyerInsteadOf_27 : decode cX1_buyerInsteadOf 27 = .ok (.aload_n 0, 1) := by decide +kernel
theorem dX1_buyerInsteadOf_28 : decode cX1_buyerInsteadOf 28 = .ok (.getfield 15, 3) := by decide +kernel
theorem dX1_buyerInsteadOf_31 : decode cX1_buyerInsteadOf 31 = .ok (.iload 5, 2) := by decide +kernel
theorem dX1_buyerInsteadOf_33 : decode cX1_buyerInsteadOf 33 = .ok (.iaload, 1) := by decide +kernel
theorem dX1_buyerInsteadOf_34 : decode cX1_buyerInsteadOf 34 = .ok (.iload_n 2, 1) := by decide +kernel
theorem dX1_buyerInsteadOf_35 : decode cX1_buyerInsteadOf 35 = .ok (.if_icmp .lt 25, 3) := by decide +kernel
theorem dX1_buyerInsteadOf_38 : decode cX1_buyerInsteadOf 38 = .ok (.aload_n 0, 1) := by decide +kernel
theorem dX1_buyerInsteadOf_39 : decode cX1_buyerInsteadOf 39 = .ok (.iload 5, 2) := by decide +kernel
theorem dX1_buyerInsteadOf_41 : decode cX1_buyerInsteadOf 41 = .ok (.invokevirtual 125, 3) := by decide +kernel
theorem dX1_buyerInsteadOf_44 : decode cX1_buyerInsteadOf 44 = .ok (.iload 4, 2) := by decide +kernel
theorem dX1_buyerInsteadOf_46 : decode cX1_buyerInsteadOf 46 = .ok (.if_icmp .le 14, 3) := by decide +kernel
theorem dX1_buyerInsteadOf_49 : decode cX1_buyerInsteadOf 49 = .ok (.iload 5, 2) := by decide +kernel
theorem dX1_buyerInsteadOf_51 : decode cX1_buyerInsteadOf 51 = .ok (.istore_n 3, 1) := by decide +kernel
theorem dX1_buyerInsteadOf_52 : decode cX1_buyerInsteadOf 52 = .ok (.aload_n 0, 1) := by decide +kernel
theorem dX1_buyerInsteadOf_53 : decode cX1_buyerInsteadOf 53 = .ok (.iload 5, 2) := by decide +kernel
theorem dX1_buyerInsteadOf_55 : decode cX1_buyerInsteadOf 55 = .ok (.invokevirtual 125, 3) := by decide +kernel
theorem dX1_buyerInsteadOf_58 : decode cX1_buyerInsteadOf 58 = .ok (.istore 4, 2) := by decide +kernel
theorem dX1_buyerInsteadOf_60 : decode cX1_buyerInsteadOf 60 = .ok (.iinc 5 1, 3) := by decide +kernel
theorem dX1_buyerInsteadOf_63 : decode cX1_buyerInsteadOf 63 = .ok (.goto (-54), 3) := by decide +kernel
theorem dX1_buyerInsteadOf_66 : decode cX1_buyerInsteadOf 66 = .ok (.iload_n 3, 1) := by decide +kernel
theorem dX1_buyerInsteadOf_67 : decode cX1_buyerInsteadOf 67 = .ok (.ireturn, 1) := by decide +kernel
theorem dX1_dearestOf_0 : decode cX1_dearestOf 0 = .ok (.bipush (-4), 2) := by decide +kernel
theorem dX1_dearestOf_2 : decode cX1_dearestOf 2 = .ok (.istore_n 2, 1) := by decide +kernel
theorem dX1_dearestOf_3 : decode cX1_dearestOf 3 = .ok (.iconst 0, 1) := by decide +kernel
theorem dX1_dearestOf_4 : decode cX1_dearestOf 4 = .ok (.istore_n 3, 1) := by decide +kernel
theorem dX1_dearestOf_5 : decode cX1_dearestOf 5 = .ok (.iload_n 3, 1) := by decide +kernel
theorem dX1_dearestOf_6 : decode cX1_dearestOf 6 = .ok (.aload_n 0, 1) := by decide +kernel
theorem dX1_dearestOf_7 : decode cX1_dearestOf 7 = .ok (.getfield 39, 3) := by decide +kernel
theorem dX1_dearestOf_10 : decode cX1_dearestOf 10 = .ok (.getfield 96, 3) := by decide +kernel
theorem dX1_dearestOf_13 : decode cX1_dearestOf 13 = .ok (.if_icmp .ge 30, 3) := by decide +kernel
theorem dX1_dearestOf_16 : decode cX1_dearestOf 16 = .ok (.aload_n 0, 1) := by decide +kernel
theorem dX1_dearestOf_17 : decode cX1_dearestOf 17 = .ok (.getfield 36, 3) := by decide +kernel
theorem dX1_dearestOf_20 : decode cX1_dearestOf 20 = .ok (.iload_n 1, 1) := by decide +kernel
theorem dX1_dearestOf_21 : decode cX1_dearestOf 21 = .ok (.aaload, 1) := by decide +kernel
theorem dX1_dearestOf_22 : decode cX1_dearestOf 22 = .ok (.iload_n 3, 1) := by decide +kernel
theorem dX1_dearestOf_23 : decode cX1_dearestOf 23 = .ok (.iaload, 1) := by decide +kernel
theorem dX1_dearestOf_24 : decode cX1_dearestOf 24 = .ok (.iload_n 2, 1) := by decide +kernel
theorem dX1_dearestOf_25 : decode cX1_dearestOf 25 = .ok (.if_icmp .le 12, 3) := by decide +kernel
theorem dX1_dearestOf_28 : decode cX1_dearestOf 28 = .ok (.aload_n 0, 1) := by decide +kernel
theorem dX1_dearestOf_29 : decode cX1_dearestOf 29 = .ok (.getfield 36, 3) := by decide +kernel
theorem dX1_dearestOf_32 : decode cX1_dearestOf 32 = .ok (.iload_n 1, 1) := by decide +kernel
theorem dX1_dearestOf_33 : decode cX1_dearestOf 33 = .ok (.aaload, 1) := by decide +kernel
theorem dX1_dearestOf_34 : decode cX1_dearestOf 34 = .ok (.iload_n 3, 1) := by decide +kernel
theorem dX1_dearestOf_35 : decode cX1_dearestOf 35 = .ok (.iaload, 1) := by decide +kernel
theorem dX1_dearestOf_36 : decode cX1_dearestOf 36 = .ok (.istore_n 2, 1) := by decide +kernel
theorem dX1_dearestOf_37 : decode cX1_dearestOf 37 = .ok (.iinc 3 1, 3) := by decide +kernel
theorem dX1_dearestOf_40 : decode cX1_dearestOf 40 = .ok (.goto (-35), 3) := by decide +kernel
theorem dX1_dearestOf_43 : decode cX1_dearestOf 43 = .ok (.iload_n 2, 1) := by decide +kernel
theorem dX1_dearestOf_44 : decode cX1_dearestOf 44 = .ok (.ireturn, 1) := by decide +kernel
theorem dX1_dearerTo_0 : decode cX1_dearerTo 0 = .ok (.iconst 0, 1) := by decide +kernel
theorem dX1_dearerTo_1 : decode cX1_dearerTo 1 = .ok (.istore_n 3, 1) := by decide +kernel
theorem dX1_dearerTo_2 : decode cX1_dearerTo 2 = .ok (.iconst 0, 1) := by decide +kernel
theorem dX1_dearerTo_3 : decode cX1_dearerTo 3 = .ok (.istore 4, 2) := by decide +kernel
theorem dX1_dearerTo_5 : decode cX1_dearerTo 5 = .ok (.iload 4, 2) := by decide +kernel
theorem dX1_dearerTo_7 : decode cX1_dearerTo 7 = .ok (.aload_n 0, 1) := by decide +kernel
theorem dX1_dearerTo_8 : decode cX1_dearerTo 8 = .ok (.getfield 39, 3) := by decide +kernel
theorem dX1_dearerTo_11 : decode cX1_dearerTo 11 = .ok (.getfield 96, 3) := by decide +kernel
theorem dX1_dearerTo_14 : decode cX1_dearerTo 14 = .ok (.if_icmp .ge 58, 3) := by decide +kernel
theorem dX1_dearerTo_17 : decode cX1_dearerTo 17 = .ok (.aload_n 0, 1) := by decide +kernel
theorem dX1_dearerTo_18 : decode cX1_dearerTo 18 = .ok (.getfield 36, 3) := by decide +kernel
theorem dX1_dearerTo_21 : decode cX1_dearerTo 21 = .ok (.iload_n 1, 1) := by decide +kernel
theorem dX1_dearerTo_22 : decode cX1_dearerTo 22 = .ok (.aaload, 1) := by decide +kernel
theorem dX1_dearerTo_23 : decode cX1_dearerTo 23 = .ok (.iload 4, 2) := by decide +kernel
theorem dX1_dearerTo_25 : decode cX1_dearerTo 25 = .ok (.iaload, 1) := by decide +kernel
theorem dX1_dearerTo_26 : decode cX1_dearerTo 26 = .ok (.aload_n 0, 1) := by decide +kernel
theorem dX1_dearerTo_27 : decode cX1_dearerTo 27 = .ok (.getfield 36, 3) := by decide +kernel
theorem dX1_dearerTo_30 : decode cX1_dearerTo 30 = .ok (.iload_n 1, 1) := by decide +kernel
theorem dX1_dearerTo_31 : decode cX1_dearerTo 31 = .ok (.aaload, 1) := by decide +kernel
theorem dX1_dearerTo_32 : decode cX1_dearerTo 32 = .ok (.iload_n 2, 1) := by decide +kernel
theorem dX1_dearerTo_33 : decode cX1_dearerTo 33 = .ok (.iaload, 1) := by decide +kernel
theorem dX1_dearerTo_34 : decode cX1_dearerTo 34 = .ok (.if_icmp .gt 29, 3) := by decide +kernel
theorem dX1_dearerTo_37 : decode cX1_dearerTo 37 = .ok (.aload_n 0, 1) := by decide +kernel
theorem dX1_dearerTo_38 : decode cX1_dearerTo 38 = .ok (.getfield 36, 3) := by decide +kernel
theorem dX1_dearerTo_41 : decode cX1_dearerTo 41 = .ok (.iload_n 1, 1) := by decide +kernel
theorem dX1_dearerTo_42 : decode cX1_dearerTo 42 = .ok (.aaload, 1) := by decide +kernel
theorem dX1_dearerTo_43 : decode cX1_dearerTo 43 = .ok (.iload 4, 2) := by decide +kernel
theorem dX1_dearerTo_45 : decode cX1_dearerTo 45 = .ok (.iaload, 1) := by decide +kernel
theorem dX1_dearerTo_46 : decode cX1_dearerTo 46 = .ok (.aload_n 0, 1) := by decide +kernel
theorem dX1_dearerTo_47 : decode cX1_dearerTo 47 = .ok (.getfield 36, 3) := by decide +kernel
theorem dX1_dearerTo_50 : decode cX1_dearerTo 50 = .ok (.iload_n 1, 1) := by decide +kernel
theorem dX1_dearerTo_51 : decode cX1_dearerTo 51 = .ok (.aaload, 1) := by decide +kernel
theorem dX1_dearerTo_52 : decode cX1_dearerTo 52 = .ok (.iload_n 2, 1) := by decide +kernel
theorem dX1_dearerTo_53 : decode cX1_dearerTo 53 = .ok (.iaload, 1) := by decide +kernel
theorem dX1_dearerTo_54 : decode cX1_dearerTo 54 = .ok (.if_icmp .ne 12, 3) := by decide +kernel
theorem dX1_dearerTo_57 : decode cX1_dearerTo 57 = .ok (.iload 4, 2) := by decide +kernel
theorem dX1_dearerTo_59 : decode cX1_dearerTo 59 = .ok (.iload_n 2, 1) := by decide +kernel
theorem dX1_dearerTo_60 : decode cX1_dearerTo 60 = .ok (.if_icmp .ge 6, 3) := by decide +kernel
theorem dX1_dearerTo_63 : decode cX1_dearerTo 63 = .ok (.iinc 3 1, 3) := by decide +kernel
theorem dX1_dearerTo_66 : decode cX1_dearerTo 66 = .ok (.iinc 4 1, 3) := by decide +kernel
theorem dX1_dearerTo_69 : decode cX1_dearerTo 69 = .ok (.goto (-64), 3) := by decide +kernel
theorem dX1_dearerTo_72 : decode cX1_dearerTo 72 = .ok (.iload_n 3, 1) := by decide +kernel
theorem dX1_dearerTo_73 : decode cX1_dearerTo 73 = .ok (.ireturn, 1) := by decide +kernel
theorem dX1_wantersOf_0 : decode cX1_wantersOf 0 = .ok (.iconst 0, 1) := by decide +kernel
theorem dX1_wantersOf_1 : decode cX1_wantersOf 1 = .ok (.istore_n 2, 1) := by decide +kernel
theorem dX1_wantersOf_2 : decode cX1_wantersOf 2 = .ok (.iconst 0, 1) := by decide +kernel
theorem dX1_wantersOf_3 : decode cX1_wantersOf 3 = .ok (.istore_n 3, 1) := by decide +kernel
theorem dX1_wantersOf_4 : decode cX1_wantersOf 4 = .ok (.iload_n 3, 1) := by decide +kernel
theorem dX1_wantersOf_5 : decode cX1_wantersOf 5 = .ok (.aload_n 0, 1) := by decide +kernel
theorem dX1_wantersOf_6 : decode cX1_wantersOf 6 = .ok (.getfield 39, 3) := by decide +kernel
theorem dX1_wantersOf_9 : decode cX1_wantersOf 9 = .ok (.getfield 93, 3) := by decide +kernel
theorem dX1_wantersOf_12 : decode cX1_wantersOf 12 = .ok (.if_icmp .ge 25, 3) := by decide +kernel
theorem dX1_wantersOf_15 : decode cX1_wantersOf 15 = .ok (.aload_n 0, 1) := by decide +kernel
theorem dX1_wantersOf_16 : decode cX1_wantersOf 16 = .ok (.getfield 36, 3) := by decide +kernel
theorem dX1_wantersOf_19 : decode cX1_wantersOf 19 = .ok (.iload_n 3, 1) := by decide +kernel
theorem dX1_wantersOf_20 : decode cX1_wantersOf 20 = .ok (.aaload, 1) := by decide +kernel
theorem dX1_wantersOf_21 : decode cX1_wantersOf 21 = .ok (.iload_n 1, 1) := by decide +kernel
theorem dX1_wantersOf_22 : decode cX1_wantersOf 22 = .ok (.iaload, 1) := by decide +kernel
theorem dX1_wantersOf_23 : decode cX1_wantersOf 23 = .ok (.bipush (-4), 2) := by decide +kernel
theorem dX1_wantersOf_25 : decode cX1_wantersOf 25 = .ok (.if_icmp .eq 6, 3) := by decide +kernel
theorem dX1_wantersOf_28 : decode cX1_wantersOf 28 = .ok (.iinc 2 1, 3) := by decide +kernel
theorem dX1_wantersOf_31 : decode cX1_wantersOf 31 = .ok (.iinc 3 1, 3) := by decide +kernel
theorem dX1_wantersOf_34 : decode cX1_wantersOf 34 = .ok (.goto (-30), 3) := by decide +kernel
theorem dX1_wantersOf_37 : decode cX1_wantersOf 37 = .ok (.iload_n 2, 1) := by decide +kernel
theorem dX1_wantersOf_38 : decode cX1_wantersOf 38 = .ok (.ireturn, 1) := by decide +kernel
theorem dX1_thingsOf_0 : decode cX1_thingsOf 0 = .ok (.iconst 0, 1) := by decide +kernel
theorem dX1_thingsOf_1 : decode cX1_thingsOf 1 = .ok (.istore_n 2, 1) := by decide +kernel
theorem dX1_thingsOf_2 : decode cX1_thingsOf 2 = .ok (.iconst 0, 1) := by decide +kernel
theorem dX1_thingsOf_3 : decode cX1_thingsOf 3 = .ok (.istore_n 3, 1) := by decide +kernel
theorem dX1_thingsOf_4 : decode cX1_thingsOf 4 = .ok (.iload_n 3, 1) := by decide +kernel
theorem dX1_thingsOf_5 : decode cX1_thingsOf 5 = .ok (.aload_n 0, 1) := by decide +kernel
theorem dX1_thingsOf_6 : decode cX1_thingsOf 6 = .ok (.getfield 39, 3) := by decide +kernel
theorem dX1_thingsOf_9 : decode cX1_thingsOf 9 = .ok (.getfield 96, 3) := by decide +kernel
theorem dX1_thingsOf_12 : decode cX1_thingsOf 12 = .ok (.if_icmp .ge 22, 3) := by decide +kernel
theorem dX1_thingsOf_15 : decode cX1_thingsOf 15 = .ok (.aload_n 0, 1) := by decide +kernel
theorem dX1_thingsOf_16 : decode cX1_thingsOf 16 = .ok (.getfield 19, 3) := by decide +kernel
theorem dX1_thingsOf_19 : decode cX1_thingsOf 19 = .ok (.iload_n 3, 1) := by decide +kernel
theorem dX1_thingsOf_20 : decode cX1_thingsOf 20 = .ok (.iaload, 1) := by decide +kernel
theorem dX1_thingsOf_21 : decode cX1_thingsOf 21 = .ok (.iload_n 1, 1) := by decide +kernel
theorem dX1_thingsOf_22 : decode cX1_thingsOf 22 = .ok (.if_icmp .ne 6, 3) := by decide +kernel
theorem dX1_thingsOf_25 : decode cX1_thingsOf 25 = .ok (.iinc 2 1, 3) := by decide +kernel
theorem dX1_thingsOf_28 : decode cX1_thingsOf 28 = .ok (.iinc 3 1, 3) := by decide +kernel
theorem dX1_thingsOf_31 : decode cX1_thingsOf 31 = .ok (.goto (-27), 3) := by decide +kernel
theorem dX1_thingsOf_34 : decode cX1_thingsOf 34 = .ok (.iload_n 2, 1) := by decide +kernel
theorem dX1_thingsOf_35 : decode cX1_thingsOf 35 = .ok (.ireturn, 1) := by decide +kernel
theorem dX1_worthOf_0 : decode cX1_worthOf 0 = .ok (.aload_n 0, 1) := by decide +kernel
theorem dX1_worthOf_1 : decode cX1_worthOf 1 = .ok (.getfield 15, 3) := by decide +kernel
theorem dX1_worthOf_4 : decode cX1_worthOf 4 = .ok (.iload_n 1, 1) := by decide +kernel
theorem dX1_worthOf_5 : decode cX1_worthOf 5 = .ok (.iaload, 1) := by decide +kernel
theorem dX1_worthOf_6 : decode cX1_worthOf 6 = .ok (.istore_n 2, 1) := by decide +kernel
theorem dX1_worthOf_7 : decode cX1_worthOf 7 = .ok (.iconst 0, 1) := by decide +kernel
theorem dX1_worthOf_8 : decode cX1_worthOf 8 = .ok (.istore_n 3, 1) := by decide +kernel
theorem dX1_worthOf_9 : decode cX1_worthOf 9 = .ok (.iload_n 3, 1) := by decide +kernel
theorem dX1_worthOf_10 : decode cX1_worthOf 10 = .ok (.aload_n 0, 1) := by decide +kernel
theorem dX1_worthOf_11 : decode cX1_worthOf 11 = .ok (.getfield 39, 3) := by decide +kernel
theorem dX1_worthOf_14 : decode cX1_worthOf 14 = .ok (.getfield 96, 3) := by decide +kernel
theorem dX1_worthOf_17 : decode cX1_worthOf 17 = .ok (.if_icmp .ge 34, 3) := by decide +kernel
theorem dX1_worthOf_20 : decode cX1_worthOf 20 = .ok (.aload_n 0, 1) := by decide +kernel
theorem dX1_worthOf_21 : decode cX1_worthOf 21 = .ok (.getfield 19, 3) := by decide +kernel
theorem dX1_worthOf_24 : decode cX1_worthOf 24 = .ok (.iload_n 3, 1) := by decide +kernel
theorem dX1_worthOf_25 : decode cX1_worthOf 25 = .ok (.iaload, 1) := by decide +kernel
theorem dX1_worthOf_26 : decode cX1_worthOf 26 = .ok (.iload_n 1, 1) := by decide +kernel
theorem dX1_worthOf_27 : decode cX1_worthOf 27 = .ok (.if_icmp .ne 18, 3) := by decide +kernel
theorem dX1_worthOf_30 : decode cX1_worthOf 30 = .ok (.iload_n 2, 1) := by decide +kernel
theorem dX1_worthOf_31 : decode cX1_worthOf 31 = .ok (.aload_n 0, 1) := by decide +kernel
theorem dX1_worthOf_32 : decode cX1_worthOf 32 = .ok (.getfield 39, 3) := by decide +kernel
theorem dX1_worthOf_35 : decode cX1_worthOf 35 = .ok (.iload_n 3, 1) := by decide +kernel
theorem dX1_worthOf_36 : decode cX1_worthOf 36 = .ok (.aload_n 0, 1) := by decide +kernel
theorem dX1_worthOf_37 : decode cX1_worthOf 37 = .ok (.getfield 43, 3) := by decide +kernel
theorem dX1_worthOf_40 : decode cX1_worthOf 40 = .ok (.invokevirtual 128, 3) := by decide +kernel
theorem dX1_worthOf_43 : decode cX1_worthOf 43 = .ok (.iadd, 1) := by decide +kernel
theorem dX1_worthOf_44 : decode cX1_worthOf 44 = .ok (.istore_n 2, 1) := by decide +kernel
theorem dX1_worthOf_45 : decode cX1_worthOf 45 = .ok (.iinc 3 1, 3) := by decide +kernel
theorem dX1_worthOf_48 : decode cX1_worthOf 48 = .ok (.goto (-39), 3) := by decide +kernel
theorem dX1_worthOf_51 : decode cX1_worthOf 51 = .ok (.iload_n 2, 1) := by decide +kernel
theorem dX1_worthOf_52 : decode cX1_worthOf 52 = .ok (.ireturn, 1) := by decide +kernel
theorem dX1_thingsGone_0 : decode cX1_thingsGone 0 = .ok (.iconst 0, 1) := by decide +kernel
theorem dX1_thingsGone_1 : decode cX1_thingsGone 1 = .ok (.istore_n 1, 1) := by decide +kernel
theorem dX1_thingsGone_2 : decode cX1_thingsGone 2 = .ok (.iconst 0, 1) := by decide +kernel
theorem dX1_thingsGone_3 : decode cX1_thingsGone 3 = .ok (.istore_n 2, 1) := by decide +kernel
theorem dX1_thingsGone_4 : decode cX1_thingsGone 4 = .ok (.iload_n 2, 1) := by decide +kernel
theorem dX1_thingsGone_5 : decode cX1_thingsGone 5 = .ok (.aload_n 0, 1) := by decide +kernel
theorem dX1_thingsGone_6 : decode cX1_thingsGone 6 = .ok (.getfield 39, 3) := by decide +kernel
theorem dX1_thingsGone_9 : decode cX1_thingsGone 9 = .ok (.getfield 96, 3) := by decide +kernel
theorem dX1_thingsGone_12 : decode cX1_thingsGone 12 = .ok (.if_icmp .ge 20, 3) := by decide +kernel
theorem dX1_thingsGone_15 : decode cX1_thingsGone 15 = .ok (.aload_n 0, 1) := by decide +kernel
theorem dX1_thingsGone_16 : decode cX1_thingsGone 16 = .ok (.iload_n 2, 1) := by decide +kernel
theorem dX1_thingsGone_17 : decode cX1_thingsGone 17 = .ok (.invokevirtual 99, 3) := by decide +kernel
theorem dX1_thingsGone_20 : decode cX1_thingsGone 20 = .ok (.ifCond .ne 6, 3) := by decide +kernel
theorem dX1_thingsGone_23 : decode cX1_thingsGone 23 = .ok (.iinc 1 1, 3) := by decide +kernel
theorem dX1_thingsGone_26 : decode cX1_thingsGone 26 = .ok (.iinc 2 1, 3) := by decide +kernel
theorem dX1_thingsGone_29 : decode cX1_thingsGone 29 = .ok (.goto (-25), 3) := by decide +kernel
theorem dX1_thingsGone_32 : decode cX1_thingsGone 32 = .ok (.iload_n 1, 1) := by decide +kernel
theorem dX1_thingsGone_33 : decode cX1_thingsGone 33 = .ok (.ireturn, 1) := by decide +kernel
theorem dX1_coinsOfAll_0 : decode cX1_coinsOfAll 0 = .ok (.iconst 0, 1) := by decide +kernel
theorem dX1_coinsOfAll_1 : decode cX1_coinsOfAll 1 = .ok (.istore_n 1, 1) := by decide +kernel
theorem dX1_coinsOfAll_2 : decode cX1_coinsOfAll 2 = .ok (.iconst 0, 1) := by decide +kernel
theorem dX1_coinsOfAll_3 : decode cX1_coinsOfAll 3 = .ok (.istore_n 2, 1) := by decide +kernel
theorem dX1_coinsOfAll_4 : decode cX1_coinsOfAll 4 = .ok (.iload_n 2, 1) := by decide +kernel
theorem dX1_coinsOfAll_5 : decode cX1_coinsOfAll 5 = .ok (.aload_n 0, 1) := by decide +kernel
theorem dX1_coinsOfAll_6 : decode cX1_coinsOfAll 6 = .ok (.getfield 39, 3) := by decide +kernel
theorem dX1_coinsOfAll_9 : decode cX1_coinsOfAll 9 = .ok (.getfield 93, 3) := by decide +kernel
theorem dX1_coinsOfAll_12 : decode cX1_coinsOfAll 12 = .ok (.if_icmp .ge 18, 3) := by decide +kernel
theorem dX1_coinsOfAll_15 : decode cX1_coinsOfAll 15 = .ok (.iload_n 1, 1) := by decide +kernel
theorem dX1_coinsOfAll_16 : decode cX1_coinsOfAll 16 = .ok (.aload_n 0, 1) := by decide +kernel
theorem dX1_coinsOfAll_17 : decode cX1_coinsOfAll 17 = .ok (.getfield 15, 3) := by decide +kernel
theorem dX1_coinsOfAll_20 : decode cX1_coinsOfAll 20 = .ok (.iload_n 2, 1) := by decide +kernel
theorem dX1_coinsOfAll_21 : decode cX1_coinsOfAll 21 = .ok (.iaload, 1) := by decide +kernel
theorem dX1_coinsOfAll_22 : decode cX1_coinsOfAll 22 = .ok (.iadd, 1) := by decide +kernel
theorem dX1_coinsOfAll_23 : decode cX1_coinsOfAll 23 = .ok (.istore_n 1, 1) := by decide +kernel
theorem dX1_coinsOfAll_24 : decode cX1_coinsOfAll 24 = .ok (.iinc 2 1, 3) := by decide +kernel
theorem dX1_coinsOfAll_27 : decode cX1_coinsOfAll 27 = .ok (.goto (-23), 3) := by decide +kernel
theorem dX1_coinsOfAll_30 : decode cX1_coinsOfAll 30 = .ok (.iload_n 1, 1) := by decide +kernel
theorem dX1_coinsOfAll_31 : decode cX1_coinsOfAll 31 = .ok (.ireturn, 1) := by decide +kernel
theorem dX2_init_0 : decode cX2_init 0 = .ok (.aload_n 0, 1) := by decide +kernel
theorem dX2_init_1 : decode cX2_init 1 = .ok (.invokespecial 3, 3) := by decide +kernel
theorem dX2_init_4 : decode cX2_init 4 = .ok (.aload_n 0, 1) := by decide +kernel
theorem dX2_init_5 : decode cX2_init 5 = .ok (.iconst 4, 1) := by decide +kernel
theorem dX2_init_6 : decode cX2_init 6 = .ok (.newarray .int, 2) := by decide +kernel
theorem dX2_init_8 : decode cX2_init 8 = .ok (.putfield 11, 3) := by decide +kernel
theorem dX2_init_11 : decode cX2_init 11 = .ok (.return_, 1) := by decide +kernel
theorem dX2_read_0 : decode cX2_read 0 = .ok (.aload_n 3, 1) := by decide +kernel
theorem dX2_read_1 : decode cX2_read 1 = .ok (.invokevirtual 15, 3) := by decide +kernel
theorem dX2_read_4 : decode cX2_read 4 = .ok (.aload_n 0, 1) := by decide +kernel
theorem dX2_read_5 : decode cX2_read 5 = .ok (.iconst 0, 1) := by decide +kernel
theorem dX2_read_6 : decode cX2_read 6 = .ok (.putfield 20, 3) := by decide +kernel
theorem dX2_read_9 : decode cX2_read 9 = .ok (.iconst 0, 1) := by decide +kernel
theorem dX2_read_10 : decode cX2_read 10 = .ok (.istore 4, 2) := by decide +kernel
theorem dX2_read_12 : decode cX2_read 12 = .ok (.iload 4, 2) := by decide +kernel
theorem dX2_read_14 : decode cX2_read 14 = .ok (.iload_n 2, 1) := by decide +kernel
theorem dX2_read_15 : decode cX2_read 15 = .ok (.if_icmp .ge 50, 3) := by decide +kernel
theorem dX2_read_18 : decode cX2_read 18 = .ok (.aload_n 0, 1) := by decide +kernel
theorem dX2_read_19 : decode cX2_read 19 = .ok (.getfield 20, 3) := by decide +kernel
theorem dX2_read_22 : decode cX2_read 22 = .ok (.iload_n 2, 1) := by decide +kernel
theorem dX2_read_23 : decode cX2_read 23 = .ok (.if_icmp .ge 42, 3) := by decide +kernel
theorem dX2_read_26 : decode cX2_read 26 = .ok (.aload_n 0, 1) := by decide +kernel
theorem dX2_read_27 : decode cX2_read 27 = .ok (.getfield 20, 3) := by decide +kernel
theorem dX2_read_30 : decode cX2_read 30 = .ok (.istore 5, 2) := by decide +kernel
theorem dX2_read_32 : decode cX2_read 32 = .ok (.aload_n 0, 1) := by decide +kernel
theorem dX2_read_33 : decode cX2_read 33 = .ok (.aload_n 1, 1) := by decide +kernel
theorem dX2_read_34 : decode cX2_read 34 = .ok (.iload_n 2, 1) := by decide +kernel
theorem dX2_read_35 : decode cX2_read 35 = .ok (.invokevirtual 24, 3) := by decide +kernel
theorem dX2_read_38 : decode cX2_read 38 = .ok (.ifCond .eq 18, 3) := by decide +kernel
theorem dX2_read_41 : decode cX2_read 41 = .ok (.aload_n 3, 1) := by decide +kernel
theorem dX2_read_42 : decode cX2_read 42 = .ok (.aload_n 1, 1) := by decide +kernel
theorem dX2_read_43 : decode cX2_read 43 = .ok (.iload 5, 2) := by decide +kernel
theorem dX2_read_45 : decode cX2_read 45 = .ok (.iaload, 1) := by decide +kernel
theorem dX2_read_46 : decode cX2_read 46 = .ok (.aload_n 0, 1) := by decide +kernel
theorem dX2_read_47 : decode cX2_read 47 = .ok (.getfield 11, 3) := by decide +kernel
theorem dX2_read_50 : decode cX2_read 50 = .ok (.invokevirtual 28, 3) := by decide +kernel
theorem dX2_read_53 : decode cX2_read 53 = .ok (.ifCond .ne 6, 3) := by decide +kernel
theorem dX2_read_56 : decode cX2_read 56 = .ok (.iload 5, 2) := by decide +kernel
theorem dX2_read_58 : decode cX2_read 58 = .ok (.ireturn, 1) := by decide +kernel
theorem dX2_read_59 : decode cX2_read 59 = .ok (.iinc 4 1, 3) := by decide +kernel
theorem dX2_read_62 : decode cX2_read 62 = .ok (.goto (-50), 3) := by decide +kernel
theorem dX2_read_65 : decode cX2_read 65 = .ok (.bipush (-4), 2) := by decide +kernel
theorem dX2_read_67 : decode cX2_read 67 = .ok (.ireturn, 1) := by decide +kernel
theorem dX2_readItem_0 : decode cX2_readItem 0 = .ok (.aload_n 0, 1) := by decide +kernel
theorem dX2_readItem_1 : decode cX2_readItem 1 = .ok (.aload_n 1, 1) := by decide +kernel
theorem dX2_readItem_2 : decode cX2_readItem 2 = .ok (.iload_n 2, 1) := by decide +kernel
theorem dX2_readItem_3 : decode cX2_readItem 3 = .ok (.invokevirtual 32, 3) := by decide +kernel
theorem dX2_readItem_6 : decode cX2_readItem 6 = .ok (.invokestatic 36, 3) := by decide +kernel
theorem dX2_readItem_9 : decode cX2_readItem 9 = .ok (.istore_n 3, 1) := by decide +kernel
theorem dX2_readItem_10 : decode cX2_readItem 10 = .ok (.aload_n 0, 1) := by decide +kernel
theorem dX2_readItem_11 : decode cX2_readItem 11 = .ok (.dup, 1) := by decide +kernel
theorem dX2_readItem_12 : decode cX2_readItem 12 = .ok (.getfield 20, 3) := by decide +kernel
theorem dX2_readItem_15 : decode cX2_readItem 15 = .ok (.iconst 1, 1) := by decide +kernel
theorem dX2_readItem_16 : decode cX2_readItem 16 = .ok (.iadd, 1) := by decide +kernel
theorem dX2_readItem_17 : decode cX2_readItem 17 = .ok (.putfield 20, 3) := by decide +kernel
theorem dX2_readItem_20 : decode cX2_readItem 20 = .ok (.iconst 0, 1) := by decide +kernel
theorem dX2_readItem_21 : decode cX2_readItem 21 = .ok (.istore 4, 2) := by decide +kernel
theorem dX2_readItem_23 : decode cX2_readItem 23 = .ok (.iload 4, 2) := by decide +kernel
theorem dX2_readItem_25 : decode cX2_readItem 25 = .ok (.iload_n 3, 1) := by decide +kernel
theorem dX2_readItem_26 : decode cX2_readItem 26 = .ok (.if_icmp .ge 71, 3) := by decide +kernel
theorem dX2_readItem_29 : decode cX2_readItem 29 = .ok (.aload_n 0, 1) := by decide +kernel
theorem dX2_readItem_30 : decode cX2_readItem 30 = .ok (.aload_n 1, 1) := by decide +kernel
theorem dX2_readItem_31 : decode cX2_readItem 31 = .ok (.iload_n 2, 1) := by decide +kernel
theorem dX2_readItem_32 : decode cX2_readItem 32 = .ok (.invokevirtual 40, 3) := by decide +kernel
theorem dX2_readItem_35 : decode cX2_readItem 35 = .ok (.istore 5, 2) := by decide +kernel
theorem dX2_readItem_37 : decode cX2_readItem 37 = .ok (.aload_n 0, 1) := by decide +kernel
theorem dX2_readItem_38 : decode cX2_readItem 38 = .ok (.aload_n 1, 1) := by decide +kernel
theorem dX2_readItem_39 : decode cX2_readItem 39 = .ok (.iload_n 2, 1) := by decide +kernel
theorem dX2_readItem_40 : decode cX2_readItem 40 = .ok (.invokevirtual 32, 3) := by decide +kernel
theorem dX2_readItem_43 : decode cX2_readItem 43 = .ok (.istore 6, 2) := by decide +kernel
theorem dX2_readItem_45 : decode cX2_readItem 45 = .ok (.aload_n 0, 1) := by decide +kernel
theorem dX2_readItem_46 : decode cX2_readItem 46 = .ok (.dup, 1) := by decide +kernel
theorem dX2_readItem_47 : decode cX2_readItem 47 = .ok (.getfield 20, 3) := by decide +kernel
theorem dX2_readItem_50 : decode cX2_readItem 50 = .ok (.iconst 1, 1) := by decide +kernel
theorem dX2_readItem_51 : decode cX2_readItem 51 = .ok (.iadd, 1) := by decide +kernel
theorem dX2_readItem_52 : decode cX2_readItem 52 = .ok (.putfield 20, 3) := by decide +kernel
theorem dX2_readItem_55 : decode cX2_readItem 55 = .ok (.iload 5, 2) := by decide +kernel
theorem dX2_readItem_57 : decode cX2_readItem 57 = .ok (.ifCond .lt 23, 3) := by decide +kernel
theorem dX2_readItem_60 : decode cX2_readItem 60 = .ok (.iload 6, 2) := by decide +kernel
theorem dX2_readItem_62 : decode cX2_readItem 62 = .ok (.iload 4, 2) := by decide +kernel
theorem dX2_readItem_64 : decode cX2_readItem 64 = .ok (.iload_n 3, 1) := by decide +kernel
theorem dX2_readItem_65 : decode cX2_readItem 65 = .ok (.iconst 1, 1) := by decide +kernel
theorem dX2_readItem_66 : decode cX2_readItem 66 = .ok (.isub, 1) := by decide +kernel
theorem dX2_readItem_67 : decode cX2_readItem 67 = .ok (.if_icmp .ne 8, 3) := by decide +kernel
theorem dX2_readItem_70 : decode cX2_readItem 70 = .ok (.bipush 59, 2) := by decide +kernel
theorem dX2_readItem_72 : decode cX2_readItem 72 = .ok (.goto 5, 3) := by decide +kernel
theorem dX2_readItem_75 : decode cX2_readItem 75 = .ok (.bipush 44, 2) := by decide +kernel
theorem dX2_readItem_77 : decode cX2_readItem 77 = .ok (.if_icmp .eq 5, 3) := by decide +kernel
theorem dX2_readItem_80 : decode cX2_readItem 80 = .ok (.iconst 0, 1) := by decide +kernel
theorem dX2_readItem_81 : decode cX2_readItem 81 = .ok (.ireturn, 1) := by decide +kernel
theorem dX2_readItem_82 : decode cX2_readItem 82 = .ok (.aload_n 0, 1) := by decide +kernel
theorem dX2_readItem_83 : decode cX2_readItem 83 = .ok (.getfield 11, 3) := by decide +kernel
theorem dX2_readItem_86 : decode cX2_readItem 86 = .ok (.iload 4, 2) := by decide +kernel
theorem dX2_readItem_88 : decode cX2_readItem 88 = .ok (.iload 5, 2) := by decide +kernel
theorem dX2_readItem_90 : decode cX2_readItem 90 = .ok (.iastore, 1) := by decide +kernel
theorem dX2_readItem_91 : decode cX2_readItem 91 = .ok (.iinc 4 1, 3) := by decide +kernel
theorem dX2_readItem_94 : decode cX2_readItem 94 = .ok (.goto (-71), 3) := by decide +kernel
theorem dX2_readItem_97 : decode cX2_readItem 97 = .ok (.iload_n 3, 1) := by decide +kernel
theorem dX2_readItem_98 : decode cX2_readItem 98 = .ok (.ifCond .le 7, 3) := by decide +kernel
theorem dX2_readItem_101 : decode cX2_readItem 101 = .ok (.iconst 1, 1) := by decide +kernel
theorem dX2_readItem_102 : decode cX2_readItem 102 = .ok (.goto 4, 3) := by decide +kernel
theorem dX2_readItem_105 : decode cX2_readItem 105 = .ok (.iconst 0, 1) := by decide +kernel
theorem dX2_readItem_106 : decode cX2_readItem 106 = .ok (.ireturn, 1) := by decide +kernel
theorem dX2_numbersDue_0 : decode cX2_numbersDue 0 = .ok (.iload_n 0, 1) := by decide +kernel
theorem dX2_numbersDue_1 : decode cX2_numbersDue 1 = .ok (.lookupswitch 57 #[(97, 53), (101, 55), (103, 55), (112, 51), (116, 55)], 51) := by decide +kernel
theorem dX2_numbersDue_52 : decode cX2_numbersDue 52 = .ok (.iconst 2, 1) := by decide +kernel
theorem dX2_numbersDue_53 : decode cX2_numbersDue 53 = .ok (.ireturn, 1) := by decide +kernel
theorem dX2_numbersDue_54 : decode cX2_numbersDue 54 = .ok (.iconst 4, 1) := by decide +kernel
theorem dX2_numbersDue_55 : decode cX2_numbersDue 55 = .ok (.ireturn, 1) := by decide +kernel
theorem dX2_numbersDue_56 : decode cX2_numbersDue 56 = .ok (.iconst 1, 1) := by decide +kernel
theorem dX2_numbersDue_57 : decode cX2_numbersDue 57 = .ok (.ireturn, 1) := by decide +kernel
theorem dX2_numbersDue_58 : decode cX2_numbersDue 58 = .ok (.iconst 0, 1) := by decide +kernel
theorem dX2_numbersDue_59 : decode cX2_numbersDue 59 = .ok (.ireturn, 1) := by decide +kernel
theorem dX2_readNumber_0 : decode cX2_readNumber 0 = .ok (.iconst (-1), 1) := by decide +kernel
theorem dX2_readNumber_1 : decode cX2_readNumber 1 = .ok (.istore_n 3, 1) := by decide +kernel
theorem dX2_readNumber_2 : decode cX2_readNumber 2 = .ok (.iconst 0, 1) := by decide +kernel
theorem dX2_readNumber_3 : decode cX2_readNumber 3 = .ok (.istore 4, 2) := by decide +kernel
theorem dX2_readNumber_5 : decode cX2_readNumber 5 = .ok (.iload 4, 2) := by decide +kernel
theorem dX2_readNumber_7 : decode cX2_readNumber 7 = .ok (.iconst 2, 1) := by decide +kernel
theorem dX2_readNumber_8 : decode cX2_readNumber 8 = .ok (.if_icmp .ge 58, 3) := by decide +kernel
theorem dX2_readNumber_11 : decode cX2_readNumber 11 = .ok (.aload_n 0, 1) := by decide +kernel
theorem dX2_readNumber_12 : decode cX2_readNumber 12 = .ok (.aload_n 1, 1) := by decide +kernel
theorem dX2_readNumber_13 : decode cX2_readNumber 13 = .ok (.iload_n 2, 1) := by decide +kernel
theorem dX2_readNumber_14 : decode cX2_readNumber 14 = .ok (.invokevirtual 32, 3) := by decide +kernel
theorem dX2_readNumber_17 : decode cX2_readNumber 17 = .ok (.istore 5, 2) := by decide +kernel
theorem dX2_readNumber_19 : decode cX2_readNumber 19 = .ok (.iload 5, 2) := by decide +kernel
theorem dX2_readNumber_21 : decode cX2_readNumber 21 = .ok (.bipush 48, 2) := by decide +kernel
theorem dX2_readNumber_23 : decode cX2_readNumber 23 = .ok (.if_icmp .lt 10, 3) := by decide +kernel
theorem dX2_readNumber_26 : decode cX2_readNumber 26 = .ok (.iload 5, 2) := by decide +kernel
theorem dX2_readNumber_28 : decode cX2_readNumber 28 = .ok (.bipush 57, 2) := by decide +kernel
theorem dX2_readNumber_30 : decode cX2_readNumber 30 = .ok (.if_icmp .le 5, 3) := by decide +kernel
theorem dX2_readNumber_33 : decode cX2_readNumber 33 = .ok (.iload_n 3, 1) := by decide +kernel
theorem dX2_readNumber_34 : decode cX2_readNumber 34 = .ok (.ireturn, 1) := by decide +kernel
theorem dX2_readNumber_35 : decode cX2_readNumber 35 = .ok (.iconst 0, 1) := by decide +kernel
theorem dX2_readNumber_36 : decode cX2_readNumber 36 = .ok (.iload_n 3, 1) := by decide +kernel
theorem dX2_readNumber_37 : decode cX2_readNumber 37 = .ok (.invokestatic 43, 3) := by decide +kernel
theorem dX2_readNumber_40 : decode cX2_readNumber 40 = .ok (.bipush 10, 2) := by decide +kernel
theorem dX2_readNumber_42 : decode cX2_readNumber 42 = .ok (.imul, 1) := by decide +kernel
theorem dX2_readNumber_43 : decode cX2_readNumber 43 = .ok (.iload 5, 2) := by decide +kernel
theorem dX2_readNumber_45 : decode cX2_readNumber 45 = .ok (.iadd, 1) := by decide +kernel
theorem dX2_readNumber_46 : decode cX2_readNumber 46 = .ok (.bipush 48, 2) := by decide +kernel
theorem dX2_readNumber_48 : decode cX2_readNumber 48 = .ok (.isub, 1) := by decide +kernel
theorem dX2_readNumber_49 : decode cX2_readNumber 49 = .ok (.istore_n 3, 1) := by decide +kernel
theorem dX2_readNumber_50 : decode cX2_readNumber 50 = .ok (.aload_n 0, 1) := by decide +kernel
theorem dX2_readNumber_51 : decode cX2_readNumber 51 = .ok (.dup, 1) := by decide +kernel
theorem dX2_readNumber_52 : decode cX2_readNumber 52 = .ok (.getfield 20, 3) := by decide +kernel
theorem dX2_readNumber_55 : decode cX2_readNumber 55 = .ok (.iconst 1, 1) := by decide +kernel
theorem dX2_readNumber_56 : decode cX2_readNumber 56 = .ok (.iadd, 1) := by decide +kernel
theorem dX2_readNumber_57 : decode cX2_readNumber 57 = .ok (.putfield 20, 3) := by decide +kernel
theorem dX2_readNumber_60 : decode cX2_readNumber 60 = .ok (.iinc 4 1, 3) := by decide +kernel
theorem dX2_readNumber_63 : decode cX2_readNumber 63 = .ok (.goto (-58), 3) := by decide +kernel
theorem dX2_readNumber_66 : decode cX2_readNumber 66 = .ok (.iload_n 3, 1) := by decide +kernel
theorem dX2_readNumber_67 : decode cX2_readNumber 67 = .ok (.ireturn, 1) := by decide +kernel
theorem dX2_letterAt_0 : decode cX2_letterAt 0 = .ok (.aload_n 0, 1) := by decide +kernel
theorem dX2_letterAt_1 : decode cX2_letterAt 1 = .ok (.getfield 20, 3) := by decide +kernel
theorem dX2_letterAt_4 : decode cX2_letterAt 4 = .ok (.ifCond .lt 29, 3) := by decide +kernel
theorem dX2_letterAt_7 : decode cX2_letterAt 7 = .ok (.aload_n 0, 1) := by decide +kernel
theorem dX2_letterAt_8 : decode cX2_letterAt 8 = .ok (.getfield 20, 3) := by decide +kernel
theorem dX2_letterAt_11 : decode cX2_letterAt 11 = .ok (.iload_n 2, 1) := by decide +kernel
theorem dX2_letterAt_12 : decode cX2_letterAt 12 = .ok (.if_icmp .ge 21, 3) := by decide +kernel
theorem dX2_letterAt_15 : decode cX2_letterAt 15 = .ok (.aload_n 0, 1) := by decide +kernel
theorem dX2_letterAt_16 : decode cX2_letterAt 16 = .ok (.getfield 20, 3) := by decide +kernel
theorem dX2_letterAt_19 : decode cX2_letterAt 19 = .ok (.aload_n 1, 1) := by decide +kernel
theorem dX2_letterAt_20 : decode cX2_letterAt 20 = .ok (.arraylength, 1) := by decide +kernel
theorem dX2_letterAt_21 : decode cX2_letterAt 21 = .ok (.if_icmp .ge 12, 3) := by decide +kernel
theorem dX2_letterAt_24 : decode cX2_letterAt 24 = .ok (.aload_n 1, 1) := by decide +kernel
theorem dX2_letterAt_25 : decode cX2_letterAt 25 = .ok (.aload_n 0, 1) := by decide +kernel
theorem dX2_letterAt_26 : decode cX2_letterAt 26 = .ok (.getfield 20, 3) := by decide +kernel
theorem dX2_letterAt_29 : decode cX2_letterAt 29 = .ok (.iaload, 1) := by decide +kernel
theorem dX2_letterAt_30 : decode cX2_letterAt 30 = .ok (.goto 4, 3) := by decide +kernel
theorem dX2_letterAt_33 : decode cX2_letterAt 33 = .ok (.iconst 0, 1) := by decide +kernel
theorem dX2_letterAt_34 : decode cX2_letterAt 34 = .ok (.ireturn, 1) := by decide +kernel
theorem dX3_init_0 : decode cX3_init 0 = .ok (.aload_n 0, 1) := by decide +kernel
theorem dX3_init_1 : decode cX3_init 1 = .ok (.invokespecial 3, 3) := by decide +kernel
theorem dX3_init_4 : decode cX3_init 4 = .ok (.aload_n 0, 1) := by decide +kernel
theorem dX3_init_5 : decode cX3_init 5 = .ok (.bipush 6, 2) := by decide +kernel
theorem dX3_init_7 : decode cX3_init 7 = .ok (.newarray .int, 2) := by decide +kernel
theorem dX3_init_9 : decode cX3_init 9 = .ok (.putfield 9, 3) := by decide +kernel
theorem dX3_init_12 : decode cX3_init 12 = .ok (.aload_n 0, 1) := by decide +kernel
theorem dX3_init_13 : decode cX3_init 13 = .ok (.bipush 6, 2) := by decide +kernel
theorem dX3_init_15 : decode cX3_init 15 = .ok (.newarray .int, 2) := by decide +kernel
theorem dX3_init_17 : decode cX3_init 17 = .ok (.putfield 15, 3) := by decide +kernel
theorem dX3_init_20 : decode cX3_init 20 = .ok (.aload_n 0, 1) := by decide +kernel
theorem dX3_init_21 : decode cX3_init 21 = .ok (.bipush 6, 2) := by decide +kernel
theorem dX3_init_23 : decode cX3_init 23 = .ok (.newarray .int, 2) := by decide +kernel
theorem dX3_init_25 : decode cX3_init 25 = .ok (.putfield 18, 3) := by decide +kernel
theorem dX3_init_28 : decode cX3_init 28 = .ok (.return_, 1) := by decide +kernel
theorem dX3_add_0 : decode cX3_add 0 = .ok (.aload_n 0, 1) := by decide +kernel
theorem dX3_add_1 : decode cX3_add 1 = .ok (.getfield 21, 3) := by decide +kernel
theorem dX3_add_4 : decode cX3_add 4 = .ok (.bipush 6, 2) := by decide +kernel
theorem dX3_add_6 : decode cX3_add 6 = .ok (.if_icmp .ge 43, 3) := by decide +kernel
theorem dX3_add_9 : decode cX3_add 9 = .ok (.aload_n 0, 1) := by decide +kernel
theorem dX3_add_10 : decode cX3_add 10 = .ok (.getfield 9, 3) := by decide +kernel
theorem dX3_add_13 : decode cX3_add 13 = .ok (.aload_n 0, 1) := by decide +kernel
theorem dX3_add_14 : decode cX3_add 14 = .ok (.getfield 21, 3) := by decide +kernel
theorem dX3_add_17 : decode cX3_add 17 = .ok (.iload_n 1, 1) := by decide +kernel
theorem dX3_add_18 : decode cX3_add 18 = .ok (.iastore, 1) := by decide +kernel
theorem dX3_add_19 : decode cX3_add 19 = .ok (.aload_n 0, 1) := by decide +kernel
theorem dX3_add_20 : decode cX3_add 20 = .ok (.getfield 15, 3) := by decide +kernel
theorem dX3_add_23 : decode cX3_add 23 = .ok (.aload_n 0, 1) := by decide +kernel
theorem dX3_add_24 : decode cX3_add 24 = .ok (.getfield 21, 3) := by decide +kernel
theorem dX3_add_27 : decode cX3_add 27 = .ok (.iload_n 2, 1) := by decide +kernel
theorem dX3_add_28 : decode cX3_add 28 = .ok (.iastore, 1) := by decide +kernel
theorem dX3_add_29 : decode cX3_add 29 = .ok (.aload_n 0, 1) := by decide +kernel
theorem dX3_add_30 : decode cX3_add 30 = .ok (.getfield 18, 3) := by decide +kernel
theorem dX3_add_33 : decode cX3_add 33 = .ok (.aload_n 0, 1) := by decide +kernel
theorem dX3_add_34 : decode cX3_add 34 = .ok (.getfield 21, 3) := by decide +kernel
theorem dX3_add_37 : decode cX3_add 37 = .ok (.iload_n 3, 1) := by decide +kernel
theorem dX3_add_38 : decode cX3_add 38 = .ok (.iastore, 1) := by decide +kernel
theorem dX3_add_39 : decode cX3_add 39 = .ok (.aload_n 0, 1) := by decide +kernel
theorem dX3_add_40 : decode cX3_add 40 = .ok (.dup, 1) := by decide +kernel
theorem dX3_add_41 : decode cX3_add 41 = .ok (.getfield 21, 3) := by decide +kernel
theorem dX3_add_44 : decode cX3_add 44 = .ok (.iconst 1, 1) := by decide +kernel
theorem dX3_add_45 : decode cX3_add 45 = .ok (.iadd, 1) := by decide +kernel
theorem dX3_add_46 : decode cX3_add 46 = .ok (.putfield 21, 3) := by decide +kernel
theorem dX3_add_49 : decode cX3_add 49 = .ok (.return_, 1) := by decide +kernel
theorem dX3_allHoldIn_0 : decode cX3_allHoldIn 0 = .ok (.aload_n 1, 1) := by decide +kernel
theorem dX3_allHoldIn_1 : decode cX3_allHoldIn 1 = .ok (.iload_n 2, 1) := by decide +kernel
theorem dX3_allHoldIn_2 : decode cX3_allHoldIn 2 = .ok (.invokevirtual 25, 3) := by decide +kernel
theorem dX3_allHoldIn_5 : decode cX3_allHoldIn 5 = .ok (.iconst 1, 1) := by decide +kernel
theorem dX3_allHoldIn_6 : decode cX3_allHoldIn 6 = .ok (.istore_n 3, 1) := by decide +kernel
theorem dX3_allHoldIn_7 : decode cX3_allHoldIn 7 = .ok (.iload_n 3, 1) := by decide +kernel
theorem dX3_allHoldIn_8 : decode cX3_allHoldIn 8 = .ok (.bipush 9, 2) := by decide +kernel
theorem dX3_allHoldIn_10 : decode cX3_allHoldIn 10 = .ok (.if_icmp .gt 67, 3) := by decide +kernel
theorem dX3_allHoldIn_13 : decode cX3_allHoldIn 13 = .ok (.aload_n 1, 1) := by decide +kernel
theorem dX3_allHoldIn_14 : decode cX3_allHoldIn 14 = .ok (.invokevirtual 31, 3) := by decide +kernel
theorem dX3_allHoldIn_17 : decode cX3_allHoldIn 17 = .ok (.pop, 1) := by decide +kernel
theorem dX3_allHoldIn_18 : decode cX3_allHoldIn 18 = .ok (.iconst 0, 1) := by decide +kernel
theorem dX3_allHoldIn_19 : decode cX3_allHoldIn 19 = .ok (.istore 4, 2) := by decide +kernel
theorem dX3_allHoldIn_21 : decode cX3_allHoldIn 21 = .ok (.iload 4, 2) := by decide +kernel
theorem dX3_allHoldIn_23 : decode cX3_allHoldIn 23 = .ok (.aload_n 0, 1) := by decide +kernel
theorem dX3_allHoldIn_24 : decode cX3_allHoldIn 24 = .ok (.getfield 21, 3) := by decide +kernel
theorem dX3_allHoldIn_27 : decode cX3_allHoldIn 27 = .ok (.if_icmp .ge 44, 3) := by decide +kernel
theorem dX3_allHoldIn_30 : decode cX3_allHoldIn 30 = .ok (.aload_n 0, 1) := by decide +kernel
theorem dX3_allHoldIn_31 : decode cX3_allHoldIn 31 = .ok (.getfield 18, 3) := by decide +kernel
theorem dX3_allHoldIn_34 : decode cX3_allHoldIn 34 = .ok (.iload 4, 2) := by decide +kernel
theorem dX3_allHoldIn_36 : decode cX3_allHoldIn 36 = .ok (.iaload, 1) := by decide +kernel
theorem dX3_allHoldIn_37 : decode cX3_allHoldIn 37 = .ok (.iload_n 3, 1) := by decide +kernel
theorem dX3_allHoldIn_38 : decode cX3_allHoldIn 38 = .ok (.if_icmp .ne 27, 3) := by decide +kernel
theorem dX3_allHoldIn_41 : decode cX3_allHoldIn 41 = .ok (.aload_n 1, 1) := by decide +kernel
theorem dX3_allHoldIn_42 : decode cX3_allHoldIn 42 = .ok (.getfield 35, 3) := by decide +kernel
theorem dX3_allHoldIn_45 : decode cX3_allHoldIn 45 = .ok (.aload_n 0, 1) := by decide +kernel
theorem dX3_allHoldIn_46 : decode cX3_allHoldIn 46 = .ok (.getfield 9, 3) := by decide +kernel
theorem dX3_allHoldIn_49 : decode cX3_allHoldIn 49 = .ok (.iload 4, 2) := by decide +kernel
theorem dX3_allHoldIn_51 : decode cX3_allHoldIn 51 = .ok (.iaload, 1) := by decide +kernel
theorem dX3_allHoldIn_52 : decode cX3_allHoldIn 52 = .ok (.iaload, 1) := by decide +kernel
theorem dX3_allHoldIn_53 : decode cX3_allHoldIn 53 = .ok (.aload_n 0, 1) := by decide +kernel
theorem dX3_allHoldIn_54 : decode cX3_allHoldIn 54 = .ok (.getfield 15, 3) := by decide +kernel
theorem dX3_allHoldIn_57 : decode cX3_allHoldIn 57 = .ok (.iload 4, 2) := by decide +kernel
theorem dX3_allHoldIn_59 : decode cX3_allHoldIn 59 = .ok (.iaload, 1) := by decide +kernel
theorem dX3_allHoldIn_60 : decode cX3_allHoldIn 60 = .ok (.if_icmp .eq 5, 3) := by decide +kernel
theorem dX3_allHoldIn_63 : decode cX3_allHoldIn 63 = .ok (.iconst 0, 1) := by decide +kernel
theorem dX3_allHoldIn_64 : decode cX3_allHoldIn 64 = .ok (.ireturn, 1) := by decide +kernel
theorem dX3_allHoldIn_65 : decode cX3_allHoldIn 65 = .ok (.iinc 4 1, 3) := by decide +kernel
theorem dX3_allHoldIn_68 : decode cX3_allHoldIn 68 = .ok (.goto (-47), 3) := by decide +kernel
theorem dX3_allHoldIn_71 : decode cX3_allHoldIn 71 = .ok (.iinc 3 1, 3) := by decide +kernel
theorem dX3_allHoldIn_74 : decode cX3_allHoldIn 74 = .ok (.goto (-67), 3) := by decide +kernel
theorem dX3_allHoldIn_77 : decode cX3_allHoldIn 77 = .ok (.iconst 1, 1) := by decide +kernel
theorem dX3_allHoldIn_78 : decode cX3_allHoldIn 78 = .ok (.ireturn, 1) := by decide +kernel
theorem dX4_init_0 : decode cX4_init 0 = .ok (.aload_n 0, 1) := by decide +kernel
theorem dX4_init_1 : decode cX4_init 1 = .ok (.invokespecial 3, 3) := by decide +kernel
theorem dX4_init_4 : decode cX4_init 4 = .ok (.aload_n 0, 1) := by decide +kernel
theorem dX4_init_5 : decode cX4_init 5 = .ok (.bipush 6, 2) := by decide +kernel
theorem dX4_init_7 : decode cX4_init 7 = .ok (.newarray .int, 2) := by decide +kernel
theorem dX4_init_9 : decode cX4_init 9 = .ok (.putfield 9, 3) := by decide +kernel
theorem dX4_init_12 : decode cX4_init 12 = .ok (.aload_n 0, 1) := by decide +kernel
theorem dX4_init_13 : decode cX4_init 13 = .ok (.bipush 6, 2) := by decide +kernel
theorem dX4_init_15 : decode cX4_init 15 = .ok (.newarray .int, 2) := by decide +kernel
theorem dX4_init_17 : decode cX4_init 17 = .ok (.putfield 15, 3) := by decide +kernel
theorem dX4_init_20 : decode cX4_init 20 = .ok (.aload_n 0, 1) := by decide +kernel
theorem dX4_init_21 : decode cX4_init 21 = .ok (.bipush 6, 2) := by decide +kernel
theorem dX4_init_23 : decode cX4_init 23 = .ok (.newarray .int, 2) := by decide +kernel
theorem dX4_init_25 : decode cX4_init 25 = .ok (.putfield 18, 3) := by decide +kernel
theorem dX4_init_28 : decode cX4_init 28 = .ok (.aload_n 0, 1) := by decide +kernel
theorem dX4_init_29 : decode cX4_init 29 = .ok (.bipush 9, 2) := by decide +kernel
theorem dX4_init_31 : decode cX4_init 31 = .ok (.newarray .int, 2) := by decide +kernel
theorem dX4_init_33 : decode cX4_init 33 = .ok (.putfield 21, 3) := by decide +kernel
theorem dX4_init_36 : decode cX4_init 36 = .ok (.aload_n 0, 1) := by decide +kernel
theorem dX4_init_37 : decode cX4_init 37 = .ok (.bipush 9, 2) := by decide +kernel
theorem dX4_init_39 : decode cX4_init 39 = .ok (.newarray .int, 2) := by decide +kernel
theorem dX4_init_41 : decode cX4_init 41 = .ok (.putfield 24, 3) := by decide +kernel
theorem dX4_init_44 : decode cX4_init 44 = .ok (.aload_n 0, 1) := by decide +kernel
theorem dX4_init_45 : decode cX4_init 45 = .ok (.bipush 9, 2) := by decide +kernel
theorem dX4_init_47 : decode cX4_init 47 = .ok (.newarray .int, 2) := by decide +kernel
theorem dX4_init_49 : decode cX4_init 49 = .ok (.putfield 27, 3) := by decide +kernel
theorem dX4_init_52 : decode cX4_init 52 = .ok (.aload_n 0, 1) := by decide +kernel
theorem dX4_init_53 : decode cX4_init 53 = .ok (.bipush 9, 2) := by decide +kernel
theorem dX4_init_55 : decode cX4_init 55 = .ok (.newarray .int, 2) := by decide +kernel
theorem dX4_init_57 : decode cX4_init 57 = .ok (.putfield 30, 3) := by decide +kernel
theorem dX4_init_60 : decode cX4_init 60 = .ok (.return_, 1) := by decide +kernel
theorem dX4_clear_0 : decode cX4_clear 0 = .ok (.aload_n 0, 1) := by decide +kernel
theorem dX4_clear_1 : decode cX4_clear 1 = .ok (.iconst 0, 1) := by decide +kernel
theorem dX4_clear_2 : decode cX4_clear 2 = .ok (.putfield 33, 3) := by decide +kernel
theorem dX4_clear_5 : decode cX4_clear 5 = .ok (.aload_n 0, 1) := by decide +kernel
theorem dX4_clear_6 : decode cX4_clear 6 = .ok (.iconst 0, 1) := by decide +kernel
theorem dX4_clear_7 : decode cX4_clear 7 = .ok (.putfield 37, 3) := by decide +kernel
theorem dX4_clear_10 : decode cX4_clear 10 = .ok (.aload_n 0, 1) := by decide +kernel
theorem dX4_clear_11 : decode cX4_clear 11 = .ok (.iconst 0, 1) := by decide +kernel
theorem dX4_clear_12 : decode cX4_clear 12 = .ok (.putfield 40, 3) := by decide +kernel
theorem dX4_clear_15 : decode cX4_clear 15 = .ok (.aload_n 0, 1) := by decide +kernel
theorem dX4_clear_16 : decode cX4_clear 16 = .ok (.iconst 5, 1) := by decide +kernel
theorem dX4_clear_17 : decode cX4_clear 17 = .ok (.putfield 43, 3) := by decide +kernel
theorem dX4_clear_20 : decode cX4_clear 20 = .ok (.aload_n 0, 1) := by decide +kernel
theorem dX4_clear_21 : decode cX4_clear 21 = .ok (.iconst 2, 1) := by decide +kernel
theorem dX4_clear_22 : decode cX4_clear 22 = .ok (.putfield 46, 3) := by decide +kernel
theorem dX4_clear_25 : decode cX4_clear 25 = .ok (.return_, 1) := by decide +kernel
theorem dX4_hasPerson_0 : decode cX4_hasPerson 0 = .ok (.iload_n 1, 1) := by decide +kernel
theorem dX4_hasPerson_1 : decode cX4_hasPerson 1 = .ok (.ifCond .lt 15, 3) := by decide +kernel
theorem dX4_hasPerson_4 : decode cX4_hasPerson 4 = .ok (.iload_n 1, 1) := by decide +kernel
theorem dX4_hasPerson_5 : decode cX4_hasPerson 5 = .ok (.aload_n 0, 1) := by decide +kernel
theorem dX4_hasPerson_6 : decode cX4_hasPerson 6 = .ok (.getfield 33, 3) := by decide +kernel
theorem dX4_hasPerson_9 : decode cX4_hasPerson 9 = .ok (.if_icmp .ge 7, 3) := by decide +kernel
theorem dX4_hasPerson_12 : decode cX4_hasPerson 12 = .ok (.iconst 1, 1) := by decide +kernel
theorem dX4_hasPerson_13 : decode cX4_hasPerson 13 = .ok (.goto 4, 3) := by decide +kernel
theorem dX4_hasPerson_16 : decode cX4_hasPerson 16 = .ok (.iconst 0, 1) := by decide +kernel
theorem dX4_hasPerson_17 : decode cX4_hasPerson 17 = .ok (.ireturn, 1) := by decide +kernel
theorem dX4_hasThing_0 : decode cX4_hasThing 0 = .ok (.iload_n 1, 1) := by decide +kernel
theorem dX4_hasThing_1 : decode cX4_hasThing 1 = .ok (.ifCond .lt 15, 3) := by decide +kernel
theorem dX4_hasThing_4 : decode cX4_hasThing 4 = .ok (.iload_n 1, 1) := by decide +kernel
theorem dX4_hasThing_5 : decode cX4_hasThing 5 = .ok (.aload_n 0, 1) := by decide +kernel
theorem dX4_hasThing_6 : decode cX4_hasThing 6 = .ok (.getfield 37, 3) := by decide +kernel
theorem dX4_hasThing_9 : decode cX4_hasThing 9 = .ok (.if_icmp .ge 7, 3) := by decide +kernel
theorem dX4_hasThing_12 : decode cX4_hasThing 12 = .ok (.iconst 1, 1) := by decide +kernel
theorem dX4_hasThing_13 : decode cX4_hasThing 13 = .ok (.goto 4, 3) := by decide +kernel
theorem dX4_hasThing_16 : decode cX4_hasThing 16 = .ok (.iconst 0, 1) := by decide +kernel
theorem dX4_hasThing_17 : decode cX4_hasThing 17 = .ok (.ireturn, 1) := by decide +kernel
end
section
theorem dX4_canBeLaid_0 : decode cX4_canBeLaid 0 = .ok (.aload_n 0, 1) := by decide +kernel
theorem dX4_canBeLaid_1 : decode cX4_canBeLaid 1 = .ok (.getfield 33, 3) := by decide +kernel
theorem dX4_canBeLaid_4 : decode cX4_canBeLaid 4 = .ok (.ifCond .le 14, 3) := by decide +kernel
theorem dX4_canBeLaid_7 : decode cX4_canBeLaid 7 = .ok (.aload_n 0, 1) := by decide +kernel
theorem dX4_canBeLaid_8 : decode cX4_canBeLaid 8 = .ok (.getfield 37, 3) := by decide +kernel
theorem dX4_canBeLaid_11 : decode cX4_canBeLaid 11 = .ok (.ifCond .le 7, 3) := by decide +kernel
theorem dX4_canBeLaid_14 : decode cX4_canBeLaid 14 = .ok (.iconst 1, 1) := by decide +kernel
theorem dX4_canBeLaid_15 : decode cX4_canBeLaid 15 = .ok (.goto 4, 3) := by decide +kernel
theorem dX4_canBeLaid_18 : decode cX4_canBeLaid 18 = .ok (.iconst 0, 1) := by decide +kernel
theorem dX4_canBeLaid_19 : decode cX4_canBeLaid 19 = .ok (.ireturn, 1) := by decide +kernel
theorem dX4_takeItem_0 : decode cX4_takeItem 0 = .ok (.iload_n 1, 1) := by decide +kernel
theorem dX4_takeItem_1 : decode cX4_takeItem 1 = .ok (.lookupswitch 92 #[(97, 70), (101, 76), (103, 84), (112, 51), (116, 62)], 51) := by decide +kernel
theorem dX4_takeItem_52 : decode cX4_takeItem 52 = .ok (.aload_n 0, 1) := by decide +kernel
theorem dX4_takeItem_53 : decode cX4_takeItem 53 = .ok (.aload_n 2, 1) := by decide +kernel
theorem dX4_takeItem_54 : decode cX4_takeItem 54 = .ok (.iconst 0, 1) := by decide +kernel
theorem dX4_takeItem_55 : decode cX4_takeItem 55 = .ok (.iaload, 1) := by decide +kernel
theorem dX4_takeItem_56 : decode cX4_takeItem 56 = .ok (.aload_n 2, 1) := by decide +kernel
theorem dX4_takeItem_57 : decode cX4_takeItem 57 = .ok (.iconst 1, 1) := by decide +kernel
theorem dX4_takeItem_58 : decode cX4_takeItem 58 = .ok (.iaload, 1) := by decide +kernel
theorem dX4_takeItem_59 : decode cX4_takeItem 59 = .ok (.invokevirtual 49, 3) := by decide +kernel
theorem dX4_takeItem_62 : decode cX4_takeItem 62 = .ok (.ireturn, 1) := by decide +kernel
theorem dX4_takeItem_63 : decode cX4_takeItem 63 = .ok (.aload_n 0, 1) := by decide +kernel
theorem dX4_takeItem_64 : decode cX4_takeItem 64 = .ok (.aload_n 2, 1) := by decide +kernel
theorem dX4_takeItem_65 : decode cX4_takeItem 65 = .ok (.iconst 0, 1) := by decide +kernel
theorem dX4_takeItem_66 : decode cX4_takeItem 66 = .ok (.iaload, 1) := by decide +kernel
theorem dX4_takeItem_67 : decode cX4_takeItem 67 = .ok (.invokevirtual 53, 3) := by decide +kernel
theorem dX4_takeItem_70 : decode cX4_takeItem 70 = .ok (.ireturn, 1) := by decide +kernel
theorem dX4_takeItem_71 : decode cX4_takeItem 71 = .ok (.aload_n 0, 1) := by decide +kernel
theorem dX4_takeItem_72 : decode cX4_takeItem 72 = .ok (.aload_n 2, 1) := by decide +kernel
theorem dX4_takeItem_73 : decode cX4_takeItem 73 = .ok (.invokevirtual 57, 3) := by decide +kernel
theorem dX4_takeItem_76 : decode cX4_takeItem 76 = .ok (.ireturn, 1) := by decide +kernel
theorem dX4_takeItem_77 : decode cX4_takeItem 77 = .ok (.aload_n 0, 1) := by decide +kernel
theorem dX4_takeItem_78 : decode cX4_takeItem 78 = .ok (.aload_n 2, 1) := by decide +kernel
theorem dX4_takeItem_79 : decode cX4_takeItem 79 = .ok (.iconst 0, 1) := by decide +kernel
theorem dX4_takeItem_80 : decode cX4_takeItem 80 = .ok (.iaload, 1) := by decide +kernel
theorem dX4_takeItem_81 : decode cX4_takeItem 81 = .ok (.invokevirtual 61, 3) := by decide +kernel
theorem dX4_takeItem_84 : decode cX4_takeItem 84 = .ok (.ireturn, 1) := by decide +kernel
theorem dX4_takeItem_85 : decode cX4_takeItem 85 = .ok (.aload_n 0, 1) := by decide +kernel
theorem dX4_takeItem_86 : decode cX4_takeItem 86 = .ok (.aload_n 2, 1) := by decide +kernel
theorem dX4_takeItem_87 : decode cX4_takeItem 87 = .ok (.iconst 0, 1) := by decide +kernel
theorem dX4_takeItem_88 : decode cX4_takeItem 88 = .ok (.iaload, 1) := by decide +kernel
theorem dX4_takeItem_89 : decode cX4_takeItem 89 = .ok (.invokevirtual 64, 3) := by decide +kernel
theorem dX4_takeItem_92 : decode cX4_takeItem 92 = .ok (.ireturn, 1) := by decide +kernel
theorem dX4_takeItem_93 : decode cX4_takeItem 93 = .ok (.iconst 0, 1) := by decide +kernel
theorem dX4_takeItem_94 : decode cX4_takeItem 94 = .ok (.ireturn, 1) := by decide +kernel
theorem dX4_takePerson_0 : decode cX4_takePerson 0 = .ok (.aload_n 0, 1) := by decide +kernel
theorem dX4_takePerson_1 : decode cX4_takePerson 1 = .ok (.getfield 33, 3) := by decide +kernel
theorem dX4_takePerson_4 : decode cX4_takePerson 4 = .ok (.bipush 6, 2) := by decide +kernel
theorem dX4_takePerson_6 : decode cX4_takePerson 6 = .ok (.if_icmp .ge 8, 3) := by decide +kernel
theorem dX4_takePerson_9 : decode cX4_takePerson 9 = .ok (.iload_n 1, 1) := by decide +kernel
theorem dX4_takePerson_10 : decode cX4_takePerson 10 = .ok (.iconst 3, 1) := by decide +kernel
theorem dX4_takePerson_11 : decode cX4_takePerson 11 = .ok (.if_icmp .le 5, 3) := by decide +kernel
theorem dX4_takePerson_14 : decode cX4_takePerson 14 = .ok (.iconst 0, 1) := by decide +kernel
theorem dX4_takePerson_15 : decode cX4_takePerson 15 = .ok (.ireturn, 1) := by decide +kernel
theorem dX4_takePerson_16 : decode cX4_takePerson 16 = .ok (.aload_n 0, 1) := by decide +kernel
theorem dX4_takePerson_17 : decode cX4_takePerson 17 = .ok (.getfield 9, 3) := by decide +kernel
theorem dX4_takePerson_20 : decode cX4_takePerson 20 = .ok (.aload_n 0, 1) := by decide +kernel
theorem dX4_takePerson_21 : decode cX4_takePerson 21 = .ok (.getfield 33, 3) := by decide +kernel
theorem dX4_takePerson_24 : decode cX4_takePerson 24 = .ok (.iload_n 1, 1) := by decide +kernel
theorem dX4_takePerson_25 : decode cX4_takePerson 25 = .ok (.iastore, 1) := by decide +kernel
theorem dX4_takePerson_26 : decode cX4_takePerson 26 = .ok (.aload_n 0, 1) := by decide +kernel
theorem dX4_takePerson_27 : decode cX4_takePerson 27 = .ok (.getfield 15, 3) := by decide +kernel
theorem dX4_takePerson_30 : decode cX4_takePerson 30 = .ok (.aload_n 0, 1) := by decide +kernel
theorem dX4_takePerson_31 : decode cX4_takePerson 31 = .ok (.getfield 33, 3) := by decide +kernel
theorem dX4_takePerson_34 : decode cX4_takePerson 34 = .ok (.iload_n 2, 1) := by decide +kernel
theorem dX4_takePerson_35 : decode cX4_takePerson 35 = .ok (.iastore, 1) := by decide +kernel
theorem dX4_takePerson_36 : decode cX4_takePerson 36 = .ok (.aload_n 0, 1) := by decide +kernel
theorem dX4_takePerson_37 : decode cX4_takePerson 37 = .ok (.dup, 1) := by decide +kernel
theorem dX4_takePerson_38 : decode cX4_takePerson 38 = .ok (.getfield 33, 3) := by decide +kernel
theorem dX4_takePerson_41 : decode cX4_takePerson 41 = .ok (.iconst 1, 1) := by decide +kernel
theorem dX4_takePerson_42 : decode cX4_takePerson 42 = .ok (.iadd, 1) := by decide +kernel
theorem dX4_takePerson_43 : decode cX4_takePerson 43 = .ok (.putfield 33, 3) := by decide +kernel
theorem dX4_takePerson_46 : decode cX4_takePerson 46 = .ok (.iconst 1, 1) := by decide +kernel
theorem dX4_takePerson_47 : decode cX4_takePerson 47 = .ok (.ireturn, 1) := by decide +kernel
theorem dX4_takeThing_0 : decode cX4_takeThing 0 = .ok (.aload_n 0, 1) := by decide +kernel
theorem dX4_takeThing_1 : decode cX4_takeThing 1 = .ok (.getfield 37, 3) := by decide +kernel
theorem dX4_takeThing_4 : decode cX4_takeThing 4 = .ok (.bipush 6, 2) := by decide +kernel
theorem dX4_takeThing_6 : decode cX4_takeThing 6 = .ok (.if_icmp .ge 14, 3) := by decide +kernel
theorem dX4_takeThing_9 : decode cX4_takeThing 9 = .ok (.iload_n 1, 1) := by decide +kernel
theorem dX4_takeThing_10 : decode cX4_takeThing 10 = .ok (.iconst 1, 1) := by decide +kernel
theorem dX4_takeThing_11 : decode cX4_takeThing 11 = .ok (.if_icmp .lt 9, 3) := by decide +kernel
theorem dX4_takeThing_14 : decode cX4_takeThing 14 = .ok (.iload_n 1, 1) := by decide +kernel
theorem dX4_takeThing_15 : decode cX4_takeThing 15 = .ok (.bipush 60, 2) := by decide +kernel
theorem dX4_takeThing_17 : decode cX4_takeThing 17 = .ok (.if_icmp .le 5, 3) := by decide +kernel
theorem dX4_takeThing_20 : decode cX4_takeThing 20 = .ok (.iconst 0, 1) := by decide +kernel
theorem dX4_takeThing_21 : decode cX4_takeThing 21 = .ok (.ireturn, 1) := by decide +kernel
theorem dX4_takeThing_22 : decode cX4_takeThing 22 = .ok (.aload_n 0, 1) := by decide +kernel
theorem dX4_takeThing_23 : decode cX4_takeThing 23 = .ok (.getfield 18, 3) := by decide +kernel
theorem dX4_takeThing_26 : decode cX4_takeThing 26 = .ok (.aload_n 0, 1) := by decide +kernel
theorem dX4_takeThing_27 : decode cX4_takeThing 27 = .ok (.getfield 37, 3) := by decide +kernel
theorem dX4_takeThing_30 : decode cX4_takeThing 30 = .ok (.iload_n 1, 1) := by decide +kernel
theorem dX4_takeThing_31 : decode cX4_takeThing 31 = .ok (.iastore, 1) := by decide +kernel
theorem dX4_takeThing_32 : decode cX4_takeThing 32 = .ok (.aload_n 0, 1) := by decide +kernel
theorem dX4_takeThing_33 : decode cX4_takeThing 33 = .ok (.dup, 1) := by decide +kernel
theorem dX4_takeThing_34 : decode cX4_takeThing 34 = .ok (.getfield 37, 3) := by decide +kernel
theorem dX4_takeThing_37 : decode cX4_takeThing 37 = .ok (.iconst 1, 1) := by decide +kernel
theorem dX4_takeThing_38 : decode cX4_takeThing 38 = .ok (.iadd, 1) := by decide +kernel
theorem dX4_takeThing_39 : decode cX4_takeThing 39 = .ok (.putfield 37, 3) := by decide +kernel
theorem dX4_takeThing_42 : decode cX4_takeThing 42 = .ok (.iconst 1, 1) := by decide +kernel
theorem dX4_takeThing_43 : decode cX4_takeThing 43 = .ok (.ireturn, 1) := by decide +kernel
theorem dX4_takePause_0 : decode cX4_takePause 0 = .ok (.aload_n 1, 1) := by decide +kernel
theorem dX4_takePause_1 : decode cX4_takePause 1 = .ok (.iconst 0, 1) := by decide +kernel
theorem dX4_takePause_2 : decode cX4_takePause 2 = .ok (.iaload, 1) := by decide +kernel
theorem dX4_takePause_3 : decode cX4_takePause 3 = .ok (.istore_n 2, 1) := by decide +kernel
theorem dX4_takePause_4 : decode cX4_takePause 4 = .ok (.aload_n 1, 1) := by decide +kernel
theorem dX4_takePause_5 : decode cX4_takePause 5 = .ok (.iconst 1, 1) := by decide +kernel
theorem dX4_takePause_6 : decode cX4_takePause 6 = .ok (.iaload, 1) := by decide +kernel
theorem dX4_takePause_7 : decode cX4_takePause 7 = .ok (.istore_n 3, 1) := by decide +kernel
theorem dX4_takePause_8 : decode cX4_takePause 8 = .ok (.aload_n 1, 1) := by decide +kernel
theorem dX4_takePause_9 : decode cX4_takePause 9 = .ok (.iconst 2, 1) := by decide +kernel
theorem dX4_takePause_10 : decode cX4_takePause 10 = .ok (.iaload, 1) := by decide +kernel
theorem dX4_takePause_11 : decode cX4_takePause 11 = .ok (.istore 4, 2) := by decide +kernel
theorem dX4_takePause_13 : decode cX4_takePause 13 = .ok (.aload_n 1, 1) := by decide +kernel
theorem dX4_takePause_14 : decode cX4_takePause 14 = .ok (.iconst 3, 1) := by decide +kernel
theorem dX4_takePause_15 : decode cX4_takePause 15 = .ok (.iaload, 1) := by decide +kernel
theorem dX4_takePause_16 : decode cX4_takePause 16 = .ok (.istore 5, 2) := by decide +kernel
theorem dX4_takePause_18 : decode cX4_takePause 18 = .ok (.aload_n 0, 1) := by decide +kernel
theorem dX4_takePause_19 : decode cX4_takePause 19 = .ok (.getfield 40, 3) := by decide +kernel
theorem dX4_takePause_22 : decode cX4_takePause 22 = .ok (.bipush 9, 2) := by decide +kernel
theorem dX4_takePause_24 : decode cX4_takePause 24 = .ok (.if_icmp .ge 19, 3) := by decide +kernel
theorem dX4_takePause_27 : decode cX4_takePause 27 = .ok (.aload_n 0, 1) := by decide +kernel
theorem dX4_takePause_28 : decode cX4_takePause 28 = .ok (.iload_n 2, 1) := by decide +kernel
theorem dX4_takePause_29 : decode cX4_takePause 29 = .ok (.invokevirtual 67, 3) := by decide +kernel
theorem dX4_takePause_32 : decode cX4_takePause 32 = .ok (.ifCond .eq 11, 3) := by decide +kernel
theorem dX4_takePause_35 : decode cX4_takePause 35 = .ok (.aload_n 0, 1) := by decide +kernel
theorem dX4_takePause_36 : decode cX4_takePause 36 = .ok (.iload_n 3, 1) := by decide +kernel
theorem dX4_takePause_37 : decode cX4_takePause 37 = .ok (.invokevirtual 70, 3) := by decide +kernel
theorem dX4_takePause_40 : decode cX4_takePause 40 = .ok (.ifCond .ne 5, 3) := by decide +kernel
theorem dX4_takePause_43 : decode cX4_takePause 43 = .ok (.iconst 0, 1) := by decide +kernel
theorem dX4_takePause_44 : decode cX4_takePause 44 = .ok (.ireturn, 1) := by decide +kernel
theorem dX4_takePause_45 : decode cX4_takePause 45 = .ok (.iload 4, 2) := by decide +kernel
theorem dX4_takePause_47 : decode cX4_takePause 47 = .ok (.iconst 1, 1) := by decide +kernel
theorem dX4_takePause_48 : decode cX4_takePause 48 = .ok (.if_icmp .lt 17, 3) := by decide +kernel
theorem dX4_takePause_51 : decode cX4_takePause 51 = .ok (.iload 4, 2) := by decide +kernel
theorem dX4_takePause_53 : decode cX4_takePause 53 = .ok (.bipush 30, 2) := by decide +kernel
theorem dX4_takePause_55 : decode cX4_takePause 55 = .ok (.if_icmp .gt 10, 3) := by decide +kernel
theorem dX4_takePause_58 : decode cX4_takePause 58 = .ok (.iload 5, 2) := by decide +kernel
theorem dX4_takePause_60 : decode cX4_takePause 60 = .ok (.bipush 9, 2) := by decide +kernel
theorem dX4_takePause_62 : decode cX4_takePause 62 = .ok (.if_icmp .le 5, 3) := by decide +kernel
theorem dX4_takePause_65 : decode cX4_takePause 65 = .ok (.iconst 0, 1) := by decide +kernel
theorem dX4_takePause_66 : decode cX4_takePause 66 = .ok (.ireturn, 1) := by decide +kernel
theorem dX4_takePause_67 : decode cX4_takePause 67 = .ok (.aload_n 0, 1) := by decide +kernel
theorem dX4_takePause_68 : decode cX4_takePause 68 = .ok (.getfield 21, 3) := by decide +kernel
theorem dX4_takePause_71 : decode cX4_takePause 71 = .ok (.aload_n 0, 1) := by decide +kernel
theorem dX4_takePause_72 : decode cX4_takePause 72 = .ok (.getfield 40, 3) := by decide +kernel
theorem dX4_takePause_75 : decode cX4_takePause 75 = .ok (.iload_n 2, 1) := by decide +kernel
theorem dX4_takePause_76 : decode cX4_takePause 76 = .ok (.iastore, 1) := by decide +kernel
theorem dX4_takePause_77 : decode cX4_takePause 77 = .ok (.aload_n 0, 1) := by decide +kernel
theorem dX4_takePause_78 : decode cX4_takePause 78 = .ok (.getfield 24, 3) := by decide +kernel
theorem dX4_takePause_81 : decode cX4_takePause 81 = .ok (.aload_n 0, 1) := by decide +kernel
theorem dX4_takePause_82 : decode cX4_takePause 82 = .ok (.getfield 40, 3) := by decide +kernel
theorem dX4_takePause_85 : decode cX4_takePause 85 = .ok (.iload_n 3, 1) := by decide +kernel
theorem dX4_takePause_86 : decode cX4_takePause 86 = .ok (.iastore, 1) := by decide +kernel
theorem dX4_takePause_87 : decode cX4_takePause 87 = .ok (.aload_n 0, 1) := by decide +kernel
theorem dX4_takePause_88 : decode cX4_takePause 88 = .ok (.getfield 27, 3) := by decide +kernel
theorem dX4_takePause_91 : decode cX4_takePause 91 = .ok (.aload_n 0, 1) := by decide +kernel
theorem dX4_takePause_92 : decode cX4_takePause 92 = .ok (.getfield 40, 3) := by decide +kernel
theorem dX4_takePause_95 : decode cX4_takePause 95 = .ok (.iload 4, 2) := by decide +kernel
theorem dX4_takePause_97 : decode cX4_takePause 97 = .ok (.iastore, 1) := by decide +kernel
theorem dX4_takePause_98 : decode cX4_takePause 98 = .ok (.aload_n 0, 1) := by decide +kernel
theorem dX4_takePause_99 : decode cX4_takePause 99 = .ok (.getfield 30, 3) := by decide +kernel
theorem dX4_takePause_102 : decode cX4_takePause 102 = .ok (.aload_n 0, 1) := by decide +kernel
theorem dX4_takePause_103 : decode cX4_takePause 103 = .ok (.getfield 40, 3) := by decide +kernel
theorem dX4_takePause_106 : decode cX4_takePause 106 = .ok (.iload 5, 2) := by decide +kernel
theorem dX4_takePause_108 : decode cX4_takePause 108 = .ok (.iastore, 1) := by decide +kernel
theorem dX4_takePause_109 : decode cX4_takePause 109 = .ok (.aload_n 0, 1) := by decide +kernel
theorem dX4_takePause_110 : decode cX4_takePause 110 = .ok (.dup, 1) := by decide +kernel
theorem dX4_takePause_111 : decode cX4_takePause 111 = .ok (.getfield 40, 3) := by decide +kernel
theorem dX4_takePause_114 : decode cX4_takePause 114 = .ok (.iconst 1, 1) := by decide +kernel
theorem dX4_takePause_115 : decode cX4_takePause 115 = .ok (.iadd, 1) := by decide +kernel
theorem dX4_takePause_116 : decode cX4_takePause 116 = .ok (.putfield 40, 3) := by decide +kernel
theorem dX4_takePause_119 : decode cX4_takePause 119 = .ok (.iconst 1, 1) := by decide +kernel
theorem dX4_takePause_120 : decode cX4_takePause 120 = .ok (.ireturn, 1) := by decide +kernel
theorem dX4_takeEarned_0 : decode cX4_takeEarned 0 = .ok (.aload_n 0, 1) := by decide +kernel
theorem dX4_takeEarned_1 : decode cX4_takeEarned 1 = .ok (.iload_n 1, 1) := by decide +kernel
theorem dX4_takeEarned_2 : decode cX4_takeEarned 2 = .ok (.putfield 43, 3) := by decide +kernel
theorem dX4_takeEarned_5 : decode cX4_takeEarned 5 = .ok (.iload_n 1, 1) := by decide +kernel
theorem dX4_takeEarned_6 : decode cX4_takeEarned 6 = .ok (.bipush 30, 2) := by decide +kernel
theorem dX4_takeEarned_8 : decode cX4_takeEarned 8 = .ok (.if_icmp .gt 7, 3) := by decide +kernel
theorem dX4_takeEarned_11 : decode cX4_takeEarned 11 = .ok (.iconst 1, 1) := by decide +kernel
theorem dX4_takeEarned_12 : decode cX4_takeEarned 12 = .ok (.goto 4, 3) := by decide +kernel
theorem dX4_takeEarned_15 : decode cX4_takeEarned 15 = .ok (.iconst 0, 1) := by decide +kernel
theorem dX4_takeEarned_16 : decode cX4_takeEarned 16 = .ok (.ireturn, 1) := by decide +kernel
theorem dX4_takeDearer_0 : decode cX4_takeDearer 0 = .ok (.aload_n 0, 1) := by decide +kernel
theorem dX4_takeDearer_1 : decode cX4_takeDearer 1 = .ok (.iload_n 1, 1) := by decide +kernel
theorem dX4_takeDearer_2 : decode cX4_takeDearer 2 = .ok (.putfield 46, 3) := by decide +kernel
theorem dX4_takeDearer_5 : decode cX4_takeDearer 5 = .ok (.iload_n 1, 1) := by decide +kernel
theorem dX4_takeDearer_6 : decode cX4_takeDearer 6 = .ok (.bipush 9, 2) := by decide +kernel
theorem dX4_takeDearer_8 : decode cX4_takeDearer 8 = .ok (.if_icmp .gt 7, 3) := by decide +kernel
theorem dX4_takeDearer_11 : decode cX4_takeDearer 11 = .ok (.iconst 1, 1) := by decide +kernel
theorem dX4_takeDearer_12 : decode cX4_takeDearer 12 = .ok (.goto 4, 3) := by decide +kernel
theorem dX4_takeDearer_15 : decode cX4_takeDearer 15 = .ok (.iconst 0, 1) := by decide +kernel
theorem dX4_takeDearer_16 : decode cX4_takeDearer 16 = .ok (.ireturn, 1) := by decide +kernel
theorem dX4_costIn_0 : decode cX4_costIn 0 = .ok (.aload_n 0, 1) := by decide +kernel
theorem dX4_costIn_1 : decode cX4_costIn 1 = .ok (.getfield 18, 3) := by decide +kernel
theorem dX4_costIn_4 : decode cX4_costIn 4 = .ok (.iload_n 1, 1) := by decide +kernel
theorem dX4_costIn_5 : decode cX4_costIn 5 = .ok (.iaload, 1) := by decide +kernel
theorem dX4_costIn_6 : decode cX4_costIn 6 = .ok (.aload_n 0, 1) := by decide +kernel
theorem dX4_costIn_7 : decode cX4_costIn 7 = .ok (.getfield 46, 3) := by decide +kernel
theorem dX4_costIn_10 : decode cX4_costIn 10 = .ok (.iload_n 2, 1) := by decide +kernel
theorem dX4_costIn_11 : decode cX4_costIn 11 = .ok (.imul, 1) := by decide +kernel
theorem dX4_costIn_12 : decode cX4_costIn 12 = .ok (.iadd, 1) := by decide +kernel
theorem dX4_costIn_13 : decode cX4_costIn 13 = .ok (.ireturn, 1) := by decide +kernel
theorem dX4_priceFor_0 : decode cX4_priceFor 0 = .ok (.aload_n 0, 1) := by decide +kernel
theorem dX4_priceFor_1 : decode cX4_priceFor 1 = .ok (.iload_n 2, 1) := by decide +kernel
theorem dX4_priceFor_2 : decode cX4_priceFor 2 = .ok (.iload_n 3, 1) := by decide +kernel
theorem dX4_priceFor_3 : decode cX4_priceFor 3 = .ok (.invokevirtual 73, 3) := by decide +kernel
theorem dX4_priceFor_6 : decode cX4_priceFor 6 = .ok (.istore 4, 2) := by decide +kernel
theorem dX4_priceFor_8 : decode cX4_priceFor 8 = .ok (.aload_n 0, 1) := by decide +kernel
theorem dX4_priceFor_9 : decode cX4_priceFor 9 = .ok (.getfield 9, 3) := by decide +kernel
theorem dX4_priceFor_12 : decode cX4_priceFor 12 = .ok (.iload_n 1, 1) := by decide +kernel
theorem dX4_priceFor_13 : decode cX4_priceFor 13 = .ok (.iaload, 1) := by decide +kernel
theorem dX4_priceFor_14 : decode cX4_priceFor 14 = .ok (.iconst 3, 1) := by decide +kernel
theorem dX4_priceFor_15 : decode cX4_priceFor 15 = .ok (.if_icmp .ne 10, 3) := by decide +kernel
theorem dX4_priceFor_18 : decode cX4_priceFor 18 = .ok (.iload 4, 2) := by decide +kernel
theorem dX4_priceFor_20 : decode cX4_priceFor 20 = .ok (.iconst 2, 1) := by decide +kernel
theorem dX4_priceFor_21 : decode cX4_priceFor 21 = .ok (.idiv, 1) := by decide +kernel
theorem dX4_priceFor_22 : decode cX4_priceFor 22 = .ok (.goto 5, 3) := by decide +kernel
theorem dX4_priceFor_25 : decode cX4_priceFor 25 = .ok (.iload 4, 2) := by decide +kernel
theorem dX4_priceFor_27 : decode cX4_priceFor 27 = .ok (.ireturn, 1) := by decide +kernel
theorem dX4_countedFor_0 : decode cX4_countedFor 0 = .ok (.aload_n 0, 1) := by decide +kernel
theorem dX4_countedFor_1 : decode cX4_countedFor 1 = .ok (.getfield 9, 3) := by decide +kernel
theorem dX4_countedFor_4 : decode cX4_countedFor 4 = .ok (.iload_n 1, 1) := by decide +kernel
theorem dX4_countedFor_5 : decode cX4_countedFor 5 = .ok (.iaload, 1) := by decide +kernel
theorem dX4_countedFor_6 : decode cX4_countedFor 6 = .ok (.tableswitch 47 1 3 #[26, 39, 43], 26) := by decide +kernel
theorem dX4_countedFor_32 : decode cX4_countedFor 32 = .ok (.iload_n 2, 1) := by decide +kernel
theorem dX4_countedFor_33 : decode cX4_countedFor 33 = .ok (.iconst 2, 1) := by decide +kernel
theorem dX4_countedFor_34 : decode cX4_countedFor 34 = .ok (.if_icmp .ge 7, 3) := by decide +kernel
theorem dX4_countedFor_37 : decode cX4_countedFor 37 = .ok (.iconst 0, 1) := by decide +kernel
theorem dX4_countedFor_38 : decode cX4_countedFor 38 = .ok (.goto 6, 3) := by decide +kernel
theorem dX4_countedFor_41 : decode cX4_countedFor 41 = .ok (.iload_n 2, 1) := by decide +kernel
theorem dX4_countedFor_42 : decode cX4_countedFor 42 = .ok (.iconst 2, 1) := by decide +kernel
theorem dX4_countedFor_43 : decode cX4_countedFor 43 = .ok (.isub, 1) := by decide +kernel
theorem dX4_countedFor_44 : decode cX4_countedFor 44 = .ok (.ireturn, 1) := by decide +kernel
theorem dX4_countedFor_45 : decode cX4_countedFor 45 = .ok (.iconst 3, 1) := by decide +kernel
theorem dX4_countedFor_46 : decode cX4_countedFor 46 = .ok (.iload_n 2, 1) := by decide +kernel
theorem dX4_countedFor_47 : decode cX4_countedFor 47 = .ok (.imul, 1) := by decide +kernel
theorem dX4_countedFor_48 : decode cX4_countedFor 48 = .ok (.ireturn, 1) := by decide +kernel
theorem dX4_countedFor_49 : decode cX4_countedFor 49 = .ok (.iconst 2, 1) := by decide +kernel
theorem dX4_countedFor_50 : decode cX4_countedFor 50 = .ok (.iload_n 2, 1) := by decide +kernel
theorem dX4_countedFor_51 : decode cX4_countedFor 51 = .ok (.imul, 1) := by decide +kernel
theorem dX4_countedFor_52 : decode cX4_countedFor 52 = .ok (.ireturn, 1) := by decide +kernel
theorem dX4_countedFor_53 : decode cX4_countedFor 53 = .ok (.iload_n 2, 1) := by decide +kernel
theorem dX4_countedFor_54 : decode cX4_countedFor 54 = .ok (.ireturn, 1) := by decide +kernel
theorem dX5_init_0 : decode cX5_init 0 = .ok (.aload_n 0, 1) := by decide +kernel
theorem dX5_init_1 : decode cX5_init 1 = .ok (.invokespecial 3, 3) := by decide +kernel
theorem dX5_init_4 : decode cX5_init 4 = .ok (.aload_n 0, 1) := by decide +kernel
theorem dX5_init_5 : decode cX5_init 5 = .ok (.sipush 200, 3) := by decide +kernel
theorem dX5_init_8 : decode cX5_init 8 = .ok (.newarray .int, 2) := by decide +kernel
theorem dX5_init_10 : decode cX5_init 10 = .ok (.putfield 9, 3) := by decide +kernel
theorem dX5_init_13 : decode cX5_init 13 = .ok (.aload_n 0, 1) := by decide +kernel
theorem dX5_init_14 : decode cX5_init 14 = .ok (.new 13, 3) := by decide +kernel
theorem dX5_init_17 : decode cX5_init 17 = .ok (.dup, 1) := by decide +kernel
theorem dX5_init_18 : decode cX5_init 18 = .ok (.invokespecial 15, 3) := by decide +kernel
theorem dX5_init_21 : decode cX5_init 21 = .ok (.putfield 16, 3) := by decide +kernel
theorem dX5_init_24 : decode cX5_init 24 = .ok (.aload_n 0, 1) := by decide +kernel
theorem dX5_init_25 : decode cX5_init 25 = .ok (.new 20, 3) := by decide +kernel
theorem dX5_init_28 : decode cX5_init 28 = .ok (.dup, 1) := by decide +kernel
theorem dX5_init_29 : decode cX5_init 29 = .ok (.invokespecial 22, 3) := by decide +kernel
theorem dX5_init_32 : decode cX5_init 32 = .ok (.putfield 23, 3) := by decide +kernel
theorem dX5_init_35 : decode cX5_init 35 = .ok (.aload_n 0, 1) := by decide +kernel
theorem dX5_init_36 : decode cX5_init 36 = .ok (.new 20, 3) := by decide +kernel
theorem dX5_init_39 : decode cX5_init 39 = .ok (.dup, 1) := by decide +kernel
theorem dX5_init_40 : decode cX5_init 40 = .ok (.invokespecial 22, 3) := by decide +kernel
theorem dX5_init_43 : decode cX5_init 43 = .ok (.putfield 27, 3) := by decide +kernel
theorem dX5_init_46 : decode cX5_init 46 = .ok (.aload_n 0, 1) := by decide +kernel
theorem dX5_init_47 : decode cX5_init 47 = .ok (.new 30, 3) := by decide +kernel
theorem dX5_init_50 : decode cX5_init 50 = .ok (.dup, 1) := by decide +kernel
theorem dX5_init_51 : decode cX5_init 51 = .ok (.aload_n 0, 1) := by decide +kernel
theorem dX5_init_52 : decode cX5_init 52 = .ok (.getfield 27, 3) := by decide +kernel
theorem dX5_init_55 : decode cX5_init 55 = .ok (.invokespecial 32, 3) := by decide +kernel
theorem dX5_init_58 : decode cX5_init 58 = .ok (.putfield 35, 3) := by decide +kernel
theorem dX5_init_61 : decode cX5_init 61 = .ok (.aload_n 0, 1) := by decide +kernel
theorem dX5_init_62 : decode cX5_init 62 = .ok (.new 30, 3) := by decide +kernel
theorem dX5_init_65 : decode cX5_init 65 = .ok (.dup, 1) := by decide +kernel
theorem dX5_init_66 : decode cX5_init 66 = .ok (.aload_n 0, 1) := by decide +kernel
theorem dX5_init_67 : decode cX5_init 67 = .ok (.getfield 27, 3) := by decide +kernel
theorem dX5_init_70 : decode cX5_init 70 = .ok (.invokespecial 32, 3) := by decide +kernel
theorem dX5_init_73 : decode cX5_init 73 = .ok (.putfield 39, 3) := by decide +kernel
theorem dX5_init_76 : decode cX5_init 76 = .ok (.aload_n 0, 1) := by decide +kernel
theorem dX5_init_77 : decode cX5_init 77 = .ok (.new 42, 3) := by decide +kernel
theorem dX5_init_80 : decode cX5_init 80 = .ok (.dup, 1) := by decide +kernel
theorem dX5_init_81 : decode cX5_init 81 = .ok (.aload_n 0, 1) := by decide +kernel
theorem dX5_init_82 : decode cX5_init 82 = .ok (.getfield 27, 3) := by decide +kernel
theorem dX5_init_85 : decode cX5_init 85 = .ok (.invokespecial 44, 3) := by decide +kernel
theorem dX5_init_88 : decode cX5_init 88 = .ok (.putfield 45, 3) := by decide +kernel
theorem dX5_init_91 : decode cX5_init 91 = .ok (.aload_n 0, 1) := by decide +kernel
theorem dX5_init_92 : decode cX5_init 92 = .ok (.iconst 2, 1) := by decide +kernel
theorem dX5_init_93 : decode cX5_init 93 = .ok (.anewarray 30, 3) := by decide +kernel
theorem dX5_init_96 : decode cX5_init 96 = .ok (.putfield 49, 3) := by decide +kernel
theorem dX5_init_99 : decode cX5_init 99 = .ok (.aload_n 0, 1) := by decide +kernel
theorem dX5_init_100 : decode cX5_init 100 = .ok (.new 53, 3) := by decide +kernel
theorem dX5_init_103 : decode cX5_init 103 = .ok (.dup, 1) := by decide +kernel
theorem dX5_init_104 : decode cX5_init 104 = .ok (.invokespecial 55, 3) := by decide +kernel
theorem dX5_init_107 : decode cX5_init 107 = .ok (.putfield 56, 3) := by decide +kernel
theorem dX5_init_110 : decode cX5_init 110 = .ok (.iconst 0, 1) := by decide +kernel
theorem dX5_init_111 : decode cX5_init 111 = .ok (.istore_n 1, 1) := by decide +kernel
theorem dX5_init_112 : decode cX5_init 112 = .ok (.iload_n 1, 1) := by decide +kernel
theorem dX5_init_113 : decode cX5_init 113 = .ok (.iconst 2, 1) := by decide +kernel
theorem dX5_init_114 : decode cX5_init 114 = .ok (.if_icmp .ge 26, 3) := by decide +kernel
theorem dX5_init_117 : decode cX5_init 117 = .ok (.aload_n 0, 1) := by decide +kernel
theorem dX5_init_118 : decode cX5_init 118 = .ok (.getfield 49, 3) := by decide +kernel
theorem dX5_init_121 : decode cX5_init 121 = .ok (.iload_n 1, 1) := by decide +kernel
theorem dX5_init_122 : decode cX5_init 122 = .ok (.new 30, 3) := by decide +kernel
theorem dX5_init_125 : decode cX5_init 125 = .ok (.dup, 1) := by decide +kernel
theorem dX5_init_126 : decode cX5_init 126 = .ok (.aload_n 0, 1) := by decide +kernel
theorem dX5_init_127 : decode cX5_init 127 = .ok (.getfield 27, 3) := by decide +kernel
theorem dX5_init_130 : decode cX5_init 130 = .ok (.invokespecial 32, 3) := by decide +kernel
theorem dX5_init_133 : decode cX5_init 133 = .ok (.aastore, 1) := by decide +kernel
theorem dX5_init_134 : decode cX5_init 134 = .ok (.iinc 1 1, 3) := by decide +kernel
theorem dX5_init_137 : decode cX5_init 137 = .ok (.goto (-25), 3) := by decide +kernel
theorem dX5_init_140 : decode cX5_init 140 = .ok (.aload_n 0, 1) := by decide +kernel
theorem dX5_init_141 : decode cX5_init 141 = .ok (.invokevirtual 60, 3) := by decide +kernel
theorem dX5_init_144 : decode cX5_init 144 = .ok (.aload_n 0, 1) := by decide +kernel
theorem dX5_init_145 : decode cX5_init 145 = .ok (.invokevirtual 63, 3) := by decide +kernel
theorem dX5_init_148 : decode cX5_init 148 = .ok (.aload_n 0, 1) := by decide +kernel
theorem dX5_init_149 : decode cX5_init 149 = .ok (.iconst 0, 1) := by decide +kernel
theorem dX5_init_150 : decode cX5_init 150 = .ok (.putfield 66, 3) := by decide +kernel
theorem dX5_init_153 : decode cX5_init 153 = .ok (.return_, 1) := by decide +kernel
theorem dX5_write_0 : decode cX5_write 0 = .ok (.iload_n 1, 1) := by decide +kernel
theorem dX5_write_1 : decode cX5_write 1 = .ok (.bipush 32, 2) := by decide +kernel
theorem dX5_write_3 : decode cX5_write 3 = .ok (.if_icmp .lt 9, 3) := by decide +kernel
theorem dX5_write_6 : decode cX5_write 6 = .ok (.iload_n 1, 1) := by decide +kernel
theorem dX5_write_7 : decode cX5_write 7 = .ok (.bipush 126, 2) := by decide +kernel
theorem dX5_write_9 : decode cX5_write 9 = .ok (.if_icmp .le 5, 3) := by decide +kernel
theorem dX5_write_12 : decode cX5_write 12 = .ok (.iconst (-1), 1) := by decide +kernel
theorem dX5_write_13 : decode cX5_write 13 = .ok (.ireturn, 1) := by decide +kernel
theorem dX5_write_14 : decode cX5_write 14 = .ok (.aload_n 0, 1) := by decide +kernel
theorem dX5_write_15 : decode cX5_write 15 = .ok (.getfield 66, 3) := by decide +kernel
theorem dX5_write_18 : decode cX5_write 18 = .ok (.sipush 200, 3) := by decide +kernel
theorem dX5_write_21 : decode cX5_write 21 = .ok (.if_icmp .lt 6, 3) := by decide +kernel
theorem dX5_write_24 : decode cX5_write 24 = .ok (.bipush (-3), 2) := by decide +kernel
theorem dX5_write_26 : decode cX5_write 26 = .ok (.ireturn, 1) := by decide +kernel
theorem dX5_write_27 : decode cX5_write 27 = .ok (.aload_n 0, 1) := by decide +kernel
theorem dX5_write_28 : decode cX5_write 28 = .ok (.getfield 9, 3) := by decide +kernel
theorem dX5_write_31 : decode cX5_write 31 = .ok (.aload_n 0, 1) := by decide +kernel
theorem dX5_write_32 : decode cX5_write 32 = .ok (.getfield 66, 3) := by decide +kernel
theorem dX5_write_35 : decode cX5_write 35 = .ok (.iload_n 1, 1) := by decide +kernel
theorem dX5_write_36 : decode cX5_write 36 = .ok (.iastore, 1) := by decide +kernel
theorem dX5_write_37 : decode cX5_write 37 = .ok (.aload_n 0, 1) := by decide +kernel
theorem dX5_write_38 : decode cX5_write 38 = .ok (.dup, 1) := by decide +kernel
theorem dX5_write_39 : decode cX5_write 39 = .ok (.getfield 66, 3) := by decide +kernel
theorem dX5_write_42 : decode cX5_write 42 = .ok (.iconst 1, 1) := by decide +kernel
theorem dX5_write_43 : decode cX5_write 43 = .ok (.iadd, 1) := by decide +kernel
theorem dX5_write_44 : decode cX5_write 44 = .ok (.putfield 66, 3) := by decide +kernel
theorem dX5_write_47 : decode cX5_write 47 = .ok (.aload_n 0, 1) := by decide +kernel
theorem dX5_write_48 : decode cX5_write 48 = .ok (.getfield 66, 3) := by decide +kernel
theorem dX5_write_51 : decode cX5_write 51 = .ok (.ireturn, 1) := by decide +kernel
theorem dX5_wipe_0 : decode cX5_wipe 0 = .ok (.aload_n 0, 1) := by decide +kernel
theorem dX5_wipe_1 : decode cX5_wipe 1 = .ok (.getfield 66, 3) := by decide +kernel
theorem dX5_wipe_4 : decode cX5_wipe 4 = .ok (.istore_n 1, 1) := by decide +kernel
theorem dX5_wipe_5 : decode cX5_wipe 5 = .ok (.aload_n 0, 1) := by decide +kernel
theorem dX5_wipe_6 : decode cX5_wipe 6 = .ok (.iconst 0, 1) := by decide +kernel
theorem dX5_wipe_7 : decode cX5_wipe 7 = .ok (.putfield 66, 3) := by decide +kernel
theorem dX5_wipe_10 : decode cX5_wipe 10 = .ok (.iload_n 1, 1) := by decide +kernel
theorem dX5_wipe_11 : decode cX5_wipe 11 = .ok (.ireturn, 1) := by decide +kernel
theorem dX5_fault_0 : decode cX5_fault 0 = .ok (.aload_n 0, 1) := by decide +kernel
theorem dX5_fault_1 : decode cX5_fault 1 = .ok (.getfield 16, 3) := by decide +kernel
theorem dX5_fault_4 : decode cX5_fault 4 = .ok (.aload_n 0, 1) := by decide +kernel
theorem dX5_fault_5 : decode cX5_fault 5 = .ok (.getfield 9, 3) := by decide +kernel
theorem dX5_fault_8 : decode cX5_fault 8 = .ok (.aload_n 0, 1) := by decide +kernel
theorem dX5_fault_9 : decode cX5_fault 9 = .ok (.getfield 66, 3) := by decide +kernel
theorem dX5_fault_12 : decode cX5_fault 12 = .ok (.aload_n 0, 1) := by decide +kernel
theorem dX5_fault_13 : decode cX5_fault 13 = .ok (.getfield 23, 3) := by decide +kernel
theorem dX5_fault_16 : decode cX5_fault 16 = .ok (.invokevirtual 70, 3) := by decide +kernel
theorem dX5_fault_19 : decode cX5_fault 19 = .ok (.ireturn, 1) := by decide +kernel
theorem dX5_lay_0 : decode cX5_lay 0 = .ok (.aload_n 0, 1) := by decide +kernel
theorem dX5_lay_1 : decode cX5_lay 1 = .ok (.getfield 16, 3) := by decide +kernel
theorem dX5_lay_4 : decode cX5_lay 4 = .ok (.aload_n 0, 1) := by decide +kernel
theorem dX5_lay_5 : decode cX5_lay 5 = .ok (.getfield 9, 3) := by decide +kernel
theorem dX5_lay_8 : decode cX5_lay 8 = .ok (.aload_n 0, 1) := by decide +kernel
theorem dX5_lay_9 : decode cX5_lay 9 = .ok (.getfield 66, 3) := by decide +kernel
theorem dX5_lay_12 : decode cX5_lay 12 = .ok (.aload_n 0, 1) := by decide +kernel
theorem dX5_lay_13 : decode cX5_lay 13 = .ok (.getfield 23, 3) := by decide +kernel
theorem dX5_lay_16 : decode cX5_lay 16 = .ok (.invokevirtual 70, 3) := by decide +kernel
theorem dX5_lay_19 : decode cX5_lay 19 = .ok (.bipush (-4), 2) := by decide +kernel
theorem dX5_lay_21 : decode cX5_lay 21 = .ok (.if_icmp .ne 13, 3) := by decide +kernel
theorem dX5_lay_24 : decode cX5_lay 24 = .ok (.aload_n 0, 1) := by decide +kernel
theorem dX5_lay_25 : decode cX5_lay 25 = .ok (.getfield 23, 3) := by decide +kernel
theorem dX5_lay_28 : decode cX5_lay 28 = .ok (.invokevirtual 74, 3) := by decide +kernel
theorem dX5_lay_31 : decode cX5_lay 31 = .ok (.ifCond .ne 6, 3) := by decide +kernel
theorem dX5_lay_34 : decode cX5_lay 34 = .ok (.bipush (-2), 2) := by decide +kernel
theorem dX5_lay_36 : decode cX5_lay 36 = .ok (.ireturn, 1) := by decide +kernel
theorem dX5_lay_37 : decode cX5_lay 37 = .ok (.aload_n 0, 1) := by decide +kernel
theorem dX5_lay_38 : decode cX5_lay 38 = .ok (.invokevirtual 63, 3) := by decide +kernel
theorem dX5_lay_41 : decode cX5_lay 41 = .ok (.aload_n 0, 1) := by decide +kernel
theorem dX5_lay_42 : decode cX5_lay 42 = .ok (.getfield 27, 3) := by decide +kernel
theorem dX5_lay_45 : decode cX5_lay 45 = .ok (.getfield 78, 3) := by decide +kernel
theorem dX5_lay_48 : decode cX5_lay 48 = .ok (.ireturn, 1) := by decide +kernel
theorem dX5_person_0 : decode cX5_person 0 = .ok (.aload_n 0, 1) := by decide +kernel
theorem dX5_person_1 : decode cX5_person 1 = .ok (.getfield 27, 3) := by decide +kernel
theorem dX5_person_4 : decode cX5_person 4 = .ok (.iload_n 1, 1) := by decide +kernel
theorem dX5_person_5 : decode cX5_person 5 = .ok (.invokevirtual 81, 3) := by decide +kernel
theorem dX5_person_8 : decode cX5_person 8 = .ok (.ifCond .ne 5, 3) := by decide +kernel
theorem dX5_person_11 : decode cX5_person 11 = .ok (.iconst (-1), 1) := by decide +kernel
theorem dX5_person_12 : decode cX5_person 12 = .ok (.ireturn, 1) := by decide +kernel
theorem dX5_person_13 : decode cX5_person 13 = .ok (.iload_n 2, 1) := by decide +kernel
theorem dX5_person_14 : decode cX5_person 14 = .ok (.tableswitch 68 0 3 #[30, 40, 50, 59], 30) := by decide +kernel
theorem dX5_person_44 : decode cX5_person 44 = .ok (.aload_n 0, 1) := by decide +kernel
theorem dX5_person_45 : decode cX5_person 45 = .ok (.getfield 27, 3) := by decide +kernel
theorem dX5_person_48 : decode cX5_person 48 = .ok (.getfield 85, 3) := by decide +kernel
theorem dX5_person_51 : decode cX5_person 51 = .ok (.iload_n 1, 1) := by decide +kernel
theorem dX5_person_52 : decode cX5_person 52 = .ok (.iaload, 1) := by decide +kernel
theorem dX5_person_53 : decode cX5_person 53 = .ok (.ireturn, 1) := by decide +kernel
theorem dX5_person_54 : decode cX5_person 54 = .ok (.aload_n 0, 1) := by decide +kernel
theorem dX5_person_55 : decode cX5_person 55 = .ok (.getfield 35, 3) := by decide +kernel
theorem dX5_person_58 : decode cX5_person 58 = .ok (.getfield 88, 3) := by decide +kernel
theorem dX5_person_61 : decode cX5_person 61 = .ok (.iload_n 1, 1) := by decide +kernel
theorem dX5_person_62 : decode cX5_person 62 = .ok (.iaload, 1) := by decide +kernel
theorem dX5_person_63 : decode cX5_person 63 = .ok (.ireturn, 1) := by decide +kernel
theorem dX5_person_64 : decode cX5_person 64 = .ok (.aload_n 0, 1) := by decide +kernel
theorem dX5_person_65 : decode cX5_person 65 = .ok (.getfield 35, 3) := by decide +kernel
theorem dX5_person_68 : decode cX5_person 68 = .ok (.iload_n 1, 1) := by decide +kernel
theorem dX5_person_69 : decode cX5_person 69 = .ok (.invokevirtual 91, 3) := by decide +kernel
theorem dX5_person_72 : decode cX5_person 72 = .ok (.ireturn, 1) := by decide +kernel
theorem dX5_person_73 : decode cX5_person 73 = .ok (.aload_n 0, 1) := by decide +kernel
theorem dX5_person_74 : decode cX5_person 74 = .ok (.getfield 35, 3) := by decide +kernel
theorem dX5_person_77 : decode cX5_person 77 = .ok (.iload_n 1, 1) := by decide +kernel
theorem dX5_person_78 : decode cX5_person 78 = .ok (.invokevirtual 95, 3) := by decide +kernel
theorem dX5_person_81 : decode cX5_person 81 = .ok (.ireturn, 1) := by decide +kernel
theorem dX5_person_82 : decode cX5_person 82 = .ok (.iconst (-1), 1) := by decide +kernel
theorem dX5_person_83 : decode cX5_person 83 = .ok (.ireturn, 1) := by decide +kernel
theorem dX5_thing_0 : decode cX5_thing 0 = .ok (.aload_n 0, 1) := by decide +kernel
theorem dX5_thing_1 : decode cX5_thing 1 = .ok (.getfield 27, 3) := by decide +kernel
theorem dX5_thing_4 : decode cX5_thing 4 = .ok (.iload_n 1, 1) := by decide +kernel
theorem dX5_thing_5 : decode cX5_thing 5 = .ok (.invokevirtual 98, 3) := by decide +kernel
theorem dX5_thing_8 : decode cX5_thing 8 = .ok (.ifCond .ne 5, 3) := by decide +kernel
theorem dX5_thing_11 : decode cX5_thing 11 = .ok (.iconst (-1), 1) := by decide +kernel
theorem dX5_thing_12 : decode cX5_thing 12 = .ok (.ireturn, 1) := by decide +kernel
theorem dX5_thing_13 : decode cX5_thing 13 = .ok (.iload_n 2, 1) := by decide +kernel
theorem dX5_thing_14 : decode cX5_thing 14 = .ok (.tableswitch 91 0 3 #[30, 46, 56, 66], 30) := by decide +kernel
theorem dX5_thing_44 : decode cX5_thing 44 = .ok (.aload_n 0, 1) := by decide +kernel
theorem dX5_thing_45 : decode cX5_thing 45 = .ok (.getfield 27, 3) := by decide +kernel
theorem dX5_thing_48 : decode cX5_thing 48 = .ok (.iload_n 1, 1) := by decide +kernel
theorem dX5_thing_49 : decode cX5_thing 49 = .ok (.aload_n 0, 1) := by decide +kernel
theorem dX5_thing_50 : decode cX5_thing 50 = .ok (.getfield 35, 3) := by decide +kernel
theorem dX5_thing_53 : decode cX5_thing 53 = .ok (.getfield 101, 3) := by decide +kernel
theorem dX5_thing_56 : decode cX5_thing 56 = .ok (.invokevirtual 104, 3) := by decide +kernel
theorem dX5_thing_59 : decode cX5_thing 59 = .ok (.ireturn, 1) := by decide +kernel
theorem dX5_thing_60 : decode cX5_thing 60 = .ok (.aload_n 0, 1) := by decide +kernel
theorem dX5_thing_61 : decode cX5_thing 61 = .ok (.getfield 35, 3) := by decide +kernel
theorem dX5_thing_64 : decode cX5_thing 64 = .ok (.getfield 108, 3) := by decide +kernel
theorem dX5_thing_67 : decode cX5_thing 67 = .ok (.iload_n 1, 1) := by decide +kernel
theorem dX5_thing_68 : decode cX5_thing 68 = .ok (.iaload, 1) := by decide +kernel
theorem dX5_thing_69 : decode cX5_thing 69 = .ok (.ireturn, 1) := by decide +kernel
theorem dX5_thing_70 : decode cX5_thing 70 = .ok (.aload_n 0, 1) := by decide +kernel
theorem dX5_thing_71 : decode cX5_thing 71 = .ok (.getfield 35, 3) := by decide +kernel
theorem dX5_thing_74 : decode cX5_thing 74 = .ok (.getfield 111, 3) := by decide +kernel
theorem dX5_thing_77 : decode cX5_thing 77 = .ok (.iload_n 1, 1) := by decide +kernel
theorem dX5_thing_78 : decode cX5_thing 78 = .ok (.iaload, 1) := by decide +kernel
theorem dX5_thing_79 : decode cX5_thing 79 = .ok (.ireturn, 1) := by decide +kernel
theorem dX5_thing_80 : decode cX5_thing 80 = .ok (.aload_n 0, 1) := by decide +kernel
theorem dX5_thing_81 : decode cX5_thing 81 = .ok (.getfield 35, 3) := by decide +kernel
theorem dX5_thing_84 : decode cX5_thing 84 = .ok (.iload_n 1, 1) := by decide +kernel
theorem dX5_thing_85 : decode cX5_thing 85 = .ok (.invokevirtual 114, 3) := by decide +kernel
theorem dX5_thing_88 : decode cX5_thing 88 = .ok (.ifCond .eq 14, 3) := by decide +kernel
theorem dX5_thing_91 : decode cX5_thing 91 = .ok (.aload_n 0, 1) := by decide +kernel
theorem dX5_thing_92 : decode cX5_thing 92 = .ok (.getfield 35, 3) := by decide +kernel
theorem dX5_thing_95 : decode cX5_thing 95 = .ok (.iload_n 1, 1) := by decide +kernel
theorem dX5_thing_96 : decode cX5_thing 96 = .ok (.invokevirtual 117, 3) := by decide +kernel
theorem dX5_thing_99 : decode cX5_thing 99 = .ok (.goto 5, 3) := by decide +kernel
theorem dX5_thing_102 : decode cX5_thing 102 = .ok (.bipush (-4), 2) := by decide +kernel
theorem dX5_thing_104 : decode cX5_thing 104 = .ok (.ireturn, 1) := by decide +kernel
theorem dX5_thing_105 : decode cX5_thing 105 = .ok (.iconst (-1), 1) := by decide +kernel
theorem dX5_thing_106 : decode cX5_thing 106 = .ok (.ireturn, 1) := by decide +kernel
theorem dX5_nearly_0 : decode cX5_nearly 0 = .ok (.aload_n 0, 1) := by decide +kernel
theorem dX5_nearly_1 : decode cX5_nearly 1 = .ok (.getfield 27, 3) := by decide +kernel
theorem dX5_nearly_4 : decode cX5_nearly 4 = .ok (.iload_n 1, 1) := by decide +kernel
theorem dX5_nearly_5 : decode cX5_nearly 5 = .ok (.invokevirtual 81, 3) := by decide +kernel
theorem dX5_nearly_8 : decode cX5_nearly 8 = .ok (.ifCond .eq 14, 3) := by decide +kernel
theorem dX5_nearly_11 : decode cX5_nearly 11 = .ok (.aload_n 0, 1) := by decide +kernel
theorem dX5_nearly_12 : decode cX5_nearly 12 = .ok (.getfield 27, 3) := by decide +kernel
theorem dX5_nearly_15 : decode cX5_nearly 15 = .ok (.iload_n 2, 1) := by decide +kernel
theorem dX5_nearly_16 : decode cX5_nearly 16 = .ok (.invokevirtual 98, 3) := by decide +kernel
theorem dX5_nearly_19 : decode cX5_nearly 19 = .ok (.ifCond .ne 5, 3) := by decide +kernel
theorem dX5_nearly_22 : decode cX5_nearly 22 = .ok (.iconst (-1), 1) := by decide +kernel
theorem dX5_nearly_23 : decode cX5_nearly 23 = .ok (.ireturn, 1) := by decide +kernel
theorem dX5_nearly_24 : decode cX5_nearly 24 = .ok (.iload_n 3, 1) := by decide +kernel
theorem dX5_nearly_25 : decode cX5_nearly 25 = .ok (.tableswitch 105 0 4 #[35, 47, 59, 71, 93], 35) := by decide +kernel
theorem dX5_nearly_60 : decode cX5_nearly 60 = .ok (.aload_n 0, 1) := by decide +kernel
theorem dX5_nearly_61 : decode cX5_nearly 61 = .ok (.getfield 35, 3) := by decide +kernel
theorem dX5_nearly_64 : decode cX5_nearly 64 = .ok (.getfield 120, 3) := by decide +kernel
theorem dX5_nearly_67 : decode cX5_nearly 67 = .ok (.iload_n 1, 1) := by decide +kernel
theorem dX5_nearly_68 : decode cX5_nearly 68 = .ok (.aaload, 1) := by decide +kernel
theorem dX5_nearly_69 : decode cX5_nearly 69 = .ok (.iload_n 2, 1) := by decide +kernel
theorem dX5_nearly_70 : decode cX5_nearly 70 = .ok (.iaload, 1) := by decide +kernel
theorem dX5_nearly_71 : decode cX5_nearly 71 = .ok (.ireturn, 1) := by decide +kernel
theorem dX5_nearly_72 : decode cX5_nearly 72 = .ok (.aload_n 0, 1) := by decide +kernel
theorem dX5_nearly_73 : decode cX5_nearly 73 = .ok (.getfield 35, 3) := by decide +kernel
theorem dX5_nearly_76 : decode cX5_nearly 76 = .ok (.getfield 124, 3) := by decide +kernel
theorem dX5_nearly_79 : decode cX5_nearly 79 = .ok (.iload_n 1, 1) := by decide +kernel
theorem dX5_nearly_80 : decode cX5_nearly 80 = .ok (.aaload, 1) := by decide +kernel
theorem dX5_nearly_81 : decode cX5_nearly 81 = .ok (.iload_n 2, 1) := by decide +kernel
theorem dX5_nearly_82 : decode cX5_nearly 82 = .ok (.iaload, 1) := by decide +kernel
theorem dX5_nearly_83 : decode cX5_nearly 83 = .ok (.ireturn, 1) := by decide +kernel
theorem dX5_nearly_84 : decode cX5_nearly 84 = .ok (.aload_n 0, 1) := by decide +kernel
theorem dX5_nearly_85 : decode cX5_nearly 85 = .ok (.getfield 35, 3) := by decide +kernel
theorem dX5_nearly_88 : decode cX5_nearly 88 = .ok (.getfield 127, 3) := by decide +kernel
theorem dX5_nearly_91 : decode cX5_nearly 91 = .ok (.iload_n 1, 1) := by decide +kernel
theorem dX5_nearly_92 : decode cX5_nearly 92 = .ok (.aaload, 1) := by decide +kernel
theorem dX5_nearly_93 : decode cX5_nearly 93 = .ok (.iload_n 2, 1) := by decide +kernel
theorem dX5_nearly_94 : decode cX5_nearly 94 = .ok (.iaload, 1) := by decide +kernel
theorem dX5_nearly_95 : decode cX5_nearly 95 = .ok (.ireturn, 1) := by decide +kernel
theorem dX5_nearly_96 : decode cX5_nearly 96 = .ok (.aload_n 0, 1) := by decide +kernel
theorem dX5_nearly_97 : decode cX5_nearly 97 = .ok (.getfield 35, 3) := by decide +kernel
theorem dX5_nearly_100 : decode cX5_nearly 100 = .ok (.getfield 130, 3) := by decide +kernel
theorem dX5_nearly_103 : decode cX5_nearly 103 = .ok (.iload_n 1, 1) := by decide +kernel
theorem dX5_nearly_104 : decode cX5_nearly 104 = .ok (.aaload, 1) := by decide +kernel
theorem dX5_nearly_105 : decode cX5_nearly 105 = .ok (.iload_n 2, 1) := by decide +kernel
theorem dX5_nearly_106 : decode cX5_nearly 106 = .ok (.iaload, 1) := by decide +kernel
theorem dX5_nearly_107 : decode cX5_nearly 107 = .ok (.bipush (-4), 2) := by decide +kernel
theorem dX5_nearly_109 : decode cX5_nearly 109 = .ok (.if_icmp .eq 7, 3) := by decide +kernel
theorem dX5_nearly_112 : decode cX5_nearly 112 = .ok (.iconst 1, 1) := by decide +kernel
theorem dX5_nearly_113 : decode cX5_nearly 113 = .ok (.goto 4, 3) := by decide +kernel
theorem dX5_nearly_116 : decode cX5_nearly 116 = .ok (.iconst 0, 1) := by decide +kernel
theorem dX5_nearly_117 : decode cX5_nearly 117 = .ok (.ireturn, 1) := by decide +kernel
theorem dX5_nearly_118 : decode cX5_nearly 118 = .ok (.aload_n 0, 1) := by decide +kernel
theorem dX5_nearly_119 : decode cX5_nearly 119 = .ok (.getfield 35, 3) := by decide +kernel
theorem dX5_nearly_122 : decode cX5_nearly 122 = .ok (.getfield 130, 3) := by decide +kernel
theorem dX5_nearly_125 : decode cX5_nearly 125 = .ok (.iload_n 1, 1) := by decide +kernel
theorem dX5_nearly_126 : decode cX5_nearly 126 = .ok (.aaload, 1) := by decide +kernel
theorem dX5_nearly_127 : decode cX5_nearly 127 = .ok (.iload_n 2, 1) := by decide +kernel
theorem dX5_nearly_128 : decode cX5_nearly 128 = .ok (.iaload, 1) := by decide +kernel
theorem dX5_nearly_129 : decode cX5_nearly 129 = .ok (.ireturn, 1) := by decide +kernel
theorem dX5_nearly_130 : decode cX5_nearly 130 = .ok (.iconst (-1), 1) := by decide +kernel
theorem dX5_nearly_131 : decode cX5_nearly 131 = .ok (.ireturn, 1) := by decide +kernel
theorem dX5_pause_0 : decode cX5_pause 0 = .ok (.aload_n 0, 1) := by decide +kernel
theorem dX5_pause_1 : decode cX5_pause 1 = .ok (.getfield 27, 3) := by decide +kernel
theorem dX5_pause_4 : decode cX5_pause 4 = .ok (.iload_n 1, 1) := by decide +kernel
theorem dX5_pause_5 : decode cX5_pause 5 = .ok (.invokevirtual 81, 3) := by decide +kernel
theorem dX5_pause_8 : decode cX5_pause 8 = .ok (.ifCond .eq 25, 3) := by decide +kernel
theorem dX5_pause_11 : decode cX5_pause 11 = .ok (.aload_n 0, 1) := by decide +kernel
theorem dX5_pause_12 : decode cX5_pause 12 = .ok (.getfield 27, 3) := by decide +kernel
theorem dX5_pause_15 : decode cX5_pause 15 = .ok (.iload_n 2, 1) := by decide +kernel
theorem dX5_pause_16 : decode cX5_pause 16 = .ok (.invokevirtual 98, 3) := by decide +kernel
theorem dX5_pause_19 : decode cX5_pause 19 = .ok (.ifCond .eq 14, 3) := by decide +kernel
theorem dX5_pause_22 : decode cX5_pause 22 = .ok (.iload_n 3, 1) := by decide +kernel
theorem dX5_pause_23 : decode cX5_pause 23 = .ok (.iconst 1, 1) := by decide +kernel
theorem dX5_pause_24 : decode cX5_pause 24 = .ok (.if_icmp .lt 9, 3) := by decide +kernel
theorem dX5_pause_27 : decode cX5_pause 27 = .ok (.iload_n 3, 1) := by decide +kernel
theorem dX5_pause_28 : decode cX5_pause 28 = .ok (.bipush 30, 2) := by decide +kernel
theorem dX5_pause_30 : decode cX5_pause 30 = .ok (.if_icmp .le 5, 3) := by decide +kernel
theorem dX5_pause_33 : decode cX5_pause 33 = .ok (.iconst (-1), 1) := by decide +kernel
theorem dX5_pause_34 : decode cX5_pause 34 = .ok (.ireturn, 1) := by decide +kernel
theorem dX5_pause_35 : decode cX5_pause 35 = .ok (.aload_n 0, 1) := by decide +kernel
theorem dX5_pause_36 : decode cX5_pause 36 = .ok (.getfield 45, 3) := by decide +kernel
theorem dX5_pause_39 : decode cX5_pause 39 = .ok (.aload_n 0, 1) := by decide +kernel
theorem dX5_pause_40 : decode cX5_pause 40 = .ok (.getfield 35, 3) := by decide +kernel
theorem dX5_pause_43 : decode cX5_pause 43 = .ok (.invokevirtual 133, 3) := by decide +kernel
theorem dX5_pause_46 : decode cX5_pause 46 = .ok (.aload_n 0, 1) := by decide +kernel
theorem dX5_pause_47 : decode cX5_pause 47 = .ok (.getfield 35, 3) := by decide +kernel
theorem dX5_pause_50 : decode cX5_pause 50 = .ok (.iload_n 1, 1) := by decide +kernel
theorem dX5_pause_51 : decode cX5_pause 51 = .ok (.iload_n 2, 1) := by decide +kernel
theorem dX5_pause_52 : decode cX5_pause 52 = .ok (.iload_n 3, 1) := by decide +kernel
theorem dX5_pause_53 : decode cX5_pause 53 = .ok (.invokevirtual 137, 3) := by decide +kernel
theorem dX5_pause_56 : decode cX5_pause 56 = .ok (.aload_n 0, 1) := by decide +kernel
theorem dX5_pause_57 : decode cX5_pause 57 = .ok (.getfield 35, 3) := by decide +kernel
theorem dX5_pause_60 : decode cX5_pause 60 = .ok (.getfield 124, 3) := by decide +kernel
theorem dX5_pause_63 : decode cX5_pause 63 = .ok (.iload_n 1, 1) := by decide +kernel
theorem dX5_pause_64 : decode cX5_pause 64 = .ok (.aaload, 1) := by decide +kernel
theorem dX5_pause_65 : decode cX5_pause 65 = .ok (.iload_n 2, 1) := by decide +kernel
theorem dX5_pause_66 : decode cX5_pause 66 = .ok (.iaload, 1) := by decide +kernel
theorem dX5_pause_67 : decode cX5_pause 67 = .ok (.ireturn, 1) := by decide +kernel
theorem dX5_fair_0 : decode cX5_fair 0 = .ok (.aload_n 0, 1) := by decide +kernel
theorem dX5_fair_1 : decode cX5_fair 1 = .ok (.getfield 35, 3) := by decide +kernel
theorem dX5_fair_4 : decode cX5_fair 4 = .ok (.getfield 101, 3) := by decide +kernel
theorem dX5_fair_7 : decode cX5_fair 7 = .ok (.bipush 99, 2) := by decide +kernel
theorem dX5_fair_9 : decode cX5_fair 9 = .ok (.if_icmp .lt 6, 3) := by decide +kernel
theorem dX5_fair_12 : decode cX5_fair 12 = .ok (.bipush (-2), 2) := by decide +kernel
theorem dX5_fair_14 : decode cX5_fair 14 = .ok (.ireturn, 1) := by decide +kernel
theorem dX5_fair_15 : decode cX5_fair 15 = .ok (.aload_n 0, 1) := by decide +kernel
theorem dX5_fair_16 : decode cX5_fair 16 = .ok (.getfield 45, 3) := by decide +kernel
theorem dX5_fair_19 : decode cX5_fair 19 = .ok (.aload_n 0, 1) := by decide +kernel
theorem dX5_fair_20 : decode cX5_fair 20 = .ok (.getfield 35, 3) := by decide +kernel
theorem dX5_fair_23 : decode cX5_fair 23 = .ok (.invokevirtual 133, 3) := by decide +kernel
theorem dX5_fair_26 : decode cX5_fair 26 = .ok (.aload_n 0, 1) := by decide +kernel
theorem dX5_fair_27 : decode cX5_fair 27 = .ok (.getfield 35, 3) := by decide +kernel
theorem dX5_fair_30 : decode cX5_fair 30 = .ok (.invokevirtual 141, 3) := by decide +kernel
theorem dX5_fair_33 : decode cX5_fair 33 = .ok (.ireturn, 1) := by decide +kernel
theorem dX5_give_0 : decode cX5_give 0 = .ok (.aload_n 0, 1) := by decide +kernel
theorem dX5_give_1 : decode cX5_give 1 = .ok (.getfield 27, 3) := by decide +kernel
theorem dX5_give_4 : decode cX5_give 4 = .ok (.iload_n 1, 1) := by decide +kernel
theorem dX5_give_5 : decode cX5_give 5 = .ok (.invokevirtual 81, 3) := by decide +kernel
theorem dX5_give_8 : decode cX5_give 8 = .ok (.ifCond .eq 30, 3) := by decide +kernel
theorem dX5_give_11 : decode cX5_give 11 = .ok (.aload_n 0, 1) := by decide +kernel
theorem dX5_give_12 : decode cX5_give 12 = .ok (.getfield 27, 3) := by decide +kernel
theorem dX5_give_15 : decode cX5_give 15 = .ok (.iload_n 2, 1) := by decide +kernel
theorem dX5_give_16 : decode cX5_give 16 = .ok (.invokevirtual 81, 3) := by decide +kernel
theorem dX5_give_19 : decode cX5_give 19 = .ok (.ifCond .eq 19, 3) := by decide +kernel
theorem dX5_give_22 : decode cX5_give 22 = .ok (.iload_n 1, 1) := by decide +kernel
theorem dX5_give_23 : decode cX5_give 23 = .ok (.iload_n 2, 1) := by decide +kernel
theorem dX5_give_24 : decode cX5_give 24 = .ok (.if_icmp .eq 14, 3) := by decide +kernel
theorem dX5_give_27 : decode cX5_give 27 = .ok (.iload_n 3, 1) := by decide +kernel
theorem dX5_give_28 : decode cX5_give 28 = .ok (.iconst 1, 1) := by decide +kernel
theorem dX5_give_29 : decode cX5_give 29 = .ok (.if_icmp .lt 9, 3) := by decide +kernel
theorem dX5_give_32 : decode cX5_give 32 = .ok (.iload_n 3, 1) := by decide +kernel
theorem dX5_give_33 : decode cX5_give 33 = .ok (.bipush 99, 2) := by decide +kernel
theorem dX5_give_35 : decode cX5_give 35 = .ok (.if_icmp .le 5, 3) := by decide +kernel
theorem dX5_give_38 : decode cX5_give 38 = .ok (.iconst (-1), 1) := by decide +kernel
theorem dX5_give_39 : decode cX5_give 39 = .ok (.ireturn, 1) := by decide +kernel
theorem dX5_give_40 : decode cX5_give 40 = .ok (.aload_n 0, 1) := by decide +kernel
theorem dX5_give_41 : decode cX5_give 41 = .ok (.getfield 35, 3) := by decide +kernel
theorem dX5_give_44 : decode cX5_give 44 = .ok (.getfield 88, 3) := by decide +kernel
theorem dX5_give_47 : decode cX5_give 47 = .ok (.iload_n 1, 1) := by decide +kernel
theorem dX5_give_48 : decode cX5_give 48 = .ok (.iaload, 1) := by decide +kernel
theorem dX5_give_49 : decode cX5_give 49 = .ok (.iload_n 3, 1) := by decide +kernel
theorem dX5_give_50 : decode cX5_give 50 = .ok (.if_icmp .ge 6, 3) := by decide +kernel
theorem dX5_give_53 : decode cX5_give 53 = .ok (.bipush (-2), 2) := by decide +kernel
theorem dX5_give_55 : decode cX5_give 55 = .ok (.ireturn, 1) := by decide +kernel
theorem dX5_give_56 : decode cX5_give 56 = .ok (.aload_n 0, 1) := by decide +kernel
theorem dX5_give_57 : decode cX5_give 57 = .ok (.getfield 35, 3) := by decide +kernel
theorem dX5_give_60 : decode cX5_give 60 = .ok (.getfield 88, 3) := by decide +kernel
theorem dX5_give_63 : decode cX5_give 63 = .ok (.iload_n 2, 1) := by decide +kernel
theorem dX5_give_64 : decode cX5_give 64 = .ok (.iaload, 1) := by decide +kernel
theorem dX5_give_65 : decode cX5_give 65 = .ok (.iload_n 3, 1) := by decide +kernel
theorem dX5_give_66 : decode cX5_give 66 = .ok (.iadd, 1) := by decide +kernel
theorem dX5_give_67 : decode cX5_give 67 = .ok (.sipush 999, 3) := by decide +kernel
theorem dX5_give_70 : decode cX5_give 70 = .ok (.if_icmp .le 6, 3) := by decide +kernel
theorem dX5_give_73 : decode cX5_give 73 = .ok (.bipush (-3), 2) := by decide +kernel
theorem dX5_give_75 : decode cX5_give 75 = .ok (.ireturn, 1) := by decide +kernel
theorem dX5_give_76 : decode cX5_give 76 = .ok (.aload_n 0, 1) := by decide +kernel
theorem dX5_give_77 : decode cX5_give 77 = .ok (.getfield 45, 3) := by decide +kernel
theorem dX5_give_80 : decode cX5_give 80 = .ok (.aload_n 0, 1) := by decide +kernel
theorem dX5_give_81 : decode cX5_give 81 = .ok (.getfield 35, 3) := by decide +kernel
theorem dX5_give_84 : decode cX5_give 84 = .ok (.invokevirtual 133, 3) := by decide +kernel
theorem dX5_give_87 : decode cX5_give 87 = .ok (.aload_n 0, 1) := by decide +kernel
theorem dX5_give_88 : decode cX5_give 88 = .ok (.getfield 35, 3) := by decide +kernel
theorem dX5_give_91 : decode cX5_give 91 = .ok (.getfield 88, 3) := by decide +kernel
theorem dX5_give_94 : decode cX5_give 94 = .ok (.iload_n 1, 1) := by decide +kernel
theorem dX5_give_95 : decode cX5_give 95 = .ok (.dup2, 1) := by decide +kernel
theorem dX5_give_96 : decode cX5_give 96 = .ok (.iaload, 1) := by decide +kernel
theorem dX5_give_97 : decode cX5_give 97 = .ok (.iload_n 3, 1) := by decide +kernel
theorem dX5_give_98 : decode cX5_give 98 = .ok (.isub, 1) := by decide +kernel
theorem dX5_give_99 : decode cX5_give 99 = .ok (.iastore, 1) := by decide +kernel
theorem dX5_give_100 : decode cX5_give 100 = .ok (.aload_n 0, 1) := by decide +kernel
theorem dX5_give_101 : decode cX5_give 101 = .ok (.getfield 35, 3) := by decide +kernel
theorem dX5_give_104 : decode cX5_give 104 = .ok (.getfield 88, 3) := by decide +kernel
theorem dX5_give_107 : decode cX5_give 107 = .ok (.iload_n 2, 1) := by decide +kernel
theorem dX5_give_108 : decode cX5_give 108 = .ok (.dup2, 1) := by decide +kernel
theorem dX5_give_109 : decode cX5_give 109 = .ok (.iaload, 1) := by decide +kernel
theorem dX5_give_110 : decode cX5_give 110 = .ok (.iload_n 3, 1) := by decide +kernel
theorem dX5_give_111 : decode cX5_give 111 = .ok (.iadd, 1) := by decide +kernel
theorem dX5_give_112 : decode cX5_give 112 = .ok (.iastore, 1) := by decide +kernel
theorem dX5_give_113 : decode cX5_give 113 = .ok (.aload_n 0, 1) := by decide +kernel
theorem dX5_give_114 : decode cX5_give 114 = .ok (.getfield 35, 3) := by decide +kernel
theorem dX5_give_117 : decode cX5_give 117 = .ok (.getfield 88, 3) := by decide +kernel
theorem dX5_give_120 : decode cX5_give 120 = .ok (.iload_n 1, 1) := by decide +kernel
theorem dX5_give_121 : decode cX5_give 121 = .ok (.iaload, 1) := by decide +kernel
theorem dX5_give_122 : decode cX5_give 122 = .ok (.ireturn, 1) := by decide +kernel
theorem dX5_undo_0 : decode cX5_undo 0 = .ok (.aload_n 0, 1) := by decide +kernel
theorem dX5_undo_1 : decode cX5_undo 1 = .ok (.getfield 45, 3) := by decide +kernel
theorem dX5_undo_4 : decode cX5_undo 4 = .ok (.getfield 145, 3) := by decide +kernel
theorem dX5_undo_7 : decode cX5_undo 7 = .ok (.ifCond .ne 6, 3) := by decide +kernel
theorem dX5_undo_10 : decode cX5_undo 10 = .ok (.bipush (-2), 2) := by decide +kernel
theorem dX5_undo_12 : decode cX5_undo 12 = .ok (.ireturn, 1) := by decide +kernel
theorem dX5_undo_13 : decode cX5_undo 13 = .ok (.aload_n 0, 1) := by decide +kernel
theorem dX5_undo_14 : decode cX5_undo 14 = .ok (.getfield 45, 3) := by decide +kernel
theorem dX5_undo_17 : decode cX5_undo 17 = .ok (.aload_n 0, 1) := by decide +kernel
theorem dX5_undo_18 : decode cX5_undo 18 = .ok (.getfield 35, 3) := by decide +kernel
theorem dX5_undo_21 : decode cX5_undo 21 = .ok (.invokevirtual 148, 3) := by decide +kernel
theorem dX5_undo_24 : decode cX5_undo 24 = .ok (.aload_n 0, 1) := by decide +kernel
theorem dX5_undo_25 : decode cX5_undo 25 = .ok (.getfield 45, 3) := by decide +kernel
theorem dX5_undo_28 : decode cX5_undo 28 = .ok (.getfield 145, 3) := by decide +kernel
theorem dX5_undo_31 : decode cX5_undo 31 = .ok (.ireturn, 1) := by decide +kernel
theorem dX5_behind_0 : decode cX5_behind 0 = .ok (.aload_n 0, 1) := by decide +kernel
theorem dX5_behind_1 : decode cX5_behind 1 = .ok (.getfield 27, 3) := by decide +kernel
theorem dX5_behind_4 : decode cX5_behind 4 = .ok (.iload_n 1, 1) := by decide +kernel
theorem dX5_behind_5 : decode cX5_behind 5 = .ok (.invokevirtual 98, 3) := by decide +kernel
theorem dX5_behind_8 : decode cX5_behind 8 = .ok (.ifCond .eq 13, 3) := by decide +kernel
theorem dX5_behind_11 : decode cX5_behind 11 = .ok (.iload_n 2, 1) := by decide +kernel
theorem dX5_behind_12 : decode cX5_behind 12 = .ok (.ifCond .lt 9, 3) := by decide +kernel
theorem dX5_behind_15 : decode cX5_behind 15 = .ok (.iload_n 2, 1) := by decide +kernel
theorem dX5_behind_16 : decode cX5_behind 16 = .ok (.bipush 9, 2) := by decide +kernel
theorem dX5_behind_18 : decode cX5_behind 18 = .ok (.if_icmp .le 5, 3) := by decide +kernel
theorem dX5_behind_21 : decode cX5_behind 21 = .ok (.iconst (-1), 1) := by decide +kernel
theorem dX5_behind_22 : decode cX5_behind 22 = .ok (.ireturn, 1) := by decide +kernel
theorem dX5_behind_23 : decode cX5_behind 23 = .ok (.aload_n 0, 1) := by decide +kernel
theorem dX5_behind_24 : decode cX5_behind 24 = .ok (.getfield 39, 3) := by decide +kernel
theorem dX5_behind_27 : decode cX5_behind 27 = .ok (.aload_n 0, 1) := by decide +kernel
theorem dX5_behind_28 : decode cX5_behind 28 = .ok (.getfield 35, 3) := by decide +kernel
theorem dX5_behind_31 : decode cX5_behind 31 = .ok (.invokevirtual 151, 3) := by decide +kernel
theorem dX5_behind_34 : decode cX5_behind 34 = .ok (.aload_n 0, 1) := by decide +kernel
theorem dX5_behind_35 : decode cX5_behind 35 = .ok (.getfield 39, 3) := by decide +kernel
theorem dX5_behind_38 : decode cX5_behind 38 = .ok (.iload_n 2, 1) := by decide +kernel
theorem dX5_behind_39 : decode cX5_behind 39 = .ok (.invokevirtual 154, 3) := by decide +kernel
theorem dX5_behind_42 : decode cX5_behind 42 = .ok (.aload_n 0, 1) := by decide +kernel
theorem dX5_behind_43 : decode cX5_behind 43 = .ok (.getfield 39, 3) := by decide +kernel
theorem dX5_behind_46 : decode cX5_behind 46 = .ok (.getfield 108, 3) := by decide +kernel
theorem dX5_behind_49 : decode cX5_behind 49 = .ok (.iload_n 1, 1) := by decide +kernel
theorem dX5_behind_50 : decode cX5_behind 50 = .ok (.iaload, 1) := by decide +kernel
theorem dX5_behind_51 : decode cX5_behind 51 = .ok (.ireturn, 1) := by decide +kernel
theorem dX5_goes_0 : decode cX5_goes 0 = .ok (.aload_n 0, 1) := by decide +kernel
theorem dX5_goes_1 : decode cX5_goes 1 = .ok (.getfield 27, 3) := by decide +kernel
theorem dX5_goes_4 : decode cX5_goes 4 = .ok (.iload_n 1, 1) := by decide +kernel
theorem dX5_goes_5 : decode cX5_goes 5 = .ok (.invokevirtual 98, 3) := by decide +kernel
theorem dX5_goes_8 : decode cX5_goes 8 = .ok (.ifCond .ne 5, 3) := by decide +kernel
theorem dX5_goes_11 : decode cX5_goes 11 = .ok (.iconst (-1), 1) := by decide +kernel
theorem dX5_goes_12 : decode cX5_goes 12 = .ok (.ireturn, 1) := by decide +kernel
theorem dX5_goes_13 : decode cX5_goes 13 = .ok (.aload_n 0, 1) := by decide +kernel
theorem dX5_goes_14 : decode cX5_goes 14 = .ok (.getfield 39, 3) := by decide +kernel
theorem dX5_goes_17 : decode cX5_goes 17 = .ok (.aload_n 0, 1) := by decide +kernel
theorem dX5_goes_18 : decode cX5_goes 18 = .ok (.getfield 35, 3) := by decide +kernel
theorem dX5_goes_21 : decode cX5_goes 21 = .ok (.invokevirtual 151, 3) := by decide +kernel
theorem dX5_goes_24 : decode cX5_goes 24 = .ok (.aload_n 0, 1) := by decide +kernel
theorem dX5_goes_25 : decode cX5_goes 25 = .ok (.getfield 39, 3) := by decide +kernel
theorem dX5_goes_28 : decode cX5_goes 28 = .ok (.iload_n 1, 1) := by decide +kernel
theorem dX5_goes_29 : decode cX5_goes 29 = .ok (.invokevirtual 158, 3) := by decide +kernel
theorem dX5_goes_32 : decode cX5_goes 32 = .ok (.ireturn, 1) := by decide +kernel
theorem dX5_never_0 : decode cX5_never 0 = .ok (.aload_n 0, 1) := by decide +kernel
theorem dX5_never_1 : decode cX5_never 1 = .ok (.getfield 39, 3) := by decide +kernel
theorem dX5_never_4 : decode cX5_never 4 = .ok (.aload_n 0, 1) := by decide +kernel
theorem dX5_never_5 : decode cX5_never 5 = .ok (.getfield 35, 3) := by decide +kernel
theorem dX5_never_8 : decode cX5_never 8 = .ok (.invokevirtual 151, 3) := by decide +kernel
theorem dX5_never_11 : decode cX5_never 11 = .ok (.aload_n 0, 1) := by decide +kernel
theorem dX5_never_12 : decode cX5_never 12 = .ok (.getfield 39, 3) := by decide +kernel
theorem dX5_never_15 : decode cX5_never 15 = .ok (.bipush 9, 2) := by decide +kernel
theorem dX5_never_17 : decode cX5_never 17 = .ok (.invokevirtual 154, 3) := by decide +kernel
theorem dX5_never_20 : decode cX5_never 20 = .ok (.iconst 0, 1) := by decide +kernel
theorem dX5_never_21 : decode cX5_never 21 = .ok (.istore_n 1, 1) := by decide +kernel
theorem dX5_never_22 : decode cX5_never 22 = .ok (.iconst 0, 1) := by decide +kernel
theorem dX5_never_23 : decode cX5_never 23 = .ok (.istore_n 2, 1) := by decide +kernel
theorem dX5_never_24 : decode cX5_never 24 = .ok (.iload_n 2, 1) := by decide +kernel
theorem dX5_never_25 : decode cX5_never 25 = .ok (.aload_n 0, 1) := by decide +kernel
theorem dX5_never_26 : decode cX5_never 26 = .ok (.getfield 27, 3) := by decide +kernel
theorem dX5_never_29 : decode cX5_never 29 = .ok (.getfield 78, 3) := by decide +kernel
theorem dX5_never_32 : decode cX5_never 32 = .ok (.if_icmp .ge 26, 3) := by decide +kernel
theorem dX5_never_35 : decode cX5_never 35 = .ok (.aload_n 0, 1) := by decide +kernel
theorem dX5_never_36 : decode cX5_never 36 = .ok (.getfield 39, 3) := by decide +kernel
theorem dX5_never_39 : decode cX5_never 39 = .ok (.iload_n 2, 1) := by decide +kernel
theorem dX5_never_40 : decode cX5_never 40 = .ok (.invokevirtual 114, 3) := by decide +kernel
theorem dX5_never_43 : decode cX5_never 43 = .ok (.ifCond .eq 9, 3) := by decide +kernel
theorem dX5_never_46 : decode cX5_never 46 = .ok (.iload_n 1, 1) := by decide +kernel
theorem dX5_never_47 : decode cX5_never 47 = .ok (.iconst 1, 1) := by decide +kernel
theorem dX5_never_48 : decode cX5_never 48 = .ok (.iload_n 2, 1) := by decide +kernel
theorem dX5_never_49 : decode cX5_never 49 = .ok (.ishl, 1) := by decide +kernel
theorem dX5_never_50 : decode cX5_never 50 = .ok (.ior, 1) := by decide +kernel
theorem dX5_never_51 : decode cX5_never 51 = .ok (.istore_n 1, 1) := by decide +kernel
theorem dX5_never_52 : decode cX5_never 52 = .ok (.iinc 2 1, 3) := by decide +kernel
theorem dX5_never_55 : decode cX5_never 55 = .ok (.goto (-31), 3) := by decide +kernel
theorem dX5_never_58 : decode cX5_never 58 = .ok (.iload_n 1, 1) := by decide +kernel
theorem dX5_never_59 : decode cX5_never 59 = .ok (.ireturn, 1) := by decide +kernel
theorem dX5_stop_0 : decode cX5_stop 0 = .ok (.aload_n 0, 1) := by decide +kernel
theorem dX5_stop_1 : decode cX5_stop 1 = .ok (.getfield 27, 3) := by decide +kernel
theorem dX5_stop_4 : decode cX5_stop 4 = .ok (.iload_n 1, 1) := by decide +kernel
theorem dX5_stop_5 : decode cX5_stop 5 = .ok (.invokevirtual 81, 3) := by decide +kernel
theorem dX5_stop_8 : decode cX5_stop 8 = .ok (.ifCond .eq 23, 3) := by decide +kernel
theorem dX5_stop_11 : decode cX5_stop 11 = .ok (.aload_n 0, 1) := by decide +kernel
theorem dX5_stop_12 : decode cX5_stop 12 = .ok (.getfield 27, 3) := by decide +kernel
theorem dX5_stop_15 : decode cX5_stop 15 = .ok (.iload_n 2, 1) := by decide +kernel
theorem dX5_stop_16 : decode cX5_stop 16 = .ok (.invokevirtual 98, 3) := by decide +kernel
theorem dX5_stop_19 : decode cX5_stop 19 = .ok (.ifCond .eq 12, 3) := by decide +kernel
theorem dX5_stop_22 : decode cX5_stop 22 = .ok (.iload_n 3, 1) := by decide +kernel
theorem dX5_stop_23 : decode cX5_stop 23 = .ok (.ifCond .lt 8, 3) := by decide +kernel
theorem dX5_stop_26 : decode cX5_stop 26 = .ok (.iload_n 3, 1) := by decide +kernel
theorem dX5_stop_27 : decode cX5_stop 27 = .ok (.iconst 1, 1) := by decide +kernel
theorem dX5_stop_28 : decode cX5_stop 28 = .ok (.if_icmp .le 5, 3) := by decide +kernel
theorem dX5_stop_31 : decode cX5_stop 31 = .ok (.iconst (-1), 1) := by decide +kernel
theorem dX5_stop_32 : decode cX5_stop 32 = .ok (.ireturn, 1) := by decide +kernel
theorem dX5_stop_33 : decode cX5_stop 33 = .ok (.iconst 0, 1) := by decide +kernel
theorem dX5_stop_34 : decode cX5_stop 34 = .ok (.istore 4, 2) := by decide +kernel
theorem dX5_stop_36 : decode cX5_stop 36 = .ok (.iload 4, 2) := by decide +kernel
theorem dX5_stop_38 : decode cX5_stop 38 = .ok (.bipush 30, 2) := by decide +kernel
theorem dX5_stop_40 : decode cX5_stop 40 = .ok (.if_icmp .gt 71, 3) := by decide +kernel
theorem dX5_stop_43 : decode cX5_stop 43 = .ok (.aload_n 0, 1) := by decide +kernel
theorem dX5_stop_44 : decode cX5_stop 44 = .ok (.getfield 39, 3) := by decide +kernel
theorem dX5_stop_47 : decode cX5_stop 47 = .ok (.aload_n 0, 1) := by decide +kernel
theorem dX5_stop_48 : decode cX5_stop 48 = .ok (.getfield 35, 3) := by decide +kernel
theorem dX5_stop_51 : decode cX5_stop 51 = .ok (.invokevirtual 151, 3) := by decide +kernel
theorem dX5_stop_54 : decode cX5_stop 54 = .ok (.iload 4, 2) := by decide +kernel
theorem dX5_stop_56 : decode cX5_stop 56 = .ok (.ifCond .le 14, 3) := by decide +kernel
theorem dX5_stop_59 : decode cX5_stop 59 = .ok (.aload_n 0, 1) := by decide +kernel
theorem dX5_stop_60 : decode cX5_stop 60 = .ok (.getfield 39, 3) := by decide +kernel
theorem dX5_stop_63 : decode cX5_stop 63 = .ok (.iload_n 1, 1) := by decide +kernel
theorem dX5_stop_64 : decode cX5_stop 64 = .ok (.iload_n 2, 1) := by decide +kernel
theorem dX5_stop_65 : decode cX5_stop 65 = .ok (.iload 4, 2) := by decide +kernel
theorem dX5_stop_67 : decode cX5_stop 67 = .ok (.invokevirtual 137, 3) := by decide +kernel
theorem dX5_stop_70 : decode cX5_stop 70 = .ok (.aload_n 0, 1) := by decide +kernel
theorem dX5_stop_71 : decode cX5_stop 71 = .ok (.getfield 39, 3) := by decide +kernel
theorem dX5_stop_74 : decode cX5_stop 74 = .ok (.iload_n 2, 1) := by decide +kernel
theorem dX5_stop_75 : decode cX5_stop 75 = .ok (.invokevirtual 158, 3) := by decide +kernel
theorem dX5_stop_78 : decode cX5_stop 78 = .ok (.istore 5, 2) := by decide +kernel
theorem dX5_stop_80 : decode cX5_stop 80 = .ok (.aload_n 0, 1) := by decide +kernel
theorem dX5_stop_81 : decode cX5_stop 81 = .ok (.getfield 39, 3) := by decide +kernel
theorem dX5_stop_84 : decode cX5_stop 84 = .ok (.getfield 108, 3) := by decide +kernel
theorem dX5_stop_87 : decode cX5_stop 87 = .ok (.iload_n 2, 1) := by decide +kernel
theorem dX5_stop_88 : decode cX5_stop 88 = .ok (.iaload, 1) := by decide +kernel
theorem dX5_stop_89 : decode cX5_stop 89 = .ok (.iload_n 1, 1) := by decide +kernel
theorem dX5_stop_90 : decode cX5_stop 90 = .ok (.if_icmp .ne 15, 3) := by decide +kernel
theorem dX5_stop_93 : decode cX5_stop 93 = .ok (.iload_n 3, 1) := by decide +kernel
theorem dX5_stop_94 : decode cX5_stop 94 = .ok (.ifCond .ne 8, 3) := by decide +kernel
theorem dX5_stop_97 : decode cX5_stop 97 = .ok (.iload 4, 2) := by decide +kernel
theorem dX5_stop_99 : decode cX5_stop 99 = .ok (.goto 5, 3) := by decide +kernel
theorem dX5_stop_102 : decode cX5_stop 102 = .ok (.iload 5, 2) := by decide +kernel
theorem dX5_stop_104 : decode cX5_stop 104 = .ok (.ireturn, 1) := by decide +kernel
theorem dX5_stop_105 : decode cX5_stop 105 = .ok (.iinc 4 1, 3) := by decide +kernel
theorem dX5_stop_108 : decode cX5_stop 108 = .ok (.goto (-72), 3) := by decide +kernel
theorem dX5_stop_111 : decode cX5_stop 111 = .ok (.bipush (-4), 2) := by decide +kernel
theorem dX5_stop_113 : decode cX5_stop 113 = .ok (.ireturn, 1) := by decide +kernel
theorem dX5_rank_0 : decode cX5_rank 0 = .ok (.aload_n 0, 1) := by decide +kernel
theorem dX5_rank_1 : decode cX5_rank 1 = .ok (.getfield 27, 3) := by decide +kernel
theorem dX5_rank_4 : decode cX5_rank 4 = .ok (.iload_n 1, 1) := by decide +kernel
theorem dX5_rank_5 : decode cX5_rank 5 = .ok (.invokevirtual 81, 3) := by decide +kernel
theorem dX5_rank_8 : decode cX5_rank 8 = .ok (.ifCond .eq 7, 3) := by decide +kernel
theorem dX5_rank_11 : decode cX5_rank 11 = .ok (.iload_n 2, 1) := by decide +kernel
theorem dX5_rank_12 : decode cX5_rank 12 = .ok (.ifCond .ge 5, 3) := by decide +kernel
theorem dX5_rank_15 : decode cX5_rank 15 = .ok (.iconst (-1), 1) := by decide +kernel
theorem dX5_rank_16 : decode cX5_rank 16 = .ok (.ireturn, 1) := by decide +kernel
theorem dX5_rank_17 : decode cX5_rank 17 = .ok (.iconst 0, 1) := by decide +kernel
theorem dX5_rank_18 : decode cX5_rank 18 = .ok (.istore_n 3, 1) := by decide +kernel
theorem dX5_rank_19 : decode cX5_rank 19 = .ok (.iload_n 3, 1) := by decide +kernel
theorem dX5_rank_20 : decode cX5_rank 20 = .ok (.aload_n 0, 1) := by decide +kernel
theorem dX5_rank_21 : decode cX5_rank 21 = .ok (.getfield 27, 3) := by decide +kernel
theorem dX5_rank_24 : decode cX5_rank 24 = .ok (.getfield 78, 3) := by decide +kernel
theorem dX5_rank_27 : decode cX5_rank 27 = .ok (.if_icmp .ge 40, 3) := by decide +kernel
theorem dX5_rank_30 : decode cX5_rank 30 = .ok (.aload_n 0, 1) := by decide +kernel
theorem dX5_rank_31 : decode cX5_rank 31 = .ok (.getfield 35, 3) := by decide +kernel
theorem dX5_rank_34 : decode cX5_rank 34 = .ok (.getfield 130, 3) := by decide +kernel
theorem dX5_rank_37 : decode cX5_rank 37 = .ok (.iload_n 1, 1) := by decide +kernel
theorem dX5_rank_38 : decode cX5_rank 38 = .ok (.aaload, 1) := by decide +kernel
theorem dX5_rank_39 : decode cX5_rank 39 = .ok (.iload_n 3, 1) := by decide +kernel
theorem dX5_rank_40 : decode cX5_rank 40 = .ok (.iaload, 1) := by decide +kernel
theorem dX5_rank_41 : decode cX5_rank 41 = .ok (.bipush (-4), 2) := by decide +kernel
theorem dX5_rank_43 : decode cX5_rank 43 = .ok (.if_icmp .eq 18, 3) := by decide +kernel
theorem dX5_rank_46 : decode cX5_rank 46 = .ok (.aload_n 0, 1) := by decide +kernel
theorem dX5_rank_47 : decode cX5_rank 47 = .ok (.getfield 35, 3) := by decide +kernel
theorem dX5_rank_50 : decode cX5_rank 50 = .ok (.iload_n 1, 1) := by decide +kernel
theorem dX5_rank_51 : decode cX5_rank 51 = .ok (.iload_n 3, 1) := by decide +kernel
theorem dX5_rank_52 : decode cX5_rank 52 = .ok (.invokevirtual 161, 3) := by decide +kernel
theorem dX5_rank_55 : decode cX5_rank 55 = .ok (.iload_n 2, 1) := by decide +kernel
theorem dX5_rank_56 : decode cX5_rank 56 = .ok (.if_icmp .ne 5, 3) := by decide +kernel
theorem dX5_rank_59 : decode cX5_rank 59 = .ok (.iload_n 3, 1) := by decide +kernel
theorem dX5_rank_60 : decode cX5_rank 60 = .ok (.ireturn, 1) := by decide +kernel
theorem dX5_rank_61 : decode cX5_rank 61 = .ok (.iinc 3 1, 3) := by decide +kernel
theorem dX5_rank_64 : decode cX5_rank 64 = .ok (.goto (-45), 3) := by decide +kernel
theorem dX5_rank_67 : decode cX5_rank 67 = .ok (.bipush (-4), 2) := by decide +kernel
theorem dX5_rank_69 : decode cX5_rank 69 = .ok (.ireturn, 1) := by decide +kernel
theorem dX5_wanted_0 : decode cX5_wanted 0 = .ok (.iload_n 1, 1) := by decide +kernel
theorem dX5_wanted_1 : decode cX5_wanted 1 = .ok (.ifCond .lt 8, 3) := by decide +kernel
theorem dX5_wanted_4 : decode cX5_wanted 4 = .ok (.iload_n 1, 1) := by decide +kernel
theorem dX5_wanted_5 : decode cX5_wanted 5 = .ok (.iconst 1, 1) := by decide +kernel
theorem dX5_wanted_6 : decode cX5_wanted 6 = .ok (.if_icmp .le 5, 3) := by decide +kernel
theorem dX5_wanted_9 : decode cX5_wanted 9 = .ok (.iconst (-1), 1) := by decide +kernel
theorem dX5_wanted_10 : decode cX5_wanted 10 = .ok (.ireturn, 1) := by decide +kernel
theorem dX5_wanted_11 : decode cX5_wanted 11 = .ok (.iconst 0, 1) := by decide +kernel
theorem dX5_wanted_12 : decode cX5_wanted 12 = .ok (.istore_n 2, 1) := by decide +kernel
theorem dX5_wanted_13 : decode cX5_wanted 13 = .ok (.iconst 1, 1) := by decide +kernel
theorem dX5_wanted_14 : decode cX5_wanted 14 = .ok (.istore_n 3, 1) := by decide +kernel
theorem dX5_wanted_15 : decode cX5_wanted 15 = .ok (.iload_n 3, 1) := by decide +kernel
theorem dX5_wanted_16 : decode cX5_wanted 16 = .ok (.aload_n 0, 1) := by decide +kernel
theorem dX5_wanted_17 : decode cX5_wanted 17 = .ok (.getfield 27, 3) := by decide +kernel
theorem dX5_wanted_20 : decode cX5_wanted 20 = .ok (.getfield 78, 3) := by decide +kernel
theorem dX5_wanted_23 : decode cX5_wanted 23 = .ok (.if_icmp .ge 30, 3) := by decide +kernel
theorem dX5_wanted_26 : decode cX5_wanted 26 = .ok (.aload_n 0, 1) := by decide +kernel
theorem dX5_wanted_27 : decode cX5_wanted 27 = .ok (.getfield 35, 3) := by decide +kernel
theorem dX5_wanted_30 : decode cX5_wanted 30 = .ok (.iload_n 3, 1) := by decide +kernel
theorem dX5_wanted_31 : decode cX5_wanted 31 = .ok (.invokevirtual 164, 3) := by decide +kernel
theorem dX5_wanted_34 : decode cX5_wanted 34 = .ok (.aload_n 0, 1) := by decide +kernel
theorem dX5_wanted_35 : decode cX5_wanted 35 = .ok (.getfield 35, 3) := by decide +kernel
theorem dX5_wanted_38 : decode cX5_wanted 38 = .ok (.iload_n 2, 1) := by decide +kernel
theorem dX5_wanted_39 : decode cX5_wanted 39 = .ok (.invokevirtual 164, 3) := by decide +kernel
theorem dX5_wanted_42 : decode cX5_wanted 42 = .ok (.if_icmp .le 5, 3) := by decide +kernel
theorem dX5_wanted_45 : decode cX5_wanted 45 = .ok (.iload_n 3, 1) := by decide +kernel
theorem dX5_wanted_46 : decode cX5_wanted 46 = .ok (.istore_n 2, 1) := by decide +kernel
theorem dX5_wanted_47 : decode cX5_wanted 47 = .ok (.iinc 3 1, 3) := by decide +kernel
theorem dX5_wanted_50 : decode cX5_wanted 50 = .ok (.goto (-35), 3) := by decide +kernel
theorem dX5_wanted_53 : decode cX5_wanted 53 = .ok (.iload_n 1, 1) := by decide +kernel
theorem dX5_wanted_54 : decode cX5_wanted 54 = .ok (.ifCond .ne 7, 3) := by decide +kernel
theorem dX5_wanted_57 : decode cX5_wanted 57 = .ok (.iload_n 2, 1) := by decide +kernel
theorem dX5_wanted_58 : decode cX5_wanted 58 = .ok (.goto 11, 3) := by decide +kernel
theorem dX5_wanted_61 : decode cX5_wanted 61 = .ok (.aload_n 0, 1) := by decide +kernel
theorem dX5_wanted_62 : decode cX5_wanted 62 = .ok (.getfield 35, 3) := by decide +kernel
theorem dX5_wanted_65 : decode cX5_wanted 65 = .ok (.iload_n 2, 1) := by decide +kernel
theorem dX5_wanted_66 : decode cX5_wanted 66 = .ok (.invokevirtual 164, 3) := by decide +kernel
theorem dX5_wanted_69 : decode cX5_wanted 69 = .ok (.ireturn, 1) := by decide +kernel
theorem dX5_seen_0 : decode cX5_seen 0 = .ok (.aload_n 0, 1) := by decide +kernel
theorem dX5_seen_1 : decode cX5_seen 1 = .ok (.getfield 27, 3) := by decide +kernel
theorem dX5_seen_4 : decode cX5_seen 4 = .ok (.iload_n 1, 1) := by decide +kernel
theorem dX5_seen_5 : decode cX5_seen 5 = .ok (.invokevirtual 98, 3) := by decide +kernel
theorem dX5_seen_8 : decode cX5_seen 8 = .ok (.ifCond .eq 25, 3) := by decide +kernel
theorem dX5_seen_11 : decode cX5_seen 11 = .ok (.aload_n 0, 1) := by decide +kernel
theorem dX5_seen_12 : decode cX5_seen 12 = .ok (.getfield 27, 3) := by decide +kernel
theorem dX5_seen_15 : decode cX5_seen 15 = .ok (.iload_n 2, 1) := by decide +kernel
theorem dX5_seen_16 : decode cX5_seen 16 = .ok (.invokevirtual 81, 3) := by decide +kernel
theorem dX5_seen_19 : decode cX5_seen 19 = .ok (.ifCond .eq 14, 3) := by decide +kernel
theorem dX5_seen_22 : decode cX5_seen 22 = .ok (.iload_n 3, 1) := by decide +kernel
theorem dX5_seen_23 : decode cX5_seen 23 = .ok (.iconst 1, 1) := by decide +kernel
theorem dX5_seen_24 : decode cX5_seen 24 = .ok (.if_icmp .lt 9, 3) := by decide +kernel
theorem dX5_seen_27 : decode cX5_seen 27 = .ok (.iload_n 3, 1) := by decide +kernel
theorem dX5_seen_28 : decode cX5_seen 28 = .ok (.bipush 9, 2) := by decide +kernel
theorem dX5_seen_30 : decode cX5_seen 30 = .ok (.if_icmp .le 5, 3) := by decide +kernel
theorem dX5_seen_33 : decode cX5_seen 33 = .ok (.iconst (-1), 1) := by decide +kernel
theorem dX5_seen_34 : decode cX5_seen 34 = .ok (.ireturn, 1) := by decide +kernel
theorem dX5_seen_35 : decode cX5_seen 35 = .ok (.aload_n 0, 1) := by decide +kernel
theorem dX5_seen_36 : decode cX5_seen 36 = .ok (.getfield 56, 3) := by decide +kernel
theorem dX5_seen_39 : decode cX5_seen 39 = .ok (.getfield 167, 3) := by decide +kernel
theorem dX5_seen_42 : decode cX5_seen 42 = .ok (.bipush 6, 2) := by decide +kernel
theorem dX5_seen_44 : decode cX5_seen 44 = .ok (.if_icmp .lt 6, 3) := by decide +kernel
theorem dX5_seen_47 : decode cX5_seen 47 = .ok (.bipush (-3), 2) := by decide +kernel
theorem dX5_seen_49 : decode cX5_seen 49 = .ok (.ireturn, 1) := by decide +kernel
theorem dX5_seen_50 : decode cX5_seen 50 = .ok (.aload_n 0, 1) := by decide +kernel
theorem dX5_seen_51 : decode cX5_seen 51 = .ok (.getfield 56, 3) := by decide +kernel
theorem dX5_seen_54 : decode cX5_seen 54 = .ok (.iload_n 1, 1) := by decide +kernel
theorem dX5_seen_55 : decode cX5_seen 55 = .ok (.iload_n 2, 1) := by decide +kernel
theorem dX5_seen_56 : decode cX5_seen 56 = .ok (.iload_n 3, 1) := by decide +kernel
theorem dX5_seen_57 : decode cX5_seen 57 = .ok (.invokevirtual 168, 3) := by decide +kernel
theorem dX5_seen_60 : decode cX5_seen 60 = .ok (.aload_n 0, 1) := by decide +kernel
theorem dX5_seen_61 : decode cX5_seen 61 = .ok (.getfield 56, 3) := by decide +kernel
theorem dX5_seen_64 : decode cX5_seen 64 = .ok (.getfield 167, 3) := by decide +kernel
theorem dX5_seen_67 : decode cX5_seen 67 = .ok (.ireturn, 1) := by decide +kernel
theorem dX5_forget_0 : decode cX5_forget 0 = .ok (.aload_n 0, 1) := by decide +kernel
theorem dX5_forget_1 : decode cX5_forget 1 = .ok (.getfield 56, 3) := by decide +kernel
theorem dX5_forget_4 : decode cX5_forget 4 = .ok (.getfield 167, 3) := by decide +kernel
theorem dX5_forget_7 : decode cX5_forget 7 = .ok (.istore_n 1, 1) := by decide +kernel
theorem dX5_forget_8 : decode cX5_forget 8 = .ok (.aload_n 0, 1) := by decide +kernel
theorem dX5_forget_9 : decode cX5_forget 9 = .ok (.getfield 56, 3) := by decide +kernel
theorem dX5_forget_12 : decode cX5_forget 12 = .ok (.iconst 0, 1) := by decide +kernel
theorem dX5_forget_13 : decode cX5_forget 13 = .ok (.putfield 167, 3) := by decide +kernel
theorem dX5_forget_16 : decode cX5_forget 16 = .ok (.iload_n 1, 1) := by decide +kernel
theorem dX5_forget_17 : decode cX5_forget 17 = .ok (.ireturn, 1) := by decide +kernel
theorem dX5_feigned_0 : decode cX5_feigned 0 = .ok (.iload_n 1, 1) := by decide +kernel
theorem dX5_feigned_1 : decode cX5_feigned 1 = .ok (.ifCond .lt 8, 3) := by decide +kernel
theorem dX5_feigned_4 : decode cX5_feigned 4 = .ok (.iload_n 1, 1) := by decide +kernel
theorem dX5_feigned_5 : decode cX5_feigned 5 = .ok (.iconst 1, 1) := by decide +kernel
theorem dX5_feigned_6 : decode cX5_feigned 6 = .ok (.if_icmp .le 5, 3) := by decide +kernel
theorem dX5_feigned_9 : decode cX5_feigned 9 = .ok (.iconst (-1), 1) := by decide +kernel
theorem dX5_feigned_10 : decode cX5_feigned 10 = .ok (.ireturn, 1) := by decide +kernel
theorem dX5_feigned_11 : decode cX5_feigned 11 = .ok (.iload_n 1, 1) := by decide +kernel
theorem dX5_feigned_12 : decode cX5_feigned 12 = .ok (.iconst 1, 1) := by decide +kernel
theorem dX5_feigned_13 : decode cX5_feigned 13 = .ok (.if_icmp .ne 25, 3) := by decide +kernel
theorem dX5_feigned_16 : decode cX5_feigned 16 = .ok (.aload_n 0, 1) := by decide +kernel
theorem dX5_feigned_17 : decode cX5_feigned 17 = .ok (.getfield 56, 3) := by decide +kernel
theorem dX5_feigned_20 : decode cX5_feigned 20 = .ok (.aload_n 0, 1) := by decide +kernel
theorem dX5_feigned_21 : decode cX5_feigned 21 = .ok (.getfield 39, 3) := by decide +kernel
theorem dX5_feigned_24 : decode cX5_feigned 24 = .ok (.bipush (-4), 2) := by decide +kernel
theorem dX5_feigned_26 : decode cX5_feigned 26 = .ok (.invokevirtual 171, 3) := by decide +kernel
theorem dX5_feigned_29 : decode cX5_feigned 29 = .ok (.ifCond .eq 7, 3) := by decide +kernel
theorem dX5_feigned_32 : decode cX5_feigned 32 = .ok (.iconst 1, 1) := by decide +kernel
theorem dX5_feigned_33 : decode cX5_feigned 33 = .ok (.goto 4, 3) := by decide +kernel
theorem dX5_feigned_36 : decode cX5_feigned 36 = .ok (.iconst 0, 1) := by decide +kernel
theorem dX5_feigned_37 : decode cX5_feigned 37 = .ok (.ireturn, 1) := by decide +kernel
theorem dX5_feigned_38 : decode cX5_feigned 38 = .ok (.iconst 0, 1) := by decide +kernel
theorem dX5_feigned_39 : decode cX5_feigned 39 = .ok (.istore_n 2, 1) := by decide +kernel
theorem dX5_feigned_40 : decode cX5_feigned 40 = .ok (.iconst 0, 1) := by decide +kernel
theorem dX5_feigned_41 : decode cX5_feigned 41 = .ok (.istore_n 3, 1) := by decide +kernel
theorem dX5_feigned_42 : decode cX5_feigned 42 = .ok (.iload_n 3, 1) := by decide +kernel
theorem dX5_feigned_43 : decode cX5_feigned 43 = .ok (.aload_n 0, 1) := by decide +kernel
theorem dX5_feigned_44 : decode cX5_feigned 44 = .ok (.getfield 27, 3) := by decide +kernel
theorem dX5_feigned_47 : decode cX5_feigned 47 = .ok (.getfield 175, 3) := by decide +kernel
theorem dX5_feigned_50 : decode cX5_feigned 50 = .ok (.if_icmp .ge 30, 3) := by decide +kernel
theorem dX5_feigned_53 : decode cX5_feigned 53 = .ok (.aload_n 0, 1) := by decide +kernel
theorem dX5_feigned_54 : decode cX5_feigned 54 = .ok (.getfield 56, 3) := by decide +kernel
theorem dX5_feigned_57 : decode cX5_feigned 57 = .ok (.aload_n 0, 1) := by decide +kernel
theorem dX5_feigned_58 : decode cX5_feigned 58 = .ok (.getfield 39, 3) := by decide +kernel
theorem dX5_feigned_61 : decode cX5_feigned 61 = .ok (.iload_n 3, 1) := by decide +kernel
theorem dX5_feigned_62 : decode cX5_feigned 62 = .ok (.invokevirtual 171, 3) := by decide +kernel
theorem dX5_feigned_65 : decode cX5_feigned 65 = .ok (.ifCond .eq 9, 3) := by decide +kernel
theorem dX5_feigned_68 : decode cX5_feigned 68 = .ok (.iload_n 2, 1) := by decide +kernel
theorem dX5_feigned_69 : decode cX5_feigned 69 = .ok (.iconst 1, 1) := by decide +kernel
theorem dX5_feigned_70 : decode cX5_feigned 70 = .ok (.iload_n 3, 1) := by decide +kernel
theorem dX5_feigned_71 : decode cX5_feigned 71 = .ok (.ishl, 1) := by decide +kernel
theorem dX5_feigned_72 : decode cX5_feigned 72 = .ok (.ior, 1) := by decide +kernel
theorem dX5_feigned_73 : decode cX5_feigned 73 = .ok (.istore_n 2, 1) := by decide +kernel
theorem dX5_feigned_74 : decode cX5_feigned 74 = .ok (.iinc 3 1, 3) := by decide +kernel
theorem dX5_feigned_77 : decode cX5_feigned 77 = .ok (.goto (-35), 3) := by decide +kernel
theorem dX5_feigned_80 : decode cX5_feigned 80 = .ok (.iload_n 2, 1) := by decide +kernel
theorem dX5_feigned_81 : decode cX5_feigned 81 = .ok (.ireturn, 1) := by decide +kernel
theorem dX5_counts_0 : decode cX5_counts 0 = .ok (.aload_n 0, 1) := by decide +kernel
theorem dX5_counts_1 : decode cX5_counts 1 = .ok (.getfield 27, 3) := by decide +kernel
theorem dX5_counts_4 : decode cX5_counts 4 = .ok (.iload_n 1, 1) := by decide +kernel
theorem dX5_counts_5 : decode cX5_counts 5 = .ok (.invokevirtual 81, 3) := by decide +kernel
theorem dX5_counts_8 : decode cX5_counts 8 = .ok (.ifCond .eq 21, 3) := by decide +kernel
theorem dX5_counts_11 : decode cX5_counts 11 = .ok (.iload_n 2, 1) := by decide +kernel
theorem dX5_counts_12 : decode cX5_counts 12 = .ok (.ifCond .lt 17, 3) := by decide +kernel
theorem dX5_counts_15 : decode cX5_counts 15 = .ok (.iload_n 2, 1) := by decide +kernel
theorem dX5_counts_16 : decode cX5_counts 16 = .ok (.iconst 4, 1) := by decide +kernel
theorem dX5_counts_17 : decode cX5_counts 17 = .ok (.if_icmp .gt 12, 3) := by decide +kernel
theorem dX5_counts_20 : decode cX5_counts 20 = .ok (.iload_n 3, 1) := by decide +kernel
theorem dX5_counts_21 : decode cX5_counts 21 = .ok (.ifCond .lt 8, 3) := by decide +kernel
theorem dX5_counts_24 : decode cX5_counts 24 = .ok (.iload_n 3, 1) := by decide +kernel
theorem dX5_counts_25 : decode cX5_counts 25 = .ok (.iconst 1, 1) := by decide +kernel
theorem dX5_counts_26 : decode cX5_counts 26 = .ok (.if_icmp .le 5, 3) := by decide +kernel
theorem dX5_counts_29 : decode cX5_counts 29 = .ok (.iconst (-1), 1) := by decide +kernel
theorem dX5_counts_30 : decode cX5_counts 30 = .ok (.ireturn, 1) := by decide +kernel
theorem dX5_counts_31 : decode cX5_counts 31 = .ok (.iconst 1, 1) := by decide +kernel
theorem dX5_counts_32 : decode cX5_counts 32 = .ok (.istore 4, 2) := by decide +kernel
theorem dX5_counts_34 : decode cX5_counts 34 = .ok (.iconst 1, 1) := by decide +kernel
theorem dX5_counts_35 : decode cX5_counts 35 = .ok (.istore 5, 2) := by decide +kernel
theorem dX5_counts_37 : decode cX5_counts 37 = .ok (.iconst 0, 1) := by decide +kernel
theorem dX5_counts_38 : decode cX5_counts 38 = .ok (.istore 6, 2) := by decide +kernel
theorem dX5_counts_40 : decode cX5_counts 40 = .ok (.iload 6, 2) := by decide +kernel
theorem dX5_counts_42 : decode cX5_counts 42 = .ok (.iload_n 2, 1) := by decide +kernel
theorem dX5_counts_43 : decode cX5_counts 43 = .ok (.if_icmp .ge 26, 3) := by decide +kernel
theorem dX5_counts_46 : decode cX5_counts 46 = .ok (.iload 4, 2) := by decide +kernel
theorem dX5_counts_48 : decode cX5_counts 48 = .ok (.bipush 12, 2) := by decide +kernel
theorem dX5_counts_50 : decode cX5_counts 50 = .ok (.imul, 1) := by decide +kernel
theorem dX5_counts_51 : decode cX5_counts 51 = .ok (.istore 4, 2) := by decide +kernel
theorem dX5_counts_53 : decode cX5_counts 53 = .ok (.iload 5, 2) := by decide +kernel
theorem dX5_counts_55 : decode cX5_counts 55 = .ok (.aload_n 0, 1) := by decide +kernel
theorem dX5_counts_56 : decode cX5_counts 56 = .ok (.iload_n 1, 1) := by decide +kernel
theorem dX5_counts_57 : decode cX5_counts 57 = .ok (.invokevirtual 178, 3) := by decide +kernel
theorem dX5_counts_60 : decode cX5_counts 60 = .ok (.imul, 1) := by decide +kernel
theorem dX5_counts_61 : decode cX5_counts 61 = .ok (.istore 5, 2) := by decide +kernel
theorem dX5_counts_63 : decode cX5_counts 63 = .ok (.iinc 6 1, 3) := by decide +kernel
theorem dX5_counts_66 : decode cX5_counts 66 = .ok (.goto (-26), 3) := by decide +kernel
theorem dX5_counts_69 : decode cX5_counts 69 = .ok (.iconst 1, 1) := by decide +kernel
theorem dX5_counts_70 : decode cX5_counts 70 = .ok (.iload 4, 2) := by decide +kernel
theorem dX5_counts_72 : decode cX5_counts 72 = .ok (.iload 4, 2) := by decide +kernel
theorem dX5_counts_74 : decode cX5_counts 74 = .ok (.iload 5, 2) := by decide +kernel
theorem dX5_counts_76 : decode cX5_counts 76 = .ok (.isub, 1) := by decide +kernel
theorem dX5_counts_77 : decode cX5_counts 77 = .ok (.invokestatic 181, 3) := by decide +kernel
theorem dX5_counts_80 : decode cX5_counts 80 = .ok (.invokestatic 184, 3) := by decide +kernel
theorem dX5_counts_83 : decode cX5_counts 83 = .ok (.istore 6, 2) := by decide +kernel
theorem dX5_counts_85 : decode cX5_counts 85 = .ok (.iload_n 3, 1) := by decide +kernel
theorem dX5_counts_86 : decode cX5_counts 86 = .ok (.ifCond .ne 14, 3) := by decide +kernel
theorem dX5_counts_89 : decode cX5_counts 89 = .ok (.iload 4, 2) := by decide +kernel
theorem dX5_counts_91 : decode cX5_counts 91 = .ok (.iload 5, 2) := by decide +kernel
theorem dX5_counts_93 : decode cX5_counts 93 = .ok (.isub, 1) := by decide +kernel
theorem dX5_counts_94 : decode cX5_counts 94 = .ok (.iload 6, 2) := by decide +kernel
theorem dX5_counts_96 : decode cX5_counts 96 = .ok (.idiv, 1) := by decide +kernel
theorem dX5_counts_97 : decode cX5_counts 97 = .ok (.goto 8, 3) := by decide +kernel
theorem dX5_counts_100 : decode cX5_counts 100 = .ok (.iload 4, 2) := by decide +kernel
theorem dX5_counts_102 : decode cX5_counts 102 = .ok (.iload 6, 2) := by decide +kernel
theorem dX5_counts_104 : decode cX5_counts 104 = .ok (.idiv, 1) := by decide +kernel
theorem dX5_counts_105 : decode cX5_counts 105 = .ok (.ireturn, 1) := by decide +kernel
theorem dX5_cheapest_0 : decode cX5_cheapest 0 = .ok (.aload_n 0, 1) := by decide +kernel
theorem dX5_cheapest_1 : decode cX5_cheapest 1 = .ok (.getfield 27, 3) := by decide +kernel
theorem dX5_cheapest_4 : decode cX5_cheapest 4 = .ok (.iload_n 1, 1) := by decide +kernel
theorem dX5_cheapest_5 : decode cX5_cheapest 5 = .ok (.invokevirtual 98, 3) := by decide +kernel
theorem dX5_cheapest_8 : decode cX5_cheapest 8 = .ok (.ifCond .eq 12, 3) := by decide +kernel
theorem dX5_cheapest_11 : decode cX5_cheapest 11 = .ok (.iload_n 2, 1) := by decide +kernel
theorem dX5_cheapest_12 : decode cX5_cheapest 12 = .ok (.ifCond .lt 8, 3) := by decide +kernel
theorem dX5_cheapest_15 : decode cX5_cheapest 15 = .ok (.iload_n 2, 1) := by decide +kernel
theorem dX5_cheapest_16 : decode cX5_cheapest 16 = .ok (.iconst 1, 1) := by decide +kernel
theorem dX5_cheapest_17 : decode cX5_cheapest 17 = .ok (.if_icmp .le 5, 3) := by decide +kernel
theorem dX5_cheapest_20 : decode cX5_cheapest 20 = .ok (.iconst (-1), 1) := by decide +kernel
theorem dX5_cheapest_21 : decode cX5_cheapest 21 = .ok (.ireturn, 1) := by decide +kernel
theorem dX5_cheapest_22 : decode cX5_cheapest 22 = .ok (.bipush (-4), 2) := by decide +kernel
theorem dX5_cheapest_24 : decode cX5_cheapest 24 = .ok (.istore_n 3, 1) := by decide +kernel
theorem dX5_cheapest_25 : decode cX5_cheapest 25 = .ok (.bipush (-4), 2) := by decide +kernel
theorem dX5_cheapest_27 : decode cX5_cheapest 27 = .ok (.istore 4, 2) := by decide +kernel
theorem dX5_cheapest_29 : decode cX5_cheapest 29 = .ok (.iconst 0, 1) := by decide +kernel
theorem dX5_cheapest_30 : decode cX5_cheapest 30 = .ok (.istore 5, 2) := by decide +kernel
theorem dX5_cheapest_32 : decode cX5_cheapest 32 = .ok (.iload 5, 2) := by decide +kernel
theorem dX5_cheapest_34 : decode cX5_cheapest 34 = .ok (.aload_n 0, 1) := by decide +kernel
theorem dX5_cheapest_35 : decode cX5_cheapest 35 = .ok (.getfield 27, 3) := by decide +kernel
theorem dX5_cheapest_38 : decode cX5_cheapest 38 = .ok (.getfield 175, 3) := by decide +kernel
theorem dX5_cheapest_41 : decode cX5_cheapest 41 = .ok (.if_icmp .ge 50, 3) := by decide +kernel
theorem dX5_cheapest_44 : decode cX5_cheapest 44 = .ok (.aload_n 0, 1) := by decide +kernel
theorem dX5_cheapest_45 : decode cX5_cheapest 45 = .ok (.getfield 35, 3) := by decide +kernel
theorem dX5_cheapest_48 : decode cX5_cheapest 48 = .ok (.getfield 130, 3) := by decide +kernel
theorem dX5_cheapest_51 : decode cX5_cheapest 51 = .ok (.iload 5, 2) := by decide +kernel
theorem dX5_cheapest_53 : decode cX5_cheapest 53 = .ok (.aaload, 1) := by decide +kernel
theorem dX5_cheapest_54 : decode cX5_cheapest 54 = .ok (.iload_n 1, 1) := by decide +kernel
theorem dX5_cheapest_55 : decode cX5_cheapest 55 = .ok (.iaload, 1) := by decide +kernel
theorem dX5_cheapest_56 : decode cX5_cheapest 56 = .ok (.istore 6, 2) := by decide +kernel
theorem dX5_cheapest_58 : decode cX5_cheapest 58 = .ok (.iload 6, 2) := by decide +kernel
theorem dX5_cheapest_60 : decode cX5_cheapest 60 = .ok (.bipush (-4), 2) := by decide +kernel
theorem dX5_cheapest_62 : decode cX5_cheapest 62 = .ok (.if_icmp .eq 23, 3) := by decide +kernel
theorem dX5_cheapest_65 : decode cX5_cheapest 65 = .ok (.iload_n 3, 1) := by decide +kernel
theorem dX5_cheapest_66 : decode cX5_cheapest 66 = .ok (.bipush (-4), 2) := by decide +kernel
theorem dX5_cheapest_68 : decode cX5_cheapest 68 = .ok (.if_icmp .eq 10, 3) := by decide +kernel
theorem dX5_cheapest_71 : decode cX5_cheapest 71 = .ok (.iload 6, 2) := by decide +kernel
theorem dX5_cheapest_73 : decode cX5_cheapest 73 = .ok (.iload 4, 2) := by decide +kernel
theorem dX5_cheapest_75 : decode cX5_cheapest 75 = .ok (.if_icmp .ge 10, 3) := by decide +kernel
theorem dX5_cheapest_78 : decode cX5_cheapest 78 = .ok (.iload 5, 2) := by decide +kernel
theorem dX5_cheapest_80 : decode cX5_cheapest 80 = .ok (.istore_n 3, 1) := by decide +kernel
theorem dX5_cheapest_81 : decode cX5_cheapest 81 = .ok (.iload 6, 2) := by decide +kernel
theorem dX5_cheapest_83 : decode cX5_cheapest 83 = .ok (.istore 4, 2) := by decide +kernel
theorem dX5_cheapest_85 : decode cX5_cheapest 85 = .ok (.iinc 5 1, 3) := by decide +kernel
theorem dX5_cheapest_88 : decode cX5_cheapest 88 = .ok (.goto (-56), 3) := by decide +kernel
theorem dX5_cheapest_91 : decode cX5_cheapest 91 = .ok (.iload_n 2, 1) := by decide +kernel
theorem dX5_cheapest_92 : decode cX5_cheapest 92 = .ok (.ifCond .ne 7, 3) := by decide +kernel
theorem dX5_cheapest_95 : decode cX5_cheapest 95 = .ok (.iload_n 3, 1) := by decide +kernel
theorem dX5_cheapest_96 : decode cX5_cheapest 96 = .ok (.goto 5, 3) := by decide +kernel
theorem dX5_cheapest_99 : decode cX5_cheapest 99 = .ok (.iload 4, 2) := by decide +kernel
theorem dX5_cheapest_101 : decode cX5_cheapest 101 = .ok (.ireturn, 1) := by decide +kernel
theorem dX5_greens_0 : decode cX5_greens 0 = .ok (.iload_n 1, 1) := by decide +kernel
theorem dX5_greens_1 : decode cX5_greens 1 = .ok (.ifCond .lt 30, 3) := by decide +kernel
theorem dX5_greens_4 : decode cX5_greens 4 = .ok (.iload_n 1, 1) := by decide +kernel
theorem dX5_greens_5 : decode cX5_greens 5 = .ok (.sipush 9999, 3) := by decide +kernel
theorem dX5_greens_8 : decode cX5_greens 8 = .ok (.if_icmp .gt 23, 3) := by decide +kernel
theorem dX5_greens_11 : decode cX5_greens 11 = .ok (.iload_n 2, 1) := by decide +kernel
theorem dX5_greens_12 : decode cX5_greens 12 = .ok (.iconst 1, 1) := by decide +kernel
theorem dX5_greens_13 : decode cX5_greens 13 = .ok (.if_icmp .lt 18, 3) := by decide +kernel
theorem dX5_greens_16 : decode cX5_greens 16 = .ok (.iload_n 2, 1) := by decide +kernel
theorem dX5_greens_17 : decode cX5_greens 17 = .ok (.bipush 9, 2) := by decide +kernel
theorem dX5_greens_19 : decode cX5_greens 19 = .ok (.if_icmp .gt 12, 3) := by decide +kernel
theorem dX5_greens_22 : decode cX5_greens 22 = .ok (.iload_n 3, 1) := by decide +kernel
theorem dX5_greens_23 : decode cX5_greens 23 = .ok (.ifCond .lt 8, 3) := by decide +kernel
theorem dX5_greens_26 : decode cX5_greens 26 = .ok (.iload_n 3, 1) := by decide +kernel
theorem dX5_greens_27 : decode cX5_greens 27 = .ok (.iconst 1, 1) := by decide +kernel
theorem dX5_greens_28 : decode cX5_greens 28 = .ok (.if_icmp .le 5, 3) := by decide +kernel
theorem dX5_greens_31 : decode cX5_greens 31 = .ok (.iconst (-1), 1) := by decide +kernel
theorem dX5_greens_32 : decode cX5_greens 32 = .ok (.ireturn, 1) := by decide +kernel
theorem dX5_greens_33 : decode cX5_greens 33 = .ok (.aload_n 0, 1) := by decide +kernel
theorem dX5_greens_34 : decode cX5_greens 34 = .ok (.getfield 39, 3) := by decide +kernel
theorem dX5_greens_37 : decode cX5_greens 37 = .ok (.aload_n 0, 1) := by decide +kernel
theorem dX5_greens_38 : decode cX5_greens 38 = .ok (.getfield 35, 3) := by decide +kernel
theorem dX5_greens_41 : decode cX5_greens 41 = .ok (.invokevirtual 151, 3) := by decide +kernel
theorem dX5_greens_44 : decode cX5_greens 44 = .ok (.iconst 0, 1) := by decide +kernel
end
section
theorem dX5_greens_45 : decode cX5_greens 45 = .ok (.istore 4, 2) := by decide +kernel
theorem dX5_greens_47 : decode cX5_greens 47 = .ok (.iload 4, 2) := by decide +kernel
theorem dX5_greens_49 : decode cX5_greens 49 = .ok (.iload_n 2, 1) := by decide +kernel
theorem dX5_greens_50 : decode cX5_greens 50 = .ok (.if_icmp .ge 27, 3) := by decide +kernel
theorem dX5_greens_53 : decode cX5_greens 53 = .ok (.aload_n 0, 1) := by decide +kernel
theorem dX5_greens_54 : decode cX5_greens 54 = .ok (.iload_n 1, 1) := by decide +kernel
theorem dX5_greens_55 : decode cX5_greens 55 = .ok (.iload 4, 2) := by decide +kernel
theorem dX5_greens_57 : decode cX5_greens 57 = .ok (.invokestatic 189, 3) := by decide +kernel
theorem dX5_greens_60 : decode cX5_greens 60 = .ok (.invokevirtual 192, 3) := by decide +kernel
theorem dX5_greens_63 : decode cX5_greens 63 = .ok (.aload_n 0, 1) := by decide +kernel
theorem dX5_greens_64 : decode cX5_greens 64 = .ok (.getfield 39, 3) := by decide +kernel
theorem dX5_greens_67 : decode cX5_greens 67 = .ok (.invokevirtual 141, 3) := by decide +kernel
theorem dX5_greens_70 : decode cX5_greens 70 = .ok (.pop, 1) := by decide +kernel
theorem dX5_greens_71 : decode cX5_greens 71 = .ok (.iinc 4 1, 3) := by decide +kernel
theorem dX5_greens_74 : decode cX5_greens 74 = .ok (.goto (-27), 3) := by decide +kernel
theorem dX5_greens_77 : decode cX5_greens 77 = .ok (.iload_n 3, 1) := by decide +kernel
theorem dX5_greens_78 : decode cX5_greens 78 = .ok (.ifCond .ne 13, 3) := by decide +kernel
theorem dX5_greens_81 : decode cX5_greens 81 = .ok (.aload_n 0, 1) := by decide +kernel
theorem dX5_greens_82 : decode cX5_greens 82 = .ok (.getfield 39, 3) := by decide +kernel
theorem dX5_greens_85 : decode cX5_greens 85 = .ok (.invokevirtual 195, 3) := by decide +kernel
theorem dX5_greens_88 : decode cX5_greens 88 = .ok (.goto 10, 3) := by decide +kernel
theorem dX5_greens_91 : decode cX5_greens 91 = .ok (.aload_n 0, 1) := by decide +kernel
theorem dX5_greens_92 : decode cX5_greens 92 = .ok (.getfield 39, 3) := by decide +kernel
theorem dX5_greens_95 : decode cX5_greens 95 = .ok (.invokevirtual 198, 3) := by decide +kernel
theorem dX5_greens_98 : decode cX5_greens 98 = .ok (.ireturn, 1) := by decide +kernel
theorem dX5_keep_0 : decode cX5_keep 0 = .ok (.aload_n 0, 1) := by decide +kernel
theorem dX5_keep_1 : decode cX5_keep 1 = .ok (.getfield 201, 3) := by decide +kernel
theorem dX5_keep_4 : decode cX5_keep 4 = .ok (.iconst 2, 1) := by decide +kernel
theorem dX5_keep_5 : decode cX5_keep 5 = .ok (.if_icmp .lt 6, 3) := by decide +kernel
theorem dX5_keep_8 : decode cX5_keep 8 = .ok (.bipush (-3), 2) := by decide +kernel
theorem dX5_keep_10 : decode cX5_keep 10 = .ok (.ireturn, 1) := by decide +kernel
theorem dX5_keep_11 : decode cX5_keep 11 = .ok (.aload_n 0, 1) := by decide +kernel
theorem dX5_keep_12 : decode cX5_keep 12 = .ok (.getfield 49, 3) := by decide +kernel
theorem dX5_keep_15 : decode cX5_keep 15 = .ok (.aload_n 0, 1) := by decide +kernel
theorem dX5_keep_16 : decode cX5_keep 16 = .ok (.getfield 201, 3) := by decide +kernel
theorem dX5_keep_19 : decode cX5_keep 19 = .ok (.aaload, 1) := by decide +kernel
theorem dX5_keep_20 : decode cX5_keep 20 = .ok (.aload_n 0, 1) := by decide +kernel
theorem dX5_keep_21 : decode cX5_keep 21 = .ok (.getfield 35, 3) := by decide +kernel
theorem dX5_keep_24 : decode cX5_keep 24 = .ok (.invokevirtual 151, 3) := by decide +kernel
theorem dX5_keep_27 : decode cX5_keep 27 = .ok (.aload_n 0, 1) := by decide +kernel
theorem dX5_keep_28 : decode cX5_keep 28 = .ok (.dup, 1) := by decide +kernel
theorem dX5_keep_29 : decode cX5_keep 29 = .ok (.getfield 201, 3) := by decide +kernel
theorem dX5_keep_32 : decode cX5_keep 32 = .ok (.iconst 1, 1) := by decide +kernel
theorem dX5_keep_33 : decode cX5_keep 33 = .ok (.iadd, 1) := by decide +kernel
theorem dX5_keep_34 : decode cX5_keep 34 = .ok (.putfield 201, 3) := by decide +kernel
theorem dX5_keep_37 : decode cX5_keep 37 = .ok (.aload_n 0, 1) := by decide +kernel
theorem dX5_keep_38 : decode cX5_keep 38 = .ok (.getfield 201, 3) := by decide +kernel
theorem dX5_keep_41 : decode cX5_keep 41 = .ok (.ireturn, 1) := by decide +kernel
theorem dX5_back_0 : decode cX5_back 0 = .ok (.aload_n 0, 1) := by decide +kernel
theorem dX5_back_1 : decode cX5_back 1 = .ok (.getfield 201, 3) := by decide +kernel
theorem dX5_back_4 : decode cX5_back 4 = .ok (.ifCond .ne 6, 3) := by decide +kernel
theorem dX5_back_7 : decode cX5_back 7 = .ok (.bipush (-2), 2) := by decide +kernel
theorem dX5_back_9 : decode cX5_back 9 = .ok (.ireturn, 1) := by decide +kernel
theorem dX5_back_10 : decode cX5_back 10 = .ok (.aload_n 0, 1) := by decide +kernel
theorem dX5_back_11 : decode cX5_back 11 = .ok (.dup, 1) := by decide +kernel
theorem dX5_back_12 : decode cX5_back 12 = .ok (.getfield 201, 3) := by decide +kernel
theorem dX5_back_15 : decode cX5_back 15 = .ok (.iconst 1, 1) := by decide +kernel
theorem dX5_back_16 : decode cX5_back 16 = .ok (.isub, 1) := by decide +kernel
theorem dX5_back_17 : decode cX5_back 17 = .ok (.putfield 201, 3) := by decide +kernel
theorem dX5_back_20 : decode cX5_back 20 = .ok (.aload_n 0, 1) := by decide +kernel
theorem dX5_back_21 : decode cX5_back 21 = .ok (.getfield 35, 3) := by decide +kernel
theorem dX5_back_24 : decode cX5_back 24 = .ok (.aload_n 0, 1) := by decide +kernel
theorem dX5_back_25 : decode cX5_back 25 = .ok (.getfield 49, 3) := by decide +kernel
theorem dX5_back_28 : decode cX5_back 28 = .ok (.aload_n 0, 1) := by decide +kernel
theorem dX5_back_29 : decode cX5_back 29 = .ok (.getfield 201, 3) := by decide +kernel
theorem dX5_back_32 : decode cX5_back 32 = .ok (.aaload, 1) := by decide +kernel
theorem dX5_back_33 : decode cX5_back 33 = .ok (.invokevirtual 151, 3) := by decide +kernel
theorem dX5_back_36 : decode cX5_back 36 = .ok (.aload_n 0, 1) := by decide +kernel
theorem dX5_back_37 : decode cX5_back 37 = .ok (.getfield 45, 3) := by decide +kernel
theorem dX5_back_40 : decode cX5_back 40 = .ok (.iconst 0, 1) := by decide +kernel
theorem dX5_back_41 : decode cX5_back 41 = .ok (.putfield 145, 3) := by decide +kernel
theorem dX5_back_44 : decode cX5_back 44 = .ok (.aload_n 0, 1) := by decide +kernel
theorem dX5_back_45 : decode cX5_back 45 = .ok (.getfield 201, 3) := by decide +kernel
theorem dX5_back_48 : decode cX5_back 48 = .ok (.ireturn, 1) := by decide +kernel
theorem dX5_count_0 : decode cX5_count 0 = .ok (.iload_n 1, 1) := by decide +kernel
theorem dX5_count_1 : decode cX5_count 1 = .ok (.tableswitch 117 0 8 #[51, 59, 67, 75, 83, 91, 99, 107, 112], 51) := by decide +kernel
theorem dX5_count_52 : decode cX5_count 52 = .ok (.aload_n 0, 1) := by decide +kernel
theorem dX5_count_53 : decode cX5_count 53 = .ok (.getfield 27, 3) := by decide +kernel
theorem dX5_count_56 : decode cX5_count 56 = .ok (.getfield 175, 3) := by decide +kernel
theorem dX5_count_59 : decode cX5_count 59 = .ok (.ireturn, 1) := by decide +kernel
theorem dX5_count_60 : decode cX5_count 60 = .ok (.aload_n 0, 1) := by decide +kernel
theorem dX5_count_61 : decode cX5_count 61 = .ok (.getfield 27, 3) := by decide +kernel
theorem dX5_count_64 : decode cX5_count 64 = .ok (.getfield 78, 3) := by decide +kernel
theorem dX5_count_67 : decode cX5_count 67 = .ok (.ireturn, 1) := by decide +kernel
theorem dX5_count_68 : decode cX5_count 68 = .ok (.aload_n 0, 1) := by decide +kernel
theorem dX5_count_69 : decode cX5_count 69 = .ok (.getfield 35, 3) := by decide +kernel
theorem dX5_count_72 : decode cX5_count 72 = .ok (.getfield 101, 3) := by decide +kernel
theorem dX5_count_75 : decode cX5_count 75 = .ok (.ireturn, 1) := by decide +kernel
theorem dX5_count_76 : decode cX5_count 76 = .ok (.aload_n 0, 1) := by decide +kernel
theorem dX5_count_77 : decode cX5_count 77 = .ok (.getfield 35, 3) := by decide +kernel
theorem dX5_count_80 : decode cX5_count 80 = .ok (.invokevirtual 195, 3) := by decide +kernel
theorem dX5_count_83 : decode cX5_count 83 = .ok (.ireturn, 1) := by decide +kernel
theorem dX5_count_84 : decode cX5_count 84 = .ok (.aload_n 0, 1) := by decide +kernel
theorem dX5_count_85 : decode cX5_count 85 = .ok (.getfield 35, 3) := by decide +kernel
theorem dX5_count_88 : decode cX5_count 88 = .ok (.invokevirtual 198, 3) := by decide +kernel
theorem dX5_count_91 : decode cX5_count 91 = .ok (.ireturn, 1) := by decide +kernel
theorem dX5_count_92 : decode cX5_count 92 = .ok (.aload_n 0, 1) := by decide +kernel
theorem dX5_count_93 : decode cX5_count 93 = .ok (.getfield 56, 3) := by decide +kernel
theorem dX5_count_96 : decode cX5_count 96 = .ok (.getfield 167, 3) := by decide +kernel
theorem dX5_count_99 : decode cX5_count 99 = .ok (.ireturn, 1) := by decide +kernel
theorem dX5_count_100 : decode cX5_count 100 = .ok (.aload_n 0, 1) := by decide +kernel
theorem dX5_count_101 : decode cX5_count 101 = .ok (.getfield 45, 3) := by decide +kernel
theorem dX5_count_104 : decode cX5_count 104 = .ok (.getfield 145, 3) := by decide +kernel
theorem dX5_count_107 : decode cX5_count 107 = .ok (.ireturn, 1) := by decide +kernel
theorem dX5_count_108 : decode cX5_count 108 = .ok (.aload_n 0, 1) := by decide +kernel
theorem dX5_count_109 : decode cX5_count 109 = .ok (.getfield 201, 3) := by decide +kernel
theorem dX5_count_112 : decode cX5_count 112 = .ok (.ireturn, 1) := by decide +kernel
theorem dX5_count_113 : decode cX5_count 113 = .ok (.aload_n 0, 1) := by decide +kernel
theorem dX5_count_114 : decode cX5_count 114 = .ok (.getfield 66, 3) := by decide +kernel
theorem dX5_count_117 : decode cX5_count 117 = .ok (.ireturn, 1) := by decide +kernel
theorem dX5_count_118 : decode cX5_count 118 = .ok (.iconst (-1), 1) := by decide +kernel
theorem dX5_count_119 : decode cX5_count 119 = .ok (.ireturn, 1) := by decide +kernel
theorem dX5_putFirstText_0 : decode cX5_putFirstText 0 = .ok (.aload_n 0, 1) := by decide +kernel
theorem dX5_putFirstText_1 : decode cX5_putFirstText 1 = .ok (.ldc 204, 2) := by decide +kernel
theorem dX5_putFirstText_3 : decode cX5_putFirstText 3 = .ok (.invokevirtual 206, 3) := by decide +kernel
theorem dX5_putFirstText_6 : decode cX5_putFirstText 6 = .ok (.sipush 200, 3) := by decide +kernel
theorem dX5_putFirstText_9 : decode cX5_putFirstText 9 = .ok (.invokestatic 211, 3) := by decide +kernel
theorem dX5_putFirstText_12 : decode cX5_putFirstText 12 = .ok (.putfield 66, 3) := by decide +kernel
theorem dX5_putFirstText_15 : decode cX5_putFirstText 15 = .ok (.iconst 0, 1) := by decide +kernel
theorem dX5_putFirstText_16 : decode cX5_putFirstText 16 = .ok (.istore_n 1, 1) := by decide +kernel
theorem dX5_putFirstText_17 : decode cX5_putFirstText 17 = .ok (.iload_n 1, 1) := by decide +kernel
theorem dX5_putFirstText_18 : decode cX5_putFirstText 18 = .ok (.aload_n 0, 1) := by decide +kernel
theorem dX5_putFirstText_19 : decode cX5_putFirstText 19 = .ok (.getfield 66, 3) := by decide +kernel
theorem dX5_putFirstText_22 : decode cX5_putFirstText 22 = .ok (.if_icmp .ge 21, 3) := by decide +kernel
theorem dX5_putFirstText_25 : decode cX5_putFirstText 25 = .ok (.aload_n 0, 1) := by decide +kernel
theorem dX5_putFirstText_26 : decode cX5_putFirstText 26 = .ok (.getfield 9, 3) := by decide +kernel
theorem dX5_putFirstText_29 : decode cX5_putFirstText 29 = .ok (.iload_n 1, 1) := by decide +kernel
theorem dX5_putFirstText_30 : decode cX5_putFirstText 30 = .ok (.ldc 204, 2) := by decide +kernel
theorem dX5_putFirstText_32 : decode cX5_putFirstText 32 = .ok (.iload_n 1, 1) := by decide +kernel
theorem dX5_putFirstText_33 : decode cX5_putFirstText 33 = .ok (.invokevirtual 214, 3) := by decide +kernel
theorem dX5_putFirstText_36 : decode cX5_putFirstText 36 = .ok (.iastore, 1) := by decide +kernel
theorem dX5_putFirstText_37 : decode cX5_putFirstText 37 = .ok (.iinc 1 1, 3) := by decide +kernel
theorem dX5_putFirstText_40 : decode cX5_putFirstText 40 = .ok (.goto (-23), 3) := by decide +kernel
theorem dX5_putFirstText_43 : decode cX5_putFirstText 43 = .ok (.return_, 1) := by decide +kernel
theorem dX5_layTheText_0 : decode cX5_layTheText 0 = .ok (.aload_n 0, 1) := by decide +kernel
theorem dX5_layTheText_1 : decode cX5_layTheText 1 = .ok (.getfield 16, 3) := by decide +kernel
theorem dX5_layTheText_4 : decode cX5_layTheText 4 = .ok (.aload_n 0, 1) := by decide +kernel
theorem dX5_layTheText_5 : decode cX5_layTheText 5 = .ok (.getfield 9, 3) := by decide +kernel
theorem dX5_layTheText_8 : decode cX5_layTheText 8 = .ok (.aload_n 0, 1) := by decide +kernel
theorem dX5_layTheText_9 : decode cX5_layTheText 9 = .ok (.getfield 66, 3) := by decide +kernel
theorem dX5_layTheText_12 : decode cX5_layTheText 12 = .ok (.aload_n 0, 1) := by decide +kernel
theorem dX5_layTheText_13 : decode cX5_layTheText 13 = .ok (.getfield 27, 3) := by decide +kernel
theorem dX5_layTheText_16 : decode cX5_layTheText 16 = .ok (.invokevirtual 70, 3) := by decide +kernel
theorem dX5_layTheText_19 : decode cX5_layTheText 19 = .ok (.pop, 1) := by decide +kernel
theorem dX5_layTheText_20 : decode cX5_layTheText 20 = .ok (.aload_n 0, 1) := by decide +kernel
theorem dX5_layTheText_21 : decode cX5_layTheText 21 = .ok (.getfield 35, 3) := by decide +kernel
theorem dX5_layTheText_24 : decode cX5_layTheText 24 = .ok (.bipush (-4), 2) := by decide +kernel
theorem dX5_layTheText_26 : decode cX5_layTheText 26 = .ok (.invokevirtual 218, 3) := by decide +kernel
theorem dX5_layTheText_29 : decode cX5_layTheText 29 = .ok (.aload_n 0, 1) := by decide +kernel
theorem dX5_layTheText_30 : decode cX5_layTheText 30 = .ok (.getfield 45, 3) := by decide +kernel
theorem dX5_layTheText_33 : decode cX5_layTheText 33 = .ok (.iconst 0, 1) := by decide +kernel
theorem dX5_layTheText_34 : decode cX5_layTheText 34 = .ok (.putfield 145, 3) := by decide +kernel
theorem dX5_layTheText_37 : decode cX5_layTheText 37 = .ok (.aload_n 0, 1) := by decide +kernel
theorem dX5_layTheText_38 : decode cX5_layTheText 38 = .ok (.iconst 0, 1) := by decide +kernel
theorem dX5_layTheText_39 : decode cX5_layTheText 39 = .ok (.putfield 201, 3) := by decide +kernel
theorem dX5_layTheText_42 : decode cX5_layTheText 42 = .ok (.aload_n 0, 1) := by decide +kernel
theorem dX5_layTheText_43 : decode cX5_layTheText 43 = .ok (.getfield 56, 3) := by decide +kernel
theorem dX5_layTheText_46 : decode cX5_layTheText 46 = .ok (.iconst 0, 1) := by decide +kernel
theorem dX5_layTheText_47 : decode cX5_layTheText 47 = .ok (.putfield 167, 3) := by decide +kernel
theorem dX5_layTheText_50 : decode cX5_layTheText 50 = .ok (.return_, 1) := by decide +kernel
theorem dX5_uncountedDraws_0 : decode cX5_uncountedDraws 0 = .ok (.iconst 0, 1) := by decide +kernel
theorem dX5_uncountedDraws_1 : decode cX5_uncountedDraws 1 = .ok (.istore_n 2, 1) := by decide +kernel
theorem dX5_uncountedDraws_2 : decode cX5_uncountedDraws 2 = .ok (.iconst 1, 1) := by decide +kernel
theorem dX5_uncountedDraws_3 : decode cX5_uncountedDraws 3 = .ok (.istore_n 3, 1) := by decide +kernel
theorem dX5_uncountedDraws_4 : decode cX5_uncountedDraws 4 = .ok (.iload_n 3, 1) := by decide +kernel
theorem dX5_uncountedDraws_5 : decode cX5_uncountedDraws 5 = .ok (.bipush 12, 2) := by decide +kernel
theorem dX5_uncountedDraws_7 : decode cX5_uncountedDraws 7 = .ok (.if_icmp .gt 26, 3) := by decide +kernel
theorem dX5_uncountedDraws_10 : decode cX5_uncountedDraws 10 = .ok (.aload_n 0, 1) := by decide +kernel
theorem dX5_uncountedDraws_11 : decode cX5_uncountedDraws 11 = .ok (.getfield 27, 3) := by decide +kernel
theorem dX5_uncountedDraws_14 : decode cX5_uncountedDraws 14 = .ok (.iload_n 1, 1) := by decide +kernel
theorem dX5_uncountedDraws_15 : decode cX5_uncountedDraws 15 = .ok (.iload_n 3, 1) := by decide +kernel
theorem dX5_uncountedDraws_16 : decode cX5_uncountedDraws 16 = .ok (.invokevirtual 221, 3) := by decide +kernel
theorem dX5_uncountedDraws_19 : decode cX5_uncountedDraws 19 = .ok (.bipush 9, 2) := by decide +kernel
theorem dX5_uncountedDraws_21 : decode cX5_uncountedDraws 21 = .ok (.if_icmp .ge 6, 3) := by decide +kernel
theorem dX5_uncountedDraws_24 : decode cX5_uncountedDraws 24 = .ok (.iinc 2 1, 3) := by decide +kernel
theorem dX5_uncountedDraws_27 : decode cX5_uncountedDraws 27 = .ok (.iinc 3 1, 3) := by decide +kernel
theorem dX5_uncountedDraws_30 : decode cX5_uncountedDraws 30 = .ok (.goto (-26), 3) := by decide +kernel
theorem dX5_uncountedDraws_33 : decode cX5_uncountedDraws 33 = .ok (.iload_n 2, 1) := by decide +kernel
theorem dX5_uncountedDraws_34 : decode cX5_uncountedDraws 34 = .ok (.ireturn, 1) := by decide +kernel
theorem dX5_greatestDivisor_0 : decode cX5_greatestDivisor 0 = .ok (.iload_n 0, 1) := by decide +kernel
theorem dX5_greatestDivisor_1 : decode cX5_greatestDivisor 1 = .ok (.istore_n 2, 1) := by decide +kernel
theorem dX5_greatestDivisor_2 : decode cX5_greatestDivisor 2 = .ok (.iload_n 1, 1) := by decide +kernel
theorem dX5_greatestDivisor_3 : decode cX5_greatestDivisor 3 = .ok (.istore_n 3, 1) := by decide +kernel
theorem dX5_greatestDivisor_4 : decode cX5_greatestDivisor 4 = .ok (.iconst 0, 1) := by decide +kernel
theorem dX5_greatestDivisor_5 : decode cX5_greatestDivisor 5 = .ok (.istore 4, 2) := by decide +kernel
theorem dX5_greatestDivisor_7 : decode cX5_greatestDivisor 7 = .ok (.iload 4, 2) := by decide +kernel
theorem dX5_greatestDivisor_9 : decode cX5_greatestDivisor 9 = .ok (.bipush 100, 2) := by decide +kernel
theorem dX5_greatestDivisor_11 : decode cX5_greatestDivisor 11 = .ok (.if_icmp .ge 23, 3) := by decide +kernel
theorem dX5_greatestDivisor_14 : decode cX5_greatestDivisor 14 = .ok (.iload_n 3, 1) := by decide +kernel
theorem dX5_greatestDivisor_15 : decode cX5_greatestDivisor 15 = .ok (.ifCond .eq 19, 3) := by decide +kernel
theorem dX5_greatestDivisor_18 : decode cX5_greatestDivisor 18 = .ok (.iload_n 2, 1) := by decide +kernel
theorem dX5_greatestDivisor_19 : decode cX5_greatestDivisor 19 = .ok (.iload_n 3, 1) := by decide +kernel
theorem dX5_greatestDivisor_20 : decode cX5_greatestDivisor 20 = .ok (.irem, 1) := by decide +kernel
theorem dX5_greatestDivisor_21 : decode cX5_greatestDivisor 21 = .ok (.istore 5, 2) := by decide +kernel
theorem dX5_greatestDivisor_23 : decode cX5_greatestDivisor 23 = .ok (.iload_n 3, 1) := by decide +kernel
theorem dX5_greatestDivisor_24 : decode cX5_greatestDivisor 24 = .ok (.istore_n 2, 1) := by decide +kernel
theorem dX5_greatestDivisor_25 : decode cX5_greatestDivisor 25 = .ok (.iload 5, 2) := by decide +kernel
theorem dX5_greatestDivisor_27 : decode cX5_greatestDivisor 27 = .ok (.istore_n 3, 1) := by decide +kernel
theorem dX5_greatestDivisor_28 : decode cX5_greatestDivisor 28 = .ok (.iinc 4 1, 3) := by decide +kernel
theorem dX5_greatestDivisor_31 : decode cX5_greatestDivisor 31 = .ok (.goto (-24), 3) := by decide +kernel
theorem dX5_greatestDivisor_34 : decode cX5_greatestDivisor 34 = .ok (.iload_n 2, 1) := by decide +kernel
theorem dX5_greatestDivisor_35 : decode cX5_greatestDivisor 35 = .ok (.ireturn, 1) := by decide +kernel
theorem dX5_draw_0 : decode cX5_draw 0 = .ok (.ldc2_w 224, 3) := by decide +kernel
theorem dX5_draw_3 : decode cX5_draw 3 = .ok (.iload_n 0, 1) := by decide +kernel
theorem dX5_draw_4 : decode cX5_draw 4 = .ok (.i2l, 1) := by decide +kernel
theorem dX5_draw_5 : decode cX5_draw 5 = .ok (.lmul, 1) := by decide +kernel
theorem dX5_draw_6 : decode cX5_draw 6 = .ok (.ldc2_w 226, 3) := by decide +kernel
theorem dX5_draw_9 : decode cX5_draw 9 = .ok (.iload_n 1, 1) := by decide +kernel
theorem dX5_draw_10 : decode cX5_draw 10 = .ok (.i2l, 1) := by decide +kernel
theorem dX5_draw_11 : decode cX5_draw 11 = .ok (.lmul, 1) := by decide +kernel
theorem dX5_draw_12 : decode cX5_draw 12 = .ok (.ladd, 1) := by decide +kernel
theorem dX5_draw_13 : decode cX5_draw 13 = .ok (.lconst 1, 1) := by decide +kernel
theorem dX5_draw_14 : decode cX5_draw 14 = .ok (.ladd, 1) := by decide +kernel
theorem dX5_draw_15 : decode cX5_draw 15 = .ok (.lstore_n 2, 1) := by decide +kernel
theorem dX5_draw_16 : decode cX5_draw 16 = .ok (.lload_n 2, 1) := by decide +kernel
theorem dX5_draw_17 : decode cX5_draw 17 = .ok (.lload_n 2, 1) := by decide +kernel
theorem dX5_draw_18 : decode cX5_draw 18 = .ok (.lmul, 1) := by decide +kernel
theorem dX5_draw_19 : decode cX5_draw 19 = .ok (.ldc2_w 228, 3) := by decide +kernel
theorem dX5_draw_22 : decode cX5_draw 22 = .ok (.lrem, 1) := by decide +kernel
theorem dX5_draw_23 : decode cX5_draw 23 = .ok (.ldc2_w 230, 3) := by decide +kernel
theorem dX5_draw_26 : decode cX5_draw 26 = .ok (.ldiv, 1) := by decide +kernel
theorem dX5_draw_27 : decode cX5_draw 27 = .ok (.l2i, 1) := by decide +kernel
theorem dX5_draw_28 : decode cX5_draw 28 = .ok (.ireturn, 1) := by decide +kernel
theorem dX5_addDrawnPause_0 : decode cX5_addDrawnPause 0 = .ok (.aload_n 0, 1) := by decide +kernel
theorem dX5_addDrawnPause_1 : decode cX5_addDrawnPause 1 = .ok (.getfield 27, 3) := by decide +kernel
theorem dX5_addDrawnPause_4 : decode cX5_addDrawnPause 4 = .ok (.getfield 175, 3) := by decide +kernel
theorem dX5_addDrawnPause_7 : decode cX5_addDrawnPause 7 = .ok (.ifCond .le 50, 3) := by decide +kernel
theorem dX5_addDrawnPause_10 : decode cX5_addDrawnPause 10 = .ok (.aload_n 0, 1) := by decide +kernel
theorem dX5_addDrawnPause_11 : decode cX5_addDrawnPause 11 = .ok (.getfield 27, 3) := by decide +kernel
theorem dX5_addDrawnPause_14 : decode cX5_addDrawnPause 14 = .ok (.getfield 78, 3) := by decide +kernel
theorem dX5_addDrawnPause_17 : decode cX5_addDrawnPause 17 = .ok (.ifCond .le 40, 3) := by decide +kernel
theorem dX5_addDrawnPause_20 : decode cX5_addDrawnPause 20 = .ok (.aload_n 0, 1) := by decide +kernel
theorem dX5_addDrawnPause_21 : decode cX5_addDrawnPause 21 = .ok (.getfield 39, 3) := by decide +kernel
theorem dX5_addDrawnPause_24 : decode cX5_addDrawnPause 24 = .ok (.iload_n 1, 1) := by decide +kernel
theorem dX5_addDrawnPause_25 : decode cX5_addDrawnPause 25 = .ok (.aload_n 0, 1) := by decide +kernel
theorem dX5_addDrawnPause_26 : decode cX5_addDrawnPause 26 = .ok (.getfield 27, 3) := by decide +kernel
theorem dX5_addDrawnPause_29 : decode cX5_addDrawnPause 29 = .ok (.getfield 175, 3) := by decide +kernel
theorem dX5_addDrawnPause_32 : decode cX5_addDrawnPause 32 = .ok (.irem, 1) := by decide +kernel
theorem dX5_addDrawnPause_33 : decode cX5_addDrawnPause 33 = .ok (.iload_n 1, 1) := by decide +kernel
theorem dX5_addDrawnPause_34 : decode cX5_addDrawnPause 34 = .ok (.bipush 8, 2) := by decide +kernel
theorem dX5_addDrawnPause_36 : decode cX5_addDrawnPause 36 = .ok (.idiv, 1) := by decide +kernel
theorem dX5_addDrawnPause_37 : decode cX5_addDrawnPause 37 = .ok (.aload_n 0, 1) := by decide +kernel
theorem dX5_addDrawnPause_38 : decode cX5_addDrawnPause 38 = .ok (.getfield 27, 3) := by decide +kernel
theorem dX5_addDrawnPause_41 : decode cX5_addDrawnPause 41 = .ok (.getfield 78, 3) := by decide +kernel
theorem dX5_addDrawnPause_44 : decode cX5_addDrawnPause 44 = .ok (.irem, 1) := by decide +kernel
theorem dX5_addDrawnPause_45 : decode cX5_addDrawnPause 45 = .ok (.iconst 1, 1) := by decide +kernel
theorem dX5_addDrawnPause_46 : decode cX5_addDrawnPause 46 = .ok (.iload_n 1, 1) := by decide +kernel
theorem dX5_addDrawnPause_47 : decode cX5_addDrawnPause 47 = .ok (.bipush 64, 2) := by decide +kernel
theorem dX5_addDrawnPause_49 : decode cX5_addDrawnPause 49 = .ok (.idiv, 1) := by decide +kernel
theorem dX5_addDrawnPause_50 : decode cX5_addDrawnPause 50 = .ok (.bipush 12, 2) := by decide +kernel
theorem dX5_addDrawnPause_52 : decode cX5_addDrawnPause 52 = .ok (.irem, 1) := by decide +kernel
theorem dX5_addDrawnPause_53 : decode cX5_addDrawnPause 53 = .ok (.iadd, 1) := by decide +kernel
theorem dX5_addDrawnPause_54 : decode cX5_addDrawnPause 54 = .ok (.invokevirtual 137, 3) := by decide +kernel
theorem dX5_addDrawnPause_57 : decode cX5_addDrawnPause 57 = .ok (.return_, 1) := by decide +kernel
theorem dX6_init_0 : decode cX6_init 0 = .ok (.aload_n 0, 1) := by decide +kernel
theorem dX6_init_1 : decode cX6_init 1 = .ok (.invokespecial 1, 3) := by decide +kernel
theorem dX6_init_4 : decode cX6_init 4 = .ok (.aload_n 0, 1) := by decide +kernel
theorem dX6_init_5 : decode cX6_init 5 = .ok (.sipush 200, 3) := by decide +kernel
theorem dX6_init_8 : decode cX6_init 8 = .ok (.newarray .int, 2) := by decide +kernel
theorem dX6_init_10 : decode cX6_init 10 = .ok (.putfield 7, 3) := by decide +kernel
theorem dX6_init_13 : decode cX6_init 13 = .ok (.aload_n 0, 1) := by decide +kernel
theorem dX6_init_14 : decode cX6_init 14 = .ok (.bipush 59, 2) := by decide +kernel
theorem dX6_init_16 : decode cX6_init 16 = .ok (.newarray .int, 2) := by decide +kernel
theorem dX6_init_18 : decode cX6_init 18 = .ok (.putfield 13, 3) := by decide +kernel
theorem dX6_init_21 : decode cX6_init 21 = .ok (.aload_n 0, 1) := by decide +kernel
theorem dX6_init_22 : decode cX6_init 22 = .ok (.bipush 59, 2) := by decide +kernel
theorem dX6_init_24 : decode cX6_init 24 = .ok (.newarray .int, 2) := by decide +kernel
theorem dX6_init_26 : decode cX6_init 26 = .ok (.putfield 16, 3) := by decide +kernel
theorem dX6_init_29 : decode cX6_init 29 = .ok (.aload_n 0, 1) := by decide +kernel
theorem dX6_init_30 : decode cX6_init 30 = .ok (.bipush 55, 2) := by decide +kernel
theorem dX6_init_32 : decode cX6_init 32 = .ok (.newarray .int, 2) := by decide +kernel
theorem dX6_init_34 : decode cX6_init 34 = .ok (.putfield 19, 3) := by decide +kernel
theorem dX6_init_37 : decode cX6_init 37 = .ok (.aload_n 0, 1) := by decide +kernel
theorem dX6_init_38 : decode cX6_init 38 = .ok (.sipush 440, 3) := by decide +kernel
theorem dX6_init_41 : decode cX6_init 41 = .ok (.newarray .int, 2) := by decide +kernel
theorem dX6_init_43 : decode cX6_init 43 = .ok (.putfield 22, 3) := by decide +kernel
theorem dX6_init_46 : decode cX6_init 46 = .ok (.aload_n 0, 1) := by decide +kernel
theorem dX6_init_47 : decode cX6_init 47 = .ok (.bipush 110, 2) := by decide +kernel
theorem dX6_init_49 : decode cX6_init 49 = .ok (.newarray .int, 2) := by decide +kernel
theorem dX6_init_51 : decode cX6_init 51 = .ok (.putfield 25, 3) := by decide +kernel
theorem dX6_init_54 : decode cX6_init 54 = .ok (.aload_n 0, 1) := by decide +kernel
theorem dX6_init_55 : decode cX6_init 55 = .ok (.bipush 6, 2) := by decide +kernel
theorem dX6_init_57 : decode cX6_init 57 = .ok (.newarray .int, 2) := by decide +kernel
theorem dX6_init_59 : decode cX6_init 59 = .ok (.putfield 28, 3) := by decide +kernel
theorem dX6_init_62 : decode cX6_init 62 = .ok (.aload_n 0, 1) := by decide +kernel
theorem dX6_init_63 : decode cX6_init 63 = .ok (.bipush (-4), 2) := by decide +kernel
theorem dX6_init_65 : decode cX6_init 65 = .ok (.putfield 31, 3) := by decide +kernel
theorem dX6_init_68 : decode cX6_init 68 = .ok (.aload_n 0, 1) := by decide +kernel
theorem dX6_init_69 : decode cX6_init 69 = .ok (.bipush 55, 2) := by decide +kernel
theorem dX6_init_71 : decode cX6_init 71 = .ok (.newarray .int, 2) := by decide +kernel
theorem dX6_init_73 : decode cX6_init 73 = .ok (.putfield 35, 3) := by decide +kernel
theorem dX6_init_76 : decode cX6_init 76 = .ok (.aload_n 0, 1) := by decide +kernel
theorem dX6_init_77 : decode cX6_init 77 = .ok (.invokevirtual 38, 3) := by decide +kernel
theorem dX6_init_80 : decode cX6_init 80 = .ok (.aload_n 0, 1) := by decide +kernel
theorem dX6_init_81 : decode cX6_init 81 = .ok (.iconst 0, 1) := by decide +kernel
theorem dX6_init_82 : decode cX6_init 82 = .ok (.bipush 20, 2) := by decide +kernel
theorem dX6_init_84 : decode cX6_init 84 = .ok (.invokevirtual 41, 3) := by decide +kernel
theorem dX6_init_87 : decode cX6_init 87 = .ok (.aload_n 0, 1) := by decide +kernel
theorem dX6_init_88 : decode cX6_init 88 = .ok (.iconst 1, 1) := by decide +kernel
theorem dX6_init_89 : decode cX6_init 89 = .ok (.bipush 8, 2) := by decide +kernel
theorem dX6_init_91 : decode cX6_init 91 = .ok (.invokevirtual 41, 3) := by decide +kernel
theorem dX6_init_94 : decode cX6_init 94 = .ok (.aload_n 0, 1) := by decide +kernel
theorem dX6_init_95 : decode cX6_init 95 = .ok (.iconst 2, 1) := by decide +kernel
theorem dX6_init_96 : decode cX6_init 96 = .ok (.bipush 35, 2) := by decide +kernel
theorem dX6_init_98 : decode cX6_init 98 = .ok (.invokevirtual 41, 3) := by decide +kernel
theorem dX6_init_101 : decode cX6_init 101 = .ok (.aload_n 0, 1) := by decide +kernel
theorem dX6_init_102 : decode cX6_init 102 = .ok (.iconst 3, 1) := by decide +kernel
theorem dX6_init_103 : decode cX6_init 103 = .ok (.iconst 4, 1) := by decide +kernel
theorem dX6_init_104 : decode cX6_init 104 = .ok (.invokevirtual 41, 3) := by decide +kernel
theorem dX6_init_107 : decode cX6_init 107 = .ok (.aload_n 0, 1) := by decide +kernel
theorem dX6_init_108 : decode cX6_init 108 = .ok (.bipush 30, 2) := by decide +kernel
theorem dX6_init_110 : decode cX6_init 110 = .ok (.invokevirtual 45, 3) := by decide +kernel
theorem dX6_init_113 : decode cX6_init 113 = .ok (.aload_n 0, 1) := by decide +kernel
theorem dX6_init_114 : decode cX6_init 114 = .ok (.bipush 6, 2) := by decide +kernel
theorem dX6_init_116 : decode cX6_init 116 = .ok (.invokevirtual 45, 3) := by decide +kernel
theorem dX6_init_119 : decode cX6_init 119 = .ok (.aload_n 0, 1) := by decide +kernel
theorem dX6_init_120 : decode cX6_init 120 = .ok (.bipush 14, 2) := by decide +kernel
theorem dX6_init_122 : decode cX6_init 122 = .ok (.invokevirtual 45, 3) := by decide +kernel
theorem dX6_init_125 : decode cX6_init 125 = .ok (.aload_n 0, 1) := by decide +kernel
theorem dX6_init_126 : decode cX6_init 126 = .ok (.bipush 9, 2) := by decide +kernel
theorem dX6_init_128 : decode cX6_init 128 = .ok (.invokevirtual 45, 3) := by decide +kernel
theorem dX6_init_131 : decode cX6_init 131 = .ok (.aload_n 0, 1) := by decide +kernel
theorem dX6_init_132 : decode cX6_init 132 = .ok (.iconst 0, 1) := by decide +kernel
theorem dX6_init_133 : decode cX6_init 133 = .ok (.iconst 0, 1) := by decide +kernel
theorem dX6_init_134 : decode cX6_init 134 = .ok (.bipush 12, 2) := by decide +kernel
theorem dX6_init_136 : decode cX6_init 136 = .ok (.iconst 0, 1) := by decide +kernel
theorem dX6_init_137 : decode cX6_init 137 = .ok (.invokevirtual 49, 3) := by decide +kernel
theorem dX6_init_140 : decode cX6_init 140 = .ok (.aload_n 0, 1) := by decide +kernel
theorem dX6_init_141 : decode cX6_init 141 = .ok (.iconst 1, 1) := by decide +kernel
theorem dX6_init_142 : decode cX6_init 142 = .ok (.iconst 0, 1) := by decide +kernel
theorem dX6_init_143 : decode cX6_init 143 = .ok (.bipush 9, 2) := by decide +kernel
theorem dX6_init_145 : decode cX6_init 145 = .ok (.iconst 0, 1) := by decide +kernel
theorem dX6_init_146 : decode cX6_init 146 = .ok (.invokevirtual 49, 3) := by decide +kernel
theorem dX6_init_149 : decode cX6_init 149 = .ok (.aload_n 0, 1) := by decide +kernel
theorem dX6_init_150 : decode cX6_init 150 = .ok (.iconst 2, 1) := by decide +kernel
theorem dX6_init_151 : decode cX6_init 151 = .ok (.iconst 2, 1) := by decide +kernel
theorem dX6_init_152 : decode cX6_init 152 = .ok (.iconst 3, 1) := by decide +kernel
theorem dX6_init_153 : decode cX6_init 153 = .ok (.iconst 0, 1) := by decide +kernel
theorem dX6_init_154 : decode cX6_init 154 = .ok (.invokevirtual 49, 3) := by decide +kernel
theorem dX6_init_157 : decode cX6_init 157 = .ok (.aload_n 0, 1) := by decide +kernel
theorem dX6_init_158 : decode cX6_init 158 = .ok (.iconst 3, 1) := by decide +kernel
theorem dX6_init_159 : decode cX6_init 159 = .ok (.iconst 3, 1) := by decide +kernel
theorem dX6_init_160 : decode cX6_init 160 = .ok (.iconst 5, 1) := by decide +kernel
theorem dX6_init_161 : decode cX6_init 161 = .ok (.iconst 0, 1) := by decide +kernel
theorem dX6_init_162 : decode cX6_init 162 = .ok (.invokevirtual 49, 3) := by decide +kernel
theorem dX6_init_165 : decode cX6_init 165 = .ok (.aload_n 0, 1) := by decide +kernel
theorem dX6_init_166 : decode cX6_init 166 = .ok (.iconst 0, 1) := by decide +kernel
theorem dX6_init_167 : decode cX6_init 167 = .ok (.iconst 1, 1) := by decide +kernel
theorem dX6_init_168 : decode cX6_init 168 = .ok (.bipush 10, 2) := by decide +kernel
theorem dX6_init_170 : decode cX6_init 170 = .ok (.iconst 1, 1) := by decide +kernel
theorem dX6_init_171 : decode cX6_init 171 = .ok (.invokevirtual 49, 3) := by decide +kernel
theorem dX6_init_174 : decode cX6_init 174 = .ok (.aload_n 0, 1) := by decide +kernel
theorem dX6_init_175 : decode cX6_init 175 = .ok (.iconst 1, 1) := by decide +kernel
theorem dX6_init_176 : decode cX6_init 176 = .ok (.iconst 3, 1) := by decide +kernel
theorem dX6_init_177 : decode cX6_init 177 = .ok (.bipush 9, 2) := by decide +kernel
theorem dX6_init_179 : decode cX6_init 179 = .ok (.iconst 0, 1) := by decide +kernel
theorem dX6_init_180 : decode cX6_init 180 = .ok (.invokevirtual 49, 3) := by decide +kernel
theorem dX6_init_183 : decode cX6_init 183 = .ok (.aload_n 0, 1) := by decide +kernel
theorem dX6_init_184 : decode cX6_init 184 = .ok (.iconst 2, 1) := by decide +kernel
theorem dX6_init_185 : decode cX6_init 185 = .ok (.iconst 1, 1) := by decide +kernel
theorem dX6_init_186 : decode cX6_init 186 = .ok (.iconst 2, 1) := by decide +kernel
theorem dX6_init_187 : decode cX6_init 187 = .ok (.iconst 1, 1) := by decide +kernel
theorem dX6_init_188 : decode cX6_init 188 = .ok (.invokevirtual 49, 3) := by decide +kernel
theorem dX6_init_191 : decode cX6_init 191 = .ok (.aload_n 0, 1) := by decide +kernel
theorem dX6_init_192 : decode cX6_init 192 = .ok (.invokevirtual 53, 3) := by decide +kernel
theorem dX6_init_195 : decode cX6_init 195 = .ok (.return_, 1) := by decide +kernel
theorem dX6_in_0 : decode cX6_in 0 = .ok (.iload_n 0, 1) := by decide +kernel
theorem dX6_in_1 : decode cX6_in 1 = .ok (.iload_n 1, 1) := by decide +kernel
theorem dX6_in_2 : decode cX6_in 2 = .ok (.if_icmp .lt 12, 3) := by decide +kernel
theorem dX6_in_5 : decode cX6_in 5 = .ok (.iload_n 0, 1) := by decide +kernel
theorem dX6_in_6 : decode cX6_in 6 = .ok (.iload_n 2, 1) := by decide +kernel
theorem dX6_in_7 : decode cX6_in 7 = .ok (.if_icmp .gt 7, 3) := by decide +kernel
theorem dX6_in_10 : decode cX6_in 10 = .ok (.iconst 1, 1) := by decide +kernel
theorem dX6_in_11 : decode cX6_in 11 = .ok (.goto 4, 3) := by decide +kernel
theorem dX6_in_14 : decode cX6_in 14 = .ok (.iconst 0, 1) := by decide +kernel
theorem dX6_in_15 : decode cX6_in 15 = .ok (.ireturn, 1) := by decide +kernel
theorem dX6_isPerson_0 : decode cX6_isPerson 0 = .ok (.iload_n 1, 1) := by decide +kernel
theorem dX6_isPerson_1 : decode cX6_isPerson 1 = .ok (.iconst 0, 1) := by decide +kernel
theorem dX6_isPerson_2 : decode cX6_isPerson 2 = .ok (.aload_n 0, 1) := by decide +kernel
theorem dX6_isPerson_3 : decode cX6_isPerson 3 = .ok (.getfield 13, 3) := by decide +kernel
theorem dX6_isPerson_6 : decode cX6_isPerson 6 = .ok (.iconst 0, 1) := by decide +kernel
theorem dX6_isPerson_7 : decode cX6_isPerson 7 = .ok (.iaload, 1) := by decide +kernel
theorem dX6_isPerson_8 : decode cX6_isPerson 8 = .ok (.iconst 1, 1) := by decide +kernel
theorem dX6_isPerson_9 : decode cX6_isPerson 9 = .ok (.isub, 1) := by decide +kernel
theorem dX6_isPerson_10 : decode cX6_isPerson 10 = .ok (.invokestatic 56, 3) := by decide +kernel
theorem dX6_isPerson_13 : decode cX6_isPerson 13 = .ok (.ireturn, 1) := by decide +kernel
theorem dX6_isThing_0 : decode cX6_isThing 0 = .ok (.iload_n 1, 1) := by decide +kernel
theorem dX6_isThing_1 : decode cX6_isThing 1 = .ok (.iconst 0, 1) := by decide +kernel
theorem dX6_isThing_2 : decode cX6_isThing 2 = .ok (.aload_n 0, 1) := by decide +kernel
theorem dX6_isThing_3 : decode cX6_isThing 3 = .ok (.getfield 13, 3) := by decide +kernel
theorem dX6_isThing_6 : decode cX6_isThing 6 = .ok (.iconst 1, 1) := by decide +kernel
theorem dX6_isThing_7 : decode cX6_isThing 7 = .ok (.iaload, 1) := by decide +kernel
theorem dX6_isThing_8 : decode cX6_isThing 8 = .ok (.iconst 1, 1) := by decide +kernel
theorem dX6_isThing_9 : decode cX6_isThing 9 = .ok (.isub, 1) := by decide +kernel
theorem dX6_isThing_10 : decode cX6_isThing 10 = .ok (.invokestatic 56, 3) := by decide +kernel
theorem dX6_isThing_13 : decode cX6_isThing 13 = .ok (.ireturn, 1) := by decide +kernel
theorem dX6_write_0 : decode cX6_write 0 = .ok (.iload_n 1, 1) := by decide +kernel
theorem dX6_write_1 : decode cX6_write 1 = .ok (.bipush 32, 2) := by decide +kernel
theorem dX6_write_3 : decode cX6_write 3 = .ok (.bipush 126, 2) := by decide +kernel
theorem dX6_write_5 : decode cX6_write 5 = .ok (.invokestatic 56, 3) := by decide +kernel
theorem dX6_write_8 : decode cX6_write 8 = .ok (.ifCond .ne 5, 3) := by decide +kernel
theorem dX6_write_11 : decode cX6_write 11 = .ok (.iconst (-1), 1) := by decide +kernel
theorem dX6_write_12 : decode cX6_write 12 = .ok (.ireturn, 1) := by decide +kernel
theorem dX6_write_13 : decode cX6_write 13 = .ok (.aload_n 0, 1) := by decide +kernel
theorem dX6_write_14 : decode cX6_write 14 = .ok (.getfield 60, 3) := by decide +kernel
theorem dX6_write_17 : decode cX6_write 17 = .ok (.sipush 200, 3) := by decide +kernel
theorem dX6_write_20 : decode cX6_write 20 = .ok (.if_icmp .ne 6, 3) := by decide +kernel
theorem dX6_write_23 : decode cX6_write 23 = .ok (.bipush (-3), 2) := by decide +kernel
theorem dX6_write_25 : decode cX6_write 25 = .ok (.ireturn, 1) := by decide +kernel
theorem dX6_write_26 : decode cX6_write 26 = .ok (.aload_n 0, 1) := by decide +kernel
theorem dX6_write_27 : decode cX6_write 27 = .ok (.getfield 7, 3) := by decide +kernel
theorem dX6_write_30 : decode cX6_write 30 = .ok (.aload_n 0, 1) := by decide +kernel
theorem dX6_write_31 : decode cX6_write 31 = .ok (.getfield 60, 3) := by decide +kernel
theorem dX6_write_34 : decode cX6_write 34 = .ok (.iload_n 1, 1) := by decide +kernel
theorem dX6_write_35 : decode cX6_write 35 = .ok (.iastore, 1) := by decide +kernel
theorem dX6_write_36 : decode cX6_write 36 = .ok (.aload_n 0, 1) := by decide +kernel
theorem dX6_write_37 : decode cX6_write 37 = .ok (.dup, 1) := by decide +kernel
theorem dX6_write_38 : decode cX6_write 38 = .ok (.getfield 60, 3) := by decide +kernel
theorem dX6_write_41 : decode cX6_write 41 = .ok (.iconst 1, 1) := by decide +kernel
theorem dX6_write_42 : decode cX6_write 42 = .ok (.iadd, 1) := by decide +kernel
theorem dX6_write_43 : decode cX6_write 43 = .ok (.putfield 60, 3) := by decide +kernel
theorem dX6_write_46 : decode cX6_write 46 = .ok (.aload_n 0, 1) := by decide +kernel
theorem dX6_write_47 : decode cX6_write 47 = .ok (.getfield 60, 3) := by decide +kernel
theorem dX6_write_50 : decode cX6_write 50 = .ok (.ireturn, 1) := by decide +kernel
theorem dX6_wipe_0 : decode cX6_wipe 0 = .ok (.aload_n 0, 1) := by decide +kernel
theorem dX6_wipe_1 : decode cX6_wipe 1 = .ok (.getfield 60, 3) := by decide +kernel
theorem dX6_wipe_4 : decode cX6_wipe 4 = .ok (.istore_n 1, 1) := by decide +kernel
theorem dX6_wipe_5 : decode cX6_wipe 5 = .ok (.aload_n 0, 1) := by decide +kernel
theorem dX6_wipe_6 : decode cX6_wipe 6 = .ok (.iconst 0, 1) := by decide +kernel
theorem dX6_wipe_7 : decode cX6_wipe 7 = .ok (.putfield 60, 3) := by decide +kernel
theorem dX6_wipe_10 : decode cX6_wipe 10 = .ok (.iload_n 1, 1) := by decide +kernel
theorem dX6_wipe_11 : decode cX6_wipe 11 = .ok (.ireturn, 1) := by decide +kernel
theorem dX6_letterAt_0 : decode cX6_letterAt 0 = .ok (.iload_n 1, 1) := by decide +kernel
theorem dX6_letterAt_1 : decode cX6_letterAt 1 = .ok (.aload_n 0, 1) := by decide +kernel
theorem dX6_letterAt_2 : decode cX6_letterAt 2 = .ok (.getfield 60, 3) := by decide +kernel
theorem dX6_letterAt_5 : decode cX6_letterAt 5 = .ok (.if_icmp .ge 12, 3) := by decide +kernel
theorem dX6_letterAt_8 : decode cX6_letterAt 8 = .ok (.aload_n 0, 1) := by decide +kernel
theorem dX6_letterAt_9 : decode cX6_letterAt 9 = .ok (.getfield 7, 3) := by decide +kernel
theorem dX6_letterAt_12 : decode cX6_letterAt 12 = .ok (.iload_n 1, 1) := by decide +kernel
theorem dX6_letterAt_13 : decode cX6_letterAt 13 = .ok (.iaload, 1) := by decide +kernel
theorem dX6_letterAt_14 : decode cX6_letterAt 14 = .ok (.goto 4, 3) := by decide +kernel
theorem dX6_letterAt_17 : decode cX6_letterAt 17 = .ok (.iconst (-1), 1) := by decide +kernel
theorem dX6_letterAt_18 : decode cX6_letterAt 18 = .ok (.ireturn, 1) := by decide +kernel
theorem dX6_isFigure_0 : decode cX6_isFigure 0 = .ok (.iload_n 0, 1) := by decide +kernel
theorem dX6_isFigure_1 : decode cX6_isFigure 1 = .ok (.bipush 48, 2) := by decide +kernel
theorem dX6_isFigure_3 : decode cX6_isFigure 3 = .ok (.bipush 57, 2) := by decide +kernel
theorem dX6_isFigure_5 : decode cX6_isFigure 5 = .ok (.invokestatic 56, 3) := by decide +kernel
theorem dX6_isFigure_8 : decode cX6_isFigure 8 = .ok (.ireturn, 1) := by decide +kernel
theorem dX6_number_0 : decode cX6_number 0 = .ok (.aload_n 0, 1) := by decide +kernel
theorem dX6_number_1 : decode cX6_number 1 = .ok (.aload_n 0, 1) := by decide +kernel
theorem dX6_number_2 : decode cX6_number 2 = .ok (.getfield 63, 3) := by decide +kernel
theorem dX6_number_5 : decode cX6_number 5 = .ok (.invokevirtual 66, 3) := by decide +kernel
theorem dX6_number_8 : decode cX6_number 8 = .ok (.invokestatic 70, 3) := by decide +kernel
theorem dX6_number_11 : decode cX6_number 11 = .ok (.ifCond .ne 5, 3) := by decide +kernel
theorem dX6_number_14 : decode cX6_number 14 = .ok (.iconst (-1), 1) := by decide +kernel
theorem dX6_number_15 : decode cX6_number 15 = .ok (.ireturn, 1) := by decide +kernel
theorem dX6_number_16 : decode cX6_number 16 = .ok (.aload_n 0, 1) := by decide +kernel
theorem dX6_number_17 : decode cX6_number 17 = .ok (.aload_n 0, 1) := by decide +kernel
theorem dX6_number_18 : decode cX6_number 18 = .ok (.getfield 63, 3) := by decide +kernel
theorem dX6_number_21 : decode cX6_number 21 = .ok (.invokevirtual 66, 3) := by decide +kernel
theorem dX6_number_24 : decode cX6_number 24 = .ok (.bipush 48, 2) := by decide +kernel
theorem dX6_number_26 : decode cX6_number 26 = .ok (.isub, 1) := by decide +kernel
theorem dX6_number_27 : decode cX6_number 27 = .ok (.istore 4, 2) := by decide +kernel
theorem dX6_number_29 : decode cX6_number 29 = .ok (.aload_n 0, 1) := by decide +kernel
theorem dX6_number_30 : decode cX6_number 30 = .ok (.dup, 1) := by decide +kernel
theorem dX6_number_31 : decode cX6_number 31 = .ok (.getfield 63, 3) := by decide +kernel
theorem dX6_number_34 : decode cX6_number 34 = .ok (.iconst 1, 1) := by decide +kernel
theorem dX6_number_35 : decode cX6_number 35 = .ok (.iadd, 1) := by decide +kernel
theorem dX6_number_36 : decode cX6_number 36 = .ok (.putfield 63, 3) := by decide +kernel
theorem dX6_number_39 : decode cX6_number 39 = .ok (.aload_n 0, 1) := by decide +kernel
theorem dX6_number_40 : decode cX6_number 40 = .ok (.aload_n 0, 1) := by decide +kernel
theorem dX6_number_41 : decode cX6_number 41 = .ok (.getfield 63, 3) := by decide +kernel
theorem dX6_number_44 : decode cX6_number 44 = .ok (.invokevirtual 66, 3) := by decide +kernel
theorem dX6_number_47 : decode cX6_number 47 = .ok (.invokestatic 70, 3) := by decide +kernel
theorem dX6_number_50 : decode cX6_number 50 = .ok (.ifCond .eq 32, 3) := by decide +kernel
theorem dX6_number_53 : decode cX6_number 53 = .ok (.bipush 10, 2) := by decide +kernel
theorem dX6_number_55 : decode cX6_number 55 = .ok (.iload 4, 2) := by decide +kernel
theorem dX6_number_57 : decode cX6_number 57 = .ok (.imul, 1) := by decide +kernel
theorem dX6_number_58 : decode cX6_number 58 = .ok (.aload_n 0, 1) := by decide +kernel
theorem dX6_number_59 : decode cX6_number 59 = .ok (.aload_n 0, 1) := by decide +kernel
theorem dX6_number_60 : decode cX6_number 60 = .ok (.getfield 63, 3) := by decide +kernel
theorem dX6_number_63 : decode cX6_number 63 = .ok (.invokevirtual 66, 3) := by decide +kernel
theorem dX6_number_66 : decode cX6_number 66 = .ok (.iadd, 1) := by decide +kernel
theorem dX6_number_67 : decode cX6_number 67 = .ok (.bipush 48, 2) := by decide +kernel
theorem dX6_number_69 : decode cX6_number 69 = .ok (.isub, 1) := by decide +kernel
theorem dX6_number_70 : decode cX6_number 70 = .ok (.istore 4, 2) := by decide +kernel
theorem dX6_number_72 : decode cX6_number 72 = .ok (.aload_n 0, 1) := by decide +kernel
theorem dX6_number_73 : decode cX6_number 73 = .ok (.dup, 1) := by decide +kernel
theorem dX6_number_74 : decode cX6_number 74 = .ok (.getfield 63, 3) := by decide +kernel
theorem dX6_number_77 : decode cX6_number 77 = .ok (.iconst 1, 1) := by decide +kernel
theorem dX6_number_78 : decode cX6_number 78 = .ok (.iadd, 1) := by decide +kernel
theorem dX6_number_79 : decode cX6_number 79 = .ok (.putfield 63, 3) := by decide +kernel
theorem dX6_number_82 : decode cX6_number 82 = .ok (.aload_n 0, 1) := by decide +kernel
theorem dX6_number_83 : decode cX6_number 83 = .ok (.aload_n 0, 1) := by decide +kernel
theorem dX6_number_84 : decode cX6_number 84 = .ok (.getfield 63, 3) := by decide +kernel
theorem dX6_number_87 : decode cX6_number 87 = .ok (.invokevirtual 66, 3) := by decide +kernel
theorem dX6_number_90 : decode cX6_number 90 = .ok (.iload_n 3, 1) := by decide +kernel
theorem dX6_number_91 : decode cX6_number 91 = .ok (.if_icmp .ne 17, 3) := by decide +kernel
theorem dX6_number_94 : decode cX6_number 94 = .ok (.iload 4, 2) := by decide +kernel
theorem dX6_number_96 : decode cX6_number 96 = .ok (.iload_n 1, 1) := by decide +kernel
theorem dX6_number_97 : decode cX6_number 97 = .ok (.iload_n 2, 1) := by decide +kernel
theorem dX6_number_98 : decode cX6_number 98 = .ok (.invokestatic 56, 3) := by decide +kernel
theorem dX6_number_101 : decode cX6_number 101 = .ok (.ifCond .eq 7, 3) := by decide +kernel
theorem dX6_number_104 : decode cX6_number 104 = .ok (.iconst 1, 1) := by decide +kernel
theorem dX6_number_105 : decode cX6_number 105 = .ok (.goto 4, 3) := by decide +kernel
theorem dX6_number_108 : decode cX6_number 108 = .ok (.iconst 0, 1) := by decide +kernel
theorem dX6_number_109 : decode cX6_number 109 = .ok (.istore 5, 2) := by decide +kernel
theorem dX6_number_111 : decode cX6_number 111 = .ok (.aload_n 0, 1) := by decide +kernel
theorem dX6_number_112 : decode cX6_number 112 = .ok (.dup, 1) := by decide +kernel
theorem dX6_number_113 : decode cX6_number 113 = .ok (.getfield 63, 3) := by decide +kernel
theorem dX6_number_116 : decode cX6_number 116 = .ok (.iconst 1, 1) := by decide +kernel
theorem dX6_number_117 : decode cX6_number 117 = .ok (.iadd, 1) := by decide +kernel
theorem dX6_number_118 : decode cX6_number 118 = .ok (.putfield 63, 3) := by decide +kernel
theorem dX6_number_121 : decode cX6_number 121 = .ok (.iload 5, 2) := by decide +kernel
theorem dX6_number_123 : decode cX6_number 123 = .ok (.ifCond .eq 8, 3) := by decide +kernel
theorem dX6_number_126 : decode cX6_number 126 = .ok (.iload 4, 2) := by decide +kernel
theorem dX6_number_128 : decode cX6_number 128 = .ok (.goto 4, 3) := by decide +kernel
theorem dX6_number_131 : decode cX6_number 131 = .ok (.iconst (-1), 1) := by decide +kernel
theorem dX6_number_132 : decode cX6_number 132 = .ok (.ireturn, 1) := by decide +kernel
theorem dX6_begins_0 : decode cX6_begins 0 = .ok (.iconst 0, 1) := by decide +kernel
theorem dX6_begins_1 : decode cX6_begins 1 = .ok (.istore_n 1, 1) := by decide +kernel
theorem dX6_begins_2 : decode cX6_begins 2 = .ok (.iload_n 1, 1) := by decide +kernel
theorem dX6_begins_3 : decode cX6_begins 3 = .ok (.bipush 59, 2) := by decide +kernel
theorem dX6_begins_5 : decode cX6_begins 5 = .ok (.if_icmp .ge 16, 3) := by decide +kernel
theorem dX6_begins_8 : decode cX6_begins 8 = .ok (.aload_n 0, 1) := by decide +kernel
theorem dX6_begins_9 : decode cX6_begins 9 = .ok (.getfield 16, 3) := by decide +kernel
theorem dX6_begins_12 : decode cX6_begins 12 = .ok (.iload_n 1, 1) := by decide +kernel
theorem dX6_begins_13 : decode cX6_begins 13 = .ok (.iconst 0, 1) := by decide +kernel
theorem dX6_begins_14 : decode cX6_begins 14 = .ok (.iastore, 1) := by decide +kernel
theorem dX6_begins_15 : decode cX6_begins 15 = .ok (.iinc 1 1, 3) := by decide +kernel
theorem dX6_begins_18 : decode cX6_begins 18 = .ok (.goto (-16), 3) := by decide +kernel
theorem dX6_begins_21 : decode cX6_begins 21 = .ok (.aload_n 0, 1) := by decide +kernel
theorem dX6_begins_22 : decode cX6_begins 22 = .ok (.getfield 16, 3) := by decide +kernel
theorem dX6_begins_25 : decode cX6_begins 25 = .ok (.iconst 3, 1) := by decide +kernel
theorem dX6_begins_26 : decode cX6_begins 26 = .ok (.iconst 5, 1) := by decide +kernel
theorem dX6_begins_27 : decode cX6_begins 27 = .ok (.iastore, 1) := by decide +kernel
theorem dX6_begins_28 : decode cX6_begins 28 = .ok (.aload_n 0, 1) := by decide +kernel
theorem dX6_begins_29 : decode cX6_begins 29 = .ok (.getfield 16, 3) := by decide +kernel
theorem dX6_begins_32 : decode cX6_begins 32 = .ok (.iconst 4, 1) := by decide +kernel
theorem dX6_begins_33 : decode cX6_begins 33 = .ok (.iconst 2, 1) := by decide +kernel
theorem dX6_begins_34 : decode cX6_begins 34 = .ok (.iastore, 1) := by decide +kernel
theorem dX6_begins_35 : decode cX6_begins 35 = .ok (.return_, 1) := by decide +kernel
theorem dX6_personOf_0 : decode cX6_personOf 0 = .ok (.aload_n 0, 1) := by decide +kernel
theorem dX6_personOf_1 : decode cX6_personOf 1 = .ok (.getfield 16, 3) := by decide +kernel
theorem dX6_personOf_4 : decode cX6_personOf 4 = .ok (.iconst 0, 1) := by decide +kernel
theorem dX6_personOf_5 : decode cX6_personOf 5 = .ok (.iaload, 1) := by decide +kernel
theorem dX6_personOf_6 : decode cX6_personOf 6 = .ok (.istore_n 3, 1) := by decide +kernel
theorem dX6_personOf_7 : decode cX6_personOf 7 = .ok (.aload_n 0, 1) := by decide +kernel
theorem dX6_personOf_8 : decode cX6_personOf 8 = .ok (.getfield 16, 3) := by decide +kernel
theorem dX6_personOf_11 : decode cX6_personOf 11 = .ok (.iconst 5, 1) := by decide +kernel
theorem dX6_personOf_12 : decode cX6_personOf 12 = .ok (.iload_n 3, 1) := by decide +kernel
theorem dX6_personOf_13 : decode cX6_personOf 13 = .ok (.iadd, 1) := by decide +kernel
theorem dX6_personOf_14 : decode cX6_personOf 14 = .ok (.iload_n 1, 1) := by decide +kernel
theorem dX6_personOf_15 : decode cX6_personOf 15 = .ok (.iastore, 1) := by decide +kernel
theorem dX6_personOf_16 : decode cX6_personOf 16 = .ok (.aload_n 0, 1) := by decide +kernel
theorem dX6_personOf_17 : decode cX6_personOf 17 = .ok (.getfield 16, 3) := by decide +kernel
theorem dX6_personOf_20 : decode cX6_personOf 20 = .ok (.bipush 11, 2) := by decide +kernel
theorem dX6_personOf_22 : decode cX6_personOf 22 = .ok (.iload_n 3, 1) := by decide +kernel
theorem dX6_personOf_23 : decode cX6_personOf 23 = .ok (.iadd, 1) := by decide +kernel
theorem dX6_personOf_24 : decode cX6_personOf 24 = .ok (.iload_n 2, 1) := by decide +kernel
theorem dX6_personOf_25 : decode cX6_personOf 25 = .ok (.iastore, 1) := by decide +kernel
theorem dX6_personOf_26 : decode cX6_personOf 26 = .ok (.aload_n 0, 1) := by decide +kernel
theorem dX6_personOf_27 : decode cX6_personOf 27 = .ok (.getfield 16, 3) := by decide +kernel
theorem dX6_personOf_30 : decode cX6_personOf 30 = .ok (.iconst 0, 1) := by decide +kernel
theorem dX6_personOf_31 : decode cX6_personOf 31 = .ok (.dup2, 1) := by decide +kernel
theorem dX6_personOf_32 : decode cX6_personOf 32 = .ok (.iaload, 1) := by decide +kernel
theorem dX6_personOf_33 : decode cX6_personOf 33 = .ok (.iconst 1, 1) := by decide +kernel
theorem dX6_personOf_34 : decode cX6_personOf 34 = .ok (.iadd, 1) := by decide +kernel
theorem dX6_personOf_35 : decode cX6_personOf 35 = .ok (.iastore, 1) := by decide +kernel
theorem dX6_personOf_36 : decode cX6_personOf 36 = .ok (.return_, 1) := by decide +kernel
theorem dX6_thingOf_0 : decode cX6_thingOf 0 = .ok (.aload_n 0, 1) := by decide +kernel
theorem dX6_thingOf_1 : decode cX6_thingOf 1 = .ok (.getfield 16, 3) := by decide +kernel
theorem dX6_thingOf_4 : decode cX6_thingOf 4 = .ok (.bipush 17, 2) := by decide +kernel
theorem dX6_thingOf_6 : decode cX6_thingOf 6 = .ok (.aload_n 0, 1) := by decide +kernel
theorem dX6_thingOf_7 : decode cX6_thingOf 7 = .ok (.getfield 16, 3) := by decide +kernel
theorem dX6_thingOf_10 : decode cX6_thingOf 10 = .ok (.iconst 1, 1) := by decide +kernel
theorem dX6_thingOf_11 : decode cX6_thingOf 11 = .ok (.iaload, 1) := by decide +kernel
theorem dX6_thingOf_12 : decode cX6_thingOf 12 = .ok (.iadd, 1) := by decide +kernel
theorem dX6_thingOf_13 : decode cX6_thingOf 13 = .ok (.iload_n 1, 1) := by decide +kernel
theorem dX6_thingOf_14 : decode cX6_thingOf 14 = .ok (.iastore, 1) := by decide +kernel
theorem dX6_thingOf_15 : decode cX6_thingOf 15 = .ok (.aload_n 0, 1) := by decide +kernel
theorem dX6_thingOf_16 : decode cX6_thingOf 16 = .ok (.getfield 16, 3) := by decide +kernel
theorem dX6_thingOf_19 : decode cX6_thingOf 19 = .ok (.iconst 1, 1) := by decide +kernel
theorem dX6_thingOf_20 : decode cX6_thingOf 20 = .ok (.dup2, 1) := by decide +kernel
theorem dX6_thingOf_21 : decode cX6_thingOf 21 = .ok (.iaload, 1) := by decide +kernel
theorem dX6_thingOf_22 : decode cX6_thingOf 22 = .ok (.iconst 1, 1) := by decide +kernel
theorem dX6_thingOf_23 : decode cX6_thingOf 23 = .ok (.iadd, 1) := by decide +kernel
theorem dX6_thingOf_24 : decode cX6_thingOf 24 = .ok (.iastore, 1) := by decide +kernel
theorem dX6_thingOf_25 : decode cX6_thingOf 25 = .ok (.return_, 1) := by decide +kernel
theorem dX6_pauseOf_0 : decode cX6_pauseOf 0 = .ok (.aload_n 0, 1) := by decide +kernel
theorem dX6_pauseOf_1 : decode cX6_pauseOf 1 = .ok (.getfield 16, 3) := by decide +kernel
theorem dX6_pauseOf_4 : decode cX6_pauseOf 4 = .ok (.iconst 2, 1) := by decide +kernel
theorem dX6_pauseOf_5 : decode cX6_pauseOf 5 = .ok (.iaload, 1) := by decide +kernel
theorem dX6_pauseOf_6 : decode cX6_pauseOf 6 = .ok (.istore 5, 2) := by decide +kernel
theorem dX6_pauseOf_8 : decode cX6_pauseOf 8 = .ok (.aload_n 0, 1) := by decide +kernel
theorem dX6_pauseOf_9 : decode cX6_pauseOf 9 = .ok (.getfield 16, 3) := by decide +kernel
theorem dX6_pauseOf_12 : decode cX6_pauseOf 12 = .ok (.bipush 23, 2) := by decide +kernel
theorem dX6_pauseOf_14 : decode cX6_pauseOf 14 = .ok (.iload 5, 2) := by decide +kernel
theorem dX6_pauseOf_16 : decode cX6_pauseOf 16 = .ok (.iadd, 1) := by decide +kernel
theorem dX6_pauseOf_17 : decode cX6_pauseOf 17 = .ok (.iload_n 1, 1) := by decide +kernel
theorem dX6_pauseOf_18 : decode cX6_pauseOf 18 = .ok (.iastore, 1) := by decide +kernel
theorem dX6_pauseOf_19 : decode cX6_pauseOf 19 = .ok (.aload_n 0, 1) := by decide +kernel
theorem dX6_pauseOf_20 : decode cX6_pauseOf 20 = .ok (.getfield 16, 3) := by decide +kernel
theorem dX6_pauseOf_23 : decode cX6_pauseOf 23 = .ok (.bipush 32, 2) := by decide +kernel
theorem dX6_pauseOf_25 : decode cX6_pauseOf 25 = .ok (.iload 5, 2) := by decide +kernel
theorem dX6_pauseOf_27 : decode cX6_pauseOf 27 = .ok (.iadd, 1) := by decide +kernel
theorem dX6_pauseOf_28 : decode cX6_pauseOf 28 = .ok (.iload_n 2, 1) := by decide +kernel
theorem dX6_pauseOf_29 : decode cX6_pauseOf 29 = .ok (.iastore, 1) := by decide +kernel
theorem dX6_pauseOf_30 : decode cX6_pauseOf 30 = .ok (.aload_n 0, 1) := by decide +kernel
theorem dX6_pauseOf_31 : decode cX6_pauseOf 31 = .ok (.getfield 16, 3) := by decide +kernel
theorem dX6_pauseOf_34 : decode cX6_pauseOf 34 = .ok (.bipush 41, 2) := by decide +kernel
theorem dX6_pauseOf_36 : decode cX6_pauseOf 36 = .ok (.iload 5, 2) := by decide +kernel
theorem dX6_pauseOf_38 : decode cX6_pauseOf 38 = .ok (.iadd, 1) := by decide +kernel
theorem dX6_pauseOf_39 : decode cX6_pauseOf 39 = .ok (.iload_n 3, 1) := by decide +kernel
theorem dX6_pauseOf_40 : decode cX6_pauseOf 40 = .ok (.iastore, 1) := by decide +kernel
theorem dX6_pauseOf_41 : decode cX6_pauseOf 41 = .ok (.aload_n 0, 1) := by decide +kernel
theorem dX6_pauseOf_42 : decode cX6_pauseOf 42 = .ok (.getfield 16, 3) := by decide +kernel
theorem dX6_pauseOf_45 : decode cX6_pauseOf 45 = .ok (.bipush 50, 2) := by decide +kernel
theorem dX6_pauseOf_47 : decode cX6_pauseOf 47 = .ok (.iload 5, 2) := by decide +kernel
theorem dX6_pauseOf_49 : decode cX6_pauseOf 49 = .ok (.iadd, 1) := by decide +kernel
theorem dX6_pauseOf_50 : decode cX6_pauseOf 50 = .ok (.iload 4, 2) := by decide +kernel
theorem dX6_pauseOf_52 : decode cX6_pauseOf 52 = .ok (.iastore, 1) := by decide +kernel
theorem dX6_pauseOf_53 : decode cX6_pauseOf 53 = .ok (.aload_n 0, 1) := by decide +kernel
theorem dX6_pauseOf_54 : decode cX6_pauseOf 54 = .ok (.getfield 16, 3) := by decide +kernel
theorem dX6_pauseOf_57 : decode cX6_pauseOf 57 = .ok (.iconst 2, 1) := by decide +kernel
theorem dX6_pauseOf_58 : decode cX6_pauseOf 58 = .ok (.dup2, 1) := by decide +kernel
theorem dX6_pauseOf_59 : decode cX6_pauseOf 59 = .ok (.iaload, 1) := by decide +kernel
theorem dX6_pauseOf_60 : decode cX6_pauseOf 60 = .ok (.iconst 1, 1) := by decide +kernel
theorem dX6_pauseOf_61 : decode cX6_pauseOf 61 = .ok (.iadd, 1) := by decide +kernel
theorem dX6_pauseOf_62 : decode cX6_pauseOf 62 = .ok (.iastore, 1) := by decide +kernel
theorem dX6_pauseOf_63 : decode cX6_pauseOf 63 = .ok (.return_, 1) := by decide +kernel
theorem dX6_readsItem_0 : decode cX6_readsItem 0 = .ok (.iload_n 1, 1) := by decide +kernel
theorem dX6_readsItem_1 : decode cX6_readsItem 1 = .ok (.lookupswitch 306 #[(97, 137), (101, 246), (103, 276), (112, 51), (116, 103)], 51) := by decide +kernel
theorem dX6_readsItem_52 : decode cX6_readsItem 52 = .ok (.aload_n 0, 1) := by decide +kernel
theorem dX6_readsItem_53 : decode cX6_readsItem 53 = .ok (.iconst 0, 1) := by decide +kernel
theorem dX6_readsItem_54 : decode cX6_readsItem 54 = .ok (.iconst 3, 1) := by decide +kernel
theorem dX6_readsItem_55 : decode cX6_readsItem 55 = .ok (.bipush 44, 2) := by decide +kernel
theorem dX6_readsItem_57 : decode cX6_readsItem 57 = .ok (.invokevirtual 74, 3) := by decide +kernel
theorem dX6_readsItem_60 : decode cX6_readsItem 60 = .ok (.istore_n 2, 1) := by decide +kernel
theorem dX6_readsItem_61 : decode cX6_readsItem 61 = .ok (.iload_n 2, 1) := by decide +kernel
theorem dX6_readsItem_62 : decode cX6_readsItem 62 = .ok (.ifCond .ge 7, 3) := by decide +kernel
theorem dX6_readsItem_65 : decode cX6_readsItem 65 = .ok (.iconst (-1), 1) := by decide +kernel
theorem dX6_readsItem_66 : decode cX6_readsItem 66 = .ok (.goto 12, 3) := by decide +kernel
theorem dX6_readsItem_69 : decode cX6_readsItem 69 = .ok (.aload_n 0, 1) := by decide +kernel
theorem dX6_readsItem_70 : decode cX6_readsItem 70 = .ok (.iconst 0, 1) := by decide +kernel
theorem dX6_readsItem_71 : decode cX6_readsItem 71 = .ok (.bipush 99, 2) := by decide +kernel
theorem dX6_readsItem_73 : decode cX6_readsItem 73 = .ok (.bipush 59, 2) := by decide +kernel
theorem dX6_readsItem_75 : decode cX6_readsItem 75 = .ok (.invokevirtual 74, 3) := by decide +kernel
theorem dX6_readsItem_78 : decode cX6_readsItem 78 = .ok (.istore_n 3, 1) := by decide +kernel
theorem dX6_readsItem_79 : decode cX6_readsItem 79 = .ok (.iload_n 3, 1) := by decide +kernel
theorem dX6_readsItem_80 : decode cX6_readsItem 80 = .ok (.ifCond .lt 14, 3) := by decide +kernel
theorem dX6_readsItem_83 : decode cX6_readsItem 83 = .ok (.aload_n 0, 1) := by decide +kernel
theorem dX6_readsItem_84 : decode cX6_readsItem 84 = .ok (.getfield 16, 3) := by decide +kernel
theorem dX6_readsItem_87 : decode cX6_readsItem 87 = .ok (.iconst 0, 1) := by decide +kernel
theorem dX6_readsItem_88 : decode cX6_readsItem 88 = .ok (.iaload, 1) := by decide +kernel
theorem dX6_readsItem_89 : decode cX6_readsItem 89 = .ok (.bipush 6, 2) := by decide +kernel
theorem dX6_readsItem_91 : decode cX6_readsItem 91 = .ok (.if_icmp .ne 5, 3) := by decide +kernel
theorem dX6_readsItem_94 : decode cX6_readsItem 94 = .ok (.iconst 0, 1) := by decide +kernel
theorem dX6_readsItem_95 : decode cX6_readsItem 95 = .ok (.ireturn, 1) := by decide +kernel
theorem dX6_readsItem_96 : decode cX6_readsItem 96 = .ok (.aload_n 0, 1) := by decide +kernel
theorem dX6_readsItem_97 : decode cX6_readsItem 97 = .ok (.iload_n 2, 1) := by decide +kernel
theorem dX6_readsItem_98 : decode cX6_readsItem 98 = .ok (.iload_n 3, 1) := by decide +kernel
theorem dX6_readsItem_99 : decode cX6_readsItem 99 = .ok (.invokevirtual 41, 3) := by decide +kernel
theorem dX6_readsItem_102 : decode cX6_readsItem 102 = .ok (.iconst 1, 1) := by decide +kernel
theorem dX6_readsItem_103 : decode cX6_readsItem 103 = .ok (.ireturn, 1) := by decide +kernel
theorem dX6_readsItem_104 : decode cX6_readsItem 104 = .ok (.aload_n 0, 1) := by decide +kernel
theorem dX6_readsItem_105 : decode cX6_readsItem 105 = .ok (.iconst 1, 1) := by decide +kernel
theorem dX6_readsItem_106 : decode cX6_readsItem 106 = .ok (.bipush 60, 2) := by decide +kernel
theorem dX6_readsItem_108 : decode cX6_readsItem 108 = .ok (.bipush 59, 2) := by decide +kernel
theorem dX6_readsItem_110 : decode cX6_readsItem 110 = .ok (.invokevirtual 74, 3) := by decide +kernel
theorem dX6_readsItem_113 : decode cX6_readsItem 113 = .ok (.istore_n 2, 1) := by decide +kernel
theorem dX6_readsItem_114 : decode cX6_readsItem 114 = .ok (.iload_n 2, 1) := by decide +kernel
theorem dX6_readsItem_115 : decode cX6_readsItem 115 = .ok (.ifCond .lt 14, 3) := by decide +kernel
theorem dX6_readsItem_118 : decode cX6_readsItem 118 = .ok (.aload_n 0, 1) := by decide +kernel
theorem dX6_readsItem_119 : decode cX6_readsItem 119 = .ok (.getfield 16, 3) := by decide +kernel
theorem dX6_readsItem_122 : decode cX6_readsItem 122 = .ok (.iconst 1, 1) := by decide +kernel
theorem dX6_readsItem_123 : decode cX6_readsItem 123 = .ok (.iaload, 1) := by decide +kernel
theorem dX6_readsItem_124 : decode cX6_readsItem 124 = .ok (.bipush 6, 2) := by decide +kernel
theorem dX6_readsItem_126 : decode cX6_readsItem 126 = .ok (.if_icmp .ne 5, 3) := by decide +kernel
theorem dX6_readsItem_129 : decode cX6_readsItem 129 = .ok (.iconst 0, 1) := by decide +kernel
theorem dX6_readsItem_130 : decode cX6_readsItem 130 = .ok (.ireturn, 1) := by decide +kernel
theorem dX6_readsItem_131 : decode cX6_readsItem 131 = .ok (.aload_n 0, 1) := by decide +kernel
theorem dX6_readsItem_132 : decode cX6_readsItem 132 = .ok (.iload_n 2, 1) := by decide +kernel
theorem dX6_readsItem_133 : decode cX6_readsItem 133 = .ok (.invokevirtual 45, 3) := by decide +kernel
theorem dX6_readsItem_136 : decode cX6_readsItem 136 = .ok (.iconst 1, 1) := by decide +kernel
theorem dX6_readsItem_137 : decode cX6_readsItem 137 = .ok (.ireturn, 1) := by decide +kernel
theorem dX6_readsItem_138 : decode cX6_readsItem 138 = .ok (.aload_n 0, 1) := by decide +kernel
theorem dX6_readsItem_139 : decode cX6_readsItem 139 = .ok (.iconst 0, 1) := by decide +kernel
theorem dX6_readsItem_140 : decode cX6_readsItem 140 = .ok (.aload_n 0, 1) := by decide +kernel
theorem dX6_readsItem_141 : decode cX6_readsItem 141 = .ok (.getfield 16, 3) := by decide +kernel
theorem dX6_readsItem_144 : decode cX6_readsItem 144 = .ok (.iconst 0, 1) := by decide +kernel
theorem dX6_readsItem_145 : decode cX6_readsItem 145 = .ok (.iaload, 1) := by decide +kernel
theorem dX6_readsItem_146 : decode cX6_readsItem 146 = .ok (.iconst 1, 1) := by decide +kernel
theorem dX6_readsItem_147 : decode cX6_readsItem 147 = .ok (.isub, 1) := by decide +kernel
theorem dX6_readsItem_148 : decode cX6_readsItem 148 = .ok (.bipush 44, 2) := by decide +kernel
theorem dX6_readsItem_150 : decode cX6_readsItem 150 = .ok (.invokevirtual 74, 3) := by decide +kernel
theorem dX6_readsItem_153 : decode cX6_readsItem 153 = .ok (.istore_n 2, 1) := by decide +kernel
theorem dX6_readsItem_154 : decode cX6_readsItem 154 = .ok (.iload_n 2, 1) := by decide +kernel
theorem dX6_readsItem_155 : decode cX6_readsItem 155 = .ok (.ifCond .ge 7, 3) := by decide +kernel
theorem dX6_readsItem_158 : decode cX6_readsItem 158 = .ok (.iconst (-1), 1) := by decide +kernel
theorem dX6_readsItem_159 : decode cX6_readsItem 159 = .ok (.goto 18, 3) := by decide +kernel
theorem dX6_readsItem_162 : decode cX6_readsItem 162 = .ok (.aload_n 0, 1) := by decide +kernel
theorem dX6_readsItem_163 : decode cX6_readsItem 163 = .ok (.iconst 0, 1) := by decide +kernel
theorem dX6_readsItem_164 : decode cX6_readsItem 164 = .ok (.aload_n 0, 1) := by decide +kernel
theorem dX6_readsItem_165 : decode cX6_readsItem 165 = .ok (.getfield 16, 3) := by decide +kernel
theorem dX6_readsItem_168 : decode cX6_readsItem 168 = .ok (.iconst 1, 1) := by decide +kernel
theorem dX6_readsItem_169 : decode cX6_readsItem 169 = .ok (.iaload, 1) := by decide +kernel
theorem dX6_readsItem_170 : decode cX6_readsItem 170 = .ok (.iconst 1, 1) := by decide +kernel
theorem dX6_readsItem_171 : decode cX6_readsItem 171 = .ok (.isub, 1) := by decide +kernel
theorem dX6_readsItem_172 : decode cX6_readsItem 172 = .ok (.bipush 44, 2) := by decide +kernel
theorem dX6_readsItem_174 : decode cX6_readsItem 174 = .ok (.invokevirtual 74, 3) := by decide +kernel
theorem dX6_readsItem_177 : decode cX6_readsItem 177 = .ok (.istore_n 3, 1) := by decide +kernel
theorem dX6_readsItem_178 : decode cX6_readsItem 178 = .ok (.iload_n 3, 1) := by decide +kernel
theorem dX6_readsItem_179 : decode cX6_readsItem 179 = .ok (.ifCond .ge 7, 3) := by decide +kernel
theorem dX6_readsItem_182 : decode cX6_readsItem 182 = .ok (.iconst (-1), 1) := by decide +kernel
theorem dX6_readsItem_183 : decode cX6_readsItem 183 = .ok (.goto 12, 3) := by decide +kernel
theorem dX6_readsItem_186 : decode cX6_readsItem 186 = .ok (.aload_n 0, 1) := by decide +kernel
theorem dX6_readsItem_187 : decode cX6_readsItem 187 = .ok (.iconst 1, 1) := by decide +kernel
theorem dX6_readsItem_188 : decode cX6_readsItem 188 = .ok (.bipush 30, 2) := by decide +kernel
theorem dX6_readsItem_190 : decode cX6_readsItem 190 = .ok (.bipush 44, 2) := by decide +kernel
theorem dX6_readsItem_192 : decode cX6_readsItem 192 = .ok (.invokevirtual 74, 3) := by decide +kernel
theorem dX6_readsItem_195 : decode cX6_readsItem 195 = .ok (.istore 4, 2) := by decide +kernel
theorem dX6_readsItem_197 : decode cX6_readsItem 197 = .ok (.iload 4, 2) := by decide +kernel
theorem dX6_readsItem_199 : decode cX6_readsItem 199 = .ok (.ifCond .ge 7, 3) := by decide +kernel
theorem dX6_readsItem_202 : decode cX6_readsItem 202 = .ok (.iconst (-1), 1) := by decide +kernel
theorem dX6_readsItem_203 : decode cX6_readsItem 203 = .ok (.goto 12, 3) := by decide +kernel
theorem dX6_readsItem_206 : decode cX6_readsItem 206 = .ok (.aload_n 0, 1) := by decide +kernel
theorem dX6_readsItem_207 : decode cX6_readsItem 207 = .ok (.iconst 0, 1) := by decide +kernel
theorem dX6_readsItem_208 : decode cX6_readsItem 208 = .ok (.bipush 9, 2) := by decide +kernel
theorem dX6_readsItem_210 : decode cX6_readsItem 210 = .ok (.bipush 59, 2) := by decide +kernel
theorem dX6_readsItem_212 : decode cX6_readsItem 212 = .ok (.invokevirtual 74, 3) := by decide +kernel
theorem dX6_readsItem_215 : decode cX6_readsItem 215 = .ok (.istore 5, 2) := by decide +kernel
theorem dX6_readsItem_217 : decode cX6_readsItem 217 = .ok (.iload 5, 2) := by decide +kernel
theorem dX6_readsItem_219 : decode cX6_readsItem 219 = .ok (.ifCond .lt 14, 3) := by decide +kernel
theorem dX6_readsItem_222 : decode cX6_readsItem 222 = .ok (.aload_n 0, 1) := by decide +kernel
theorem dX6_readsItem_223 : decode cX6_readsItem 223 = .ok (.getfield 16, 3) := by decide +kernel
theorem dX6_readsItem_226 : decode cX6_readsItem 226 = .ok (.iconst 2, 1) := by decide +kernel
theorem dX6_readsItem_227 : decode cX6_readsItem 227 = .ok (.iaload, 1) := by decide +kernel
theorem dX6_readsItem_228 : decode cX6_readsItem 228 = .ok (.bipush 9, 2) := by decide +kernel
theorem dX6_readsItem_230 : decode cX6_readsItem 230 = .ok (.if_icmp .ne 5, 3) := by decide +kernel
theorem dX6_readsItem_233 : decode cX6_readsItem 233 = .ok (.iconst 0, 1) := by decide +kernel
theorem dX6_readsItem_234 : decode cX6_readsItem 234 = .ok (.ireturn, 1) := by decide +kernel
theorem dX6_readsItem_235 : decode cX6_readsItem 235 = .ok (.aload_n 0, 1) := by decide +kernel
theorem dX6_readsItem_236 : decode cX6_readsItem 236 = .ok (.iload_n 2, 1) := by decide +kernel
theorem dX6_readsItem_237 : decode cX6_readsItem 237 = .ok (.iload_n 3, 1) := by decide +kernel
theorem dX6_readsItem_238 : decode cX6_readsItem 238 = .ok (.iload 4, 2) := by decide +kernel
theorem dX6_readsItem_240 : decode cX6_readsItem 240 = .ok (.iload 5, 2) := by decide +kernel
theorem dX6_readsItem_242 : decode cX6_readsItem 242 = .ok (.invokevirtual 49, 3) := by decide +kernel
theorem dX6_readsItem_245 : decode cX6_readsItem 245 = .ok (.iconst 1, 1) := by decide +kernel
theorem dX6_readsItem_246 : decode cX6_readsItem 246 = .ok (.ireturn, 1) := by decide +kernel
theorem dX6_readsItem_247 : decode cX6_readsItem 247 = .ok (.aload_n 0, 1) := by decide +kernel
theorem dX6_readsItem_248 : decode cX6_readsItem 248 = .ok (.getfield 16, 3) := by decide +kernel
theorem dX6_readsItem_251 : decode cX6_readsItem 251 = .ok (.iconst 3, 1) := by decide +kernel
theorem dX6_readsItem_252 : decode cX6_readsItem 252 = .ok (.aload_n 0, 1) := by decide +kernel
theorem dX6_readsItem_253 : decode cX6_readsItem 253 = .ok (.iconst 0, 1) := by decide +kernel
theorem dX6_readsItem_254 : decode cX6_readsItem 254 = .ok (.bipush 30, 2) := by decide +kernel
theorem dX6_readsItem_256 : decode cX6_readsItem 256 = .ok (.bipush 59, 2) := by decide +kernel
theorem dX6_readsItem_258 : decode cX6_readsItem 258 = .ok (.invokevirtual 74, 3) := by decide +kernel
theorem dX6_readsItem_261 : decode cX6_readsItem 261 = .ok (.iastore, 1) := by decide +kernel
theorem dX6_readsItem_262 : decode cX6_readsItem 262 = .ok (.aload_n 0, 1) := by decide +kernel
theorem dX6_readsItem_263 : decode cX6_readsItem 263 = .ok (.getfield 16, 3) := by decide +kernel
theorem dX6_readsItem_266 : decode cX6_readsItem 266 = .ok (.iconst 3, 1) := by decide +kernel
theorem dX6_readsItem_267 : decode cX6_readsItem 267 = .ok (.iaload, 1) := by decide +kernel
theorem dX6_readsItem_268 : decode cX6_readsItem 268 = .ok (.ifCond .lt 7, 3) := by decide +kernel
theorem dX6_readsItem_271 : decode cX6_readsItem 271 = .ok (.iconst 1, 1) := by decide +kernel
theorem dX6_readsItem_272 : decode cX6_readsItem 272 = .ok (.goto 4, 3) := by decide +kernel
theorem dX6_readsItem_275 : decode cX6_readsItem 275 = .ok (.iconst 0, 1) := by decide +kernel
theorem dX6_readsItem_276 : decode cX6_readsItem 276 = .ok (.ireturn, 1) := by decide +kernel
theorem dX6_readsItem_277 : decode cX6_readsItem 277 = .ok (.aload_n 0, 1) := by decide +kernel
theorem dX6_readsItem_278 : decode cX6_readsItem 278 = .ok (.getfield 16, 3) := by decide +kernel
theorem dX6_readsItem_281 : decode cX6_readsItem 281 = .ok (.iconst 4, 1) := by decide +kernel
theorem dX6_readsItem_282 : decode cX6_readsItem 282 = .ok (.aload_n 0, 1) := by decide +kernel
theorem dX6_readsItem_283 : decode cX6_readsItem 283 = .ok (.iconst 0, 1) := by decide +kernel
theorem dX6_readsItem_284 : decode cX6_readsItem 284 = .ok (.bipush 9, 2) := by decide +kernel
theorem dX6_readsItem_286 : decode cX6_readsItem 286 = .ok (.bipush 59, 2) := by decide +kernel
theorem dX6_readsItem_288 : decode cX6_readsItem 288 = .ok (.invokevirtual 74, 3) := by decide +kernel
theorem dX6_readsItem_291 : decode cX6_readsItem 291 = .ok (.iastore, 1) := by decide +kernel
theorem dX6_readsItem_292 : decode cX6_readsItem 292 = .ok (.aload_n 0, 1) := by decide +kernel
theorem dX6_readsItem_293 : decode cX6_readsItem 293 = .ok (.getfield 16, 3) := by decide +kernel
theorem dX6_readsItem_296 : decode cX6_readsItem 296 = .ok (.iconst 4, 1) := by decide +kernel
theorem dX6_readsItem_297 : decode cX6_readsItem 297 = .ok (.iaload, 1) := by decide +kernel
theorem dX6_readsItem_298 : decode cX6_readsItem 298 = .ok (.ifCond .lt 7, 3) := by decide +kernel
theorem dX6_readsItem_301 : decode cX6_readsItem 301 = .ok (.iconst 1, 1) := by decide +kernel
theorem dX6_readsItem_302 : decode cX6_readsItem 302 = .ok (.goto 4, 3) := by decide +kernel
theorem dX6_readsItem_305 : decode cX6_readsItem 305 = .ok (.iconst 0, 1) := by decide +kernel
theorem dX6_readsItem_306 : decode cX6_readsItem 306 = .ok (.ireturn, 1) := by decide +kernel
theorem dX6_readsItem_307 : decode cX6_readsItem 307 = .ok (.iconst 0, 1) := by decide +kernel
theorem dX6_readsItem_308 : decode cX6_readsItem 308 = .ok (.ireturn, 1) := by decide +kernel
theorem dX6_readsAll_0 : decode cX6_readsAll 0 = .ok (.aload_n 0, 1) := by decide +kernel
theorem dX6_readsAll_1 : decode cX6_readsAll 1 = .ok (.invokevirtual 38, 3) := by decide +kernel
theorem dX6_readsAll_4 : decode cX6_readsAll 4 = .ok (.aload_n 0, 1) := by decide +kernel
theorem dX6_readsAll_5 : decode cX6_readsAll 5 = .ok (.iconst 0, 1) := by decide +kernel
theorem dX6_readsAll_6 : decode cX6_readsAll 6 = .ok (.putfield 63, 3) := by decide +kernel
theorem dX6_readsAll_9 : decode cX6_readsAll 9 = .ok (.aload_n 0, 1) := by decide +kernel
theorem dX6_readsAll_10 : decode cX6_readsAll 10 = .ok (.getfield 63, 3) := by decide +kernel
theorem dX6_readsAll_13 : decode cX6_readsAll 13 = .ok (.aload_n 0, 1) := by decide +kernel
theorem dX6_readsAll_14 : decode cX6_readsAll 14 = .ok (.getfield 60, 3) := by decide +kernel
theorem dX6_readsAll_17 : decode cX6_readsAll 17 = .ok (.if_icmp .ge 36, 3) := by decide +kernel
theorem dX6_readsAll_20 : decode cX6_readsAll 20 = .ok (.aload_n 0, 1) := by decide +kernel
theorem dX6_readsAll_21 : decode cX6_readsAll 21 = .ok (.getfield 63, 3) := by decide +kernel
theorem dX6_readsAll_24 : decode cX6_readsAll 24 = .ok (.istore_n 1, 1) := by decide +kernel
theorem dX6_readsAll_25 : decode cX6_readsAll 25 = .ok (.aload_n 0, 1) := by decide +kernel
theorem dX6_readsAll_26 : decode cX6_readsAll 26 = .ok (.dup, 1) := by decide +kernel
theorem dX6_readsAll_27 : decode cX6_readsAll 27 = .ok (.getfield 63, 3) := by decide +kernel
theorem dX6_readsAll_30 : decode cX6_readsAll 30 = .ok (.iconst 1, 1) := by decide +kernel
theorem dX6_readsAll_31 : decode cX6_readsAll 31 = .ok (.iadd, 1) := by decide +kernel
theorem dX6_readsAll_32 : decode cX6_readsAll 32 = .ok (.putfield 63, 3) := by decide +kernel
theorem dX6_readsAll_35 : decode cX6_readsAll 35 = .ok (.aload_n 0, 1) := by decide +kernel
theorem dX6_readsAll_36 : decode cX6_readsAll 36 = .ok (.aload_n 0, 1) := by decide +kernel
theorem dX6_readsAll_37 : decode cX6_readsAll 37 = .ok (.getfield 7, 3) := by decide +kernel
theorem dX6_readsAll_40 : decode cX6_readsAll 40 = .ok (.iload_n 1, 1) := by decide +kernel
theorem dX6_readsAll_41 : decode cX6_readsAll 41 = .ok (.iaload, 1) := by decide +kernel
theorem dX6_readsAll_42 : decode cX6_readsAll 42 = .ok (.invokevirtual 78, 3) := by decide +kernel
theorem dX6_readsAll_45 : decode cX6_readsAll 45 = .ok (.ifCond .ne 5, 3) := by decide +kernel
theorem dX6_readsAll_48 : decode cX6_readsAll 48 = .ok (.iload_n 1, 1) := by decide +kernel
theorem dX6_readsAll_49 : decode cX6_readsAll 49 = .ok (.ireturn, 1) := by decide +kernel
theorem dX6_readsAll_50 : decode cX6_readsAll 50 = .ok (.goto (-41), 3) := by decide +kernel
theorem dX6_readsAll_53 : decode cX6_readsAll 53 = .ok (.bipush (-4), 2) := by decide +kernel
theorem dX6_readsAll_55 : decode cX6_readsAll 55 = .ok (.ireturn, 1) := by decide +kernel
theorem dX6_fault_0 : decode cX6_fault 0 = .ok (.aload_n 0, 1) := by decide +kernel
theorem dX6_fault_1 : decode cX6_fault 1 = .ok (.invokevirtual 81, 3) := by decide +kernel
theorem dX6_fault_4 : decode cX6_fault 4 = .ok (.ireturn, 1) := by decide +kernel
theorem dX6_starts_0 : decode cX6_starts 0 = .ok (.iconst 0, 1) := by decide +kernel
theorem dX6_starts_1 : decode cX6_starts 1 = .ok (.istore_n 1, 1) := by decide +kernel
theorem dX6_starts_2 : decode cX6_starts 2 = .ok (.iload_n 1, 1) := by decide +kernel
theorem dX6_starts_3 : decode cX6_starts 3 = .ok (.bipush 55, 2) := by decide +kernel
theorem dX6_starts_5 : decode cX6_starts 5 = .ok (.if_icmp .ge 45, 3) := by decide +kernel
theorem dX6_starts_8 : decode cX6_starts 8 = .ok (.aload_n 0, 1) := by decide +kernel
theorem dX6_starts_9 : decode cX6_starts 9 = .ok (.getfield 19, 3) := by decide +kernel
theorem dX6_starts_12 : decode cX6_starts 12 = .ok (.iload_n 1, 1) := by decide +kernel
theorem dX6_starts_13 : decode cX6_starts 13 = .ok (.iload_n 1, 1) := by decide +kernel
theorem dX6_starts_14 : decode cX6_starts 14 = .ok (.bipush 6, 2) := by decide +kernel
theorem dX6_starts_16 : decode cX6_starts 16 = .ok (.if_icmp .ge 15, 3) := by decide +kernel
theorem dX6_starts_19 : decode cX6_starts 19 = .ok (.aload_n 0, 1) := by decide +kernel
theorem dX6_starts_20 : decode cX6_starts 20 = .ok (.getfield 13, 3) := by decide +kernel
theorem dX6_starts_23 : decode cX6_starts 23 = .ok (.bipush 11, 2) := by decide +kernel
theorem dX6_starts_25 : decode cX6_starts 25 = .ok (.iload_n 1, 1) := by decide +kernel
theorem dX6_starts_26 : decode cX6_starts 26 = .ok (.iadd, 1) := by decide +kernel
theorem dX6_starts_27 : decode cX6_starts 27 = .ok (.iaload, 1) := by decide +kernel
theorem dX6_starts_28 : decode cX6_starts 28 = .ok (.goto 15, 3) := by decide +kernel
theorem dX6_starts_31 : decode cX6_starts 31 = .ok (.iload_n 1, 1) := by decide +kernel
theorem dX6_starts_32 : decode cX6_starts 32 = .ok (.bipush 12, 2) := by decide +kernel
theorem dX6_starts_34 : decode cX6_starts 34 = .ok (.if_icmp .ge 8, 3) := by decide +kernel
theorem dX6_starts_37 : decode cX6_starts 37 = .ok (.bipush (-4), 2) := by decide +kernel
theorem dX6_starts_39 : decode cX6_starts 39 = .ok (.goto 4, 3) := by decide +kernel
theorem dX6_starts_42 : decode cX6_starts 42 = .ok (.iconst 0, 1) := by decide +kernel
theorem dX6_starts_43 : decode cX6_starts 43 = .ok (.iastore, 1) := by decide +kernel
theorem dX6_starts_44 : decode cX6_starts 44 = .ok (.iinc 1 1, 3) := by decide +kernel
theorem dX6_starts_47 : decode cX6_starts 47 = .ok (.goto (-45), 3) := by decide +kernel
theorem dX6_starts_50 : decode cX6_starts 50 = .ok (.return_, 1) := by decide +kernel
theorem dX6_lays_0 : decode cX6_lays 0 = .ok (.iconst 0, 1) := by decide +kernel
theorem dX6_lays_1 : decode cX6_lays 1 = .ok (.istore_n 1, 1) := by decide +kernel
theorem dX6_lays_2 : decode cX6_lays 2 = .ok (.iload_n 1, 1) := by decide +kernel
theorem dX6_lays_3 : decode cX6_lays 3 = .ok (.bipush 59, 2) := by decide +kernel
theorem dX6_lays_5 : decode cX6_lays 5 = .ok (.if_icmp .ge 21, 3) := by decide +kernel
theorem dX6_lays_8 : decode cX6_lays 8 = .ok (.aload_n 0, 1) := by decide +kernel
theorem dX6_lays_9 : decode cX6_lays 9 = .ok (.getfield 13, 3) := by decide +kernel
theorem dX6_lays_12 : decode cX6_lays 12 = .ok (.iload_n 1, 1) := by decide +kernel
theorem dX6_lays_13 : decode cX6_lays 13 = .ok (.aload_n 0, 1) := by decide +kernel
theorem dX6_lays_14 : decode cX6_lays 14 = .ok (.getfield 16, 3) := by decide +kernel
theorem dX6_lays_17 : decode cX6_lays 17 = .ok (.iload_n 1, 1) := by decide +kernel
theorem dX6_lays_18 : decode cX6_lays 18 = .ok (.iaload, 1) := by decide +kernel
theorem dX6_lays_19 : decode cX6_lays 19 = .ok (.iastore, 1) := by decide +kernel
theorem dX6_lays_20 : decode cX6_lays 20 = .ok (.iinc 1 1, 3) := by decide +kernel
theorem dX6_lays_23 : decode cX6_lays 23 = .ok (.goto (-21), 3) := by decide +kernel
theorem dX6_lays_26 : decode cX6_lays 26 = .ok (.aload_n 0, 1) := by decide +kernel
theorem dX6_lays_27 : decode cX6_lays 27 = .ok (.invokevirtual 85, 3) := by decide +kernel
theorem dX6_lays_30 : decode cX6_lays 30 = .ok (.aload_n 0, 1) := by decide +kernel
theorem dX6_lays_31 : decode cX6_lays 31 = .ok (.iconst 0, 1) := by decide +kernel
theorem dX6_lays_32 : decode cX6_lays 32 = .ok (.putfield 88, 3) := by decide +kernel
theorem dX6_lays_35 : decode cX6_lays 35 = .ok (.aload_n 0, 1) := by decide +kernel
theorem dX6_lays_36 : decode cX6_lays 36 = .ok (.iconst 0, 1) := by decide +kernel
theorem dX6_lays_37 : decode cX6_lays 37 = .ok (.putfield 91, 3) := by decide +kernel
theorem dX6_lays_40 : decode cX6_lays 40 = .ok (.aload_n 0, 1) := by decide +kernel
theorem dX6_lays_41 : decode cX6_lays 41 = .ok (.iconst 0, 1) := by decide +kernel
theorem dX6_lays_42 : decode cX6_lays 42 = .ok (.putfield 94, 3) := by decide +kernel
theorem dX6_lays_45 : decode cX6_lays 45 = .ok (.return_, 1) := by decide +kernel
theorem dX6_lay_0 : decode cX6_lay 0 = .ok (.aload_n 0, 1) := by decide +kernel
theorem dX6_lay_1 : decode cX6_lay 1 = .ok (.invokevirtual 81, 3) := by decide +kernel
theorem dX6_lay_4 : decode cX6_lay 4 = .ok (.bipush (-4), 2) := by decide +kernel
theorem dX6_lay_6 : decode cX6_lay 6 = .ok (.if_icmp .ne 21, 3) := by decide +kernel
theorem dX6_lay_9 : decode cX6_lay 9 = .ok (.aload_n 0, 1) := by decide +kernel
theorem dX6_lay_10 : decode cX6_lay 10 = .ok (.getfield 16, 3) := by decide +kernel
theorem dX6_lay_13 : decode cX6_lay 13 = .ok (.iconst 0, 1) := by decide +kernel
theorem dX6_lay_14 : decode cX6_lay 14 = .ok (.iaload, 1) := by decide +kernel
theorem dX6_lay_15 : decode cX6_lay 15 = .ok (.ifCond .eq 12, 3) := by decide +kernel
theorem dX6_lay_18 : decode cX6_lay 18 = .ok (.aload_n 0, 1) := by decide +kernel
theorem dX6_lay_19 : decode cX6_lay 19 = .ok (.getfield 16, 3) := by decide +kernel
theorem dX6_lay_22 : decode cX6_lay 22 = .ok (.iconst 1, 1) := by decide +kernel
theorem dX6_lay_23 : decode cX6_lay 23 = .ok (.iaload, 1) := by decide +kernel
theorem dX6_lay_24 : decode cX6_lay 24 = .ok (.ifCond .ne 6, 3) := by decide +kernel
theorem dX6_lay_27 : decode cX6_lay 27 = .ok (.bipush (-2), 2) := by decide +kernel
theorem dX6_lay_29 : decode cX6_lay 29 = .ok (.ireturn, 1) := by decide +kernel
theorem dX6_lay_30 : decode cX6_lay 30 = .ok (.aload_n 0, 1) := by decide +kernel
theorem dX6_lay_31 : decode cX6_lay 31 = .ok (.invokevirtual 53, 3) := by decide +kernel
theorem dX6_lay_34 : decode cX6_lay 34 = .ok (.aload_n 0, 1) := by decide +kernel
theorem dX6_lay_35 : decode cX6_lay 35 = .ok (.getfield 13, 3) := by decide +kernel
theorem dX6_lay_38 : decode cX6_lay 38 = .ok (.iconst 1, 1) := by decide +kernel
theorem dX6_lay_39 : decode cX6_lay 39 = .ok (.iaload, 1) := by decide +kernel
theorem dX6_lay_40 : decode cX6_lay 40 = .ok (.ireturn, 1) := by decide +kernel
theorem dX6_countedOf_0 : decode cX6_countedOf 0 = .ok (.iload_n 1, 1) := by decide +kernel
theorem dX6_countedOf_1 : decode cX6_countedOf 1 = .ok (.iconst 1, 1) := by decide +kernel
theorem dX6_countedOf_2 : decode cX6_countedOf 2 = .ok (.if_icmp .ne 18, 3) := by decide +kernel
theorem dX6_countedOf_5 : decode cX6_countedOf 5 = .ok (.iload_n 2, 1) := by decide +kernel
theorem dX6_countedOf_6 : decode cX6_countedOf 6 = .ok (.iconst 2, 1) := by decide +kernel
theorem dX6_countedOf_7 : decode cX6_countedOf 7 = .ok (.if_icmp .ge 7, 3) := by decide +kernel
theorem dX6_countedOf_10 : decode cX6_countedOf 10 = .ok (.iconst 0, 1) := by decide +kernel
theorem dX6_countedOf_11 : decode cX6_countedOf 11 = .ok (.goto 32, 3) := by decide +kernel
theorem dX6_countedOf_14 : decode cX6_countedOf 14 = .ok (.iload_n 2, 1) := by decide +kernel
theorem dX6_countedOf_15 : decode cX6_countedOf 15 = .ok (.iconst 2, 1) := by decide +kernel
theorem dX6_countedOf_16 : decode cX6_countedOf 16 = .ok (.isub, 1) := by decide +kernel
theorem dX6_countedOf_17 : decode cX6_countedOf 17 = .ok (.goto 26, 3) := by decide +kernel
theorem dX6_countedOf_20 : decode cX6_countedOf 20 = .ok (.iload_n 1, 1) := by decide +kernel
theorem dX6_countedOf_21 : decode cX6_countedOf 21 = .ok (.iconst 2, 1) := by decide +kernel
theorem dX6_countedOf_22 : decode cX6_countedOf 22 = .ok (.if_icmp .ne 9, 3) := by decide +kernel
theorem dX6_countedOf_25 : decode cX6_countedOf 25 = .ok (.iconst 3, 1) := by decide +kernel
theorem dX6_countedOf_26 : decode cX6_countedOf 26 = .ok (.iload_n 2, 1) := by decide +kernel
theorem dX6_countedOf_27 : decode cX6_countedOf 27 = .ok (.imul, 1) := by decide +kernel
theorem dX6_countedOf_28 : decode cX6_countedOf 28 = .ok (.goto 15, 3) := by decide +kernel
theorem dX6_countedOf_31 : decode cX6_countedOf 31 = .ok (.iload_n 1, 1) := by decide +kernel
theorem dX6_countedOf_32 : decode cX6_countedOf 32 = .ok (.iconst 3, 1) := by decide +kernel
theorem dX6_countedOf_33 : decode cX6_countedOf 33 = .ok (.if_icmp .ne 9, 3) := by decide +kernel
theorem dX6_countedOf_36 : decode cX6_countedOf 36 = .ok (.iconst 2, 1) := by decide +kernel
theorem dX6_countedOf_37 : decode cX6_countedOf 37 = .ok (.iload_n 2, 1) := by decide +kernel
theorem dX6_countedOf_38 : decode cX6_countedOf 38 = .ok (.imul, 1) := by decide +kernel
theorem dX6_countedOf_39 : decode cX6_countedOf 39 = .ok (.goto 4, 3) := by decide +kernel
theorem dX6_countedOf_42 : decode cX6_countedOf 42 = .ok (.iload_n 2, 1) := by decide +kernel
theorem dX6_countedOf_43 : decode cX6_countedOf 43 = .ok (.ireturn, 1) := by decide +kernel
theorem dX6_better_0 : decode cX6_better 0 = .ok (.iload_n 0, 1) := by decide +kernel
theorem dX6_better_1 : decode cX6_better 1 = .ok (.sipush 128, 3) := by decide +kernel
theorem dX6_better_4 : decode cX6_better 4 = .ok (.idiv, 1) := by decide +kernel
theorem dX6_better_5 : decode cX6_better 5 = .ok (.iload_n 1, 1) := by decide +kernel
theorem dX6_better_6 : decode cX6_better 6 = .ok (.sipush 128, 3) := by decide +kernel
theorem dX6_better_9 : decode cX6_better 9 = .ok (.idiv, 1) := by decide +kernel
theorem dX6_better_10 : decode cX6_better 10 = .ok (.if_icmp .gt 29, 3) := by decide +kernel
theorem dX6_better_13 : decode cX6_better 13 = .ok (.iload_n 0, 1) := by decide +kernel
theorem dX6_better_14 : decode cX6_better 14 = .ok (.sipush 128, 3) := by decide +kernel
theorem dX6_better_17 : decode cX6_better 17 = .ok (.idiv, 1) := by decide +kernel
theorem dX6_better_18 : decode cX6_better 18 = .ok (.iload_n 1, 1) := by decide +kernel
theorem dX6_better_19 : decode cX6_better 19 = .ok (.sipush 128, 3) := by decide +kernel
theorem dX6_better_22 : decode cX6_better 22 = .ok (.idiv, 1) := by decide +kernel
theorem dX6_better_23 : decode cX6_better 23 = .ok (.if_icmp .ne 20, 3) := by decide +kernel
theorem dX6_better_26 : decode cX6_better 26 = .ok (.iload_n 0, 1) := by decide +kernel
theorem dX6_better_27 : decode cX6_better 27 = .ok (.sipush 128, 3) := by decide +kernel
theorem dX6_better_30 : decode cX6_better 30 = .ok (.irem, 1) := by decide +kernel
theorem dX6_better_31 : decode cX6_better 31 = .ok (.iload_n 1, 1) := by decide +kernel
theorem dX6_better_32 : decode cX6_better 32 = .ok (.sipush 128, 3) := by decide +kernel
theorem dX6_better_35 : decode cX6_better 35 = .ok (.irem, 1) := by decide +kernel
theorem dX6_better_36 : decode cX6_better 36 = .ok (.if_icmp .gt 7, 3) := by decide +kernel
theorem dX6_better_39 : decode cX6_better 39 = .ok (.iconst 1, 1) := by decide +kernel
theorem dX6_better_40 : decode cX6_better 40 = .ok (.goto 4, 3) := by decide +kernel
theorem dX6_better_43 : decode cX6_better 43 = .ok (.iconst 0, 1) := by decide +kernel
theorem dX6_better_44 : decode cX6_better 44 = .ok (.istore_n 2, 1) := by decide +kernel
theorem dX6_better_45 : decode cX6_better 45 = .ok (.iload_n 2, 1) := by decide +kernel
theorem dX6_better_46 : decode cX6_better 46 = .ok (.ifCond .eq 7, 3) := by decide +kernel
theorem dX6_better_49 : decode cX6_better 49 = .ok (.iload_n 0, 1) := by decide +kernel
theorem dX6_better_50 : decode cX6_better 50 = .ok (.goto 4, 3) := by decide +kernel
theorem dX6_better_53 : decode cX6_better 53 = .ok (.iload_n 1, 1) := by decide +kernel
theorem dX6_better_54 : decode cX6_better 54 = .ok (.ireturn, 1) := by decide +kernel
theorem dX6_pauseNow_0 : decode cX6_pauseNow 0 = .ok (.aload_n 0, 1) := by decide +kernel
theorem dX6_pauseNow_1 : decode cX6_pauseNow 1 = .ok (.getfield 19, 3) := by decide +kernel
theorem dX6_pauseNow_4 : decode cX6_pauseNow 4 = .ok (.bipush 18, 2) := by decide +kernel
theorem dX6_pauseNow_6 : decode cX6_pauseNow 6 = .ok (.bipush 6, 2) := by decide +kernel
theorem dX6_pauseNow_8 : decode cX6_pauseNow 8 = .ok (.iload_n 1, 1) := by decide +kernel
theorem dX6_pauseNow_9 : decode cX6_pauseNow 9 = .ok (.imul, 1) := by decide +kernel
theorem dX6_pauseNow_10 : decode cX6_pauseNow 10 = .ok (.iadd, 1) := by decide +kernel
theorem dX6_pauseNow_11 : decode cX6_pauseNow 11 = .ok (.iload_n 2, 1) := by decide +kernel
theorem dX6_pauseNow_12 : decode cX6_pauseNow 12 = .ok (.iadd, 1) := by decide +kernel
theorem dX6_pauseNow_13 : decode cX6_pauseNow 13 = .ok (.iaload, 1) := by decide +kernel
theorem dX6_pauseNow_14 : decode cX6_pauseNow 14 = .ok (.istore_n 3, 1) := by decide +kernel
theorem dX6_pauseNow_15 : decode cX6_pauseNow 15 = .ok (.iconst 0, 1) := by decide +kernel
theorem dX6_pauseNow_16 : decode cX6_pauseNow 16 = .ok (.istore 4, 2) := by decide +kernel
theorem dX6_pauseNow_18 : decode cX6_pauseNow 18 = .ok (.iload 4, 2) := by decide +kernel
theorem dX6_pauseNow_20 : decode cX6_pauseNow 20 = .ok (.aload_n 0, 1) := by decide +kernel
theorem dX6_pauseNow_21 : decode cX6_pauseNow 21 = .ok (.getfield 13, 3) := by decide +kernel
theorem dX6_pauseNow_24 : decode cX6_pauseNow 24 = .ok (.iconst 2, 1) := by decide +kernel
theorem dX6_pauseNow_25 : decode cX6_pauseNow 25 = .ok (.iaload, 1) := by decide +kernel
theorem dX6_pauseNow_26 : decode cX6_pauseNow 26 = .ok (.if_icmp .ge 87, 3) := by decide +kernel
theorem dX6_pauseNow_29 : decode cX6_pauseNow 29 = .ok (.aload_n 0, 1) := by decide +kernel
theorem dX6_pauseNow_30 : decode cX6_pauseNow 30 = .ok (.getfield 13, 3) := by decide +kernel
theorem dX6_pauseNow_33 : decode cX6_pauseNow 33 = .ok (.bipush 23, 2) := by decide +kernel
theorem dX6_pauseNow_35 : decode cX6_pauseNow 35 = .ok (.iload 4, 2) := by decide +kernel
theorem dX6_pauseNow_37 : decode cX6_pauseNow 37 = .ok (.iadd, 1) := by decide +kernel
theorem dX6_pauseNow_38 : decode cX6_pauseNow 38 = .ok (.iaload, 1) := by decide +kernel
theorem dX6_pauseNow_39 : decode cX6_pauseNow 39 = .ok (.iload_n 1, 1) := by decide +kernel
theorem dX6_pauseNow_40 : decode cX6_pauseNow 40 = .ok (.if_icmp .ne 67, 3) := by decide +kernel
theorem dX6_pauseNow_43 : decode cX6_pauseNow 43 = .ok (.aload_n 0, 1) := by decide +kernel
theorem dX6_pauseNow_44 : decode cX6_pauseNow 44 = .ok (.getfield 13, 3) := by decide +kernel
theorem dX6_pauseNow_47 : decode cX6_pauseNow 47 = .ok (.bipush 32, 2) := by decide +kernel
theorem dX6_pauseNow_49 : decode cX6_pauseNow 49 = .ok (.iload 4, 2) := by decide +kernel
theorem dX6_pauseNow_51 : decode cX6_pauseNow 51 = .ok (.iadd, 1) := by decide +kernel
theorem dX6_pauseNow_52 : decode cX6_pauseNow 52 = .ok (.iaload, 1) := by decide +kernel
theorem dX6_pauseNow_53 : decode cX6_pauseNow 53 = .ok (.iload_n 2, 1) := by decide +kernel
theorem dX6_pauseNow_54 : decode cX6_pauseNow 54 = .ok (.if_icmp .ne 53, 3) := by decide +kernel
theorem dX6_pauseNow_57 : decode cX6_pauseNow 57 = .ok (.aload_n 0, 1) := by decide +kernel
theorem dX6_pauseNow_58 : decode cX6_pauseNow 58 = .ok (.getfield 13, 3) := by decide +kernel
theorem dX6_pauseNow_61 : decode cX6_pauseNow 61 = .ok (.bipush 50, 2) := by decide +kernel
theorem dX6_pauseNow_63 : decode cX6_pauseNow 63 = .ok (.iload 4, 2) := by decide +kernel
theorem dX6_pauseNow_65 : decode cX6_pauseNow 65 = .ok (.iadd, 1) := by decide +kernel
theorem dX6_pauseNow_66 : decode cX6_pauseNow 66 = .ok (.iaload, 1) := by decide +kernel
theorem dX6_pauseNow_67 : decode cX6_pauseNow 67 = .ok (.aload_n 0, 1) := by decide +kernel
theorem dX6_pauseNow_68 : decode cX6_pauseNow 68 = .ok (.getfield 19, 3) := by decide +kernel
theorem dX6_pauseNow_71 : decode cX6_pauseNow 71 = .ok (.bipush 54, 2) := by decide +kernel
theorem dX6_pauseNow_73 : decode cX6_pauseNow 73 = .ok (.iaload, 1) := by decide +kernel
theorem dX6_pauseNow_74 : decode cX6_pauseNow 74 = .ok (.if_icmp .gt 33, 3) := by decide +kernel
theorem dX6_pauseNow_77 : decode cX6_pauseNow 77 = .ok (.sipush 128, 3) := by decide +kernel
theorem dX6_pauseNow_80 : decode cX6_pauseNow 80 = .ok (.aload_n 0, 1) := by decide +kernel
theorem dX6_pauseNow_81 : decode cX6_pauseNow 81 = .ok (.getfield 13, 3) := by decide +kernel
theorem dX6_pauseNow_84 : decode cX6_pauseNow 84 = .ok (.bipush 41, 2) := by decide +kernel
theorem dX6_pauseNow_86 : decode cX6_pauseNow 86 = .ok (.iload 4, 2) := by decide +kernel
theorem dX6_pauseNow_88 : decode cX6_pauseNow 88 = .ok (.iadd, 1) := by decide +kernel
theorem dX6_pauseNow_89 : decode cX6_pauseNow 89 = .ok (.iaload, 1) := by decide +kernel
theorem dX6_pauseNow_90 : decode cX6_pauseNow 90 = .ok (.imul, 1) := by decide +kernel
theorem dX6_pauseNow_91 : decode cX6_pauseNow 91 = .ok (.aload_n 0, 1) := by decide +kernel
theorem dX6_pauseNow_92 : decode cX6_pauseNow 92 = .ok (.getfield 13, 3) := by decide +kernel
theorem dX6_pauseNow_95 : decode cX6_pauseNow 95 = .ok (.bipush 50, 2) := by decide +kernel
theorem dX6_pauseNow_97 : decode cX6_pauseNow 97 = .ok (.iload 4, 2) := by decide +kernel
theorem dX6_pauseNow_99 : decode cX6_pauseNow 99 = .ok (.iadd, 1) := by decide +kernel
theorem dX6_pauseNow_100 : decode cX6_pauseNow 100 = .ok (.iaload, 1) := by decide +kernel
theorem dX6_pauseNow_101 : decode cX6_pauseNow 101 = .ok (.iadd, 1) := by decide +kernel
theorem dX6_pauseNow_102 : decode cX6_pauseNow 102 = .ok (.iload_n 3, 1) := by decide +kernel
theorem dX6_pauseNow_103 : decode cX6_pauseNow 103 = .ok (.invokestatic 97, 3) := by decide +kernel
theorem dX6_pauseNow_106 : decode cX6_pauseNow 106 = .ok (.istore_n 3, 1) := by decide +kernel
theorem dX6_pauseNow_107 : decode cX6_pauseNow 107 = .ok (.iinc 4 1, 3) := by decide +kernel
theorem dX6_pauseNow_110 : decode cX6_pauseNow 110 = .ok (.goto (-92), 3) := by decide +kernel
theorem dX6_pauseNow_113 : decode cX6_pauseNow 113 = .ok (.iload_n 1, 1) := by decide +kernel
theorem dX6_pauseNow_114 : decode cX6_pauseNow 114 = .ok (.aload_n 0, 1) := by decide +kernel
theorem dX6_pauseNow_115 : decode cX6_pauseNow 115 = .ok (.getfield 31, 3) := by decide +kernel
theorem dX6_pauseNow_118 : decode cX6_pauseNow 118 = .ok (.if_icmp .ne 7, 3) := by decide +kernel
theorem dX6_pauseNow_121 : decode cX6_pauseNow 121 = .ok (.iconst 0, 1) := by decide +kernel
theorem dX6_pauseNow_122 : decode cX6_pauseNow 122 = .ok (.goto 4, 3) := by decide +kernel
theorem dX6_pauseNow_125 : decode cX6_pauseNow 125 = .ok (.iload_n 3, 1) := by decide +kernel
theorem dX6_pauseNow_126 : decode cX6_pauseNow 126 = .ok (.ireturn, 1) := by decide +kernel
theorem dX6_countedNow_0 : decode cX6_countedNow 0 = .ok (.aload_n 0, 1) := by decide +kernel
theorem dX6_countedNow_1 : decode cX6_countedNow 1 = .ok (.aload_n 0, 1) := by decide +kernel
theorem dX6_countedNow_2 : decode cX6_countedNow 2 = .ok (.getfield 13, 3) := by decide +kernel
theorem dX6_countedNow_5 : decode cX6_countedNow 5 = .ok (.iconst 5, 1) := by decide +kernel
theorem dX6_countedNow_6 : decode cX6_countedNow 6 = .ok (.iload_n 1, 1) := by decide +kernel
theorem dX6_countedNow_7 : decode cX6_countedNow 7 = .ok (.iadd, 1) := by decide +kernel
theorem dX6_countedNow_8 : decode cX6_countedNow 8 = .ok (.iaload, 1) := by decide +kernel
theorem dX6_countedNow_9 : decode cX6_countedNow 9 = .ok (.aload_n 0, 1) := by decide +kernel
theorem dX6_countedNow_10 : decode cX6_countedNow 10 = .ok (.iload_n 1, 1) := by decide +kernel
theorem dX6_countedNow_11 : decode cX6_countedNow 11 = .ok (.iload_n 2, 1) := by decide +kernel
theorem dX6_countedNow_12 : decode cX6_countedNow 12 = .ok (.invokevirtual 101, 3) := by decide +kernel
theorem dX6_countedNow_15 : decode cX6_countedNow 15 = .ok (.sipush 128, 3) := by decide +kernel
theorem dX6_countedNow_18 : decode cX6_countedNow 18 = .ok (.idiv, 1) := by decide +kernel
theorem dX6_countedNow_19 : decode cX6_countedNow 19 = .ok (.invokevirtual 104, 3) := by decide +kernel
theorem dX6_countedNow_22 : decode cX6_countedNow 22 = .ok (.ireturn, 1) := by decide +kernel
theorem dX6_isNearly_0 : decode cX6_isNearly 0 = .ok (.aload_n 0, 1) := by decide +kernel
theorem dX6_isNearly_1 : decode cX6_isNearly 1 = .ok (.iload_n 1, 1) := by decide +kernel
theorem dX6_isNearly_2 : decode cX6_isNearly 2 = .ok (.iload_n 2, 1) := by decide +kernel
theorem dX6_isNearly_3 : decode cX6_isNearly 3 = .ok (.invokevirtual 107, 3) := by decide +kernel
theorem dX6_isNearly_6 : decode cX6_isNearly 6 = .ok (.bipush 8, 2) := by decide +kernel
theorem dX6_isNearly_8 : decode cX6_isNearly 8 = .ok (.if_icmp .le 7, 3) := by decide +kernel
theorem dX6_isNearly_11 : decode cX6_isNearly 11 = .ok (.iconst 1, 1) := by decide +kernel
theorem dX6_isNearly_12 : decode cX6_isNearly 12 = .ok (.goto 4, 3) := by decide +kernel
theorem dX6_isNearly_15 : decode cX6_isNearly 15 = .ok (.iconst 0, 1) := by decide +kernel
theorem dX6_isNearly_16 : decode cX6_isNearly 16 = .ok (.ireturn, 1) := by decide +kernel
theorem dX6_costs_0 : decode cX6_costs 0 = .ok (.aload_n 0, 1) := by decide +kernel
theorem dX6_costs_1 : decode cX6_costs 1 = .ok (.getfield 13, 3) := by decide +kernel
theorem dX6_costs_4 : decode cX6_costs 4 = .ok (.bipush 17, 2) := by decide +kernel
theorem dX6_costs_6 : decode cX6_costs 6 = .ok (.iload_n 1, 1) := by decide +kernel
theorem dX6_costs_7 : decode cX6_costs 7 = .ok (.iadd, 1) := by decide +kernel
theorem dX6_costs_8 : decode cX6_costs 8 = .ok (.iaload, 1) := by decide +kernel
theorem dX6_costs_9 : decode cX6_costs 9 = .ok (.aload_n 0, 1) := by decide +kernel
theorem dX6_costs_10 : decode cX6_costs 10 = .ok (.getfield 13, 3) := by decide +kernel
theorem dX6_costs_13 : decode cX6_costs 13 = .ok (.iconst 4, 1) := by decide +kernel
theorem dX6_costs_14 : decode cX6_costs 14 = .ok (.iaload, 1) := by decide +kernel
theorem dX6_costs_15 : decode cX6_costs 15 = .ok (.iload_n 2, 1) := by decide +kernel
theorem dX6_costs_16 : decode cX6_costs 16 = .ok (.imul, 1) := by decide +kernel
theorem dX6_costs_17 : decode cX6_costs 17 = .ok (.iadd, 1) := by decide +kernel
theorem dX6_costs_18 : decode cX6_costs 18 = .ok (.ireturn, 1) := by decide +kernel
theorem dX6_priceOf_0 : decode cX6_priceOf 0 = .ok (.aload_n 0, 1) := by decide +kernel
theorem dX6_priceOf_1 : decode cX6_priceOf 1 = .ok (.iload_n 2, 1) := by decide +kernel
theorem dX6_priceOf_2 : decode cX6_priceOf 2 = .ok (.aload_n 0, 1) := by decide +kernel
theorem dX6_priceOf_3 : decode cX6_priceOf 3 = .ok (.iload_n 1, 1) := by decide +kernel
theorem dX6_priceOf_4 : decode cX6_priceOf 4 = .ok (.iload_n 2, 1) := by decide +kernel
theorem dX6_priceOf_5 : decode cX6_priceOf 5 = .ok (.invokevirtual 101, 3) := by decide +kernel
theorem dX6_priceOf_8 : decode cX6_priceOf 8 = .ok (.sipush 128, 3) := by decide +kernel
theorem dX6_priceOf_11 : decode cX6_priceOf 11 = .ok (.irem, 1) := by decide +kernel
theorem dX6_priceOf_12 : decode cX6_priceOf 12 = .ok (.invokevirtual 110, 3) := by decide +kernel
theorem dX6_priceOf_15 : decode cX6_priceOf 15 = .ok (.istore_n 3, 1) := by decide +kernel
theorem dX6_priceOf_16 : decode cX6_priceOf 16 = .ok (.aload_n 0, 1) := by decide +kernel
theorem dX6_priceOf_17 : decode cX6_priceOf 17 = .ok (.getfield 13, 3) := by decide +kernel
theorem dX6_priceOf_20 : decode cX6_priceOf 20 = .ok (.iconst 5, 1) := by decide +kernel
theorem dX6_priceOf_21 : decode cX6_priceOf 21 = .ok (.iload_n 1, 1) := by decide +kernel
theorem dX6_priceOf_22 : decode cX6_priceOf 22 = .ok (.iadd, 1) := by decide +kernel
theorem dX6_priceOf_23 : decode cX6_priceOf 23 = .ok (.iaload, 1) := by decide +kernel
theorem dX6_priceOf_24 : decode cX6_priceOf 24 = .ok (.iconst 3, 1) := by decide +kernel
theorem dX6_priceOf_25 : decode cX6_priceOf 25 = .ok (.if_icmp .ne 9, 3) := by decide +kernel
theorem dX6_priceOf_28 : decode cX6_priceOf 28 = .ok (.iload_n 3, 1) := by decide +kernel
theorem dX6_priceOf_29 : decode cX6_priceOf 29 = .ok (.iconst 2, 1) := by decide +kernel
theorem dX6_priceOf_30 : decode cX6_priceOf 30 = .ok (.idiv, 1) := by decide +kernel
theorem dX6_priceOf_31 : decode cX6_priceOf 31 = .ok (.goto 4, 3) := by decide +kernel
theorem dX6_priceOf_34 : decode cX6_priceOf 34 = .ok (.iload_n 3, 1) := by decide +kernel
theorem dX6_priceOf_35 : decode cX6_priceOf 35 = .ok (.ireturn, 1) := by decide +kernel
theorem dX6_claim_0 : decode cX6_claim 0 = .ok (.bipush (-4), 2) := by decide +kernel
theorem dX6_claim_2 : decode cX6_claim 2 = .ok (.istore_n 2, 1) := by decide +kernel
theorem dX6_claim_3 : decode cX6_claim 3 = .ok (.bipush 8, 2) := by decide +kernel
theorem dX6_claim_5 : decode cX6_claim 5 = .ok (.istore_n 3, 1) := by decide +kernel
end
section
theorem dX6_claim_6 : decode cX6_claim 6 = .ok (.iconst 0, 1) := by decide +kernel
theorem dX6_claim_7 : decode cX6_claim 7 = .ok (.istore 4, 2) := by decide +kernel
theorem dX6_claim_9 : decode cX6_claim 9 = .ok (.iload 4, 2) := by decide +kernel
theorem dX6_claim_11 : decode cX6_claim 11 = .ok (.aload_n 0, 1) := by decide +kernel
theorem dX6_claim_12 : decode cX6_claim 12 = .ok (.getfield 13, 3) := by decide +kernel
theorem dX6_claim_15 : decode cX6_claim 15 = .ok (.iconst 0, 1) := by decide +kernel
theorem dX6_claim_16 : decode cX6_claim 16 = .ok (.iaload, 1) := by decide +kernel
theorem dX6_claim_17 : decode cX6_claim 17 = .ok (.if_icmp .ge 44, 3) := by decide +kernel
theorem dX6_claim_20 : decode cX6_claim 20 = .ok (.aload_n 0, 1) := by decide +kernel
theorem dX6_claim_21 : decode cX6_claim 21 = .ok (.iload 4, 2) := by decide +kernel
theorem dX6_claim_23 : decode cX6_claim 23 = .ok (.iload_n 1, 1) := by decide +kernel
theorem dX6_claim_24 : decode cX6_claim 24 = .ok (.invokevirtual 107, 3) := by decide +kernel
theorem dX6_claim_27 : decode cX6_claim 27 = .ok (.istore 5, 2) := by decide +kernel
theorem dX6_claim_29 : decode cX6_claim 29 = .ok (.iload 5, 2) := by decide +kernel
theorem dX6_claim_31 : decode cX6_claim 31 = .ok (.iload_n 3, 1) := by decide +kernel
theorem dX6_claim_32 : decode cX6_claim 32 = .ok (.if_icmp .le 8, 3) := by decide +kernel
theorem dX6_claim_35 : decode cX6_claim 35 = .ok (.iload 4, 2) := by decide +kernel
theorem dX6_claim_37 : decode cX6_claim 37 = .ok (.goto 4, 3) := by decide +kernel
theorem dX6_claim_40 : decode cX6_claim 40 = .ok (.iload_n 2, 1) := by decide +kernel
theorem dX6_claim_41 : decode cX6_claim 41 = .ok (.istore_n 2, 1) := by decide +kernel
theorem dX6_claim_42 : decode cX6_claim 42 = .ok (.iload 5, 2) := by decide +kernel
theorem dX6_claim_44 : decode cX6_claim 44 = .ok (.iload_n 3, 1) := by decide +kernel
theorem dX6_claim_45 : decode cX6_claim 45 = .ok (.if_icmp .le 8, 3) := by decide +kernel
theorem dX6_claim_48 : decode cX6_claim 48 = .ok (.iload 5, 2) := by decide +kernel
theorem dX6_claim_50 : decode cX6_claim 50 = .ok (.goto 4, 3) := by decide +kernel
theorem dX6_claim_53 : decode cX6_claim 53 = .ok (.iload_n 3, 1) := by decide +kernel
theorem dX6_claim_54 : decode cX6_claim 54 = .ok (.istore_n 3, 1) := by decide +kernel
theorem dX6_claim_55 : decode cX6_claim 55 = .ok (.iinc 4 1, 3) := by decide +kernel
theorem dX6_claim_58 : decode cX6_claim 58 = .ok (.goto (-49), 3) := by decide +kernel
theorem dX6_claim_61 : decode cX6_claim 61 = .ok (.iload_n 2, 1) := by decide +kernel
theorem dX6_claim_62 : decode cX6_claim 62 = .ok (.ireturn, 1) := by decide +kernel
theorem dX6_thingsOf_0 : decode cX6_thingsOf 0 = .ok (.iconst 0, 1) := by decide +kernel
theorem dX6_thingsOf_1 : decode cX6_thingsOf 1 = .ok (.istore_n 2, 1) := by decide +kernel
theorem dX6_thingsOf_2 : decode cX6_thingsOf 2 = .ok (.iconst 0, 1) := by decide +kernel
theorem dX6_thingsOf_3 : decode cX6_thingsOf 3 = .ok (.istore_n 3, 1) := by decide +kernel
theorem dX6_thingsOf_4 : decode cX6_thingsOf 4 = .ok (.iload_n 3, 1) := by decide +kernel
theorem dX6_thingsOf_5 : decode cX6_thingsOf 5 = .ok (.aload_n 0, 1) := by decide +kernel
theorem dX6_thingsOf_6 : decode cX6_thingsOf 6 = .ok (.getfield 13, 3) := by decide +kernel
theorem dX6_thingsOf_9 : decode cX6_thingsOf 9 = .ok (.iconst 1, 1) := by decide +kernel
theorem dX6_thingsOf_10 : decode cX6_thingsOf 10 = .ok (.iaload, 1) := by decide +kernel
theorem dX6_thingsOf_11 : decode cX6_thingsOf 11 = .ok (.if_icmp .ge 30, 3) := by decide +kernel
theorem dX6_thingsOf_14 : decode cX6_thingsOf 14 = .ok (.iload_n 2, 1) := by decide +kernel
theorem dX6_thingsOf_15 : decode cX6_thingsOf 15 = .ok (.aload_n 0, 1) := by decide +kernel
theorem dX6_thingsOf_16 : decode cX6_thingsOf 16 = .ok (.getfield 19, 3) := by decide +kernel
theorem dX6_thingsOf_19 : decode cX6_thingsOf 19 = .ok (.bipush 6, 2) := by decide +kernel
theorem dX6_thingsOf_21 : decode cX6_thingsOf 21 = .ok (.iload_n 3, 1) := by decide +kernel
theorem dX6_thingsOf_22 : decode cX6_thingsOf 22 = .ok (.iadd, 1) := by decide +kernel
theorem dX6_thingsOf_23 : decode cX6_thingsOf 23 = .ok (.iaload, 1) := by decide +kernel
theorem dX6_thingsOf_24 : decode cX6_thingsOf 24 = .ok (.iload_n 1, 1) := by decide +kernel
theorem dX6_thingsOf_25 : decode cX6_thingsOf 25 = .ok (.if_icmp .ne 7, 3) := by decide +kernel
theorem dX6_thingsOf_28 : decode cX6_thingsOf 28 = .ok (.iconst 1, 1) := by decide +kernel
theorem dX6_thingsOf_29 : decode cX6_thingsOf 29 = .ok (.goto 4, 3) := by decide +kernel
theorem dX6_thingsOf_32 : decode cX6_thingsOf 32 = .ok (.iconst 0, 1) := by decide +kernel
theorem dX6_thingsOf_33 : decode cX6_thingsOf 33 = .ok (.iadd, 1) := by decide +kernel
theorem dX6_thingsOf_34 : decode cX6_thingsOf 34 = .ok (.istore_n 2, 1) := by decide +kernel
theorem dX6_thingsOf_35 : decode cX6_thingsOf 35 = .ok (.iinc 3 1, 3) := by decide +kernel
theorem dX6_thingsOf_38 : decode cX6_thingsOf 38 = .ok (.goto (-34), 3) := by decide +kernel
theorem dX6_thingsOf_41 : decode cX6_thingsOf 41 = .ok (.iload_n 2, 1) := by decide +kernel
theorem dX6_thingsOf_42 : decode cX6_thingsOf 42 = .ok (.ireturn, 1) := by decide +kernel
theorem dX6_person_0 : decode cX6_person 0 = .ok (.aload_n 0, 1) := by decide +kernel
theorem dX6_person_1 : decode cX6_person 1 = .ok (.iload_n 1, 1) := by decide +kernel
theorem dX6_person_2 : decode cX6_person 2 = .ok (.invokevirtual 113, 3) := by decide +kernel
theorem dX6_person_5 : decode cX6_person 5 = .ok (.ifCond .ne 5, 3) := by decide +kernel
theorem dX6_person_8 : decode cX6_person 8 = .ok (.iconst (-1), 1) := by decide +kernel
theorem dX6_person_9 : decode cX6_person 9 = .ok (.ireturn, 1) := by decide +kernel
theorem dX6_person_10 : decode cX6_person 10 = .ok (.aload_n 0, 1) := by decide +kernel
theorem dX6_person_11 : decode cX6_person 11 = .ok (.getfield 19, 3) := by decide +kernel
theorem dX6_person_14 : decode cX6_person 14 = .ok (.iload_n 1, 1) := by decide +kernel
theorem dX6_person_15 : decode cX6_person 15 = .ok (.iaload, 1) := by decide +kernel
theorem dX6_person_16 : decode cX6_person 16 = .ok (.istore_n 3, 1) := by decide +kernel
theorem dX6_person_17 : decode cX6_person 17 = .ok (.iconst 0, 1) := by decide +kernel
theorem dX6_person_18 : decode cX6_person 18 = .ok (.istore 4, 2) := by decide +kernel
theorem dX6_person_20 : decode cX6_person 20 = .ok (.iload 4, 2) := by decide +kernel
theorem dX6_person_22 : decode cX6_person 22 = .ok (.aload_n 0, 1) := by decide +kernel
theorem dX6_person_23 : decode cX6_person 23 = .ok (.getfield 13, 3) := by decide +kernel
theorem dX6_person_26 : decode cX6_person 26 = .ok (.iconst 1, 1) := by decide +kernel
theorem dX6_person_27 : decode cX6_person 27 = .ok (.iaload, 1) := by decide +kernel
theorem dX6_person_28 : decode cX6_person 28 = .ok (.if_icmp .ge 43, 3) := by decide +kernel
theorem dX6_person_31 : decode cX6_person 31 = .ok (.iload_n 3, 1) := by decide +kernel
theorem dX6_person_32 : decode cX6_person 32 = .ok (.aload_n 0, 1) := by decide +kernel
theorem dX6_person_33 : decode cX6_person 33 = .ok (.getfield 19, 3) := by decide +kernel
theorem dX6_person_36 : decode cX6_person 36 = .ok (.bipush 6, 2) := by decide +kernel
theorem dX6_person_38 : decode cX6_person 38 = .ok (.iload 4, 2) := by decide +kernel
theorem dX6_person_40 : decode cX6_person 40 = .ok (.iadd, 1) := by decide +kernel
theorem dX6_person_41 : decode cX6_person 41 = .ok (.iaload, 1) := by decide +kernel
theorem dX6_person_42 : decode cX6_person 42 = .ok (.iload_n 1, 1) := by decide +kernel
theorem dX6_person_43 : decode cX6_person 43 = .ok (.if_icmp .ne 19, 3) := by decide +kernel
theorem dX6_person_46 : decode cX6_person 46 = .ok (.aload_n 0, 1) := by decide +kernel
theorem dX6_person_47 : decode cX6_person 47 = .ok (.iload 4, 2) := by decide +kernel
theorem dX6_person_49 : decode cX6_person 49 = .ok (.aload_n 0, 1) := by decide +kernel
theorem dX6_person_50 : decode cX6_person 50 = .ok (.getfield 19, 3) := by decide +kernel
theorem dX6_person_53 : decode cX6_person 53 = .ok (.bipush 54, 2) := by decide +kernel
theorem dX6_person_55 : decode cX6_person 55 = .ok (.iaload, 1) := by decide +kernel
theorem dX6_person_56 : decode cX6_person 56 = .ok (.invokevirtual 110, 3) := by decide +kernel
theorem dX6_person_59 : decode cX6_person 59 = .ok (.goto 4, 3) := by decide +kernel
theorem dX6_person_62 : decode cX6_person 62 = .ok (.iconst 0, 1) := by decide +kernel
theorem dX6_person_63 : decode cX6_person 63 = .ok (.iadd, 1) := by decide +kernel
theorem dX6_person_64 : decode cX6_person 64 = .ok (.istore_n 3, 1) := by decide +kernel
theorem dX6_person_65 : decode cX6_person 65 = .ok (.iinc 4 1, 3) := by decide +kernel
theorem dX6_person_68 : decode cX6_person 68 = .ok (.goto (-48), 3) := by decide +kernel
theorem dX6_person_71 : decode cX6_person 71 = .ok (.iload_n 2, 1) := by decide +kernel
theorem dX6_person_72 : decode cX6_person 72 = .ok (.tableswitch 56 0 3 #[32, 41, 48, 54], 32) := by decide +kernel
theorem dX6_person_104 : decode cX6_person 104 = .ok (.aload_n 0, 1) := by decide +kernel
theorem dX6_person_105 : decode cX6_person 105 = .ok (.getfield 13, 3) := by decide +kernel
theorem dX6_person_108 : decode cX6_person 108 = .ok (.iconst 5, 1) := by decide +kernel
theorem dX6_person_109 : decode cX6_person 109 = .ok (.iload_n 1, 1) := by decide +kernel
theorem dX6_person_110 : decode cX6_person 110 = .ok (.iadd, 1) := by decide +kernel
theorem dX6_person_111 : decode cX6_person 111 = .ok (.iaload, 1) := by decide +kernel
theorem dX6_person_112 : decode cX6_person 112 = .ok (.ireturn, 1) := by decide +kernel
theorem dX6_person_113 : decode cX6_person 113 = .ok (.aload_n 0, 1) := by decide +kernel
theorem dX6_person_114 : decode cX6_person 114 = .ok (.getfield 19, 3) := by decide +kernel
theorem dX6_person_117 : decode cX6_person 117 = .ok (.iload_n 1, 1) := by decide +kernel
theorem dX6_person_118 : decode cX6_person 118 = .ok (.iaload, 1) := by decide +kernel
theorem dX6_person_119 : decode cX6_person 119 = .ok (.ireturn, 1) := by decide +kernel
theorem dX6_person_120 : decode cX6_person 120 = .ok (.aload_n 0, 1) := by decide +kernel
theorem dX6_person_121 : decode cX6_person 121 = .ok (.iload_n 1, 1) := by decide +kernel
theorem dX6_person_122 : decode cX6_person 122 = .ok (.invokevirtual 116, 3) := by decide +kernel
theorem dX6_person_125 : decode cX6_person 125 = .ok (.ireturn, 1) := by decide +kernel
theorem dX6_person_126 : decode cX6_person 126 = .ok (.iload_n 3, 1) := by decide +kernel
theorem dX6_person_127 : decode cX6_person 127 = .ok (.ireturn, 1) := by decide +kernel
theorem dX6_person_128 : decode cX6_person 128 = .ok (.iconst (-1), 1) := by decide +kernel
theorem dX6_person_129 : decode cX6_person 129 = .ok (.ireturn, 1) := by decide +kernel
theorem dX6_thing_0 : decode cX6_thing 0 = .ok (.aload_n 0, 1) := by decide +kernel
theorem dX6_thing_1 : decode cX6_thing 1 = .ok (.iload_n 1, 1) := by decide +kernel
theorem dX6_thing_2 : decode cX6_thing 2 = .ok (.invokevirtual 119, 3) := by decide +kernel
theorem dX6_thing_5 : decode cX6_thing 5 = .ok (.ifCond .ne 5, 3) := by decide +kernel
theorem dX6_thing_8 : decode cX6_thing 8 = .ok (.iconst (-1), 1) := by decide +kernel
theorem dX6_thing_9 : decode cX6_thing 9 = .ok (.ireturn, 1) := by decide +kernel
theorem dX6_thing_10 : decode cX6_thing 10 = .ok (.iload_n 2, 1) := by decide +kernel
theorem dX6_thing_11 : decode cX6_thing 11 = .ok (.tableswitch 87 0 3 #[29, 42, 52, 62], 29) := by decide +kernel
theorem dX6_thing_40 : decode cX6_thing 40 = .ok (.aload_n 0, 1) := by decide +kernel
theorem dX6_thing_41 : decode cX6_thing 41 = .ok (.iload_n 1, 1) := by decide +kernel
theorem dX6_thing_42 : decode cX6_thing 42 = .ok (.aload_n 0, 1) := by decide +kernel
theorem dX6_thing_43 : decode cX6_thing 43 = .ok (.getfield 19, 3) := by decide +kernel
theorem dX6_thing_46 : decode cX6_thing 46 = .ok (.bipush 54, 2) := by decide +kernel
theorem dX6_thing_48 : decode cX6_thing 48 = .ok (.iaload, 1) := by decide +kernel
theorem dX6_thing_49 : decode cX6_thing 49 = .ok (.invokevirtual 110, 3) := by decide +kernel
theorem dX6_thing_52 : decode cX6_thing 52 = .ok (.ireturn, 1) := by decide +kernel
theorem dX6_thing_53 : decode cX6_thing 53 = .ok (.aload_n 0, 1) := by decide +kernel
theorem dX6_thing_54 : decode cX6_thing 54 = .ok (.getfield 19, 3) := by decide +kernel
theorem dX6_thing_57 : decode cX6_thing 57 = .ok (.bipush 6, 2) := by decide +kernel
theorem dX6_thing_59 : decode cX6_thing 59 = .ok (.iload_n 1, 1) := by decide +kernel
theorem dX6_thing_60 : decode cX6_thing 60 = .ok (.iadd, 1) := by decide +kernel
theorem dX6_thing_61 : decode cX6_thing 61 = .ok (.iaload, 1) := by decide +kernel
theorem dX6_thing_62 : decode cX6_thing 62 = .ok (.ireturn, 1) := by decide +kernel
theorem dX6_thing_63 : decode cX6_thing 63 = .ok (.aload_n 0, 1) := by decide +kernel
theorem dX6_thing_64 : decode cX6_thing 64 = .ok (.getfield 19, 3) := by decide +kernel
theorem dX6_thing_67 : decode cX6_thing 67 = .ok (.bipush 12, 2) := by decide +kernel
theorem dX6_thing_69 : decode cX6_thing 69 = .ok (.iload_n 1, 1) := by decide +kernel
theorem dX6_thing_70 : decode cX6_thing 70 = .ok (.iadd, 1) := by decide +kernel
theorem dX6_thing_71 : decode cX6_thing 71 = .ok (.iaload, 1) := by decide +kernel
theorem dX6_thing_72 : decode cX6_thing 72 = .ok (.ireturn, 1) := by decide +kernel
theorem dX6_thing_73 : decode cX6_thing 73 = .ok (.aload_n 0, 1) := by decide +kernel
theorem dX6_thing_74 : decode cX6_thing 74 = .ok (.getfield 19, 3) := by decide +kernel
theorem dX6_thing_77 : decode cX6_thing 77 = .ok (.bipush 6, 2) := by decide +kernel
theorem dX6_thing_79 : decode cX6_thing 79 = .ok (.iload_n 1, 1) := by decide +kernel
theorem dX6_thing_80 : decode cX6_thing 80 = .ok (.iadd, 1) := by decide +kernel
theorem dX6_thing_81 : decode cX6_thing 81 = .ok (.iaload, 1) := by decide +kernel
theorem dX6_thing_82 : decode cX6_thing 82 = .ok (.bipush (-4), 2) := by decide +kernel
theorem dX6_thing_84 : decode cX6_thing 84 = .ok (.if_icmp .ne 11, 3) := by decide +kernel
theorem dX6_thing_87 : decode cX6_thing 87 = .ok (.aload_n 0, 1) := by decide +kernel
theorem dX6_thing_88 : decode cX6_thing 88 = .ok (.iload_n 1, 1) := by decide +kernel
theorem dX6_thing_89 : decode cX6_thing 89 = .ok (.invokevirtual 122, 3) := by decide +kernel
theorem dX6_thing_92 : decode cX6_thing 92 = .ok (.goto 5, 3) := by decide +kernel
theorem dX6_thing_95 : decode cX6_thing 95 = .ok (.bipush (-4), 2) := by decide +kernel
theorem dX6_thing_97 : decode cX6_thing 97 = .ok (.ireturn, 1) := by decide +kernel
theorem dX6_thing_98 : decode cX6_thing 98 = .ok (.iconst (-1), 1) := by decide +kernel
theorem dX6_thing_99 : decode cX6_thing 99 = .ok (.ireturn, 1) := by decide +kernel
theorem dX6_nearly_0 : decode cX6_nearly 0 = .ok (.aload_n 0, 1) := by decide +kernel
theorem dX6_nearly_1 : decode cX6_nearly 1 = .ok (.iload_n 1, 1) := by decide +kernel
theorem dX6_nearly_2 : decode cX6_nearly 2 = .ok (.invokevirtual 113, 3) := by decide +kernel
theorem dX6_nearly_5 : decode cX6_nearly 5 = .ok (.ifCond .eq 11, 3) := by decide +kernel
theorem dX6_nearly_8 : decode cX6_nearly 8 = .ok (.aload_n 0, 1) := by decide +kernel
theorem dX6_nearly_9 : decode cX6_nearly 9 = .ok (.iload_n 2, 1) := by decide +kernel
theorem dX6_nearly_10 : decode cX6_nearly 10 = .ok (.invokevirtual 119, 3) := by decide +kernel
theorem dX6_nearly_13 : decode cX6_nearly 13 = .ok (.ifCond .ne 5, 3) := by decide +kernel
theorem dX6_nearly_16 : decode cX6_nearly 16 = .ok (.iconst (-1), 1) := by decide +kernel
theorem dX6_nearly_17 : decode cX6_nearly 17 = .ok (.ireturn, 1) := by decide +kernel
theorem dX6_nearly_18 : decode cX6_nearly 18 = .ok (.aload_n 0, 1) := by decide +kernel
theorem dX6_nearly_19 : decode cX6_nearly 19 = .ok (.iload_n 1, 1) := by decide +kernel
theorem dX6_nearly_20 : decode cX6_nearly 20 = .ok (.iload_n 2, 1) := by decide +kernel
theorem dX6_nearly_21 : decode cX6_nearly 21 = .ok (.invokevirtual 101, 3) := by decide +kernel
theorem dX6_nearly_24 : decode cX6_nearly 24 = .ok (.istore 4, 2) := by decide +kernel
theorem dX6_nearly_26 : decode cX6_nearly 26 = .ok (.iload_n 3, 1) := by decide +kernel
theorem dX6_nearly_27 : decode cX6_nearly 27 = .ok (.tableswitch 100 0 4 #[33, 40, 47, 64, 79], 33) := by decide +kernel
theorem dX6_nearly_60 : decode cX6_nearly 60 = .ok (.iload 4, 2) := by decide +kernel
theorem dX6_nearly_62 : decode cX6_nearly 62 = .ok (.sipush 128, 3) := by decide +kernel
theorem dX6_nearly_65 : decode cX6_nearly 65 = .ok (.idiv, 1) := by decide +kernel
theorem dX6_nearly_66 : decode cX6_nearly 66 = .ok (.ireturn, 1) := by decide +kernel
theorem dX6_nearly_67 : decode cX6_nearly 67 = .ok (.aload_n 0, 1) := by decide +kernel
theorem dX6_nearly_68 : decode cX6_nearly 68 = .ok (.iload_n 1, 1) := by decide +kernel
theorem dX6_nearly_69 : decode cX6_nearly 69 = .ok (.iload_n 2, 1) := by decide +kernel
theorem dX6_nearly_70 : decode cX6_nearly 70 = .ok (.invokevirtual 107, 3) := by decide +kernel
theorem dX6_nearly_73 : decode cX6_nearly 73 = .ok (.ireturn, 1) := by decide +kernel
theorem dX6_nearly_74 : decode cX6_nearly 74 = .ok (.iload 4, 2) := by decide +kernel
theorem dX6_nearly_76 : decode cX6_nearly 76 = .ok (.ifCond .ne 8, 3) := by decide +kernel
theorem dX6_nearly_79 : decode cX6_nearly 79 = .ok (.bipush (-4), 2) := by decide +kernel
theorem dX6_nearly_81 : decode cX6_nearly 81 = .ok (.goto 9, 3) := by decide +kernel
theorem dX6_nearly_84 : decode cX6_nearly 84 = .ok (.iload 4, 2) := by decide +kernel
theorem dX6_nearly_86 : decode cX6_nearly 86 = .ok (.sipush 128, 3) := by decide +kernel
theorem dX6_nearly_89 : decode cX6_nearly 89 = .ok (.irem, 1) := by decide +kernel
theorem dX6_nearly_90 : decode cX6_nearly 90 = .ok (.ireturn, 1) := by decide +kernel
theorem dX6_nearly_91 : decode cX6_nearly 91 = .ok (.aload_n 0, 1) := by decide +kernel
theorem dX6_nearly_92 : decode cX6_nearly 92 = .ok (.iload_n 1, 1) := by decide +kernel
theorem dX6_nearly_93 : decode cX6_nearly 93 = .ok (.iload_n 2, 1) := by decide +kernel
theorem dX6_nearly_94 : decode cX6_nearly 94 = .ok (.invokevirtual 125, 3) := by decide +kernel
theorem dX6_nearly_97 : decode cX6_nearly 97 = .ok (.ifCond .eq 7, 3) := by decide +kernel
theorem dX6_nearly_100 : decode cX6_nearly 100 = .ok (.iconst 1, 1) := by decide +kernel
theorem dX6_nearly_101 : decode cX6_nearly 101 = .ok (.goto 4, 3) := by decide +kernel
theorem dX6_nearly_104 : decode cX6_nearly 104 = .ok (.iconst 0, 1) := by decide +kernel
theorem dX6_nearly_105 : decode cX6_nearly 105 = .ok (.ireturn, 1) := by decide +kernel
theorem dX6_nearly_106 : decode cX6_nearly 106 = .ok (.aload_n 0, 1) := by decide +kernel
theorem dX6_nearly_107 : decode cX6_nearly 107 = .ok (.iload_n 1, 1) := by decide +kernel
theorem dX6_nearly_108 : decode cX6_nearly 108 = .ok (.iload_n 2, 1) := by decide +kernel
theorem dX6_nearly_109 : decode cX6_nearly 109 = .ok (.invokevirtual 125, 3) := by decide +kernel
theorem dX6_nearly_112 : decode cX6_nearly 112 = .ok (.ifCond .eq 12, 3) := by decide +kernel
theorem dX6_nearly_115 : decode cX6_nearly 115 = .ok (.aload_n 0, 1) := by decide +kernel
theorem dX6_nearly_116 : decode cX6_nearly 116 = .ok (.iload_n 1, 1) := by decide +kernel
theorem dX6_nearly_117 : decode cX6_nearly 117 = .ok (.iload_n 2, 1) := by decide +kernel
theorem dX6_nearly_118 : decode cX6_nearly 118 = .ok (.invokevirtual 129, 3) := by decide +kernel
theorem dX6_nearly_121 : decode cX6_nearly 121 = .ok (.goto 5, 3) := by decide +kernel
theorem dX6_nearly_124 : decode cX6_nearly 124 = .ok (.bipush (-4), 2) := by decide +kernel
theorem dX6_nearly_126 : decode cX6_nearly 126 = .ok (.ireturn, 1) := by decide +kernel
theorem dX6_nearly_127 : decode cX6_nearly 127 = .ok (.iconst (-1), 1) := by decide +kernel
theorem dX6_nearly_128 : decode cX6_nearly 128 = .ok (.ireturn, 1) := by decide +kernel
theorem dX6_keeps_0 : decode cX6_keeps 0 = .ok (.aload_n 0, 1) := by decide +kernel
theorem dX6_keeps_1 : decode cX6_keeps 1 = .ok (.getfield 88, 3) := by decide +kernel
theorem dX6_keeps_4 : decode cX6_keeps 4 = .ok (.bipush 8, 2) := by decide +kernel
theorem dX6_keeps_6 : decode cX6_keeps 6 = .ok (.if_icmp .ne 43, 3) := by decide +kernel
theorem dX6_keeps_9 : decode cX6_keeps 9 = .ok (.iconst 0, 1) := by decide +kernel
theorem dX6_keeps_10 : decode cX6_keeps 10 = .ok (.istore_n 1, 1) := by decide +kernel
theorem dX6_keeps_11 : decode cX6_keeps 11 = .ok (.iload_n 1, 1) := by decide +kernel
theorem dX6_keeps_12 : decode cX6_keeps 12 = .ok (.sipush 385, 3) := by decide +kernel
theorem dX6_keeps_15 : decode cX6_keeps 15 = .ok (.if_icmp .ge 24, 3) := by decide +kernel
theorem dX6_keeps_18 : decode cX6_keeps 18 = .ok (.aload_n 0, 1) := by decide +kernel
theorem dX6_keeps_19 : decode cX6_keeps 19 = .ok (.getfield 22, 3) := by decide +kernel
theorem dX6_keeps_22 : decode cX6_keeps 22 = .ok (.iload_n 1, 1) := by decide +kernel
theorem dX6_keeps_23 : decode cX6_keeps 23 = .ok (.aload_n 0, 1) := by decide +kernel
theorem dX6_keeps_24 : decode cX6_keeps 24 = .ok (.getfield 22, 3) := by decide +kernel
theorem dX6_keeps_27 : decode cX6_keeps 27 = .ok (.iload_n 1, 1) := by decide +kernel
theorem dX6_keeps_28 : decode cX6_keeps 28 = .ok (.bipush 55, 2) := by decide +kernel
theorem dX6_keeps_30 : decode cX6_keeps 30 = .ok (.iadd, 1) := by decide +kernel
theorem dX6_keeps_31 : decode cX6_keeps 31 = .ok (.iaload, 1) := by decide +kernel
theorem dX6_keeps_32 : decode cX6_keeps 32 = .ok (.iastore, 1) := by decide +kernel
theorem dX6_keeps_33 : decode cX6_keeps 33 = .ok (.iinc 1 1, 3) := by decide +kernel
theorem dX6_keeps_36 : decode cX6_keeps 36 = .ok (.goto (-25), 3) := by decide +kernel
theorem dX6_keeps_39 : decode cX6_keeps 39 = .ok (.aload_n 0, 1) := by decide +kernel
theorem dX6_keeps_40 : decode cX6_keeps 40 = .ok (.dup, 1) := by decide +kernel
theorem dX6_keeps_41 : decode cX6_keeps 41 = .ok (.getfield 88, 3) := by decide +kernel
theorem dX6_keeps_44 : decode cX6_keeps 44 = .ok (.iconst 1, 1) := by decide +kernel
theorem dX6_keeps_45 : decode cX6_keeps 45 = .ok (.isub, 1) := by decide +kernel
theorem dX6_keeps_46 : decode cX6_keeps 46 = .ok (.putfield 88, 3) := by decide +kernel
theorem dX6_keeps_49 : decode cX6_keeps 49 = .ok (.iconst 0, 1) := by decide +kernel
theorem dX6_keeps_50 : decode cX6_keeps 50 = .ok (.istore_n 1, 1) := by decide +kernel
theorem dX6_keeps_51 : decode cX6_keeps 51 = .ok (.iload_n 1, 1) := by decide +kernel
theorem dX6_keeps_52 : decode cX6_keeps 52 = .ok (.bipush 55, 2) := by decide +kernel
theorem dX6_keeps_54 : decode cX6_keeps 54 = .ok (.if_icmp .ge 29, 3) := by decide +kernel
theorem dX6_keeps_57 : decode cX6_keeps 57 = .ok (.aload_n 0, 1) := by decide +kernel
theorem dX6_keeps_58 : decode cX6_keeps 58 = .ok (.getfield 22, 3) := by decide +kernel
theorem dX6_keeps_61 : decode cX6_keeps 61 = .ok (.bipush 55, 2) := by decide +kernel
theorem dX6_keeps_63 : decode cX6_keeps 63 = .ok (.aload_n 0, 1) := by decide +kernel
theorem dX6_keeps_64 : decode cX6_keeps 64 = .ok (.getfield 88, 3) := by decide +kernel
theorem dX6_keeps_67 : decode cX6_keeps 67 = .ok (.imul, 1) := by decide +kernel
theorem dX6_keeps_68 : decode cX6_keeps 68 = .ok (.iload_n 1, 1) := by decide +kernel
theorem dX6_keeps_69 : decode cX6_keeps 69 = .ok (.iadd, 1) := by decide +kernel
theorem dX6_keeps_70 : decode cX6_keeps 70 = .ok (.aload_n 0, 1) := by decide +kernel
theorem dX6_keeps_71 : decode cX6_keeps 71 = .ok (.getfield 19, 3) := by decide +kernel
theorem dX6_keeps_74 : decode cX6_keeps 74 = .ok (.iload_n 1, 1) := by decide +kernel
theorem dX6_keeps_75 : decode cX6_keeps 75 = .ok (.iaload, 1) := by decide +kernel
theorem dX6_keeps_76 : decode cX6_keeps 76 = .ok (.iastore, 1) := by decide +kernel
theorem dX6_keeps_77 : decode cX6_keeps 77 = .ok (.iinc 1 1, 3) := by decide +kernel
theorem dX6_keeps_80 : decode cX6_keeps 80 = .ok (.goto (-29), 3) := by decide +kernel
theorem dX6_keeps_83 : decode cX6_keeps 83 = .ok (.aload_n 0, 1) := by decide +kernel
theorem dX6_keeps_84 : decode cX6_keeps 84 = .ok (.dup, 1) := by decide +kernel
theorem dX6_keeps_85 : decode cX6_keeps 85 = .ok (.getfield 88, 3) := by decide +kernel
theorem dX6_keeps_88 : decode cX6_keeps 88 = .ok (.iconst 1, 1) := by decide +kernel
theorem dX6_keeps_89 : decode cX6_keeps 89 = .ok (.iadd, 1) := by decide +kernel
theorem dX6_keeps_90 : decode cX6_keeps 90 = .ok (.putfield 88, 3) := by decide +kernel
theorem dX6_keeps_93 : decode cX6_keeps 93 = .ok (.return_, 1) := by decide +kernel
theorem dX6_pauses_0 : decode cX6_pauses 0 = .ok (.bipush 18, 2) := by decide +kernel
theorem dX6_pauses_2 : decode cX6_pauses 2 = .ok (.bipush 6, 2) := by decide +kernel
theorem dX6_pauses_4 : decode cX6_pauses 4 = .ok (.iload_n 1, 1) := by decide +kernel
theorem dX6_pauses_5 : decode cX6_pauses 5 = .ok (.imul, 1) := by decide +kernel
theorem dX6_pauses_6 : decode cX6_pauses 6 = .ok (.iadd, 1) := by decide +kernel
theorem dX6_pauses_7 : decode cX6_pauses 7 = .ok (.iload_n 2, 1) := by decide +kernel
theorem dX6_pauses_8 : decode cX6_pauses 8 = .ok (.iadd, 1) := by decide +kernel
theorem dX6_pauses_9 : decode cX6_pauses 9 = .ok (.istore 4, 2) := by decide +kernel
theorem dX6_pauses_11 : decode cX6_pauses 11 = .ok (.sipush 128, 3) := by decide +kernel
theorem dX6_pauses_14 : decode cX6_pauses 14 = .ok (.iload_n 3, 1) := by decide +kernel
theorem dX6_pauses_15 : decode cX6_pauses 15 = .ok (.imul, 1) := by decide +kernel
theorem dX6_pauses_16 : decode cX6_pauses 16 = .ok (.aload_n 0, 1) := by decide +kernel
theorem dX6_pauses_17 : decode cX6_pauses 17 = .ok (.getfield 19, 3) := by decide +kernel
theorem dX6_pauses_20 : decode cX6_pauses 20 = .ok (.bipush 54, 2) := by decide +kernel
theorem dX6_pauses_22 : decode cX6_pauses 22 = .ok (.iaload, 1) := by decide +kernel
theorem dX6_pauses_23 : decode cX6_pauses 23 = .ok (.iadd, 1) := by decide +kernel
theorem dX6_pauses_24 : decode cX6_pauses 24 = .ok (.istore 5, 2) := by decide +kernel
theorem dX6_pauses_26 : decode cX6_pauses 26 = .ok (.aload_n 0, 1) := by decide +kernel
theorem dX6_pauses_27 : decode cX6_pauses 27 = .ok (.getfield 19, 3) := by decide +kernel
theorem dX6_pauses_30 : decode cX6_pauses 30 = .ok (.iload 4, 2) := by decide +kernel
theorem dX6_pauses_32 : decode cX6_pauses 32 = .ok (.aload_n 0, 1) := by decide +kernel
theorem dX6_pauses_33 : decode cX6_pauses 33 = .ok (.getfield 19, 3) := by decide +kernel
theorem dX6_pauses_36 : decode cX6_pauses 36 = .ok (.iload 4, 2) := by decide +kernel
theorem dX6_pauses_38 : decode cX6_pauses 38 = .ok (.iaload, 1) := by decide +kernel
theorem dX6_pauses_39 : decode cX6_pauses 39 = .ok (.ifCond .ne 8, 3) := by decide +kernel
theorem dX6_pauses_42 : decode cX6_pauses 42 = .ok (.iload 5, 2) := by decide +kernel
theorem dX6_pauses_44 : decode cX6_pauses 44 = .ok (.goto 15, 3) := by decide +kernel
theorem dX6_pauses_47 : decode cX6_pauses 47 = .ok (.aload_n 0, 1) := by decide +kernel
theorem dX6_pauses_48 : decode cX6_pauses 48 = .ok (.getfield 19, 3) := by decide +kernel
theorem dX6_pauses_51 : decode cX6_pauses 51 = .ok (.iload 4, 2) := by decide +kernel
theorem dX6_pauses_53 : decode cX6_pauses 53 = .ok (.iaload, 1) := by decide +kernel
theorem dX6_pauses_54 : decode cX6_pauses 54 = .ok (.iload 5, 2) := by decide +kernel
theorem dX6_pauses_56 : decode cX6_pauses 56 = .ok (.invokestatic 97, 3) := by decide +kernel
theorem dX6_pauses_59 : decode cX6_pauses 59 = .ok (.iastore, 1) := by decide +kernel
theorem dX6_pauses_60 : decode cX6_pauses 60 = .ok (.return_, 1) := by decide +kernel
theorem dX6_pause_0 : decode cX6_pause 0 = .ok (.aload_n 0, 1) := by decide +kernel
theorem dX6_pause_1 : decode cX6_pause 1 = .ok (.iload_n 1, 1) := by decide +kernel
theorem dX6_pause_2 : decode cX6_pause 2 = .ok (.invokevirtual 113, 3) := by decide +kernel
theorem dX6_pause_5 : decode cX6_pause 5 = .ok (.ifCond .eq 21, 3) := by decide +kernel
theorem dX6_pause_8 : decode cX6_pause 8 = .ok (.aload_n 0, 1) := by decide +kernel
theorem dX6_pause_9 : decode cX6_pause 9 = .ok (.iload_n 2, 1) := by decide +kernel
theorem dX6_pause_10 : decode cX6_pause 10 = .ok (.invokevirtual 119, 3) := by decide +kernel
theorem dX6_pause_13 : decode cX6_pause 13 = .ok (.ifCond .eq 13, 3) := by decide +kernel
theorem dX6_pause_16 : decode cX6_pause 16 = .ok (.iload_n 3, 1) := by decide +kernel
theorem dX6_pause_17 : decode cX6_pause 17 = .ok (.iconst 1, 1) := by decide +kernel
theorem dX6_pause_18 : decode cX6_pause 18 = .ok (.bipush 30, 2) := by decide +kernel
theorem dX6_pause_20 : decode cX6_pause 20 = .ok (.invokestatic 56, 3) := by decide +kernel
theorem dX6_pause_23 : decode cX6_pause 23 = .ok (.ifCond .ne 5, 3) := by decide +kernel
theorem dX6_pause_26 : decode cX6_pause 26 = .ok (.iconst (-1), 1) := by decide +kernel
theorem dX6_pause_27 : decode cX6_pause 27 = .ok (.ireturn, 1) := by decide +kernel
theorem dX6_pause_28 : decode cX6_pause 28 = .ok (.aload_n 0, 1) := by decide +kernel
theorem dX6_pause_29 : decode cX6_pause 29 = .ok (.invokevirtual 132, 3) := by decide +kernel
theorem dX6_pause_32 : decode cX6_pause 32 = .ok (.aload_n 0, 1) := by decide +kernel
theorem dX6_pause_33 : decode cX6_pause 33 = .ok (.iload_n 1, 1) := by decide +kernel
theorem dX6_pause_34 : decode cX6_pause 34 = .ok (.iload_n 2, 1) := by decide +kernel
theorem dX6_pause_35 : decode cX6_pause 35 = .ok (.iload_n 3, 1) := by decide +kernel
theorem dX6_pause_36 : decode cX6_pause 36 = .ok (.invokevirtual 135, 3) := by decide +kernel
theorem dX6_pause_39 : decode cX6_pause 39 = .ok (.aload_n 0, 1) := by decide +kernel
theorem dX6_pause_40 : decode cX6_pause 40 = .ok (.iload_n 1, 1) := by decide +kernel
theorem dX6_pause_41 : decode cX6_pause 41 = .ok (.iload_n 2, 1) := by decide +kernel
theorem dX6_pause_42 : decode cX6_pause 42 = .ok (.invokevirtual 107, 3) := by decide +kernel
theorem dX6_pause_45 : decode cX6_pause 45 = .ok (.ireturn, 1) := by decide +kernel
theorem dX6_sells_0 : decode cX6_sells 0 = .ok (.aload_n 0, 1) := by decide +kernel
theorem dX6_sells_1 : decode cX6_sells 1 = .ok (.getfield 19, 3) := by decide +kernel
theorem dX6_sells_4 : decode cX6_sells 4 = .ok (.bipush 6, 2) := by decide +kernel
theorem dX6_sells_6 : decode cX6_sells 6 = .ok (.iload_n 1, 1) := by decide +kernel
theorem dX6_sells_7 : decode cX6_sells 7 = .ok (.iadd, 1) := by decide +kernel
theorem dX6_sells_8 : decode cX6_sells 8 = .ok (.iload_n 2, 1) := by decide +kernel
theorem dX6_sells_9 : decode cX6_sells 9 = .ok (.iastore, 1) := by decide +kernel
theorem dX6_sells_10 : decode cX6_sells 10 = .ok (.aload_n 0, 1) := by decide +kernel
theorem dX6_sells_11 : decode cX6_sells 11 = .ok (.getfield 19, 3) := by decide +kernel
theorem dX6_sells_14 : decode cX6_sells 14 = .ok (.iload_n 2, 1) := by decide +kernel
theorem dX6_sells_15 : decode cX6_sells 15 = .ok (.dup2, 1) := by decide +kernel
theorem dX6_sells_16 : decode cX6_sells 16 = .ok (.iaload, 1) := by decide +kernel
theorem dX6_sells_17 : decode cX6_sells 17 = .ok (.iload_n 3, 1) := by decide +kernel
theorem dX6_sells_18 : decode cX6_sells 18 = .ok (.isub, 1) := by decide +kernel
theorem dX6_sells_19 : decode cX6_sells 19 = .ok (.iastore, 1) := by decide +kernel
theorem dX6_sells_20 : decode cX6_sells 20 = .ok (.return_, 1) := by decide +kernel
theorem dX6_dearest_0 : decode cX6_dearest 0 = .ok (.bipush (-4), 2) := by decide +kernel
theorem dX6_dearest_2 : decode cX6_dearest 2 = .ok (.istore_n 2, 1) := by decide +kernel
theorem dX6_dearest_3 : decode cX6_dearest 3 = .ok (.iconst 0, 1) := by decide +kernel
theorem dX6_dearest_4 : decode cX6_dearest 4 = .ok (.istore_n 3, 1) := by decide +kernel
theorem dX6_dearest_5 : decode cX6_dearest 5 = .ok (.iload_n 3, 1) := by decide +kernel
theorem dX6_dearest_6 : decode cX6_dearest 6 = .ok (.aload_n 0, 1) := by decide +kernel
theorem dX6_dearest_7 : decode cX6_dearest 7 = .ok (.getfield 13, 3) := by decide +kernel
theorem dX6_dearest_10 : decode cX6_dearest 10 = .ok (.iconst 1, 1) := by decide +kernel
theorem dX6_dearest_11 : decode cX6_dearest 11 = .ok (.iaload, 1) := by decide +kernel
theorem dX6_dearest_12 : decode cX6_dearest 12 = .ok (.if_icmp .ge 44, 3) := by decide +kernel
theorem dX6_dearest_15 : decode cX6_dearest 15 = .ok (.aload_n 0, 1) := by decide +kernel
theorem dX6_dearest_16 : decode cX6_dearest 16 = .ok (.iload_n 1, 1) := by decide +kernel
theorem dX6_dearest_17 : decode cX6_dearest 17 = .ok (.iload_n 3, 1) := by decide +kernel
theorem dX6_dearest_18 : decode cX6_dearest 18 = .ok (.invokevirtual 125, 3) := by decide +kernel
theorem dX6_dearest_21 : decode cX6_dearest 21 = .ok (.ifCond .eq 12, 3) := by decide +kernel
theorem dX6_dearest_24 : decode cX6_dearest 24 = .ok (.aload_n 0, 1) := by decide +kernel
theorem dX6_dearest_25 : decode cX6_dearest 25 = .ok (.iload_n 1, 1) := by decide +kernel
theorem dX6_dearest_26 : decode cX6_dearest 26 = .ok (.iload_n 3, 1) := by decide +kernel
theorem dX6_dearest_27 : decode cX6_dearest 27 = .ok (.invokevirtual 129, 3) := by decide +kernel
theorem dX6_dearest_30 : decode cX6_dearest 30 = .ok (.goto 5, 3) := by decide +kernel
theorem dX6_dearest_33 : decode cX6_dearest 33 = .ok (.bipush (-4), 2) := by decide +kernel
theorem dX6_dearest_35 : decode cX6_dearest 35 = .ok (.istore 4, 2) := by decide +kernel
theorem dX6_dearest_37 : decode cX6_dearest 37 = .ok (.iload 4, 2) := by decide +kernel
theorem dX6_dearest_39 : decode cX6_dearest 39 = .ok (.iload_n 2, 1) := by decide +kernel
theorem dX6_dearest_40 : decode cX6_dearest 40 = .ok (.if_icmp .le 8, 3) := by decide +kernel
theorem dX6_dearest_43 : decode cX6_dearest 43 = .ok (.iload 4, 2) := by decide +kernel
theorem dX6_dearest_45 : decode cX6_dearest 45 = .ok (.goto 4, 3) := by decide +kernel
theorem dX6_dearest_48 : decode cX6_dearest 48 = .ok (.iload_n 2, 1) := by decide +kernel
theorem dX6_dearest_49 : decode cX6_dearest 49 = .ok (.istore_n 2, 1) := by decide +kernel
theorem dX6_dearest_50 : decode cX6_dearest 50 = .ok (.iinc 3 1, 3) := by decide +kernel
theorem dX6_dearest_53 : decode cX6_dearest 53 = .ok (.goto (-48), 3) := by decide +kernel
theorem dX6_dearest_56 : decode cX6_dearest 56 = .ok (.iload_n 2, 1) := by decide +kernel
theorem dX6_dearest_57 : decode cX6_dearest 57 = .ok (.ireturn, 1) := by decide +kernel
theorem dX6_offers_0 : decode cX6_offers 0 = .ok (.aload_n 0, 1) := by decide +kernel
theorem dX6_offers_1 : decode cX6_offers 1 = .ok (.iload_n 2, 1) := by decide +kernel
theorem dX6_offers_2 : decode cX6_offers 2 = .ok (.iload_n 1, 1) := by decide +kernel
theorem dX6_offers_3 : decode cX6_offers 3 = .ok (.invokevirtual 129, 3) := by decide +kernel
theorem dX6_offers_6 : decode cX6_offers 6 = .ok (.istore_n 3, 1) := by decide +kernel
theorem dX6_offers_7 : decode cX6_offers 7 = .ok (.aload_n 0, 1) := by decide +kernel
theorem dX6_offers_8 : decode cX6_offers 8 = .ok (.getfield 19, 3) := by decide +kernel
theorem dX6_offers_11 : decode cX6_offers 11 = .ok (.iload_n 2, 1) := by decide +kernel
theorem dX6_offers_12 : decode cX6_offers 12 = .ok (.iaload, 1) := by decide +kernel
theorem dX6_offers_13 : decode cX6_offers 13 = .ok (.iload_n 3, 1) := by decide +kernel
theorem dX6_offers_14 : decode cX6_offers 14 = .ok (.if_icmp .lt 11, 3) := by decide +kernel
theorem dX6_offers_17 : decode cX6_offers 17 = .ok (.aload_n 0, 1) := by decide +kernel
theorem dX6_offers_18 : decode cX6_offers 18 = .ok (.iload_n 1, 1) := by decide +kernel
theorem dX6_offers_19 : decode cX6_offers 19 = .ok (.iload_n 2, 1) := by decide +kernel
theorem dX6_offers_20 : decode cX6_offers 20 = .ok (.iload_n 3, 1) := by decide +kernel
theorem dX6_offers_21 : decode cX6_offers 21 = .ok (.invokevirtual 139, 3) := by decide +kernel
theorem dX6_offers_24 : decode cX6_offers 24 = .ok (.return_, 1) := by decide +kernel
theorem dX6_offers_25 : decode cX6_offers 25 = .ok (.aload_n 0, 1) := by decide +kernel
theorem dX6_offers_26 : decode cX6_offers 26 = .ok (.getfield 19, 3) := by decide +kernel
theorem dX6_offers_29 : decode cX6_offers 29 = .ok (.bipush 12, 2) := by decide +kernel
theorem dX6_offers_31 : decode cX6_offers 31 = .ok (.iload_n 1, 1) := by decide +kernel
theorem dX6_offers_32 : decode cX6_offers 32 = .ok (.iadd, 1) := by decide +kernel
theorem dX6_offers_33 : decode cX6_offers 33 = .ok (.aload_n 0, 1) := by decide +kernel
theorem dX6_offers_34 : decode cX6_offers 34 = .ok (.getfield 19, 3) := by decide +kernel
theorem dX6_offers_37 : decode cX6_offers 37 = .ok (.bipush 12, 2) := by decide +kernel
theorem dX6_offers_39 : decode cX6_offers 39 = .ok (.iload_n 1, 1) := by decide +kernel
theorem dX6_offers_40 : decode cX6_offers 40 = .ok (.iadd, 1) := by decide +kernel
theorem dX6_offers_41 : decode cX6_offers 41 = .ok (.iaload, 1) := by decide +kernel
theorem dX6_offers_42 : decode cX6_offers 42 = .ok (.iconst 3, 1) := by decide +kernel
theorem dX6_offers_43 : decode cX6_offers 43 = .ok (.if_icmp .ge 17, 3) := by decide +kernel
theorem dX6_offers_46 : decode cX6_offers 46 = .ok (.aload_n 0, 1) := by decide +kernel
theorem dX6_offers_47 : decode cX6_offers 47 = .ok (.getfield 19, 3) := by decide +kernel
theorem dX6_offers_50 : decode cX6_offers 50 = .ok (.bipush 12, 2) := by decide +kernel
theorem dX6_offers_52 : decode cX6_offers 52 = .ok (.iload_n 1, 1) := by decide +kernel
theorem dX6_offers_53 : decode cX6_offers 53 = .ok (.iadd, 1) := by decide +kernel
theorem dX6_offers_54 : decode cX6_offers 54 = .ok (.iaload, 1) := by decide +kernel
theorem dX6_offers_55 : decode cX6_offers 55 = .ok (.iconst 1, 1) := by decide +kernel
theorem dX6_offers_56 : decode cX6_offers 56 = .ok (.iadd, 1) := by decide +kernel
theorem dX6_offers_57 : decode cX6_offers 57 = .ok (.goto 4, 3) := by decide +kernel
theorem dX6_offers_60 : decode cX6_offers 60 = .ok (.iconst 3, 1) := by decide +kernel
theorem dX6_offers_61 : decode cX6_offers 61 = .ok (.iastore, 1) := by decide +kernel
theorem dX6_offers_62 : decode cX6_offers 62 = .ok (.bipush (-4), 2) := by decide +kernel
theorem dX6_offers_64 : decode cX6_offers 64 = .ok (.istore 4, 2) := by decide +kernel
theorem dX6_offers_66 : decode cX6_offers 66 = .ok (.iload_n 3, 1) := by decide +kernel
theorem dX6_offers_67 : decode cX6_offers 67 = .ok (.istore 5, 2) := by decide +kernel
theorem dX6_offers_69 : decode cX6_offers 69 = .ok (.iconst 0, 1) := by decide +kernel
theorem dX6_offers_70 : decode cX6_offers 70 = .ok (.istore 6, 2) := by decide +kernel
theorem dX6_offers_72 : decode cX6_offers 72 = .ok (.iload 6, 2) := by decide +kernel
theorem dX6_offers_74 : decode cX6_offers 74 = .ok (.aload_n 0, 1) := by decide +kernel
theorem dX6_offers_75 : decode cX6_offers 75 = .ok (.getfield 13, 3) := by decide +kernel
theorem dX6_offers_78 : decode cX6_offers 78 = .ok (.iconst 0, 1) := by decide +kernel
theorem dX6_offers_79 : decode cX6_offers 79 = .ok (.iaload, 1) := by decide +kernel
theorem dX6_offers_80 : decode cX6_offers 80 = .ok (.if_icmp .ge 84, 3) := by decide +kernel
theorem dX6_offers_83 : decode cX6_offers 83 = .ok (.aload_n 0, 1) := by decide +kernel
theorem dX6_offers_84 : decode cX6_offers 84 = .ok (.getfield 19, 3) := by decide +kernel
theorem dX6_offers_87 : decode cX6_offers 87 = .ok (.bipush 12, 2) := by decide +kernel
theorem dX6_offers_89 : decode cX6_offers 89 = .ok (.iload_n 1, 1) := by decide +kernel
theorem dX6_offers_90 : decode cX6_offers 90 = .ok (.iadd, 1) := by decide +kernel
theorem dX6_offers_91 : decode cX6_offers 91 = .ok (.iaload, 1) := by decide +kernel
theorem dX6_offers_92 : decode cX6_offers 92 = .ok (.iconst 3, 1) := by decide +kernel
theorem dX6_offers_93 : decode cX6_offers 93 = .ok (.if_icmp .ne 71, 3) := by decide +kernel
theorem dX6_offers_96 : decode cX6_offers 96 = .ok (.iload 6, 2) := by decide +kernel
theorem dX6_offers_98 : decode cX6_offers 98 = .ok (.iload_n 2, 1) := by decide +kernel
theorem dX6_offers_99 : decode cX6_offers 99 = .ok (.if_icmp .eq 23, 3) := by decide +kernel
theorem dX6_offers_102 : decode cX6_offers 102 = .ok (.aload_n 0, 1) := by decide +kernel
theorem dX6_offers_103 : decode cX6_offers 103 = .ok (.getfield 19, 3) := by decide +kernel
theorem dX6_offers_106 : decode cX6_offers 106 = .ok (.iload 6, 2) := by decide +kernel
theorem dX6_offers_108 : decode cX6_offers 108 = .ok (.iaload, 1) := by decide +kernel
theorem dX6_offers_109 : decode cX6_offers 109 = .ok (.iload_n 3, 1) := by decide +kernel
theorem dX6_offers_110 : decode cX6_offers 110 = .ok (.if_icmp .lt 12, 3) := by decide +kernel
theorem dX6_offers_113 : decode cX6_offers 113 = .ok (.aload_n 0, 1) := by decide +kernel
theorem dX6_offers_114 : decode cX6_offers 114 = .ok (.iload 6, 2) := by decide +kernel
theorem dX6_offers_116 : decode cX6_offers 116 = .ok (.invokevirtual 142, 3) := by decide +kernel
theorem dX6_offers_119 : decode cX6_offers 119 = .ok (.goto 5, 3) := by decide +kernel
theorem dX6_offers_122 : decode cX6_offers 122 = .ok (.bipush (-4), 2) := by decide +kernel
theorem dX6_offers_124 : decode cX6_offers 124 = .ok (.istore 7, 2) := by decide +kernel
theorem dX6_offers_126 : decode cX6_offers 126 = .ok (.iload 7, 2) := by decide +kernel
theorem dX6_offers_128 : decode cX6_offers 128 = .ok (.iload 5, 2) := by decide +kernel
theorem dX6_offers_130 : decode cX6_offers 130 = .ok (.if_icmp .le 8, 3) := by decide +kernel
theorem dX6_offers_133 : decode cX6_offers 133 = .ok (.iload 6, 2) := by decide +kernel
theorem dX6_offers_135 : decode cX6_offers 135 = .ok (.goto 5, 3) := by decide +kernel
theorem dX6_offers_138 : decode cX6_offers 138 = .ok (.iload 4, 2) := by decide +kernel
theorem dX6_offers_140 : decode cX6_offers 140 = .ok (.istore 4, 2) := by decide +kernel
theorem dX6_offers_142 : decode cX6_offers 142 = .ok (.iload 7, 2) := by decide +kernel
theorem dX6_offers_144 : decode cX6_offers 144 = .ok (.iload 5, 2) := by decide +kernel
theorem dX6_offers_146 : decode cX6_offers 146 = .ok (.if_icmp .le 8, 3) := by decide +kernel
theorem dX6_offers_149 : decode cX6_offers 149 = .ok (.iload 7, 2) := by decide +kernel
theorem dX6_offers_151 : decode cX6_offers 151 = .ok (.goto 5, 3) := by decide +kernel
theorem dX6_offers_154 : decode cX6_offers 154 = .ok (.iload 5, 2) := by decide +kernel
theorem dX6_offers_156 : decode cX6_offers 156 = .ok (.istore 5, 2) := by decide +kernel
theorem dX6_offers_158 : decode cX6_offers 158 = .ok (.iinc 6 1, 3) := by decide +kernel
theorem dX6_offers_161 : decode cX6_offers 161 = .ok (.goto (-89), 3) := by decide +kernel
theorem dX6_offers_164 : decode cX6_offers 164 = .ok (.iload 4, 2) := by decide +kernel
theorem dX6_offers_166 : decode cX6_offers 166 = .ok (.bipush (-4), 2) := by decide +kernel
theorem dX6_offers_168 : decode cX6_offers 168 = .ok (.if_icmp .eq 11, 3) := by decide +kernel
theorem dX6_offers_171 : decode cX6_offers 171 = .ok (.aload_n 0, 1) := by decide +kernel
theorem dX6_offers_172 : decode cX6_offers 172 = .ok (.iload_n 1, 1) := by decide +kernel
theorem dX6_offers_173 : decode cX6_offers 173 = .ok (.iload 4, 2) := by decide +kernel
theorem dX6_offers_175 : decode cX6_offers 175 = .ok (.iload_n 3, 1) := by decide +kernel
theorem dX6_offers_176 : decode cX6_offers 176 = .ok (.invokevirtual 139, 3) := by decide +kernel
theorem dX6_offers_179 : decode cX6_offers 179 = .ok (.return_, 1) := by decide +kernel
theorem dX6_holds_0 : decode cX6_holds 0 = .ok (.iconst 0, 1) := by decide +kernel
theorem dX6_holds_1 : decode cX6_holds 1 = .ok (.istore_n 1, 1) := by decide +kernel
theorem dX6_holds_2 : decode cX6_holds 2 = .ok (.iconst 0, 1) := by decide +kernel
theorem dX6_holds_3 : decode cX6_holds 3 = .ok (.istore_n 2, 1) := by decide +kernel
theorem dX6_holds_4 : decode cX6_holds 4 = .ok (.iload_n 2, 1) := by decide +kernel
theorem dX6_holds_5 : decode cX6_holds 5 = .ok (.aload_n 0, 1) := by decide +kernel
theorem dX6_holds_6 : decode cX6_holds 6 = .ok (.getfield 13, 3) := by decide +kernel
theorem dX6_holds_9 : decode cX6_holds 9 = .ok (.iconst 1, 1) := by decide +kernel
theorem dX6_holds_10 : decode cX6_holds 10 = .ok (.iaload, 1) := by decide +kernel
theorem dX6_holds_11 : decode cX6_holds 11 = .ok (.if_icmp .ge 65, 3) := by decide +kernel
theorem dX6_holds_14 : decode cX6_holds 14 = .ok (.aload_n 0, 1) := by decide +kernel
theorem dX6_holds_15 : decode cX6_holds 15 = .ok (.getfield 19, 3) := by decide +kernel
theorem dX6_holds_18 : decode cX6_holds 18 = .ok (.bipush 6, 2) := by decide +kernel
theorem dX6_holds_20 : decode cX6_holds 20 = .ok (.iload_n 2, 1) := by decide +kernel
theorem dX6_holds_21 : decode cX6_holds 21 = .ok (.iadd, 1) := by decide +kernel
theorem dX6_holds_22 : decode cX6_holds 22 = .ok (.iaload, 1) := by decide +kernel
theorem dX6_holds_23 : decode cX6_holds 23 = .ok (.bipush (-4), 2) := by decide +kernel
theorem dX6_holds_25 : decode cX6_holds 25 = .ok (.if_icmp .ne 45, 3) := by decide +kernel
theorem dX6_holds_28 : decode cX6_holds 28 = .ok (.aload_n 0, 1) := by decide +kernel
theorem dX6_holds_29 : decode cX6_holds 29 = .ok (.iload_n 2, 1) := by decide +kernel
theorem dX6_holds_30 : decode cX6_holds 30 = .ok (.invokevirtual 122, 3) := by decide +kernel
theorem dX6_holds_33 : decode cX6_holds 33 = .ok (.bipush (-4), 2) := by decide +kernel
theorem dX6_holds_35 : decode cX6_holds 35 = .ok (.if_icmp .eq 35, 3) := by decide +kernel
theorem dX6_holds_38 : decode cX6_holds 38 = .ok (.aload_n 0, 1) := by decide +kernel
theorem dX6_holds_39 : decode cX6_holds 39 = .ok (.iload_n 2, 1) := by decide +kernel
theorem dX6_holds_40 : decode cX6_holds 40 = .ok (.aload_n 0, 1) := by decide +kernel
theorem dX6_holds_41 : decode cX6_holds 41 = .ok (.iload_n 2, 1) := by decide +kernel
theorem dX6_holds_42 : decode cX6_holds 42 = .ok (.invokevirtual 122, 3) := by decide +kernel
theorem dX6_holds_45 : decode cX6_holds 45 = .ok (.invokevirtual 145, 3) := by decide +kernel
theorem dX6_holds_48 : decode cX6_holds 48 = .ok (.iload_n 1, 1) := by decide +kernel
theorem dX6_holds_49 : decode cX6_holds 49 = .ok (.aload_n 0, 1) := by decide +kernel
theorem dX6_holds_50 : decode cX6_holds 50 = .ok (.getfield 19, 3) := by decide +kernel
theorem dX6_holds_53 : decode cX6_holds 53 = .ok (.bipush 6, 2) := by decide +kernel
theorem dX6_holds_55 : decode cX6_holds 55 = .ok (.iload_n 2, 1) := by decide +kernel
theorem dX6_holds_56 : decode cX6_holds 56 = .ok (.iadd, 1) := by decide +kernel
theorem dX6_holds_57 : decode cX6_holds 57 = .ok (.iaload, 1) := by decide +kernel
theorem dX6_holds_58 : decode cX6_holds 58 = .ok (.bipush (-4), 2) := by decide +kernel
theorem dX6_holds_60 : decode cX6_holds 60 = .ok (.if_icmp .ne 7, 3) := by decide +kernel
theorem dX6_holds_63 : decode cX6_holds 63 = .ok (.iconst 0, 1) := by decide +kernel
theorem dX6_holds_64 : decode cX6_holds 64 = .ok (.goto 4, 3) := by decide +kernel
theorem dX6_holds_67 : decode cX6_holds 67 = .ok (.iconst 1, 1) := by decide +kernel
theorem dX6_holds_68 : decode cX6_holds 68 = .ok (.iadd, 1) := by decide +kernel
theorem dX6_holds_69 : decode cX6_holds 69 = .ok (.istore_n 1, 1) := by decide +kernel
theorem dX6_holds_70 : decode cX6_holds 70 = .ok (.iinc 2 1, 3) := by decide +kernel
theorem dX6_holds_73 : decode cX6_holds 73 = .ok (.goto (-69), 3) := by decide +kernel
theorem dX6_holds_76 : decode cX6_holds 76 = .ok (.iconst 0, 1) := by decide +kernel
theorem dX6_holds_77 : decode cX6_holds 77 = .ok (.istore_n 2, 1) := by decide +kernel
theorem dX6_holds_78 : decode cX6_holds 78 = .ok (.iload_n 2, 1) := by decide +kernel
theorem dX6_holds_79 : decode cX6_holds 79 = .ok (.aload_n 0, 1) := by decide +kernel
theorem dX6_holds_80 : decode cX6_holds 80 = .ok (.getfield 13, 3) := by decide +kernel
theorem dX6_holds_83 : decode cX6_holds 83 = .ok (.iconst 0, 1) := by decide +kernel
theorem dX6_holds_84 : decode cX6_holds 84 = .ok (.iaload, 1) := by decide +kernel
theorem dX6_holds_85 : decode cX6_holds 85 = .ok (.if_icmp .ge 53, 3) := by decide +kernel
theorem dX6_holds_88 : decode cX6_holds 88 = .ok (.aload_n 0, 1) := by decide +kernel
theorem dX6_holds_89 : decode cX6_holds 89 = .ok (.getfield 19, 3) := by decide +kernel
theorem dX6_holds_92 : decode cX6_holds 92 = .ok (.iload_n 2, 1) := by decide +kernel
theorem dX6_holds_93 : decode cX6_holds 93 = .ok (.aload_n 0, 1) := by decide +kernel
theorem dX6_holds_94 : decode cX6_holds 94 = .ok (.getfield 19, 3) := by decide +kernel
theorem dX6_holds_97 : decode cX6_holds 97 = .ok (.iload_n 2, 1) := by decide +kernel
theorem dX6_holds_98 : decode cX6_holds 98 = .ok (.iaload, 1) := by decide +kernel
theorem dX6_holds_99 : decode cX6_holds 99 = .ok (.aload_n 0, 1) := by decide +kernel
theorem dX6_holds_100 : decode cX6_holds 100 = .ok (.getfield 13, 3) := by decide +kernel
theorem dX6_holds_103 : decode cX6_holds 103 = .ok (.iconst 3, 1) := by decide +kernel
theorem dX6_holds_104 : decode cX6_holds 104 = .ok (.iaload, 1) := by decide +kernel
theorem dX6_holds_105 : decode cX6_holds 105 = .ok (.iadd, 1) := by decide +kernel
theorem dX6_holds_106 : decode cX6_holds 106 = .ok (.sipush 999, 3) := by decide +kernel
theorem dX6_holds_109 : decode cX6_holds 109 = .ok (.if_icmp .le 9, 3) := by decide +kernel
theorem dX6_holds_112 : decode cX6_holds 112 = .ok (.sipush 999, 3) := by decide +kernel
theorem dX6_holds_115 : decode cX6_holds 115 = .ok (.goto 16, 3) := by decide +kernel
theorem dX6_holds_118 : decode cX6_holds 118 = .ok (.aload_n 0, 1) := by decide +kernel
theorem dX6_holds_119 : decode cX6_holds 119 = .ok (.getfield 19, 3) := by decide +kernel
theorem dX6_holds_122 : decode cX6_holds 122 = .ok (.iload_n 2, 1) := by decide +kernel
theorem dX6_holds_123 : decode cX6_holds 123 = .ok (.iaload, 1) := by decide +kernel
theorem dX6_holds_124 : decode cX6_holds 124 = .ok (.aload_n 0, 1) := by decide +kernel
theorem dX6_holds_125 : decode cX6_holds 125 = .ok (.getfield 13, 3) := by decide +kernel
theorem dX6_holds_128 : decode cX6_holds 128 = .ok (.iconst 3, 1) := by decide +kernel
theorem dX6_holds_129 : decode cX6_holds 129 = .ok (.iaload, 1) := by decide +kernel
theorem dX6_holds_130 : decode cX6_holds 130 = .ok (.iadd, 1) := by decide +kernel
theorem dX6_holds_131 : decode cX6_holds 131 = .ok (.iastore, 1) := by decide +kernel
theorem dX6_holds_132 : decode cX6_holds 132 = .ok (.iinc 2 1, 3) := by decide +kernel
theorem dX6_holds_135 : decode cX6_holds 135 = .ok (.goto (-57), 3) := by decide +kernel
theorem dX6_holds_138 : decode cX6_holds 138 = .ok (.aload_n 0, 1) := by decide +kernel
theorem dX6_holds_139 : decode cX6_holds 139 = .ok (.getfield 19, 3) := by decide +kernel
theorem dX6_holds_142 : decode cX6_holds 142 = .ok (.bipush 54, 2) := by decide +kernel
theorem dX6_holds_144 : decode cX6_holds 144 = .ok (.dup2, 1) := by decide +kernel
theorem dX6_holds_145 : decode cX6_holds 145 = .ok (.iaload, 1) := by decide +kernel
theorem dX6_holds_146 : decode cX6_holds 146 = .ok (.iconst 1, 1) := by decide +kernel
theorem dX6_holds_147 : decode cX6_holds 147 = .ok (.iadd, 1) := by decide +kernel
theorem dX6_holds_148 : decode cX6_holds 148 = .ok (.iastore, 1) := by decide +kernel
theorem dX6_holds_149 : decode cX6_holds 149 = .ok (.iload_n 1, 1) := by decide +kernel
theorem dX6_holds_150 : decode cX6_holds 150 = .ok (.ireturn, 1) := by decide +kernel
theorem dX6_fair_0 : decode cX6_fair 0 = .ok (.aload_n 0, 1) := by decide +kernel
theorem dX6_fair_1 : decode cX6_fair 1 = .ok (.getfield 19, 3) := by decide +kernel
theorem dX6_fair_4 : decode cX6_fair 4 = .ok (.bipush 54, 2) := by decide +kernel
theorem dX6_fair_6 : decode cX6_fair 6 = .ok (.iaload, 1) := by decide +kernel
theorem dX6_fair_7 : decode cX6_fair 7 = .ok (.bipush 99, 2) := by decide +kernel
theorem dX6_fair_9 : decode cX6_fair 9 = .ok (.if_icmp .ne 6, 3) := by decide +kernel
theorem dX6_fair_12 : decode cX6_fair 12 = .ok (.bipush (-2), 2) := by decide +kernel
theorem dX6_fair_14 : decode cX6_fair 14 = .ok (.ireturn, 1) := by decide +kernel
theorem dX6_fair_15 : decode cX6_fair 15 = .ok (.aload_n 0, 1) := by decide +kernel
theorem dX6_fair_16 : decode cX6_fair 16 = .ok (.invokevirtual 132, 3) := by decide +kernel
theorem dX6_fair_19 : decode cX6_fair 19 = .ok (.aload_n 0, 1) := by decide +kernel
theorem dX6_fair_20 : decode cX6_fair 20 = .ok (.invokevirtual 148, 3) := by decide +kernel
theorem dX6_fair_23 : decode cX6_fair 23 = .ok (.ireturn, 1) := by decide +kernel
theorem dX6_give_0 : decode cX6_give 0 = .ok (.aload_n 0, 1) := by decide +kernel
theorem dX6_give_1 : decode cX6_give 1 = .ok (.iload_n 1, 1) := by decide +kernel
theorem dX6_give_2 : decode cX6_give 2 = .ok (.invokevirtual 113, 3) := by decide +kernel
theorem dX6_give_5 : decode cX6_give 5 = .ok (.ifCond .eq 26, 3) := by decide +kernel
theorem dX6_give_8 : decode cX6_give 8 = .ok (.aload_n 0, 1) := by decide +kernel
theorem dX6_give_9 : decode cX6_give 9 = .ok (.iload_n 2, 1) := by decide +kernel
theorem dX6_give_10 : decode cX6_give 10 = .ok (.invokevirtual 113, 3) := by decide +kernel
theorem dX6_give_13 : decode cX6_give 13 = .ok (.ifCond .eq 18, 3) := by decide +kernel
theorem dX6_give_16 : decode cX6_give 16 = .ok (.iload_n 1, 1) := by decide +kernel
theorem dX6_give_17 : decode cX6_give 17 = .ok (.iload_n 2, 1) := by decide +kernel
theorem dX6_give_18 : decode cX6_give 18 = .ok (.if_icmp .eq 13, 3) := by decide +kernel
theorem dX6_give_21 : decode cX6_give 21 = .ok (.iload_n 3, 1) := by decide +kernel
theorem dX6_give_22 : decode cX6_give 22 = .ok (.iconst 1, 1) := by decide +kernel
theorem dX6_give_23 : decode cX6_give 23 = .ok (.bipush 99, 2) := by decide +kernel
theorem dX6_give_25 : decode cX6_give 25 = .ok (.invokestatic 56, 3) := by decide +kernel
theorem dX6_give_28 : decode cX6_give 28 = .ok (.ifCond .ne 5, 3) := by decide +kernel
theorem dX6_give_31 : decode cX6_give 31 = .ok (.iconst (-1), 1) := by decide +kernel
theorem dX6_give_32 : decode cX6_give 32 = .ok (.ireturn, 1) := by decide +kernel
theorem dX6_give_33 : decode cX6_give 33 = .ok (.aload_n 0, 1) := by decide +kernel
theorem dX6_give_34 : decode cX6_give 34 = .ok (.getfield 19, 3) := by decide +kernel
theorem dX6_give_37 : decode cX6_give 37 = .ok (.iload_n 1, 1) := by decide +kernel
theorem dX6_give_38 : decode cX6_give 38 = .ok (.iaload, 1) := by decide +kernel
theorem dX6_give_39 : decode cX6_give 39 = .ok (.iload_n 3, 1) := by decide +kernel
theorem dX6_give_40 : decode cX6_give 40 = .ok (.if_icmp .ge 6, 3) := by decide +kernel
theorem dX6_give_43 : decode cX6_give 43 = .ok (.bipush (-2), 2) := by decide +kernel
theorem dX6_give_45 : decode cX6_give 45 = .ok (.ireturn, 1) := by decide +kernel
theorem dX6_give_46 : decode cX6_give 46 = .ok (.aload_n 0, 1) := by decide +kernel
theorem dX6_give_47 : decode cX6_give 47 = .ok (.getfield 19, 3) := by decide +kernel
theorem dX6_give_50 : decode cX6_give 50 = .ok (.iload_n 2, 1) := by decide +kernel
theorem dX6_give_51 : decode cX6_give 51 = .ok (.iaload, 1) := by decide +kernel
theorem dX6_give_52 : decode cX6_give 52 = .ok (.iload_n 3, 1) := by decide +kernel
theorem dX6_give_53 : decode cX6_give 53 = .ok (.iadd, 1) := by decide +kernel
theorem dX6_give_54 : decode cX6_give 54 = .ok (.sipush 999, 3) := by decide +kernel
theorem dX6_give_57 : decode cX6_give 57 = .ok (.if_icmp .le 6, 3) := by decide +kernel
theorem dX6_give_60 : decode cX6_give 60 = .ok (.bipush (-3), 2) := by decide +kernel
theorem dX6_give_62 : decode cX6_give 62 = .ok (.ireturn, 1) := by decide +kernel
theorem dX6_give_63 : decode cX6_give 63 = .ok (.aload_n 0, 1) := by decide +kernel
theorem dX6_give_64 : decode cX6_give 64 = .ok (.invokevirtual 132, 3) := by decide +kernel
theorem dX6_give_67 : decode cX6_give 67 = .ok (.aload_n 0, 1) := by decide +kernel
theorem dX6_give_68 : decode cX6_give 68 = .ok (.getfield 19, 3) := by decide +kernel
theorem dX6_give_71 : decode cX6_give 71 = .ok (.iload_n 1, 1) := by decide +kernel
theorem dX6_give_72 : decode cX6_give 72 = .ok (.dup2, 1) := by decide +kernel
theorem dX6_give_73 : decode cX6_give 73 = .ok (.iaload, 1) := by decide +kernel
theorem dX6_give_74 : decode cX6_give 74 = .ok (.iload_n 3, 1) := by decide +kernel
theorem dX6_give_75 : decode cX6_give 75 = .ok (.isub, 1) := by decide +kernel
theorem dX6_give_76 : decode cX6_give 76 = .ok (.iastore, 1) := by decide +kernel
theorem dX6_give_77 : decode cX6_give 77 = .ok (.aload_n 0, 1) := by decide +kernel
theorem dX6_give_78 : decode cX6_give 78 = .ok (.getfield 19, 3) := by decide +kernel
theorem dX6_give_81 : decode cX6_give 81 = .ok (.iload_n 2, 1) := by decide +kernel
theorem dX6_give_82 : decode cX6_give 82 = .ok (.dup2, 1) := by decide +kernel
theorem dX6_give_83 : decode cX6_give 83 = .ok (.iaload, 1) := by decide +kernel
theorem dX6_give_84 : decode cX6_give 84 = .ok (.iload_n 3, 1) := by decide +kernel
theorem dX6_give_85 : decode cX6_give 85 = .ok (.iadd, 1) := by decide +kernel
theorem dX6_give_86 : decode cX6_give 86 = .ok (.iastore, 1) := by decide +kernel
theorem dX6_give_87 : decode cX6_give 87 = .ok (.aload_n 0, 1) := by decide +kernel
theorem dX6_give_88 : decode cX6_give 88 = .ok (.getfield 19, 3) := by decide +kernel
theorem dX6_give_91 : decode cX6_give 91 = .ok (.iload_n 1, 1) := by decide +kernel
theorem dX6_give_92 : decode cX6_give 92 = .ok (.iaload, 1) := by decide +kernel
theorem dX6_give_93 : decode cX6_give 93 = .ok (.ireturn, 1) := by decide +kernel
theorem dX6_undo_0 : decode cX6_undo 0 = .ok (.aload_n 0, 1) := by decide +kernel
theorem dX6_undo_1 : decode cX6_undo 1 = .ok (.getfield 88, 3) := by decide +kernel
theorem dX6_undo_4 : decode cX6_undo 4 = .ok (.ifCond .ne 6, 3) := by decide +kernel
theorem dX6_undo_7 : decode cX6_undo 7 = .ok (.bipush (-2), 2) := by decide +kernel
theorem dX6_undo_9 : decode cX6_undo 9 = .ok (.ireturn, 1) := by decide +kernel
theorem dX6_undo_10 : decode cX6_undo 10 = .ok (.aload_n 0, 1) := by decide +kernel
theorem dX6_undo_11 : decode cX6_undo 11 = .ok (.dup, 1) := by decide +kernel
theorem dX6_undo_12 : decode cX6_undo 12 = .ok (.getfield 88, 3) := by decide +kernel
theorem dX6_undo_15 : decode cX6_undo 15 = .ok (.iconst 1, 1) := by decide +kernel
theorem dX6_undo_16 : decode cX6_undo 16 = .ok (.isub, 1) := by decide +kernel
theorem dX6_undo_17 : decode cX6_undo 17 = .ok (.putfield 88, 3) := by decide +kernel
theorem dX6_undo_20 : decode cX6_undo 20 = .ok (.iconst 0, 1) := by decide +kernel
theorem dX6_undo_21 : decode cX6_undo 21 = .ok (.istore_n 1, 1) := by decide +kernel
theorem dX6_undo_22 : decode cX6_undo 22 = .ok (.iload_n 1, 1) := by decide +kernel
theorem dX6_undo_23 : decode cX6_undo 23 = .ok (.bipush 55, 2) := by decide +kernel
theorem dX6_undo_25 : decode cX6_undo 25 = .ok (.if_icmp .ge 29, 3) := by decide +kernel
theorem dX6_undo_28 : decode cX6_undo 28 = .ok (.aload_n 0, 1) := by decide +kernel
theorem dX6_undo_29 : decode cX6_undo 29 = .ok (.getfield 19, 3) := by decide +kernel
theorem dX6_undo_32 : decode cX6_undo 32 = .ok (.iload_n 1, 1) := by decide +kernel
theorem dX6_undo_33 : decode cX6_undo 33 = .ok (.aload_n 0, 1) := by decide +kernel
theorem dX6_undo_34 : decode cX6_undo 34 = .ok (.getfield 22, 3) := by decide +kernel
theorem dX6_undo_37 : decode cX6_undo 37 = .ok (.bipush 55, 2) := by decide +kernel
theorem dX6_undo_39 : decode cX6_undo 39 = .ok (.aload_n 0, 1) := by decide +kernel
theorem dX6_undo_40 : decode cX6_undo 40 = .ok (.getfield 88, 3) := by decide +kernel
theorem dX6_undo_43 : decode cX6_undo 43 = .ok (.imul, 1) := by decide +kernel
theorem dX6_undo_44 : decode cX6_undo 44 = .ok (.iload_n 1, 1) := by decide +kernel
theorem dX6_undo_45 : decode cX6_undo 45 = .ok (.iadd, 1) := by decide +kernel
theorem dX6_undo_46 : decode cX6_undo 46 = .ok (.iaload, 1) := by decide +kernel
theorem dX6_undo_47 : decode cX6_undo 47 = .ok (.iastore, 1) := by decide +kernel
theorem dX6_undo_48 : decode cX6_undo 48 = .ok (.iinc 1 1, 3) := by decide +kernel
theorem dX6_undo_51 : decode cX6_undo 51 = .ok (.goto (-29), 3) := by decide +kernel
theorem dX6_undo_54 : decode cX6_undo 54 = .ok (.aload_n 0, 1) := by decide +kernel
theorem dX6_undo_55 : decode cX6_undo 55 = .ok (.getfield 88, 3) := by decide +kernel
theorem dX6_undo_58 : decode cX6_undo 58 = .ok (.ireturn, 1) := by decide +kernel
theorem dX6_remembers_0 : decode cX6_remembers 0 = .ok (.iconst 0, 1) := by decide +kernel
theorem dX6_remembers_1 : decode cX6_remembers 1 = .ok (.istore_n 1, 1) := by decide +kernel
theorem dX6_remembers_2 : decode cX6_remembers 2 = .ok (.iload_n 1, 1) := by decide +kernel
theorem dX6_remembers_3 : decode cX6_remembers 3 = .ok (.bipush 55, 2) := by decide +kernel
theorem dX6_remembers_5 : decode cX6_remembers 5 = .ok (.if_icmp .ge 21, 3) := by decide +kernel
theorem dX6_remembers_8 : decode cX6_remembers 8 = .ok (.aload_n 0, 1) := by decide +kernel
theorem dX6_remembers_9 : decode cX6_remembers 9 = .ok (.getfield 35, 3) := by decide +kernel
theorem dX6_remembers_12 : decode cX6_remembers 12 = .ok (.iload_n 1, 1) := by decide +kernel
theorem dX6_remembers_13 : decode cX6_remembers 13 = .ok (.aload_n 0, 1) := by decide +kernel
theorem dX6_remembers_14 : decode cX6_remembers 14 = .ok (.getfield 19, 3) := by decide +kernel
theorem dX6_remembers_17 : decode cX6_remembers 17 = .ok (.iload_n 1, 1) := by decide +kernel
theorem dX6_remembers_18 : decode cX6_remembers 18 = .ok (.iaload, 1) := by decide +kernel
theorem dX6_remembers_19 : decode cX6_remembers 19 = .ok (.iastore, 1) := by decide +kernel
theorem dX6_remembers_20 : decode cX6_remembers 20 = .ok (.iinc 1 1, 3) := by decide +kernel
theorem dX6_remembers_23 : decode cX6_remembers 23 = .ok (.goto (-21), 3) := by decide +kernel
theorem dX6_remembers_26 : decode cX6_remembers 26 = .ok (.return_, 1) := by decide +kernel
theorem dX6_lets_0 : decode cX6_lets 0 = .ok (.iconst 0, 1) := by decide +kernel
theorem dX6_lets_1 : decode cX6_lets 1 = .ok (.istore_n 1, 1) := by decide +kernel
theorem dX6_lets_2 : decode cX6_lets 2 = .ok (.iload_n 1, 1) := by decide +kernel
theorem dX6_lets_3 : decode cX6_lets 3 = .ok (.bipush 55, 2) := by decide +kernel
theorem dX6_lets_5 : decode cX6_lets 5 = .ok (.if_icmp .ge 21, 3) := by decide +kernel
theorem dX6_lets_8 : decode cX6_lets 8 = .ok (.aload_n 0, 1) := by decide +kernel
theorem dX6_lets_9 : decode cX6_lets 9 = .ok (.getfield 19, 3) := by decide +kernel
theorem dX6_lets_12 : decode cX6_lets 12 = .ok (.iload_n 1, 1) := by decide +kernel
theorem dX6_lets_13 : decode cX6_lets 13 = .ok (.aload_n 0, 1) := by decide +kernel
theorem dX6_lets_14 : decode cX6_lets 14 = .ok (.getfield 35, 3) := by decide +kernel
theorem dX6_lets_17 : decode cX6_lets 17 = .ok (.iload_n 1, 1) := by decide +kernel
theorem dX6_lets_18 : decode cX6_lets 18 = .ok (.iaload, 1) := by decide +kernel
theorem dX6_lets_19 : decode cX6_lets 19 = .ok (.iastore, 1) := by decide +kernel
theorem dX6_lets_20 : decode cX6_lets 20 = .ok (.iinc 1 1, 3) := by decide +kernel
theorem dX6_lets_23 : decode cX6_lets 23 = .ok (.goto (-21), 3) := by decide +kernel
theorem dX6_lets_26 : decode cX6_lets 26 = .ok (.return_, 1) := by decide +kernel
theorem dX6_whoseBehind_0 : decode cX6_whoseBehind 0 = .ok (.iconst 0, 1) := by decide +kernel
theorem dX6_whoseBehind_1 : decode cX6_whoseBehind 1 = .ok (.istore_n 3, 1) := by decide +kernel
theorem dX6_whoseBehind_2 : decode cX6_whoseBehind 2 = .ok (.iload_n 3, 1) := by decide +kernel
theorem dX6_whoseBehind_3 : decode cX6_whoseBehind 3 = .ok (.iload_n 2, 1) := by decide +kernel
theorem dX6_whoseBehind_4 : decode cX6_whoseBehind 4 = .ok (.if_icmp .ge 14, 3) := by decide +kernel
theorem dX6_whoseBehind_7 : decode cX6_whoseBehind 7 = .ok (.aload_n 0, 1) := by decide +kernel
theorem dX6_whoseBehind_8 : decode cX6_whoseBehind 8 = .ok (.invokevirtual 148, 3) := by decide +kernel
theorem dX6_whoseBehind_11 : decode cX6_whoseBehind 11 = .ok (.pop, 1) := by decide +kernel
theorem dX6_whoseBehind_12 : decode cX6_whoseBehind 12 = .ok (.iinc 3 1, 3) := by decide +kernel
theorem dX6_whoseBehind_15 : decode cX6_whoseBehind 15 = .ok (.goto (-13), 3) := by decide +kernel
theorem dX6_whoseBehind_18 : decode cX6_whoseBehind 18 = .ok (.aload_n 0, 1) := by decide +kernel
theorem dX6_whoseBehind_19 : decode cX6_whoseBehind 19 = .ok (.getfield 19, 3) := by decide +kernel
theorem dX6_whoseBehind_22 : decode cX6_whoseBehind 22 = .ok (.bipush 6, 2) := by decide +kernel
theorem dX6_whoseBehind_24 : decode cX6_whoseBehind 24 = .ok (.iload_n 1, 1) := by decide +kernel
theorem dX6_whoseBehind_25 : decode cX6_whoseBehind 25 = .ok (.iadd, 1) := by decide +kernel
theorem dX6_whoseBehind_26 : decode cX6_whoseBehind 26 = .ok (.iaload, 1) := by decide +kernel
theorem dX6_whoseBehind_27 : decode cX6_whoseBehind 27 = .ok (.istore_n 3, 1) := by decide +kernel
theorem dX6_whoseBehind_28 : decode cX6_whoseBehind 28 = .ok (.aload_n 0, 1) := by decide +kernel
theorem dX6_whoseBehind_29 : decode cX6_whoseBehind 29 = .ok (.invokevirtual 151, 3) := by decide +kernel
theorem dX6_whoseBehind_32 : decode cX6_whoseBehind 32 = .ok (.iload_n 3, 1) := by decide +kernel
theorem dX6_whoseBehind_33 : decode cX6_whoseBehind 33 = .ok (.ireturn, 1) := by decide +kernel
theorem dX6_goesBehind_0 : decode cX6_goesBehind 0 = .ok (.bipush (-4), 2) := by decide +kernel
theorem dX6_goesBehind_2 : decode cX6_goesBehind 2 = .ok (.istore_n 2, 1) := by decide +kernel
theorem dX6_goesBehind_3 : decode cX6_goesBehind 3 = .ok (.iconst 0, 1) := by decide +kernel
theorem dX6_goesBehind_4 : decode cX6_goesBehind 4 = .ok (.istore_n 3, 1) := by decide +kernel
theorem dX6_goesBehind_5 : decode cX6_goesBehind 5 = .ok (.iload_n 3, 1) := by decide +kernel
theorem dX6_goesBehind_6 : decode cX6_goesBehind 6 = .ok (.bipush 9, 2) := by decide +kernel
theorem dX6_goesBehind_8 : decode cX6_goesBehind 8 = .ok (.if_icmp .gt 41, 3) := by decide +kernel
theorem dX6_goesBehind_11 : decode cX6_goesBehind 11 = .ok (.iload_n 2, 1) := by decide +kernel
theorem dX6_goesBehind_12 : decode cX6_goesBehind 12 = .ok (.bipush (-4), 2) := by decide +kernel
theorem dX6_goesBehind_14 : decode cX6_goesBehind 14 = .ok (.if_icmp .ne 35, 3) := by decide +kernel
theorem dX6_goesBehind_17 : decode cX6_goesBehind 17 = .ok (.aload_n 0, 1) := by decide +kernel
theorem dX6_goesBehind_18 : decode cX6_goesBehind 18 = .ok (.getfield 19, 3) := by decide +kernel
theorem dX6_goesBehind_21 : decode cX6_goesBehind 21 = .ok (.bipush 6, 2) := by decide +kernel
theorem dX6_goesBehind_23 : decode cX6_goesBehind 23 = .ok (.iload_n 1, 1) := by decide +kernel
theorem dX6_goesBehind_24 : decode cX6_goesBehind 24 = .ok (.iadd, 1) := by decide +kernel
theorem dX6_goesBehind_25 : decode cX6_goesBehind 25 = .ok (.iaload, 1) := by decide +kernel
theorem dX6_goesBehind_26 : decode cX6_goesBehind 26 = .ok (.bipush (-4), 2) := by decide +kernel
theorem dX6_goesBehind_28 : decode cX6_goesBehind 28 = .ok (.if_icmp .ne 8, 3) := by decide +kernel
theorem dX6_goesBehind_31 : decode cX6_goesBehind 31 = .ok (.bipush (-4), 2) := by decide +kernel
theorem dX6_goesBehind_33 : decode cX6_goesBehind 33 = .ok (.goto 4, 3) := by decide +kernel
theorem dX6_goesBehind_36 : decode cX6_goesBehind 36 = .ok (.iload_n 3, 1) := by decide +kernel
theorem dX6_goesBehind_37 : decode cX6_goesBehind 37 = .ok (.istore_n 2, 1) := by decide +kernel
theorem dX6_goesBehind_38 : decode cX6_goesBehind 38 = .ok (.aload_n 0, 1) := by decide +kernel
theorem dX6_goesBehind_39 : decode cX6_goesBehind 39 = .ok (.invokevirtual 148, 3) := by decide +kernel
theorem dX6_goesBehind_42 : decode cX6_goesBehind 42 = .ok (.pop, 1) := by decide +kernel
theorem dX6_goesBehind_43 : decode cX6_goesBehind 43 = .ok (.iinc 3 1, 3) := by decide +kernel
theorem dX6_goesBehind_46 : decode cX6_goesBehind 46 = .ok (.goto (-41), 3) := by decide +kernel
theorem dX6_goesBehind_49 : decode cX6_goesBehind 49 = .ok (.aload_n 0, 1) := by decide +kernel
theorem dX6_goesBehind_50 : decode cX6_goesBehind 50 = .ok (.invokevirtual 151, 3) := by decide +kernel
theorem dX6_goesBehind_53 : decode cX6_goesBehind 53 = .ok (.iload_n 2, 1) := by decide +kernel
theorem dX6_goesBehind_54 : decode cX6_goesBehind 54 = .ok (.ireturn, 1) := by decide +kernel
theorem dX6_behind_0 : decode cX6_behind 0 = .ok (.aload_n 0, 1) := by decide +kernel
theorem dX6_behind_1 : decode cX6_behind 1 = .ok (.iload_n 1, 1) := by decide +kernel
theorem dX6_behind_2 : decode cX6_behind 2 = .ok (.invokevirtual 119, 3) := by decide +kernel
theorem dX6_behind_5 : decode cX6_behind 5 = .ok (.ifCond .eq 13, 3) := by decide +kernel
theorem dX6_behind_8 : decode cX6_behind 8 = .ok (.iload_n 2, 1) := by decide +kernel
theorem dX6_behind_9 : decode cX6_behind 9 = .ok (.iconst 0, 1) := by decide +kernel
theorem dX6_behind_10 : decode cX6_behind 10 = .ok (.bipush 9, 2) := by decide +kernel
theorem dX6_behind_12 : decode cX6_behind 12 = .ok (.invokestatic 56, 3) := by decide +kernel
theorem dX6_behind_15 : decode cX6_behind 15 = .ok (.ifCond .ne 5, 3) := by decide +kernel
theorem dX6_behind_18 : decode cX6_behind 18 = .ok (.iconst (-1), 1) := by decide +kernel
theorem dX6_behind_19 : decode cX6_behind 19 = .ok (.ireturn, 1) := by decide +kernel
theorem dX6_behind_20 : decode cX6_behind 20 = .ok (.aload_n 0, 1) := by decide +kernel
theorem dX6_behind_21 : decode cX6_behind 21 = .ok (.invokevirtual 154, 3) := by decide +kernel
theorem dX6_behind_24 : decode cX6_behind 24 = .ok (.aload_n 0, 1) := by decide +kernel
theorem dX6_behind_25 : decode cX6_behind 25 = .ok (.iload_n 1, 1) := by decide +kernel
theorem dX6_behind_26 : decode cX6_behind 26 = .ok (.iload_n 2, 1) := by decide +kernel
theorem dX6_behind_27 : decode cX6_behind 27 = .ok (.invokevirtual 157, 3) := by decide +kernel
theorem dX6_behind_30 : decode cX6_behind 30 = .ok (.ireturn, 1) := by decide +kernel
theorem dX6_goes_0 : decode cX6_goes 0 = .ok (.aload_n 0, 1) := by decide +kernel
theorem dX6_goes_1 : decode cX6_goes 1 = .ok (.iload_n 1, 1) := by decide +kernel
theorem dX6_goes_2 : decode cX6_goes 2 = .ok (.invokevirtual 119, 3) := by decide +kernel
theorem dX6_goes_5 : decode cX6_goes 5 = .ok (.ifCond .ne 5, 3) := by decide +kernel
theorem dX6_goes_8 : decode cX6_goes 8 = .ok (.iconst (-1), 1) := by decide +kernel
theorem dX6_goes_9 : decode cX6_goes 9 = .ok (.ireturn, 1) := by decide +kernel
theorem dX6_goes_10 : decode cX6_goes 10 = .ok (.aload_n 0, 1) := by decide +kernel
theorem dX6_goes_11 : decode cX6_goes 11 = .ok (.invokevirtual 154, 3) := by decide +kernel
theorem dX6_goes_14 : decode cX6_goes 14 = .ok (.aload_n 0, 1) := by decide +kernel
theorem dX6_goes_15 : decode cX6_goes 15 = .ok (.iload_n 1, 1) := by decide +kernel
theorem dX6_goes_16 : decode cX6_goes 16 = .ok (.invokevirtual 160, 3) := by decide +kernel
theorem dX6_goes_19 : decode cX6_goes 19 = .ok (.ireturn, 1) := by decide +kernel
theorem dX6_never_0 : decode cX6_never 0 = .ok (.iconst 0, 1) := by decide +kernel
theorem dX6_never_1 : decode cX6_never 1 = .ok (.istore_n 1, 1) := by decide +kernel
theorem dX6_never_2 : decode cX6_never 2 = .ok (.iconst 0, 1) := by decide +kernel
theorem dX6_never_3 : decode cX6_never 3 = .ok (.istore_n 2, 1) := by decide +kernel
theorem dX6_never_4 : decode cX6_never 4 = .ok (.iload_n 2, 1) := by decide +kernel
theorem dX6_never_5 : decode cX6_never 5 = .ok (.aload_n 0, 1) := by decide +kernel
theorem dX6_never_6 : decode cX6_never 6 = .ok (.getfield 13, 3) := by decide +kernel
theorem dX6_never_9 : decode cX6_never 9 = .ok (.iconst 1, 1) := by decide +kernel
theorem dX6_never_10 : decode cX6_never 10 = .ok (.iaload, 1) := by decide +kernel
theorem dX6_never_11 : decode cX6_never 11 = .ok (.if_icmp .ge 31, 3) := by decide +kernel
theorem dX6_never_14 : decode cX6_never 14 = .ok (.iload_n 1, 1) := by decide +kernel
theorem dX6_never_15 : decode cX6_never 15 = .ok (.aload_n 0, 1) := by decide +kernel
theorem dX6_never_16 : decode cX6_never 16 = .ok (.iload_n 2, 1) := by decide +kernel
theorem dX6_never_17 : decode cX6_never 17 = .ok (.bipush 9, 2) := by decide +kernel
theorem dX6_never_19 : decode cX6_never 19 = .ok (.invokevirtual 163, 3) := by decide +kernel
theorem dX6_never_22 : decode cX6_never 22 = .ok (.bipush (-4), 2) := by decide +kernel
theorem dX6_never_24 : decode cX6_never 24 = .ok (.if_icmp .ne 9, 3) := by decide +kernel
theorem dX6_never_27 : decode cX6_never 27 = .ok (.iconst 1, 1) := by decide +kernel
theorem dX6_never_28 : decode cX6_never 28 = .ok (.iload_n 2, 1) := by decide +kernel
theorem dX6_never_29 : decode cX6_never 29 = .ok (.ishl, 1) := by decide +kernel
theorem dX6_never_30 : decode cX6_never 30 = .ok (.goto 4, 3) := by decide +kernel
theorem dX6_never_33 : decode cX6_never 33 = .ok (.iconst 0, 1) := by decide +kernel
theorem dX6_never_34 : decode cX6_never 34 = .ok (.ior, 1) := by decide +kernel
theorem dX6_never_35 : decode cX6_never 35 = .ok (.istore_n 1, 1) := by decide +kernel
theorem dX6_never_36 : decode cX6_never 36 = .ok (.iinc 2 1, 3) := by decide +kernel
theorem dX6_never_39 : decode cX6_never 39 = .ok (.goto (-35), 3) := by decide +kernel
theorem dX6_never_42 : decode cX6_never 42 = .ok (.iload_n 1, 1) := by decide +kernel
theorem dX6_never_43 : decode cX6_never 43 = .ok (.ireturn, 1) := by decide +kernel
theorem dX6_stop_0 : decode cX6_stop 0 = .ok (.aload_n 0, 1) := by decide +kernel
theorem dX6_stop_1 : decode cX6_stop 1 = .ok (.iload_n 1, 1) := by decide +kernel
theorem dX6_stop_2 : decode cX6_stop 2 = .ok (.invokevirtual 113, 3) := by decide +kernel
theorem dX6_stop_5 : decode cX6_stop 5 = .ok (.ifCond .eq 20, 3) := by decide +kernel
theorem dX6_stop_8 : decode cX6_stop 8 = .ok (.aload_n 0, 1) := by decide +kernel
theorem dX6_stop_9 : decode cX6_stop 9 = .ok (.iload_n 2, 1) := by decide +kernel
theorem dX6_stop_10 : decode cX6_stop 10 = .ok (.invokevirtual 119, 3) := by decide +kernel
theorem dX6_stop_13 : decode cX6_stop 13 = .ok (.ifCond .eq 12, 3) := by decide +kernel
theorem dX6_stop_16 : decode cX6_stop 16 = .ok (.iload_n 3, 1) := by decide +kernel
theorem dX6_stop_17 : decode cX6_stop 17 = .ok (.iconst 0, 1) := by decide +kernel
theorem dX6_stop_18 : decode cX6_stop 18 = .ok (.iconst 1, 1) := by decide +kernel
theorem dX6_stop_19 : decode cX6_stop 19 = .ok (.invokestatic 56, 3) := by decide +kernel
theorem dX6_stop_22 : decode cX6_stop 22 = .ok (.ifCond .ne 5, 3) := by decide +kernel
theorem dX6_stop_25 : decode cX6_stop 25 = .ok (.iconst (-1), 1) := by decide +kernel
theorem dX6_stop_26 : decode cX6_stop 26 = .ok (.ireturn, 1) := by decide +kernel
theorem dX6_stop_27 : decode cX6_stop 27 = .ok (.aload_n 0, 1) := by decide +kernel
theorem dX6_stop_28 : decode cX6_stop 28 = .ok (.invokevirtual 154, 3) := by decide +kernel
theorem dX6_stop_31 : decode cX6_stop 31 = .ok (.aload_n 0, 1) := by decide +kernel
theorem dX6_stop_32 : decode cX6_stop 32 = .ok (.iload_n 2, 1) := by decide +kernel
theorem dX6_stop_33 : decode cX6_stop 33 = .ok (.bipush 9, 2) := by decide +kernel
theorem dX6_stop_35 : decode cX6_stop 35 = .ok (.invokevirtual 157, 3) := by decide +kernel
theorem dX6_stop_38 : decode cX6_stop 38 = .ok (.iload_n 1, 1) := by decide +kernel
theorem dX6_stop_39 : decode cX6_stop 39 = .ok (.if_icmp .ne 17, 3) := by decide +kernel
theorem dX6_stop_42 : decode cX6_stop 42 = .ok (.iload_n 3, 1) := by decide +kernel
theorem dX6_stop_43 : decode cX6_stop 43 = .ok (.ifCond .ne 7, 3) := by decide +kernel
theorem dX6_stop_46 : decode cX6_stop 46 = .ok (.iconst 0, 1) := by decide +kernel
theorem dX6_stop_47 : decode cX6_stop 47 = .ok (.goto 8, 3) := by decide +kernel
theorem dX6_stop_50 : decode cX6_stop 50 = .ok (.aload_n 0, 1) := by decide +kernel
theorem dX6_stop_51 : decode cX6_stop 51 = .ok (.iload_n 2, 1) := by decide +kernel
theorem dX6_stop_52 : decode cX6_stop 52 = .ok (.invokevirtual 160, 3) := by decide +kernel
theorem dX6_stop_55 : decode cX6_stop 55 = .ok (.ireturn, 1) := by decide +kernel
theorem dX6_stop_56 : decode cX6_stop 56 = .ok (.iconst 1, 1) := by decide +kernel
theorem dX6_stop_57 : decode cX6_stop 57 = .ok (.istore 4, 2) := by decide +kernel
theorem dX6_stop_59 : decode cX6_stop 59 = .ok (.iload 4, 2) := by decide +kernel
theorem dX6_stop_61 : decode cX6_stop 61 = .ok (.bipush 31, 2) := by decide +kernel
theorem dX6_stop_63 : decode cX6_stop 63 = .ok (.if_icmp .ge 67, 3) := by decide +kernel
theorem dX6_stop_66 : decode cX6_stop 66 = .ok (.aload_n 0, 1) := by decide +kernel
theorem dX6_stop_67 : decode cX6_stop 67 = .ok (.iload_n 1, 1) := by decide +kernel
theorem dX6_stop_68 : decode cX6_stop 68 = .ok (.iload_n 2, 1) := by decide +kernel
theorem dX6_stop_69 : decode cX6_stop 69 = .ok (.iload 4, 2) := by decide +kernel
theorem dX6_stop_71 : decode cX6_stop 71 = .ok (.invokevirtual 135, 3) := by decide +kernel
theorem dX6_stop_74 : decode cX6_stop 74 = .ok (.aload_n 0, 1) := by decide +kernel
theorem dX6_stop_75 : decode cX6_stop 75 = .ok (.iload_n 2, 1) := by decide +kernel
theorem dX6_stop_76 : decode cX6_stop 76 = .ok (.bipush 9, 2) := by decide +kernel
theorem dX6_stop_78 : decode cX6_stop 78 = .ok (.invokevirtual 157, 3) := by decide +kernel
theorem dX6_stop_81 : decode cX6_stop 81 = .ok (.iload_n 1, 1) := by decide +kernel
theorem dX6_stop_82 : decode cX6_stop 82 = .ok (.if_icmp .ne 7, 3) := by decide +kernel
theorem dX6_stop_85 : decode cX6_stop 85 = .ok (.iconst 1, 1) := by decide +kernel
theorem dX6_stop_86 : decode cX6_stop 86 = .ok (.goto 4, 3) := by decide +kernel
theorem dX6_stop_89 : decode cX6_stop 89 = .ok (.iconst 0, 1) := by decide +kernel
theorem dX6_stop_90 : decode cX6_stop 90 = .ok (.istore 5, 2) := by decide +kernel
theorem dX6_stop_92 : decode cX6_stop 92 = .ok (.aload_n 0, 1) := by decide +kernel
theorem dX6_stop_93 : decode cX6_stop 93 = .ok (.iload_n 1, 1) := by decide +kernel
theorem dX6_stop_94 : decode cX6_stop 94 = .ok (.iload_n 2, 1) := by decide +kernel
theorem dX6_stop_95 : decode cX6_stop 95 = .ok (.iload 4, 2) := by decide +kernel
theorem dX6_stop_97 : decode cX6_stop 97 = .ok (.invokevirtual 135, 3) := by decide +kernel
theorem dX6_stop_100 : decode cX6_stop 100 = .ok (.aload_n 0, 1) := by decide +kernel
theorem dX6_stop_101 : decode cX6_stop 101 = .ok (.iload_n 2, 1) := by decide +kernel
theorem dX6_stop_102 : decode cX6_stop 102 = .ok (.invokevirtual 160, 3) := by decide +kernel
theorem dX6_stop_105 : decode cX6_stop 105 = .ok (.istore 6, 2) := by decide +kernel
theorem dX6_stop_107 : decode cX6_stop 107 = .ok (.iload 5, 2) := by decide +kernel
theorem dX6_stop_109 : decode cX6_stop 109 = .ok (.ifCond .eq 15, 3) := by decide +kernel
theorem dX6_stop_112 : decode cX6_stop 112 = .ok (.iload_n 3, 1) := by decide +kernel
theorem dX6_stop_113 : decode cX6_stop 113 = .ok (.ifCond .ne 8, 3) := by decide +kernel
theorem dX6_stop_116 : decode cX6_stop 116 = .ok (.iload 4, 2) := by decide +kernel
theorem dX6_stop_118 : decode cX6_stop 118 = .ok (.goto 5, 3) := by decide +kernel
theorem dX6_stop_121 : decode cX6_stop 121 = .ok (.iload 6, 2) := by decide +kernel
theorem dX6_stop_123 : decode cX6_stop 123 = .ok (.ireturn, 1) := by decide +kernel
theorem dX6_stop_124 : decode cX6_stop 124 = .ok (.iinc 4 1, 3) := by decide +kernel
theorem dX6_stop_127 : decode cX6_stop 127 = .ok (.goto (-68), 3) := by decide +kernel
theorem dX6_stop_130 : decode cX6_stop 130 = .ok (.bipush (-4), 2) := by decide +kernel
theorem dX6_stop_132 : decode cX6_stop 132 = .ok (.ireturn, 1) := by decide +kernel
theorem dX6_rank_0 : decode cX6_rank 0 = .ok (.aload_n 0, 1) := by decide +kernel
theorem dX6_rank_1 : decode cX6_rank 1 = .ok (.iload_n 1, 1) := by decide +kernel
theorem dX6_rank_2 : decode cX6_rank 2 = .ok (.invokevirtual 113, 3) := by decide +kernel
theorem dX6_rank_5 : decode cX6_rank 5 = .ok (.ifCond .eq 7, 3) := by decide +kernel
theorem dX6_rank_8 : decode cX6_rank 8 = .ok (.iload_n 2, 1) := by decide +kernel
theorem dX6_rank_9 : decode cX6_rank 9 = .ok (.ifCond .ge 5, 3) := by decide +kernel
theorem dX6_rank_12 : decode cX6_rank 12 = .ok (.iconst (-1), 1) := by decide +kernel
theorem dX6_rank_13 : decode cX6_rank 13 = .ok (.ireturn, 1) := by decide +kernel
theorem dX6_rank_14 : decode cX6_rank 14 = .ok (.bipush (-4), 2) := by decide +kernel
theorem dX6_rank_16 : decode cX6_rank 16 = .ok (.istore_n 3, 1) := by decide +kernel
theorem dX6_rank_17 : decode cX6_rank 17 = .ok (.iconst 0, 1) := by decide +kernel
theorem dX6_rank_18 : decode cX6_rank 18 = .ok (.istore 4, 2) := by decide +kernel
theorem dX6_rank_20 : decode cX6_rank 20 = .ok (.iload 4, 2) := by decide +kernel
theorem dX6_rank_22 : decode cX6_rank 22 = .ok (.aload_n 0, 1) := by decide +kernel
theorem dX6_rank_23 : decode cX6_rank 23 = .ok (.getfield 13, 3) := by decide +kernel
theorem dX6_rank_26 : decode cX6_rank 26 = .ok (.iconst 1, 1) := by decide +kernel
theorem dX6_rank_27 : decode cX6_rank 27 = .ok (.iaload, 1) := by decide +kernel
theorem dX6_rank_28 : decode cX6_rank 28 = .ok (.if_icmp .ge 128, 3) := by decide +kernel
theorem dX6_rank_31 : decode cX6_rank 31 = .ok (.iconst 0, 1) := by decide +kernel
theorem dX6_rank_32 : decode cX6_rank 32 = .ok (.istore 5, 2) := by decide +kernel
theorem dX6_rank_34 : decode cX6_rank 34 = .ok (.iconst 0, 1) := by decide +kernel
theorem dX6_rank_35 : decode cX6_rank 35 = .ok (.istore 6, 2) := by decide +kernel
theorem dX6_rank_37 : decode cX6_rank 37 = .ok (.iload 6, 2) := by decide +kernel
theorem dX6_rank_39 : decode cX6_rank 39 = .ok (.aload_n 0, 1) := by decide +kernel
theorem dX6_rank_40 : decode cX6_rank 40 = .ok (.getfield 13, 3) := by decide +kernel
theorem dX6_rank_43 : decode cX6_rank 43 = .ok (.iconst 1, 1) := by decide +kernel
theorem dX6_rank_44 : decode cX6_rank 44 = .ok (.iaload, 1) := by decide +kernel
theorem dX6_rank_45 : decode cX6_rank 45 = .ok (.if_icmp .ge 82, 3) := by decide +kernel
theorem dX6_rank_48 : decode cX6_rank 48 = .ok (.aload_n 0, 1) := by decide +kernel
theorem dX6_rank_49 : decode cX6_rank 49 = .ok (.iload_n 1, 1) := by decide +kernel
theorem dX6_rank_50 : decode cX6_rank 50 = .ok (.iload 6, 2) := by decide +kernel
theorem dX6_rank_52 : decode cX6_rank 52 = .ok (.invokevirtual 125, 3) := by decide +kernel
theorem dX6_rank_55 : decode cX6_rank 55 = .ok (.ifCond .eq 48, 3) := by decide +kernel
theorem dX6_rank_58 : decode cX6_rank 58 = .ok (.aload_n 0, 1) := by decide +kernel
theorem dX6_rank_59 : decode cX6_rank 59 = .ok (.iload_n 1, 1) := by decide +kernel
theorem dX6_rank_60 : decode cX6_rank 60 = .ok (.iload 6, 2) := by decide +kernel
theorem dX6_rank_62 : decode cX6_rank 62 = .ok (.invokevirtual 129, 3) := by decide +kernel
theorem dX6_rank_65 : decode cX6_rank 65 = .ok (.aload_n 0, 1) := by decide +kernel
theorem dX6_rank_66 : decode cX6_rank 66 = .ok (.iload_n 1, 1) := by decide +kernel
theorem dX6_rank_67 : decode cX6_rank 67 = .ok (.iload 4, 2) := by decide +kernel
theorem dX6_rank_69 : decode cX6_rank 69 = .ok (.invokevirtual 129, 3) := by decide +kernel
theorem dX6_rank_72 : decode cX6_rank 72 = .ok (.if_icmp .gt 27, 3) := by decide +kernel
theorem dX6_rank_75 : decode cX6_rank 75 = .ok (.aload_n 0, 1) := by decide +kernel
theorem dX6_rank_76 : decode cX6_rank 76 = .ok (.iload_n 1, 1) := by decide +kernel
theorem dX6_rank_77 : decode cX6_rank 77 = .ok (.iload 6, 2) := by decide +kernel
theorem dX6_rank_79 : decode cX6_rank 79 = .ok (.invokevirtual 129, 3) := by decide +kernel
theorem dX6_rank_82 : decode cX6_rank 82 = .ok (.aload_n 0, 1) := by decide +kernel
theorem dX6_rank_83 : decode cX6_rank 83 = .ok (.iload_n 1, 1) := by decide +kernel
theorem dX6_rank_84 : decode cX6_rank 84 = .ok (.iload 4, 2) := by decide +kernel
theorem dX6_rank_86 : decode cX6_rank 86 = .ok (.invokevirtual 129, 3) := by decide +kernel
theorem dX6_rank_89 : decode cX6_rank 89 = .ok (.if_icmp .ne 14, 3) := by decide +kernel
theorem dX6_rank_92 : decode cX6_rank 92 = .ok (.iload 6, 2) := by decide +kernel
theorem dX6_rank_94 : decode cX6_rank 94 = .ok (.iload 4, 2) := by decide +kernel
theorem dX6_rank_96 : decode cX6_rank 96 = .ok (.if_icmp .ge 7, 3) := by decide +kernel
theorem dX6_rank_99 : decode cX6_rank 99 = .ok (.iconst 1, 1) := by decide +kernel
theorem dX6_rank_100 : decode cX6_rank 100 = .ok (.goto 4, 3) := by decide +kernel
theorem dX6_rank_103 : decode cX6_rank 103 = .ok (.iconst 0, 1) := by decide +kernel
theorem dX6_rank_104 : decode cX6_rank 104 = .ok (.istore 7, 2) := by decide +kernel
theorem dX6_rank_106 : decode cX6_rank 106 = .ok (.iload 5, 2) := by decide +kernel
theorem dX6_rank_108 : decode cX6_rank 108 = .ok (.iload 7, 2) := by decide +kernel
theorem dX6_rank_110 : decode cX6_rank 110 = .ok (.ifCond .eq 7, 3) := by decide +kernel
theorem dX6_rank_113 : decode cX6_rank 113 = .ok (.iconst 1, 1) := by decide +kernel
theorem dX6_rank_114 : decode cX6_rank 114 = .ok (.goto 4, 3) := by decide +kernel
theorem dX6_rank_117 : decode cX6_rank 117 = .ok (.iconst 0, 1) := by decide +kernel
theorem dX6_rank_118 : decode cX6_rank 118 = .ok (.iadd, 1) := by decide +kernel
theorem dX6_rank_119 : decode cX6_rank 119 = .ok (.istore 5, 2) := by decide +kernel
theorem dX6_rank_121 : decode cX6_rank 121 = .ok (.iinc 6 1, 3) := by decide +kernel
theorem dX6_rank_124 : decode cX6_rank 124 = .ok (.goto (-87), 3) := by decide +kernel
theorem dX6_rank_127 : decode cX6_rank 127 = .ok (.aload_n 0, 1) := by decide +kernel
theorem dX6_rank_128 : decode cX6_rank 128 = .ok (.iload_n 1, 1) := by decide +kernel
theorem dX6_rank_129 : decode cX6_rank 129 = .ok (.iload 4, 2) := by decide +kernel
theorem dX6_rank_131 : decode cX6_rank 131 = .ok (.invokevirtual 125, 3) := by decide +kernel
theorem dX6_rank_134 : decode cX6_rank 134 = .ok (.ifCond .eq 14, 3) := by decide +kernel
theorem dX6_rank_137 : decode cX6_rank 137 = .ok (.iload 5, 2) := by decide +kernel
theorem dX6_rank_139 : decode cX6_rank 139 = .ok (.iload_n 2, 1) := by decide +kernel
theorem dX6_rank_140 : decode cX6_rank 140 = .ok (.if_icmp .ne 8, 3) := by decide +kernel
theorem dX6_rank_143 : decode cX6_rank 143 = .ok (.iload 4, 2) := by decide +kernel
theorem dX6_rank_145 : decode cX6_rank 145 = .ok (.goto 4, 3) := by decide +kernel
theorem dX6_rank_148 : decode cX6_rank 148 = .ok (.iload_n 3, 1) := by decide +kernel
theorem dX6_rank_149 : decode cX6_rank 149 = .ok (.istore_n 3, 1) := by decide +kernel
theorem dX6_rank_150 : decode cX6_rank 150 = .ok (.iinc 4 1, 3) := by decide +kernel
theorem dX6_rank_153 : decode cX6_rank 153 = .ok (.goto (-133), 3) := by decide +kernel
theorem dX6_rank_156 : decode cX6_rank 156 = .ok (.iload_n 3, 1) := by decide +kernel
theorem dX6_rank_157 : decode cX6_rank 157 = .ok (.ireturn, 1) := by decide +kernel
theorem dX6_wants_0 : decode cX6_wants 0 = .ok (.iconst 0, 1) := by decide +kernel
theorem dX6_wants_1 : decode cX6_wants 1 = .ok (.istore_n 2, 1) := by decide +kernel
theorem dX6_wants_2 : decode cX6_wants 2 = .ok (.iconst 0, 1) := by decide +kernel
theorem dX6_wants_3 : decode cX6_wants 3 = .ok (.istore_n 3, 1) := by decide +kernel
theorem dX6_wants_4 : decode cX6_wants 4 = .ok (.iload_n 3, 1) := by decide +kernel
theorem dX6_wants_5 : decode cX6_wants 5 = .ok (.aload_n 0, 1) := by decide +kernel
theorem dX6_wants_6 : decode cX6_wants 6 = .ok (.getfield 13, 3) := by decide +kernel
theorem dX6_wants_9 : decode cX6_wants 9 = .ok (.iconst 0, 1) := by decide +kernel
theorem dX6_wants_10 : decode cX6_wants 10 = .ok (.iaload, 1) := by decide +kernel
theorem dX6_wants_11 : decode cX6_wants 11 = .ok (.if_icmp .ge 26, 3) := by decide +kernel
theorem dX6_wants_14 : decode cX6_wants 14 = .ok (.iload_n 2, 1) := by decide +kernel
theorem dX6_wants_15 : decode cX6_wants 15 = .ok (.aload_n 0, 1) := by decide +kernel
theorem dX6_wants_16 : decode cX6_wants 16 = .ok (.iload_n 3, 1) := by decide +kernel
theorem dX6_wants_17 : decode cX6_wants 17 = .ok (.iload_n 1, 1) := by decide +kernel
theorem dX6_wants_18 : decode cX6_wants 18 = .ok (.invokevirtual 125, 3) := by decide +kernel
theorem dX6_wants_21 : decode cX6_wants 21 = .ok (.ifCond .eq 7, 3) := by decide +kernel
theorem dX6_wants_24 : decode cX6_wants 24 = .ok (.iconst 1, 1) := by decide +kernel
theorem dX6_wants_25 : decode cX6_wants 25 = .ok (.goto 4, 3) := by decide +kernel
theorem dX6_wants_28 : decode cX6_wants 28 = .ok (.iconst 0, 1) := by decide +kernel
theorem dX6_wants_29 : decode cX6_wants 29 = .ok (.iadd, 1) := by decide +kernel
theorem dX6_wants_30 : decode cX6_wants 30 = .ok (.istore_n 2, 1) := by decide +kernel
theorem dX6_wants_31 : decode cX6_wants 31 = .ok (.iinc 3 1, 3) := by decide +kernel
theorem dX6_wants_34 : decode cX6_wants 34 = .ok (.goto (-30), 3) := by decide +kernel
theorem dX6_wants_37 : decode cX6_wants 37 = .ok (.iload_n 2, 1) := by decide +kernel
theorem dX6_wants_38 : decode cX6_wants 38 = .ok (.ireturn, 1) := by decide +kernel
theorem dX6_wanted_0 : decode cX6_wanted 0 = .ok (.iload_n 1, 1) := by decide +kernel
theorem dX6_wanted_1 : decode cX6_wanted 1 = .ok (.iconst 0, 1) := by decide +kernel
theorem dX6_wanted_2 : decode cX6_wanted 2 = .ok (.iconst 1, 1) := by decide +kernel
theorem dX6_wanted_3 : decode cX6_wanted 3 = .ok (.invokestatic 56, 3) := by decide +kernel
theorem dX6_wanted_6 : decode cX6_wanted 6 = .ok (.ifCond .ne 5, 3) := by decide +kernel
theorem dX6_wanted_9 : decode cX6_wanted 9 = .ok (.iconst (-1), 1) := by decide +kernel
theorem dX6_wanted_10 : decode cX6_wanted 10 = .ok (.ireturn, 1) := by decide +kernel
theorem dX6_wanted_11 : decode cX6_wanted 11 = .ok (.iconst 0, 1) := by decide +kernel
theorem dX6_wanted_12 : decode cX6_wanted 12 = .ok (.istore_n 2, 1) := by decide +kernel
theorem dX6_wanted_13 : decode cX6_wanted 13 = .ok (.iconst 1, 1) := by decide +kernel
theorem dX6_wanted_14 : decode cX6_wanted 14 = .ok (.istore_n 3, 1) := by decide +kernel
theorem dX6_wanted_15 : decode cX6_wanted 15 = .ok (.iload_n 3, 1) := by decide +kernel
theorem dX6_wanted_16 : decode cX6_wanted 16 = .ok (.aload_n 0, 1) := by decide +kernel
theorem dX6_wanted_17 : decode cX6_wanted 17 = .ok (.getfield 13, 3) := by decide +kernel
theorem dX6_wanted_20 : decode cX6_wanted 20 = .ok (.iconst 1, 1) := by decide +kernel
theorem dX6_wanted_21 : decode cX6_wanted 21 = .ok (.iaload, 1) := by decide +kernel
theorem dX6_wanted_22 : decode cX6_wanted 22 = .ok (.if_icmp .ge 28, 3) := by decide +kernel
theorem dX6_wanted_25 : decode cX6_wanted 25 = .ok (.aload_n 0, 1) := by decide +kernel
theorem dX6_wanted_26 : decode cX6_wanted 26 = .ok (.iload_n 3, 1) := by decide +kernel
theorem dX6_wanted_27 : decode cX6_wanted 27 = .ok (.invokevirtual 166, 3) := by decide +kernel
theorem dX6_wanted_30 : decode cX6_wanted 30 = .ok (.aload_n 0, 1) := by decide +kernel
theorem dX6_wanted_31 : decode cX6_wanted 31 = .ok (.iload_n 2, 1) := by decide +kernel
theorem dX6_wanted_32 : decode cX6_wanted 32 = .ok (.invokevirtual 166, 3) := by decide +kernel
theorem dX6_wanted_35 : decode cX6_wanted 35 = .ok (.if_icmp .le 7, 3) := by decide +kernel
theorem dX6_wanted_38 : decode cX6_wanted 38 = .ok (.iload_n 3, 1) := by decide +kernel
theorem dX6_wanted_39 : decode cX6_wanted 39 = .ok (.goto 4, 3) := by decide +kernel
theorem dX6_wanted_42 : decode cX6_wanted 42 = .ok (.iload_n 2, 1) := by decide +kernel
theorem dX6_wanted_43 : decode cX6_wanted 43 = .ok (.istore_n 2, 1) := by decide +kernel
theorem dX6_wanted_44 : decode cX6_wanted 44 = .ok (.iinc 3 1, 3) := by decide +kernel
theorem dX6_wanted_47 : decode cX6_wanted 47 = .ok (.goto (-32), 3) := by decide +kernel
theorem dX6_wanted_50 : decode cX6_wanted 50 = .ok (.iload_n 1, 1) := by decide +kernel
theorem dX6_wanted_51 : decode cX6_wanted 51 = .ok (.ifCond .ne 7, 3) := by decide +kernel
theorem dX6_wanted_54 : decode cX6_wanted 54 = .ok (.iload_n 2, 1) := by decide +kernel
theorem dX6_wanted_55 : decode cX6_wanted 55 = .ok (.goto 8, 3) := by decide +kernel
theorem dX6_wanted_58 : decode cX6_wanted 58 = .ok (.aload_n 0, 1) := by decide +kernel
theorem dX6_wanted_59 : decode cX6_wanted 59 = .ok (.iload_n 2, 1) := by decide +kernel
theorem dX6_wanted_60 : decode cX6_wanted 60 = .ok (.invokevirtual 166, 3) := by decide +kernel
theorem dX6_wanted_63 : decode cX6_wanted 63 = .ok (.ireturn, 1) := by decide +kernel
theorem dX6_seen_0 : decode cX6_seen 0 = .ok (.aload_n 0, 1) := by decide +kernel
theorem dX6_seen_1 : decode cX6_seen 1 = .ok (.iload_n 1, 1) := by decide +kernel
theorem dX6_seen_2 : decode cX6_seen 2 = .ok (.invokevirtual 119, 3) := by decide +kernel
theorem dX6_seen_5 : decode cX6_seen 5 = .ok (.ifCond .eq 21, 3) := by decide +kernel
theorem dX6_seen_8 : decode cX6_seen 8 = .ok (.aload_n 0, 1) := by decide +kernel
theorem dX6_seen_9 : decode cX6_seen 9 = .ok (.iload_n 2, 1) := by decide +kernel
theorem dX6_seen_10 : decode cX6_seen 10 = .ok (.invokevirtual 113, 3) := by decide +kernel
theorem dX6_seen_13 : decode cX6_seen 13 = .ok (.ifCond .eq 13, 3) := by decide +kernel
theorem dX6_seen_16 : decode cX6_seen 16 = .ok (.iload_n 3, 1) := by decide +kernel
theorem dX6_seen_17 : decode cX6_seen 17 = .ok (.iconst 1, 1) := by decide +kernel
theorem dX6_seen_18 : decode cX6_seen 18 = .ok (.bipush 9, 2) := by decide +kernel
theorem dX6_seen_20 : decode cX6_seen 20 = .ok (.invokestatic 56, 3) := by decide +kernel
theorem dX6_seen_23 : decode cX6_seen 23 = .ok (.ifCond .ne 5, 3) := by decide +kernel
theorem dX6_seen_26 : decode cX6_seen 26 = .ok (.iconst (-1), 1) := by decide +kernel
theorem dX6_seen_27 : decode cX6_seen 27 = .ok (.ireturn, 1) := by decide +kernel
theorem dX6_seen_28 : decode cX6_seen 28 = .ok (.aload_n 0, 1) := by decide +kernel
theorem dX6_seen_29 : decode cX6_seen 29 = .ok (.getfield 94, 3) := by decide +kernel
theorem dX6_seen_32 : decode cX6_seen 32 = .ok (.bipush 6, 2) := by decide +kernel
theorem dX6_seen_34 : decode cX6_seen 34 = .ok (.if_icmp .ne 6, 3) := by decide +kernel
theorem dX6_seen_37 : decode cX6_seen 37 = .ok (.bipush (-3), 2) := by decide +kernel
theorem dX6_seen_39 : decode cX6_seen 39 = .ok (.ireturn, 1) := by decide +kernel
theorem dX6_seen_40 : decode cX6_seen 40 = .ok (.aload_n 0, 1) := by decide +kernel
theorem dX6_seen_41 : decode cX6_seen 41 = .ok (.getfield 28, 3) := by decide +kernel
theorem dX6_seen_44 : decode cX6_seen 44 = .ok (.aload_n 0, 1) := by decide +kernel
theorem dX6_seen_45 : decode cX6_seen 45 = .ok (.getfield 94, 3) := by decide +kernel
theorem dX6_seen_48 : decode cX6_seen 48 = .ok (.bipush 100, 2) := by decide +kernel
theorem dX6_seen_50 : decode cX6_seen 50 = .ok (.iload_n 3, 1) := by decide +kernel
theorem dX6_seen_51 : decode cX6_seen 51 = .ok (.imul, 1) := by decide +kernel
theorem dX6_seen_52 : decode cX6_seen 52 = .ok (.bipush 10, 2) := by decide +kernel
theorem dX6_seen_54 : decode cX6_seen 54 = .ok (.iload_n 1, 1) := by decide +kernel
theorem dX6_seen_55 : decode cX6_seen 55 = .ok (.imul, 1) := by decide +kernel
theorem dX6_seen_56 : decode cX6_seen 56 = .ok (.iadd, 1) := by decide +kernel
theorem dX6_seen_57 : decode cX6_seen 57 = .ok (.iload_n 2, 1) := by decide +kernel
theorem dX6_seen_58 : decode cX6_seen 58 = .ok (.iadd, 1) := by decide +kernel
theorem dX6_seen_59 : decode cX6_seen 59 = .ok (.iastore, 1) := by decide +kernel
theorem dX6_seen_60 : decode cX6_seen 60 = .ok (.aload_n 0, 1) := by decide +kernel
theorem dX6_seen_61 : decode cX6_seen 61 = .ok (.dup, 1) := by decide +kernel
theorem dX6_seen_62 : decode cX6_seen 62 = .ok (.getfield 94, 3) := by decide +kernel
theorem dX6_seen_65 : decode cX6_seen 65 = .ok (.iconst 1, 1) := by decide +kernel
theorem dX6_seen_66 : decode cX6_seen 66 = .ok (.iadd, 1) := by decide +kernel
theorem dX6_seen_67 : decode cX6_seen 67 = .ok (.putfield 94, 3) := by decide +kernel
theorem dX6_seen_70 : decode cX6_seen 70 = .ok (.aload_n 0, 1) := by decide +kernel
theorem dX6_seen_71 : decode cX6_seen 71 = .ok (.getfield 94, 3) := by decide +kernel
theorem dX6_seen_74 : decode cX6_seen 74 = .ok (.ireturn, 1) := by decide +kernel
theorem dX6_forget_0 : decode cX6_forget 0 = .ok (.aload_n 0, 1) := by decide +kernel
theorem dX6_forget_1 : decode cX6_forget 1 = .ok (.getfield 94, 3) := by decide +kernel
theorem dX6_forget_4 : decode cX6_forget 4 = .ok (.istore_n 1, 1) := by decide +kernel
theorem dX6_forget_5 : decode cX6_forget 5 = .ok (.aload_n 0, 1) := by decide +kernel
theorem dX6_forget_6 : decode cX6_forget 6 = .ok (.iconst 0, 1) := by decide +kernel
theorem dX6_forget_7 : decode cX6_forget 7 = .ok (.putfield 94, 3) := by decide +kernel
theorem dX6_forget_10 : decode cX6_forget 10 = .ok (.iload_n 1, 1) := by decide +kernel
end
section
theorem dX6_forget_11 : decode cX6_forget 11 = .ok (.ireturn, 1) := by decide +kernel
theorem dX6_isSo_0 : decode cX6_isSo 0 = .ok (.aload_n 0, 1) := by decide +kernel
theorem dX6_isSo_1 : decode cX6_isSo 1 = .ok (.invokevirtual 154, 3) := by decide +kernel
theorem dX6_isSo_4 : decode cX6_isSo 4 = .ok (.aload_n 0, 1) := by decide +kernel
theorem dX6_isSo_5 : decode cX6_isSo 5 = .ok (.iload_n 1, 1) := by decide +kernel
theorem dX6_isSo_6 : decode cX6_isSo 6 = .ok (.putfield 31, 3) := by decide +kernel
theorem dX6_isSo_9 : decode cX6_isSo 9 = .ok (.aload_n 0, 1) := by decide +kernel
theorem dX6_isSo_10 : decode cX6_isSo 10 = .ok (.invokevirtual 85, 3) := by decide +kernel
theorem dX6_isSo_13 : decode cX6_isSo 13 = .ok (.iconst 1, 1) := by decide +kernel
theorem dX6_isSo_14 : decode cX6_isSo 14 = .ok (.istore_n 2, 1) := by decide +kernel
theorem dX6_isSo_15 : decode cX6_isSo 15 = .ok (.iconst 1, 1) := by decide +kernel
theorem dX6_isSo_16 : decode cX6_isSo 16 = .ok (.istore_n 3, 1) := by decide +kernel
theorem dX6_isSo_17 : decode cX6_isSo 17 = .ok (.iload_n 3, 1) := by decide +kernel
theorem dX6_isSo_18 : decode cX6_isSo 18 = .ok (.bipush 9, 2) := by decide +kernel
theorem dX6_isSo_20 : decode cX6_isSo 20 = .ok (.if_icmp .gt 90, 3) := by decide +kernel
theorem dX6_isSo_23 : decode cX6_isSo 23 = .ok (.aload_n 0, 1) := by decide +kernel
theorem dX6_isSo_24 : decode cX6_isSo 24 = .ok (.invokevirtual 148, 3) := by decide +kernel
theorem dX6_isSo_27 : decode cX6_isSo 27 = .ok (.pop, 1) := by decide +kernel
theorem dX6_isSo_28 : decode cX6_isSo 28 = .ok (.iconst 0, 1) := by decide +kernel
theorem dX6_isSo_29 : decode cX6_isSo 29 = .ok (.istore 4, 2) := by decide +kernel
theorem dX6_isSo_31 : decode cX6_isSo 31 = .ok (.iload 4, 2) := by decide +kernel
theorem dX6_isSo_33 : decode cX6_isSo 33 = .ok (.aload_n 0, 1) := by decide +kernel
theorem dX6_isSo_34 : decode cX6_isSo 34 = .ok (.getfield 94, 3) := by decide +kernel
theorem dX6_isSo_37 : decode cX6_isSo 37 = .ok (.if_icmp .ge 67, 3) := by decide +kernel
theorem dX6_isSo_40 : decode cX6_isSo 40 = .ok (.iload_n 2, 1) := by decide +kernel
theorem dX6_isSo_41 : decode cX6_isSo 41 = .ok (.ifCond .eq 55, 3) := by decide +kernel
theorem dX6_isSo_44 : decode cX6_isSo 44 = .ok (.aload_n 0, 1) := by decide +kernel
theorem dX6_isSo_45 : decode cX6_isSo 45 = .ok (.getfield 28, 3) := by decide +kernel
theorem dX6_isSo_48 : decode cX6_isSo 48 = .ok (.iload 4, 2) := by decide +kernel
theorem dX6_isSo_50 : decode cX6_isSo 50 = .ok (.iaload, 1) := by decide +kernel
theorem dX6_isSo_51 : decode cX6_isSo 51 = .ok (.bipush 100, 2) := by decide +kernel
theorem dX6_isSo_53 : decode cX6_isSo 53 = .ok (.idiv, 1) := by decide +kernel
theorem dX6_isSo_54 : decode cX6_isSo 54 = .ok (.iload_n 3, 1) := by decide +kernel
theorem dX6_isSo_55 : decode cX6_isSo 55 = .ok (.if_icmp .ne 37, 3) := by decide +kernel
theorem dX6_isSo_58 : decode cX6_isSo 58 = .ok (.aload_n 0, 1) := by decide +kernel
theorem dX6_isSo_59 : decode cX6_isSo 59 = .ok (.getfield 19, 3) := by decide +kernel
theorem dX6_isSo_62 : decode cX6_isSo 62 = .ok (.bipush 6, 2) := by decide +kernel
theorem dX6_isSo_64 : decode cX6_isSo 64 = .ok (.aload_n 0, 1) := by decide +kernel
theorem dX6_isSo_65 : decode cX6_isSo 65 = .ok (.getfield 28, 3) := by decide +kernel
theorem dX6_isSo_68 : decode cX6_isSo 68 = .ok (.iload 4, 2) := by decide +kernel
theorem dX6_isSo_70 : decode cX6_isSo 70 = .ok (.iaload, 1) := by decide +kernel
theorem dX6_isSo_71 : decode cX6_isSo 71 = .ok (.bipush 10, 2) := by decide +kernel
theorem dX6_isSo_73 : decode cX6_isSo 73 = .ok (.idiv, 1) := by decide +kernel
theorem dX6_isSo_74 : decode cX6_isSo 74 = .ok (.bipush 10, 2) := by decide +kernel
theorem dX6_isSo_76 : decode cX6_isSo 76 = .ok (.irem, 1) := by decide +kernel
theorem dX6_isSo_77 : decode cX6_isSo 77 = .ok (.iadd, 1) := by decide +kernel
theorem dX6_isSo_78 : decode cX6_isSo 78 = .ok (.iaload, 1) := by decide +kernel
theorem dX6_isSo_79 : decode cX6_isSo 79 = .ok (.aload_n 0, 1) := by decide +kernel
theorem dX6_isSo_80 : decode cX6_isSo 80 = .ok (.getfield 28, 3) := by decide +kernel
theorem dX6_isSo_83 : decode cX6_isSo 83 = .ok (.iload 4, 2) := by decide +kernel
theorem dX6_isSo_85 : decode cX6_isSo 85 = .ok (.iaload, 1) := by decide +kernel
theorem dX6_isSo_86 : decode cX6_isSo 86 = .ok (.bipush 10, 2) := by decide +kernel
theorem dX6_isSo_88 : decode cX6_isSo 88 = .ok (.irem, 1) := by decide +kernel
theorem dX6_isSo_89 : decode cX6_isSo 89 = .ok (.if_icmp .ne 7, 3) := by decide +kernel
theorem dX6_isSo_92 : decode cX6_isSo 92 = .ok (.iconst 1, 1) := by decide +kernel
theorem dX6_isSo_93 : decode cX6_isSo 93 = .ok (.goto 4, 3) := by decide +kernel
theorem dX6_isSo_96 : decode cX6_isSo 96 = .ok (.iconst 0, 1) := by decide +kernel
theorem dX6_isSo_97 : decode cX6_isSo 97 = .ok (.istore_n 2, 1) := by decide +kernel
theorem dX6_isSo_98 : decode cX6_isSo 98 = .ok (.iinc 4 1, 3) := by decide +kernel
theorem dX6_isSo_101 : decode cX6_isSo 101 = .ok (.goto (-70), 3) := by decide +kernel
theorem dX6_isSo_104 : decode cX6_isSo 104 = .ok (.iinc 3 1, 3) := by decide +kernel
theorem dX6_isSo_107 : decode cX6_isSo 107 = .ok (.goto (-90), 3) := by decide +kernel
theorem dX6_isSo_110 : decode cX6_isSo 110 = .ok (.aload_n 0, 1) := by decide +kernel
theorem dX6_isSo_111 : decode cX6_isSo 111 = .ok (.bipush (-4), 2) := by decide +kernel
theorem dX6_isSo_113 : decode cX6_isSo 113 = .ok (.putfield 31, 3) := by decide +kernel
theorem dX6_isSo_116 : decode cX6_isSo 116 = .ok (.aload_n 0, 1) := by decide +kernel
theorem dX6_isSo_117 : decode cX6_isSo 117 = .ok (.invokevirtual 151, 3) := by decide +kernel
theorem dX6_isSo_120 : decode cX6_isSo 120 = .ok (.iload_n 2, 1) := by decide +kernel
theorem dX6_isSo_121 : decode cX6_isSo 121 = .ok (.ireturn, 1) := by decide +kernel
theorem dX6_feigned_0 : decode cX6_feigned 0 = .ok (.iload_n 1, 1) := by decide +kernel
theorem dX6_feigned_1 : decode cX6_feigned 1 = .ok (.iconst 0, 1) := by decide +kernel
theorem dX6_feigned_2 : decode cX6_feigned 2 = .ok (.iconst 1, 1) := by decide +kernel
theorem dX6_feigned_3 : decode cX6_feigned 3 = .ok (.invokestatic 56, 3) := by decide +kernel
theorem dX6_feigned_6 : decode cX6_feigned 6 = .ok (.ifCond .ne 5, 3) := by decide +kernel
theorem dX6_feigned_9 : decode cX6_feigned 9 = .ok (.iconst (-1), 1) := by decide +kernel
theorem dX6_feigned_10 : decode cX6_feigned 10 = .ok (.ireturn, 1) := by decide +kernel
theorem dX6_feigned_11 : decode cX6_feigned 11 = .ok (.iconst 0, 1) := by decide +kernel
theorem dX6_feigned_12 : decode cX6_feigned 12 = .ok (.istore_n 2, 1) := by decide +kernel
theorem dX6_feigned_13 : decode cX6_feigned 13 = .ok (.iconst 0, 1) := by decide +kernel
theorem dX6_feigned_14 : decode cX6_feigned 14 = .ok (.istore_n 3, 1) := by decide +kernel
theorem dX6_feigned_15 : decode cX6_feigned 15 = .ok (.iload_n 3, 1) := by decide +kernel
theorem dX6_feigned_16 : decode cX6_feigned 16 = .ok (.aload_n 0, 1) := by decide +kernel
theorem dX6_feigned_17 : decode cX6_feigned 17 = .ok (.getfield 13, 3) := by decide +kernel
theorem dX6_feigned_20 : decode cX6_feigned 20 = .ok (.iconst 0, 1) := by decide +kernel
theorem dX6_feigned_21 : decode cX6_feigned 21 = .ok (.iaload, 1) := by decide +kernel
theorem dX6_feigned_22 : decode cX6_feigned 22 = .ok (.if_icmp .ge 27, 3) := by decide +kernel
theorem dX6_feigned_25 : decode cX6_feigned 25 = .ok (.iload_n 2, 1) := by decide +kernel
theorem dX6_feigned_26 : decode cX6_feigned 26 = .ok (.aload_n 0, 1) := by decide +kernel
theorem dX6_feigned_27 : decode cX6_feigned 27 = .ok (.iload_n 3, 1) := by decide +kernel
theorem dX6_feigned_28 : decode cX6_feigned 28 = .ok (.invokevirtual 169, 3) := by decide +kernel
theorem dX6_feigned_31 : decode cX6_feigned 31 = .ok (.ifCond .eq 9, 3) := by decide +kernel
theorem dX6_feigned_34 : decode cX6_feigned 34 = .ok (.iconst 1, 1) := by decide +kernel
theorem dX6_feigned_35 : decode cX6_feigned 35 = .ok (.iload_n 3, 1) := by decide +kernel
theorem dX6_feigned_36 : decode cX6_feigned 36 = .ok (.ishl, 1) := by decide +kernel
theorem dX6_feigned_37 : decode cX6_feigned 37 = .ok (.goto 4, 3) := by decide +kernel
theorem dX6_feigned_40 : decode cX6_feigned 40 = .ok (.iconst 0, 1) := by decide +kernel
theorem dX6_feigned_41 : decode cX6_feigned 41 = .ok (.ior, 1) := by decide +kernel
theorem dX6_feigned_42 : decode cX6_feigned 42 = .ok (.istore_n 2, 1) := by decide +kernel
theorem dX6_feigned_43 : decode cX6_feigned 43 = .ok (.iinc 3 1, 3) := by decide +kernel
theorem dX6_feigned_46 : decode cX6_feigned 46 = .ok (.goto (-31), 3) := by decide +kernel
theorem dX6_feigned_49 : decode cX6_feigned 49 = .ok (.iload_n 1, 1) := by decide +kernel
theorem dX6_feigned_50 : decode cX6_feigned 50 = .ok (.ifCond .ne 7, 3) := by decide +kernel
theorem dX6_feigned_53 : decode cX6_feigned 53 = .ok (.iload_n 2, 1) := by decide +kernel
theorem dX6_feigned_54 : decode cX6_feigned 54 = .ok (.goto 17, 3) := by decide +kernel
theorem dX6_feigned_57 : decode cX6_feigned 57 = .ok (.aload_n 0, 1) := by decide +kernel
theorem dX6_feigned_58 : decode cX6_feigned 58 = .ok (.bipush (-4), 2) := by decide +kernel
theorem dX6_feigned_60 : decode cX6_feigned 60 = .ok (.invokevirtual 169, 3) := by decide +kernel
theorem dX6_feigned_63 : decode cX6_feigned 63 = .ok (.ifCond .eq 7, 3) := by decide +kernel
theorem dX6_feigned_66 : decode cX6_feigned 66 = .ok (.iconst 1, 1) := by decide +kernel
theorem dX6_feigned_67 : decode cX6_feigned 67 = .ok (.goto 4, 3) := by decide +kernel
theorem dX6_feigned_70 : decode cX6_feigned 70 = .ok (.iconst 0, 1) := by decide +kernel
theorem dX6_feigned_71 : decode cX6_feigned 71 = .ok (.ireturn, 1) := by decide +kernel
theorem dX6_counts_0 : decode cX6_counts 0 = .ok (.aload_n 0, 1) := by decide +kernel
theorem dX6_counts_1 : decode cX6_counts 1 = .ok (.iload_n 1, 1) := by decide +kernel
theorem dX6_counts_2 : decode cX6_counts 2 = .ok (.invokevirtual 113, 3) := by decide +kernel
theorem dX6_counts_5 : decode cX6_counts 5 = .ok (.ifCond .eq 21, 3) := by decide +kernel
theorem dX6_counts_8 : decode cX6_counts 8 = .ok (.iload_n 2, 1) := by decide +kernel
theorem dX6_counts_9 : decode cX6_counts 9 = .ok (.iconst 0, 1) := by decide +kernel
theorem dX6_counts_10 : decode cX6_counts 10 = .ok (.iconst 4, 1) := by decide +kernel
theorem dX6_counts_11 : decode cX6_counts 11 = .ok (.invokestatic 56, 3) := by decide +kernel
theorem dX6_counts_14 : decode cX6_counts 14 = .ok (.ifCond .eq 12, 3) := by decide +kernel
theorem dX6_counts_17 : decode cX6_counts 17 = .ok (.iload_n 3, 1) := by decide +kernel
theorem dX6_counts_18 : decode cX6_counts 18 = .ok (.iconst 0, 1) := by decide +kernel
theorem dX6_counts_19 : decode cX6_counts 19 = .ok (.iconst 1, 1) := by decide +kernel
theorem dX6_counts_20 : decode cX6_counts 20 = .ok (.invokestatic 56, 3) := by decide +kernel
theorem dX6_counts_23 : decode cX6_counts 23 = .ok (.ifCond .ne 5, 3) := by decide +kernel
theorem dX6_counts_26 : decode cX6_counts 26 = .ok (.iconst (-1), 1) := by decide +kernel
theorem dX6_counts_27 : decode cX6_counts 27 = .ok (.ireturn, 1) := by decide +kernel
theorem dX6_counts_28 : decode cX6_counts 28 = .ok (.iconst 0, 1) := by decide +kernel
theorem dX6_counts_29 : decode cX6_counts 29 = .ok (.istore 4, 2) := by decide +kernel
theorem dX6_counts_31 : decode cX6_counts 31 = .ok (.iconst 1, 1) := by decide +kernel
theorem dX6_counts_32 : decode cX6_counts 32 = .ok (.istore 5, 2) := by decide +kernel
theorem dX6_counts_34 : decode cX6_counts 34 = .ok (.iload 5, 2) := by decide +kernel
theorem dX6_counts_36 : decode cX6_counts 36 = .ok (.bipush 13, 2) := by decide +kernel
theorem dX6_counts_38 : decode cX6_counts 38 = .ok (.if_icmp .ge 38, 3) := by decide +kernel
theorem dX6_counts_41 : decode cX6_counts 41 = .ok (.iload 4, 2) := by decide +kernel
theorem dX6_counts_43 : decode cX6_counts 43 = .ok (.aload_n 0, 1) := by decide +kernel
theorem dX6_counts_44 : decode cX6_counts 44 = .ok (.aload_n 0, 1) := by decide +kernel
theorem dX6_counts_45 : decode cX6_counts 45 = .ok (.getfield 13, 3) := by decide +kernel
theorem dX6_counts_48 : decode cX6_counts 48 = .ok (.iconst 5, 1) := by decide +kernel
theorem dX6_counts_49 : decode cX6_counts 49 = .ok (.iload_n 1, 1) := by decide +kernel
theorem dX6_counts_50 : decode cX6_counts 50 = .ok (.iadd, 1) := by decide +kernel
theorem dX6_counts_51 : decode cX6_counts 51 = .ok (.iaload, 1) := by decide +kernel
theorem dX6_counts_52 : decode cX6_counts 52 = .ok (.iload 5, 2) := by decide +kernel
theorem dX6_counts_54 : decode cX6_counts 54 = .ok (.invokevirtual 104, 3) := by decide +kernel
theorem dX6_counts_57 : decode cX6_counts 57 = .ok (.bipush 9, 2) := by decide +kernel
theorem dX6_counts_59 : decode cX6_counts 59 = .ok (.if_icmp .ge 7, 3) := by decide +kernel
theorem dX6_counts_62 : decode cX6_counts 62 = .ok (.iconst 1, 1) := by decide +kernel
theorem dX6_counts_63 : decode cX6_counts 63 = .ok (.goto 4, 3) := by decide +kernel
theorem dX6_counts_66 : decode cX6_counts 66 = .ok (.iconst 0, 1) := by decide +kernel
theorem dX6_counts_67 : decode cX6_counts 67 = .ok (.iadd, 1) := by decide +kernel
theorem dX6_counts_68 : decode cX6_counts 68 = .ok (.istore 4, 2) := by decide +kernel
theorem dX6_counts_70 : decode cX6_counts 70 = .ok (.iinc 5 1, 3) := by decide +kernel
theorem dX6_counts_73 : decode cX6_counts 73 = .ok (.goto (-39), 3) := by decide +kernel
theorem dX6_counts_76 : decode cX6_counts 76 = .ok (.iconst 1, 1) := by decide +kernel
theorem dX6_counts_77 : decode cX6_counts 77 = .ok (.istore 5, 2) := by decide +kernel
theorem dX6_counts_79 : decode cX6_counts 79 = .ok (.iconst 1, 1) := by decide +kernel
theorem dX6_counts_80 : decode cX6_counts 80 = .ok (.istore 6, 2) := by decide +kernel
theorem dX6_counts_82 : decode cX6_counts 82 = .ok (.iconst 0, 1) := by decide +kernel
theorem dX6_counts_83 : decode cX6_counts 83 = .ok (.istore 7, 2) := by decide +kernel
theorem dX6_counts_85 : decode cX6_counts 85 = .ok (.iload 7, 2) := by decide +kernel
theorem dX6_counts_87 : decode cX6_counts 87 = .ok (.iload_n 2, 1) := by decide +kernel
theorem dX6_counts_88 : decode cX6_counts 88 = .ok (.if_icmp .ge 23, 3) := by decide +kernel
theorem dX6_counts_91 : decode cX6_counts 91 = .ok (.iload 5, 2) := by decide +kernel
theorem dX6_counts_93 : decode cX6_counts 93 = .ok (.iload 4, 2) := by decide +kernel
theorem dX6_counts_95 : decode cX6_counts 95 = .ok (.imul, 1) := by decide +kernel
theorem dX6_counts_96 : decode cX6_counts 96 = .ok (.istore 5, 2) := by decide +kernel
theorem dX6_counts_98 : decode cX6_counts 98 = .ok (.iload 6, 2) := by decide +kernel
theorem dX6_counts_100 : decode cX6_counts 100 = .ok (.bipush 12, 2) := by decide +kernel
theorem dX6_counts_102 : decode cX6_counts 102 = .ok (.imul, 1) := by decide +kernel
theorem dX6_counts_103 : decode cX6_counts 103 = .ok (.istore 6, 2) := by decide +kernel
theorem dX6_counts_105 : decode cX6_counts 105 = .ok (.iinc 7 1, 3) := by decide +kernel
theorem dX6_counts_108 : decode cX6_counts 108 = .ok (.goto (-23), 3) := by decide +kernel
theorem dX6_counts_111 : decode cX6_counts 111 = .ok (.iload 6, 2) := by decide +kernel
theorem dX6_counts_113 : decode cX6_counts 113 = .ok (.iload 5, 2) := by decide +kernel
theorem dX6_counts_115 : decode cX6_counts 115 = .ok (.isub, 1) := by decide +kernel
theorem dX6_counts_116 : decode cX6_counts 116 = .ok (.istore 7, 2) := by decide +kernel
theorem dX6_counts_118 : decode cX6_counts 118 = .ok (.iload 7, 2) := by decide +kernel
theorem dX6_counts_120 : decode cX6_counts 120 = .ok (.istore 8, 2) := by decide +kernel
theorem dX6_counts_122 : decode cX6_counts 122 = .ok (.iload 6, 2) := by decide +kernel
theorem dX6_counts_124 : decode cX6_counts 124 = .ok (.istore 9, 2) := by decide +kernel
theorem dX6_counts_126 : decode cX6_counts 126 = .ok (.iload 9, 2) := by decide +kernel
theorem dX6_counts_128 : decode cX6_counts 128 = .ok (.ifCond .le 21, 3) := by decide +kernel
theorem dX6_counts_131 : decode cX6_counts 131 = .ok (.iload 8, 2) := by decide +kernel
theorem dX6_counts_133 : decode cX6_counts 133 = .ok (.iload 9, 2) := by decide +kernel
theorem dX6_counts_135 : decode cX6_counts 135 = .ok (.irem, 1) := by decide +kernel
theorem dX6_counts_136 : decode cX6_counts 136 = .ok (.istore 10, 2) := by decide +kernel
theorem dX6_counts_138 : decode cX6_counts 138 = .ok (.iload 9, 2) := by decide +kernel
theorem dX6_counts_140 : decode cX6_counts 140 = .ok (.istore 8, 2) := by decide +kernel
theorem dX6_counts_142 : decode cX6_counts 142 = .ok (.iload 10, 2) := by decide +kernel
theorem dX6_counts_144 : decode cX6_counts 144 = .ok (.istore 9, 2) := by decide +kernel
theorem dX6_counts_146 : decode cX6_counts 146 = .ok (.goto (-20), 3) := by decide +kernel
theorem dX6_counts_149 : decode cX6_counts 149 = .ok (.iload_n 3, 1) := by decide +kernel
theorem dX6_counts_150 : decode cX6_counts 150 = .ok (.ifCond .ne 11, 3) := by decide +kernel
theorem dX6_counts_153 : decode cX6_counts 153 = .ok (.iload 7, 2) := by decide +kernel
theorem dX6_counts_155 : decode cX6_counts 155 = .ok (.iload 8, 2) := by decide +kernel
theorem dX6_counts_157 : decode cX6_counts 157 = .ok (.idiv, 1) := by decide +kernel
theorem dX6_counts_158 : decode cX6_counts 158 = .ok (.goto 8, 3) := by decide +kernel
theorem dX6_counts_161 : decode cX6_counts 161 = .ok (.iload 6, 2) := by decide +kernel
theorem dX6_counts_163 : decode cX6_counts 163 = .ok (.iload 8, 2) := by decide +kernel
theorem dX6_counts_165 : decode cX6_counts 165 = .ok (.idiv, 1) := by decide +kernel
theorem dX6_counts_166 : decode cX6_counts 166 = .ok (.ireturn, 1) := by decide +kernel
theorem dX6_cheapest_0 : decode cX6_cheapest 0 = .ok (.aload_n 0, 1) := by decide +kernel
theorem dX6_cheapest_1 : decode cX6_cheapest 1 = .ok (.iload_n 1, 1) := by decide +kernel
theorem dX6_cheapest_2 : decode cX6_cheapest 2 = .ok (.invokevirtual 119, 3) := by decide +kernel
theorem dX6_cheapest_5 : decode cX6_cheapest 5 = .ok (.ifCond .eq 12, 3) := by decide +kernel
theorem dX6_cheapest_8 : decode cX6_cheapest 8 = .ok (.iload_n 2, 1) := by decide +kernel
theorem dX6_cheapest_9 : decode cX6_cheapest 9 = .ok (.iconst 0, 1) := by decide +kernel
theorem dX6_cheapest_10 : decode cX6_cheapest 10 = .ok (.iconst 1, 1) := by decide +kernel
theorem dX6_cheapest_11 : decode cX6_cheapest 11 = .ok (.invokestatic 56, 3) := by decide +kernel
theorem dX6_cheapest_14 : decode cX6_cheapest 14 = .ok (.ifCond .ne 5, 3) := by decide +kernel
theorem dX6_cheapest_17 : decode cX6_cheapest 17 = .ok (.iconst (-1), 1) := by decide +kernel
theorem dX6_cheapest_18 : decode cX6_cheapest 18 = .ok (.ireturn, 1) := by decide +kernel
theorem dX6_cheapest_19 : decode cX6_cheapest 19 = .ok (.bipush (-4), 2) := by decide +kernel
theorem dX6_cheapest_21 : decode cX6_cheapest 21 = .ok (.istore_n 3, 1) := by decide +kernel
theorem dX6_cheapest_22 : decode cX6_cheapest 22 = .ok (.aload_n 0, 1) := by decide +kernel
theorem dX6_cheapest_23 : decode cX6_cheapest 23 = .ok (.getfield 13, 3) := by decide +kernel
theorem dX6_cheapest_26 : decode cX6_cheapest 26 = .ok (.iconst 0, 1) := by decide +kernel
theorem dX6_cheapest_27 : decode cX6_cheapest 27 = .ok (.iaload, 1) := by decide +kernel
theorem dX6_cheapest_28 : decode cX6_cheapest 28 = .ok (.iconst 1, 1) := by decide +kernel
theorem dX6_cheapest_29 : decode cX6_cheapest 29 = .ok (.isub, 1) := by decide +kernel
theorem dX6_cheapest_30 : decode cX6_cheapest 30 = .ok (.istore 4, 2) := by decide +kernel
theorem dX6_cheapest_32 : decode cX6_cheapest 32 = .ok (.iload 4, 2) := by decide +kernel
theorem dX6_cheapest_34 : decode cX6_cheapest 34 = .ok (.ifCond .lt 48, 3) := by decide +kernel
theorem dX6_cheapest_37 : decode cX6_cheapest 37 = .ok (.aload_n 0, 1) := by decide +kernel
theorem dX6_cheapest_38 : decode cX6_cheapest 38 = .ok (.iload 4, 2) := by decide +kernel
theorem dX6_cheapest_40 : decode cX6_cheapest 40 = .ok (.iload_n 1, 1) := by decide +kernel
theorem dX6_cheapest_41 : decode cX6_cheapest 41 = .ok (.invokevirtual 125, 3) := by decide +kernel
theorem dX6_cheapest_44 : decode cX6_cheapest 44 = .ok (.ifCond .eq 30, 3) := by decide +kernel
theorem dX6_cheapest_47 : decode cX6_cheapest 47 = .ok (.iload_n 3, 1) := by decide +kernel
theorem dX6_cheapest_48 : decode cX6_cheapest 48 = .ok (.bipush (-4), 2) := by decide +kernel
theorem dX6_cheapest_50 : decode cX6_cheapest 50 = .ok (.if_icmp .eq 19, 3) := by decide +kernel
theorem dX6_cheapest_53 : decode cX6_cheapest 53 = .ok (.aload_n 0, 1) := by decide +kernel
theorem dX6_cheapest_54 : decode cX6_cheapest 54 = .ok (.iload 4, 2) := by decide +kernel
theorem dX6_cheapest_56 : decode cX6_cheapest 56 = .ok (.iload_n 1, 1) := by decide +kernel
theorem dX6_cheapest_57 : decode cX6_cheapest 57 = .ok (.invokevirtual 129, 3) := by decide +kernel
theorem dX6_cheapest_60 : decode cX6_cheapest 60 = .ok (.aload_n 0, 1) := by decide +kernel
theorem dX6_cheapest_61 : decode cX6_cheapest 61 = .ok (.iload_n 3, 1) := by decide +kernel
theorem dX6_cheapest_62 : decode cX6_cheapest 62 = .ok (.iload_n 1, 1) := by decide +kernel
theorem dX6_cheapest_63 : decode cX6_cheapest 63 = .ok (.invokevirtual 129, 3) := by decide +kernel
theorem dX6_cheapest_66 : decode cX6_cheapest 66 = .ok (.if_icmp .gt 8, 3) := by decide +kernel
theorem dX6_cheapest_69 : decode cX6_cheapest 69 = .ok (.iload 4, 2) := by decide +kernel
theorem dX6_cheapest_71 : decode cX6_cheapest 71 = .ok (.goto 4, 3) := by decide +kernel
theorem dX6_cheapest_74 : decode cX6_cheapest 74 = .ok (.iload_n 3, 1) := by decide +kernel
theorem dX6_cheapest_75 : decode cX6_cheapest 75 = .ok (.istore_n 3, 1) := by decide +kernel
theorem dX6_cheapest_76 : decode cX6_cheapest 76 = .ok (.iinc 4 (-1), 3) := by decide +kernel
theorem dX6_cheapest_79 : decode cX6_cheapest 79 = .ok (.goto (-47), 3) := by decide +kernel
theorem dX6_cheapest_82 : decode cX6_cheapest 82 = .ok (.iload_n 2, 1) := by decide +kernel
theorem dX6_cheapest_83 : decode cX6_cheapest 83 = .ok (.ifCond .eq 9, 3) := by decide +kernel
theorem dX6_cheapest_86 : decode cX6_cheapest 86 = .ok (.iload_n 3, 1) := by decide +kernel
theorem dX6_cheapest_87 : decode cX6_cheapest 87 = .ok (.bipush (-4), 2) := by decide +kernel
theorem dX6_cheapest_89 : decode cX6_cheapest 89 = .ok (.if_icmp .ne 7, 3) := by decide +kernel
theorem dX6_cheapest_92 : decode cX6_cheapest 92 = .ok (.iload_n 3, 1) := by decide +kernel
theorem dX6_cheapest_93 : decode cX6_cheapest 93 = .ok (.goto 9, 3) := by decide +kernel
theorem dX6_cheapest_96 : decode cX6_cheapest 96 = .ok (.aload_n 0, 1) := by decide +kernel
theorem dX6_cheapest_97 : decode cX6_cheapest 97 = .ok (.iload_n 3, 1) := by decide +kernel
theorem dX6_cheapest_98 : decode cX6_cheapest 98 = .ok (.iload_n 1, 1) := by decide +kernel
theorem dX6_cheapest_99 : decode cX6_cheapest 99 = .ok (.invokevirtual 129, 3) := by decide +kernel
theorem dX6_cheapest_102 : decode cX6_cheapest 102 = .ok (.ireturn, 1) := by decide +kernel
theorem dX6_allCoins_0 : decode cX6_allCoins 0 = .ok (.iconst 0, 1) := by decide +kernel
theorem dX6_allCoins_1 : decode cX6_allCoins 1 = .ok (.istore_n 1, 1) := by decide +kernel
theorem dX6_allCoins_2 : decode cX6_allCoins 2 = .ok (.iconst 0, 1) := by decide +kernel
theorem dX6_allCoins_3 : decode cX6_allCoins 3 = .ok (.istore_n 2, 1) := by decide +kernel
theorem dX6_allCoins_4 : decode cX6_allCoins 4 = .ok (.iload_n 2, 1) := by decide +kernel
theorem dX6_allCoins_5 : decode cX6_allCoins 5 = .ok (.aload_n 0, 1) := by decide +kernel
theorem dX6_allCoins_6 : decode cX6_allCoins 6 = .ok (.getfield 13, 3) := by decide +kernel
theorem dX6_allCoins_9 : decode cX6_allCoins 9 = .ok (.iconst 0, 1) := by decide +kernel
theorem dX6_allCoins_10 : decode cX6_allCoins 10 = .ok (.iaload, 1) := by decide +kernel
theorem dX6_allCoins_11 : decode cX6_allCoins 11 = .ok (.if_icmp .ge 18, 3) := by decide +kernel
theorem dX6_allCoins_14 : decode cX6_allCoins 14 = .ok (.iload_n 1, 1) := by decide +kernel
theorem dX6_allCoins_15 : decode cX6_allCoins 15 = .ok (.aload_n 0, 1) := by decide +kernel
theorem dX6_allCoins_16 : decode cX6_allCoins 16 = .ok (.getfield 19, 3) := by decide +kernel
theorem dX6_allCoins_19 : decode cX6_allCoins 19 = .ok (.iload_n 2, 1) := by decide +kernel
theorem dX6_allCoins_20 : decode cX6_allCoins 20 = .ok (.iaload, 1) := by decide +kernel
theorem dX6_allCoins_21 : decode cX6_allCoins 21 = .ok (.iadd, 1) := by decide +kernel
theorem dX6_allCoins_22 : decode cX6_allCoins 22 = .ok (.istore_n 1, 1) := by decide +kernel
theorem dX6_allCoins_23 : decode cX6_allCoins 23 = .ok (.iinc 2 1, 3) := by decide +kernel
theorem dX6_allCoins_26 : decode cX6_allCoins 26 = .ok (.goto (-22), 3) := by decide +kernel
theorem dX6_allCoins_29 : decode cX6_allCoins 29 = .ok (.iload_n 1, 1) := by decide +kernel
theorem dX6_allCoins_30 : decode cX6_allCoins 30 = .ok (.ireturn, 1) := by decide +kernel
theorem dX6_taken_0 : decode cX6_taken 0 = .ok (.iconst 0, 1) := by decide +kernel
theorem dX6_taken_1 : decode cX6_taken 1 = .ok (.istore_n 1, 1) := by decide +kernel
theorem dX6_taken_2 : decode cX6_taken 2 = .ok (.iconst 0, 1) := by decide +kernel
theorem dX6_taken_3 : decode cX6_taken 3 = .ok (.istore_n 2, 1) := by decide +kernel
theorem dX6_taken_4 : decode cX6_taken 4 = .ok (.iload_n 2, 1) := by decide +kernel
theorem dX6_taken_5 : decode cX6_taken 5 = .ok (.aload_n 0, 1) := by decide +kernel
theorem dX6_taken_6 : decode cX6_taken 6 = .ok (.getfield 13, 3) := by decide +kernel
theorem dX6_taken_9 : decode cX6_taken 9 = .ok (.iconst 1, 1) := by decide +kernel
theorem dX6_taken_10 : decode cX6_taken 10 = .ok (.iaload, 1) := by decide +kernel
theorem dX6_taken_11 : decode cX6_taken 11 = .ok (.if_icmp .ge 31, 3) := by decide +kernel
theorem dX6_taken_14 : decode cX6_taken 14 = .ok (.iload_n 1, 1) := by decide +kernel
theorem dX6_taken_15 : decode cX6_taken 15 = .ok (.aload_n 0, 1) := by decide +kernel
theorem dX6_taken_16 : decode cX6_taken 16 = .ok (.getfield 19, 3) := by decide +kernel
theorem dX6_taken_19 : decode cX6_taken 19 = .ok (.bipush 6, 2) := by decide +kernel
theorem dX6_taken_21 : decode cX6_taken 21 = .ok (.iload_n 2, 1) := by decide +kernel
theorem dX6_taken_22 : decode cX6_taken 22 = .ok (.iadd, 1) := by decide +kernel
theorem dX6_taken_23 : decode cX6_taken 23 = .ok (.iaload, 1) := by decide +kernel
theorem dX6_taken_24 : decode cX6_taken 24 = .ok (.bipush (-4), 2) := by decide +kernel
theorem dX6_taken_26 : decode cX6_taken 26 = .ok (.if_icmp .ne 7, 3) := by decide +kernel
theorem dX6_taken_29 : decode cX6_taken 29 = .ok (.iconst 0, 1) := by decide +kernel
theorem dX6_taken_30 : decode cX6_taken 30 = .ok (.goto 4, 3) := by decide +kernel
theorem dX6_taken_33 : decode cX6_taken 33 = .ok (.iconst 1, 1) := by decide +kernel
theorem dX6_taken_34 : decode cX6_taken 34 = .ok (.iadd, 1) := by decide +kernel
theorem dX6_taken_35 : decode cX6_taken 35 = .ok (.istore_n 1, 1) := by decide +kernel
theorem dX6_taken_36 : decode cX6_taken 36 = .ok (.iinc 2 1, 3) := by decide +kernel
theorem dX6_taken_39 : decode cX6_taken 39 = .ok (.goto (-35), 3) := by decide +kernel
theorem dX6_taken_42 : decode cX6_taken 42 = .ok (.iload_n 1, 1) := by decide +kernel
theorem dX6_taken_43 : decode cX6_taken 43 = .ok (.ireturn, 1) := by decide +kernel
theorem dX6_greens_0 : decode cX6_greens 0 = .ok (.iload_n 1, 1) := by decide +kernel
theorem dX6_greens_1 : decode cX6_greens 1 = .ok (.iconst 0, 1) := by decide +kernel
theorem dX6_greens_2 : decode cX6_greens 2 = .ok (.sipush 9999, 3) := by decide +kernel
theorem dX6_greens_5 : decode cX6_greens 5 = .ok (.invokestatic 56, 3) := by decide +kernel
theorem dX6_greens_8 : decode cX6_greens 8 = .ok (.ifCond .eq 22, 3) := by decide +kernel
theorem dX6_greens_11 : decode cX6_greens 11 = .ok (.iload_n 2, 1) := by decide +kernel
theorem dX6_greens_12 : decode cX6_greens 12 = .ok (.iconst 1, 1) := by decide +kernel
theorem dX6_greens_13 : decode cX6_greens 13 = .ok (.bipush 9, 2) := by decide +kernel
theorem dX6_greens_15 : decode cX6_greens 15 = .ok (.invokestatic 56, 3) := by decide +kernel
theorem dX6_greens_18 : decode cX6_greens 18 = .ok (.ifCond .eq 12, 3) := by decide +kernel
theorem dX6_greens_21 : decode cX6_greens 21 = .ok (.iload_n 3, 1) := by decide +kernel
theorem dX6_greens_22 : decode cX6_greens 22 = .ok (.iconst 0, 1) := by decide +kernel
theorem dX6_greens_23 : decode cX6_greens 23 = .ok (.iconst 1, 1) := by decide +kernel
theorem dX6_greens_24 : decode cX6_greens 24 = .ok (.invokestatic 56, 3) := by decide +kernel
theorem dX6_greens_27 : decode cX6_greens 27 = .ok (.ifCond .ne 5, 3) := by decide +kernel
theorem dX6_greens_30 : decode cX6_greens 30 = .ok (.iconst (-1), 1) := by decide +kernel
theorem dX6_greens_31 : decode cX6_greens 31 = .ok (.ireturn, 1) := by decide +kernel
theorem dX6_greens_32 : decode cX6_greens 32 = .ok (.aload_n 0, 1) := by decide +kernel
theorem dX6_greens_33 : decode cX6_greens 33 = .ok (.invokevirtual 154, 3) := by decide +kernel
theorem dX6_greens_36 : decode cX6_greens 36 = .ok (.iconst 0, 1) := by decide +kernel
theorem dX6_greens_37 : decode cX6_greens 37 = .ok (.istore 4, 2) := by decide +kernel
theorem dX6_greens_39 : decode cX6_greens 39 = .ok (.iload 4, 2) := by decide +kernel
theorem dX6_greens_41 : decode cX6_greens 41 = .ok (.iload_n 2, 1) := by decide +kernel
theorem dX6_greens_42 : decode cX6_greens 42 = .ok (.if_icmp .ge 81, 3) := by decide +kernel
theorem dX6_greens_45 : decode cX6_greens 45 = .ok (.ldc2_w 172, 3) := by decide +kernel
theorem dX6_greens_48 : decode cX6_greens 48 = .ok (.iload_n 1, 1) := by decide +kernel
theorem dX6_greens_49 : decode cX6_greens 49 = .ok (.i2l, 1) := by decide +kernel
theorem dX6_greens_50 : decode cX6_greens 50 = .ok (.lmul, 1) := by decide +kernel
theorem dX6_greens_51 : decode cX6_greens 51 = .ok (.ldc2_w 174, 3) := by decide +kernel
theorem dX6_greens_54 : decode cX6_greens 54 = .ok (.iload 4, 2) := by decide +kernel
theorem dX6_greens_56 : decode cX6_greens 56 = .ok (.i2l, 1) := by decide +kernel
theorem dX6_greens_57 : decode cX6_greens 57 = .ok (.lmul, 1) := by decide +kernel
theorem dX6_greens_58 : decode cX6_greens 58 = .ok (.ladd, 1) := by decide +kernel
theorem dX6_greens_59 : decode cX6_greens 59 = .ok (.lconst 1, 1) := by decide +kernel
theorem dX6_greens_60 : decode cX6_greens 60 = .ok (.ladd, 1) := by decide +kernel
theorem dX6_greens_61 : decode cX6_greens 61 = .ok (.lstore 5, 2) := by decide +kernel
theorem dX6_greens_63 : decode cX6_greens 63 = .ok (.lload 5, 2) := by decide +kernel
theorem dX6_greens_65 : decode cX6_greens 65 = .ok (.lload 5, 2) := by decide +kernel
theorem dX6_greens_67 : decode cX6_greens 67 = .ok (.lmul, 1) := by decide +kernel
theorem dX6_greens_68 : decode cX6_greens 68 = .ok (.ldc2_w 176, 3) := by decide +kernel
theorem dX6_greens_71 : decode cX6_greens 71 = .ok (.lrem, 1) := by decide +kernel
theorem dX6_greens_72 : decode cX6_greens 72 = .ok (.l2i, 1) := by decide +kernel
theorem dX6_greens_73 : decode cX6_greens 73 = .ok (.iconst 4, 1) := by decide +kernel
theorem dX6_greens_74 : decode cX6_greens 74 = .ok (.idiv, 1) := by decide +kernel
theorem dX6_greens_75 : decode cX6_greens 75 = .ok (.istore 7, 2) := by decide +kernel
theorem dX6_greens_77 : decode cX6_greens 77 = .ok (.aload_n 0, 1) := by decide +kernel
theorem dX6_greens_78 : decode cX6_greens 78 = .ok (.iload 7, 2) := by decide +kernel
theorem dX6_greens_80 : decode cX6_greens 80 = .ok (.aload_n 0, 1) := by decide +kernel
theorem dX6_greens_81 : decode cX6_greens 81 = .ok (.getfield 13, 3) := by decide +kernel
theorem dX6_greens_84 : decode cX6_greens 84 = .ok (.iconst 0, 1) := by decide +kernel
theorem dX6_greens_85 : decode cX6_greens 85 = .ok (.iaload, 1) := by decide +kernel
theorem dX6_greens_86 : decode cX6_greens 86 = .ok (.irem, 1) := by decide +kernel
theorem dX6_greens_87 : decode cX6_greens 87 = .ok (.iload 7, 2) := by decide +kernel
theorem dX6_greens_89 : decode cX6_greens 89 = .ok (.bipush 8, 2) := by decide +kernel
theorem dX6_greens_91 : decode cX6_greens 91 = .ok (.idiv, 1) := by decide +kernel
theorem dX6_greens_92 : decode cX6_greens 92 = .ok (.aload_n 0, 1) := by decide +kernel
theorem dX6_greens_93 : decode cX6_greens 93 = .ok (.getfield 13, 3) := by decide +kernel
theorem dX6_greens_96 : decode cX6_greens 96 = .ok (.iconst 1, 1) := by decide +kernel
theorem dX6_greens_97 : decode cX6_greens 97 = .ok (.iaload, 1) := by decide +kernel
theorem dX6_greens_98 : decode cX6_greens 98 = .ok (.irem, 1) := by decide +kernel
theorem dX6_greens_99 : decode cX6_greens 99 = .ok (.iconst 1, 1) := by decide +kernel
theorem dX6_greens_100 : decode cX6_greens 100 = .ok (.iload 7, 2) := by decide +kernel
theorem dX6_greens_102 : decode cX6_greens 102 = .ok (.bipush 64, 2) := by decide +kernel
theorem dX6_greens_104 : decode cX6_greens 104 = .ok (.idiv, 1) := by decide +kernel
theorem dX6_greens_105 : decode cX6_greens 105 = .ok (.bipush 12, 2) := by decide +kernel
theorem dX6_greens_107 : decode cX6_greens 107 = .ok (.irem, 1) := by decide +kernel
theorem dX6_greens_108 : decode cX6_greens 108 = .ok (.iadd, 1) := by decide +kernel
theorem dX6_greens_109 : decode cX6_greens 109 = .ok (.invokevirtual 135, 3) := by decide +kernel
theorem dX6_greens_112 : decode cX6_greens 112 = .ok (.aload_n 0, 1) := by decide +kernel
theorem dX6_greens_113 : decode cX6_greens 113 = .ok (.invokevirtual 148, 3) := by decide +kernel
theorem dX6_greens_116 : decode cX6_greens 116 = .ok (.pop, 1) := by decide +kernel
theorem dX6_greens_117 : decode cX6_greens 117 = .ok (.iinc 4 1, 3) := by decide +kernel
theorem dX6_greens_120 : decode cX6_greens 120 = .ok (.goto (-81), 3) := by decide +kernel
theorem dX6_greens_123 : decode cX6_greens 123 = .ok (.iload_n 3, 1) := by decide +kernel
theorem dX6_greens_124 : decode cX6_greens 124 = .ok (.ifCond .ne 10, 3) := by decide +kernel
theorem dX6_greens_127 : decode cX6_greens 127 = .ok (.aload_n 0, 1) := by decide +kernel
theorem dX6_greens_128 : decode cX6_greens 128 = .ok (.invokevirtual 178, 3) := by decide +kernel
theorem dX6_greens_131 : decode cX6_greens 131 = .ok (.goto 7, 3) := by decide +kernel
theorem dX6_greens_134 : decode cX6_greens 134 = .ok (.aload_n 0, 1) := by decide +kernel
theorem dX6_greens_135 : decode cX6_greens 135 = .ok (.invokevirtual 181, 3) := by decide +kernel
theorem dX6_greens_138 : decode cX6_greens 138 = .ok (.istore 4, 2) := by decide +kernel
theorem dX6_greens_140 : decode cX6_greens 140 = .ok (.aload_n 0, 1) := by decide +kernel
theorem dX6_greens_141 : decode cX6_greens 141 = .ok (.invokevirtual 151, 3) := by decide +kernel
theorem dX6_greens_144 : decode cX6_greens 144 = .ok (.iload 4, 2) := by decide +kernel
theorem dX6_greens_146 : decode cX6_greens 146 = .ok (.ireturn, 1) := by decide +kernel
theorem dX6_keep_0 : decode cX6_keep 0 = .ok (.aload_n 0, 1) := by decide +kernel
theorem dX6_keep_1 : decode cX6_keep 1 = .ok (.getfield 91, 3) := by decide +kernel
theorem dX6_keep_4 : decode cX6_keep 4 = .ok (.iconst 2, 1) := by decide +kernel
theorem dX6_keep_5 : decode cX6_keep 5 = .ok (.if_icmp .ne 6, 3) := by decide +kernel
theorem dX6_keep_8 : decode cX6_keep 8 = .ok (.bipush (-3), 2) := by decide +kernel
theorem dX6_keep_10 : decode cX6_keep 10 = .ok (.ireturn, 1) := by decide +kernel
theorem dX6_keep_11 : decode cX6_keep 11 = .ok (.iconst 0, 1) := by decide +kernel
theorem dX6_keep_12 : decode cX6_keep 12 = .ok (.istore_n 1, 1) := by decide +kernel
theorem dX6_keep_13 : decode cX6_keep 13 = .ok (.iload_n 1, 1) := by decide +kernel
theorem dX6_keep_14 : decode cX6_keep 14 = .ok (.bipush 55, 2) := by decide +kernel
theorem dX6_keep_16 : decode cX6_keep 16 = .ok (.if_icmp .ge 29, 3) := by decide +kernel
theorem dX6_keep_19 : decode cX6_keep 19 = .ok (.aload_n 0, 1) := by decide +kernel
theorem dX6_keep_20 : decode cX6_keep 20 = .ok (.getfield 25, 3) := by decide +kernel
theorem dX6_keep_23 : decode cX6_keep 23 = .ok (.bipush 55, 2) := by decide +kernel
theorem dX6_keep_25 : decode cX6_keep 25 = .ok (.aload_n 0, 1) := by decide +kernel
theorem dX6_keep_26 : decode cX6_keep 26 = .ok (.getfield 91, 3) := by decide +kernel
theorem dX6_keep_29 : decode cX6_keep 29 = .ok (.imul, 1) := by decide +kernel
theorem dX6_keep_30 : decode cX6_keep 30 = .ok (.iload_n 1, 1) := by decide +kernel
theorem dX6_keep_31 : decode cX6_keep 31 = .ok (.iadd, 1) := by decide +kernel
theorem dX6_keep_32 : decode cX6_keep 32 = .ok (.aload_n 0, 1) := by decide +kernel
theorem dX6_keep_33 : decode cX6_keep 33 = .ok (.getfield 19, 3) := by decide +kernel
theorem dX6_keep_36 : decode cX6_keep 36 = .ok (.iload_n 1, 1) := by decide +kernel
theorem dX6_keep_37 : decode cX6_keep 37 = .ok (.iaload, 1) := by decide +kernel
theorem dX6_keep_38 : decode cX6_keep 38 = .ok (.iastore, 1) := by decide +kernel
theorem dX6_keep_39 : decode cX6_keep 39 = .ok (.iinc 1 1, 3) := by decide +kernel
theorem dX6_keep_42 : decode cX6_keep 42 = .ok (.goto (-29), 3) := by decide +kernel
theorem dX6_keep_45 : decode cX6_keep 45 = .ok (.aload_n 0, 1) := by decide +kernel
theorem dX6_keep_46 : decode cX6_keep 46 = .ok (.dup, 1) := by decide +kernel
theorem dX6_keep_47 : decode cX6_keep 47 = .ok (.getfield 91, 3) := by decide +kernel
theorem dX6_keep_50 : decode cX6_keep 50 = .ok (.iconst 1, 1) := by decide +kernel
theorem dX6_keep_51 : decode cX6_keep 51 = .ok (.iadd, 1) := by decide +kernel
theorem dX6_keep_52 : decode cX6_keep 52 = .ok (.putfield 91, 3) := by decide +kernel
theorem dX6_keep_55 : decode cX6_keep 55 = .ok (.aload_n 0, 1) := by decide +kernel
theorem dX6_keep_56 : decode cX6_keep 56 = .ok (.getfield 91, 3) := by decide +kernel
theorem dX6_keep_59 : decode cX6_keep 59 = .ok (.ireturn, 1) := by decide +kernel
theorem dX6_back_0 : decode cX6_back 0 = .ok (.aload_n 0, 1) := by decide +kernel
theorem dX6_back_1 : decode cX6_back 1 = .ok (.getfield 91, 3) := by decide +kernel
theorem dX6_back_4 : decode cX6_back 4 = .ok (.ifCond .ne 6, 3) := by decide +kernel
theorem dX6_back_7 : decode cX6_back 7 = .ok (.bipush (-2), 2) := by decide +kernel
theorem dX6_back_9 : decode cX6_back 9 = .ok (.ireturn, 1) := by decide +kernel
theorem dX6_back_10 : decode cX6_back 10 = .ok (.aload_n 0, 1) := by decide +kernel
theorem dX6_back_11 : decode cX6_back 11 = .ok (.dup, 1) := by decide +kernel
theorem dX6_back_12 : decode cX6_back 12 = .ok (.getfield 91, 3) := by decide +kernel
theorem dX6_back_15 : decode cX6_back 15 = .ok (.iconst 1, 1) := by decide +kernel
theorem dX6_back_16 : decode cX6_back 16 = .ok (.isub, 1) := by decide +kernel
theorem dX6_back_17 : decode cX6_back 17 = .ok (.putfield 91, 3) := by decide +kernel
theorem dX6_back_20 : decode cX6_back 20 = .ok (.iconst 0, 1) := by decide +kernel
theorem dX6_back_21 : decode cX6_back 21 = .ok (.istore_n 1, 1) := by decide +kernel
theorem dX6_back_22 : decode cX6_back 22 = .ok (.iload_n 1, 1) := by decide +kernel
theorem dX6_back_23 : decode cX6_back 23 = .ok (.bipush 55, 2) := by decide +kernel
theorem dX6_back_25 : decode cX6_back 25 = .ok (.if_icmp .ge 29, 3) := by decide +kernel
theorem dX6_back_28 : decode cX6_back 28 = .ok (.aload_n 0, 1) := by decide +kernel
theorem dX6_back_29 : decode cX6_back 29 = .ok (.getfield 19, 3) := by decide +kernel
theorem dX6_back_32 : decode cX6_back 32 = .ok (.iload_n 1, 1) := by decide +kernel
theorem dX6_back_33 : decode cX6_back 33 = .ok (.aload_n 0, 1) := by decide +kernel
theorem dX6_back_34 : decode cX6_back 34 = .ok (.getfield 25, 3) := by decide +kernel
theorem dX6_back_37 : decode cX6_back 37 = .ok (.bipush 55, 2) := by decide +kernel
theorem dX6_back_39 : decode cX6_back 39 = .ok (.aload_n 0, 1) := by decide +kernel
theorem dX6_back_40 : decode cX6_back 40 = .ok (.getfield 91, 3) := by decide +kernel
theorem dX6_back_43 : decode cX6_back 43 = .ok (.imul, 1) := by decide +kernel
theorem dX6_back_44 : decode cX6_back 44 = .ok (.iload_n 1, 1) := by decide +kernel
theorem dX6_back_45 : decode cX6_back 45 = .ok (.iadd, 1) := by decide +kernel
theorem dX6_back_46 : decode cX6_back 46 = .ok (.iaload, 1) := by decide +kernel
theorem dX6_back_47 : decode cX6_back 47 = .ok (.iastore, 1) := by decide +kernel
theorem dX6_back_48 : decode cX6_back 48 = .ok (.iinc 1 1, 3) := by decide +kernel
theorem dX6_back_51 : decode cX6_back 51 = .ok (.goto (-29), 3) := by decide +kernel
theorem dX6_back_54 : decode cX6_back 54 = .ok (.aload_n 0, 1) := by decide +kernel
theorem dX6_back_55 : decode cX6_back 55 = .ok (.iconst 0, 1) := by decide +kernel
theorem dX6_back_56 : decode cX6_back 56 = .ok (.putfield 88, 3) := by decide +kernel
theorem dX6_back_59 : decode cX6_back 59 = .ok (.aload_n 0, 1) := by decide +kernel
theorem dX6_back_60 : decode cX6_back 60 = .ok (.getfield 91, 3) := by decide +kernel
theorem dX6_back_63 : decode cX6_back 63 = .ok (.ireturn, 1) := by decide +kernel
theorem dX6_count_0 : decode cX6_count 0 = .ok (.iload_n 1, 1) := by decide +kernel
theorem dX6_count_1 : decode cX6_count 1 = .ok (.tableswitch 103 0 8 #[51, 58, 65, 73, 78, 83, 88, 93, 98], 51) := by decide +kernel
theorem dX6_count_52 : decode cX6_count 52 = .ok (.aload_n 0, 1) := by decide +kernel
theorem dX6_count_53 : decode cX6_count 53 = .ok (.getfield 13, 3) := by decide +kernel
theorem dX6_count_56 : decode cX6_count 56 = .ok (.iconst 0, 1) := by decide +kernel
theorem dX6_count_57 : decode cX6_count 57 = .ok (.iaload, 1) := by decide +kernel
theorem dX6_count_58 : decode cX6_count 58 = .ok (.ireturn, 1) := by decide +kernel
theorem dX6_count_59 : decode cX6_count 59 = .ok (.aload_n 0, 1) := by decide +kernel
theorem dX6_count_60 : decode cX6_count 60 = .ok (.getfield 13, 3) := by decide +kernel
theorem dX6_count_63 : decode cX6_count 63 = .ok (.iconst 1, 1) := by decide +kernel
theorem dX6_count_64 : decode cX6_count 64 = .ok (.iaload, 1) := by decide +kernel
theorem dX6_count_65 : decode cX6_count 65 = .ok (.ireturn, 1) := by decide +kernel
theorem dX6_count_66 : decode cX6_count 66 = .ok (.aload_n 0, 1) := by decide +kernel
theorem dX6_count_67 : decode cX6_count 67 = .ok (.getfield 19, 3) := by decide +kernel
theorem dX6_count_70 : decode cX6_count 70 = .ok (.bipush 54, 2) := by decide +kernel
theorem dX6_count_72 : decode cX6_count 72 = .ok (.iaload, 1) := by decide +kernel
theorem dX6_count_73 : decode cX6_count 73 = .ok (.ireturn, 1) := by decide +kernel
theorem dX6_count_74 : decode cX6_count 74 = .ok (.aload_n 0, 1) := by decide +kernel
theorem dX6_count_75 : decode cX6_count 75 = .ok (.invokevirtual 178, 3) := by decide +kernel
theorem dX6_count_78 : decode cX6_count 78 = .ok (.ireturn, 1) := by decide +kernel
theorem dX6_count_79 : decode cX6_count 79 = .ok (.aload_n 0, 1) := by decide +kernel
theorem dX6_count_80 : decode cX6_count 80 = .ok (.invokevirtual 181, 3) := by decide +kernel
theorem dX6_count_83 : decode cX6_count 83 = .ok (.ireturn, 1) := by decide +kernel
theorem dX6_count_84 : decode cX6_count 84 = .ok (.aload_n 0, 1) := by decide +kernel
theorem dX6_count_85 : decode cX6_count 85 = .ok (.getfield 94, 3) := by decide +kernel
theorem dX6_count_88 : decode cX6_count 88 = .ok (.ireturn, 1) := by decide +kernel
theorem dX6_count_89 : decode cX6_count 89 = .ok (.aload_n 0, 1) := by decide +kernel
theorem dX6_count_90 : decode cX6_count 90 = .ok (.getfield 88, 3) := by decide +kernel
theorem dX6_count_93 : decode cX6_count 93 = .ok (.ireturn, 1) := by decide +kernel
theorem dX6_count_94 : decode cX6_count 94 = .ok (.aload_n 0, 1) := by decide +kernel
theorem dX6_count_95 : decode cX6_count 95 = .ok (.getfield 91, 3) := by decide +kernel
theorem dX6_count_98 : decode cX6_count 98 = .ok (.ireturn, 1) := by decide +kernel
theorem dX6_count_99 : decode cX6_count 99 = .ok (.aload_n 0, 1) := by decide +kernel
theorem dX6_count_100 : decode cX6_count 100 = .ok (.getfield 60, 3) := by decide +kernel
theorem dX6_count_103 : decode cX6_count 103 = .ok (.ireturn, 1) := by decide +kernel
theorem dX6_count_104 : decode cX6_count 104 = .ok (.iconst (-1), 1) := by decide +kernel
theorem dX6_count_105 : decode cX6_count 105 = .ok (.ireturn, 1) := by decide +kernel
theorem dJ9_max_7cf53_0 : decode cJ9_max_7cf53 0 = .ok (.iload_n 0, 1) := by decide +kernel
theorem dJ9_max_7cf53_1 : decode cJ9_max_7cf53 1 = .ok (.iload_n 1, 1) := by decide +kernel
theorem dJ9_max_7cf53_2 : decode cJ9_max_7cf53 2 = .ok (.if_icmp .lt 7, 3) := by decide +kernel
theorem dJ9_max_7cf53_5 : decode cJ9_max_7cf53 5 = .ok (.iload_n 0, 1) := by decide +kernel
theorem dJ9_max_7cf53_6 : decode cJ9_max_7cf53 6 = .ok (.goto 4, 3) := by decide +kernel
theorem dJ9_max_7cf53_9 : decode cJ9_max_7cf53 9 = .ok (.iload_n 1, 1) := by decide +kernel
theorem dJ9_max_7cf53_10 : decode cJ9_max_7cf53 10 = .ok (.ireturn, 1) := by decide +kernel
theorem dJ9_min_7cf53_0 : decode cJ9_min_7cf53 0 = .ok (.iload_n 0, 1) := by decide +kernel
theorem dJ9_min_7cf53_1 : decode cJ9_min_7cf53 1 = .ok (.iload_n 1, 1) := by decide +kernel
theorem dJ9_min_7cf53_2 : decode cJ9_min_7cf53 2 = .ok (.if_icmp .gt 7, 3) := by decide +kernel
theorem dJ9_min_7cf53_5 : decode cJ9_min_7cf53 5 = .ok (.iload_n 0, 1) := by decide +kernel
theorem dJ9_min_7cf53_6 : decode cJ9_min_7cf53 6 = .ok (.goto 4, 3) := by decide +kernel
theorem dJ9_min_7cf53_9 : decode cJ9_min_7cf53 9 = .ok (.iload_n 1, 1) := by decide +kernel
theorem dJ9_min_7cf53_10 : decode cJ9_min_7cf53 10 = .ok (.ireturn, 1) := by decide +kernel
theorem dJ0_length_8abf5_0 : decode cJ0_length_8abf5 0 = .ok (.aload_n 0, 1) := by decide +kernel
theorem dJ0_length_8abf5_1 : decode cJ0_length_8abf5 1 = .ok (.getfield 9, 3) := by decide +kernel
theorem dJ0_length_8abf5_4 : decode cJ0_length_8abf5 4 = .ok (.arraylength, 1) := by decide +kernel
theorem dJ0_length_8abf5_5 : decode cJ0_length_8abf5 5 = .ok (.aload_n 0, 1) := by decide +kernel
theorem dJ0_length_8abf5_6 : decode cJ0_length_8abf5 6 = .ok (.invokevirtual 335, 3) := by decide +kernel
theorem dJ0_length_8abf5_9 : decode cJ0_length_8abf5 9 = .ok (.ishr, 1) := by decide +kernel
theorem dJ0_length_8abf5_10 : decode cJ0_length_8abf5 10 = .ok (.ireturn, 1) := by decide +kernel
theorem dJ0_charAt_5068e_0 : decode cJ0_charAt_5068e 0 = .ok (.aload_n 0, 1) := by decide +kernel
theorem dJ0_charAt_5068e_1 : decode cJ0_charAt_5068e 1 = .ok (.invokevirtual 492, 3) := by decide +kernel
theorem dJ0_charAt_5068e_4 : decode cJ0_charAt_5068e 4 = .ok (.ifCond .eq 12, 3) := by decide +kernel
theorem dJ0_charAt_5068e_7 : decode cJ0_charAt_5068e 7 = .ok (.aload_n 0, 1) := by decide +kernel
theorem dJ0_charAt_5068e_8 : decode cJ0_charAt_5068e 8 = .ok (.getfield 9, 3) := by decide +kernel
theorem dJ0_charAt_5068e_11 : decode cJ0_charAt_5068e 11 = .ok (.iload_n 1, 1) := by decide +kernel
theorem dJ0_charAt_5068e_12 : decode cJ0_charAt_5068e 12 = .ok (.invokestatic 495, 3) := by decide +kernel
theorem dJ0_charAt_5068e_15 : decode cJ0_charAt_5068e 15 = .ok (.ireturn, 1) := by decide +kernel
theorem dJ0_charAt_5068e_16 : decode cJ0_charAt_5068e 16 = .ok (.aload_n 0, 1) := by decide +kernel
theorem dJ0_charAt_5068e_17 : decode cJ0_charAt_5068e 17 = .ok (.getfield 9, 3) := by decide +kernel
theorem dJ0_charAt_5068e_20 : decode cJ0_charAt_5068e 20 = .ok (.iload_n 1, 1) := by decide +kernel
theorem dJ0_charAt_5068e_21 : decode cJ0_charAt_5068e 21 = .ok (.invokestatic 498, 3) := by decide +kernel
theorem dJ0_charAt_5068e_24 : decode cJ0_charAt_5068e 24 = .ok (.ireturn, 1) := by decide +kernel
theorem dJ0_coder_7d493_0 : decode cJ0_coder_7d493 0 = .ok (.getstatic 38, 3) := by decide +kernel
theorem dJ0_coder_7d493_3 : decode cJ0_coder_7d493 3 = .ok (.ifCond .eq 10, 3) := by decide +kernel
theorem dJ0_coder_7d493_6 : decode cJ0_coder_7d493 6 = .ok (.aload_n 0, 1) := by decide +kernel
theorem dJ0_coder_7d493_7 : decode cJ0_coder_7d493 7 = .ok (.getfield 15, 3) := by decide +kernel
theorem dJ0_coder_7d493_10 : decode cJ0_coder_7d493 10 = .ok (.goto 4, 3) := by decide +kernel
theorem dJ0_coder_7d493_13 : decode cJ0_coder_7d493 13 = .ok (.iconst 1, 1) := by decide +kernel
theorem dJ0_coder_7d493_14 : decode cJ0_coder_7d493 14 = .ok (.ireturn, 1) := by decide +kernel
theorem dJ0_isLatin1_aae02_0 : decode cJ0_isLatin1_aae02 0 = .ok (.getstatic 38, 3) := by decide +kernel
theorem dJ0_isLatin1_aae02_3 : decode cJ0_isLatin1_aae02 3 = .ok (.ifCond .eq 14, 3) := by decide +kernel
theorem dJ0_isLatin1_aae02_6 : decode cJ0_isLatin1_aae02 6 = .ok (.aload_n 0, 1) := by decide +kernel
theorem dJ0_isLatin1_aae02_7 : decode cJ0_isLatin1_aae02 7 = .ok (.getfield 15, 3) := by decide +kernel
theorem dJ0_isLatin1_aae02_10 : decode cJ0_isLatin1_aae02 10 = .ok (.ifCond .ne 7, 3) := by decide +kernel
theorem dJ0_isLatin1_aae02_13 : decode cJ0_isLatin1_aae02 13 = .ok (.iconst 1, 1) := by decide +kernel
theorem dJ0_isLatin1_aae02_14 : decode cJ0_isLatin1_aae02 14 = .ok (.goto 4, 3) := by decide +kernel
theorem dJ0_isLatin1_aae02_17 : decode cJ0_isLatin1_aae02 17 = .ok (.iconst 0, 1) := by decide +kernel
theorem dJ0_isLatin1_aae02_18 : decode cJ0_isLatin1_aae02 18 = .ok (.ireturn, 1) := by decide +kernel
theorem dJ0_checkIndex_df160_0 : decode cJ0_checkIndex_df160 0 = .ok (.iload_n 0, 1) := by decide +kernel
theorem dJ0_checkIndex_df160_1 : decode cJ0_checkIndex_df160 1 = .ok (.iload_n 1, 1) := by decide +kernel
theorem dJ0_checkIndex_df160_2 : decode cJ0_checkIndex_df160 2 = .ok (.getstatic 1053, 3) := by decide +kernel
theorem dJ0_checkIndex_df160_5 : decode cJ0_checkIndex_df160 5 = .ok (.invokestatic 1059, 3) := by decide +kernel
theorem dJ0_checkIndex_df160_8 : decode cJ0_checkIndex_df160 8 = .ok (.pop, 1) := by decide +kernel
theorem dJ0_checkIndex_df160_9 : decode cJ0_checkIndex_df160 9 = .ok (.return_, 1) := by decide +kernel
theorem dJ1_charAt_3b067_0 : decode cJ1_charAt_3b067 0 = .ok (.iload_n 1, 1) := by decide +kernel
theorem dJ1_charAt_3b067_1 : decode cJ1_charAt_3b067 1 = .ok (.aload_n 0, 1) := by decide +kernel
theorem dJ1_charAt_3b067_2 : decode cJ1_charAt_3b067 2 = .ok (.arraylength, 1) := by decide +kernel
theorem dJ1_charAt_3b067_3 : decode cJ1_charAt_3b067 3 = .ok (.invokestatic 9, 3) := by decide +kernel
theorem dJ1_charAt_3b067_6 : decode cJ1_charAt_3b067 6 = .ok (.aload_n 0, 1) := by decide +kernel
theorem dJ1_charAt_3b067_7 : decode cJ1_charAt_3b067 7 = .ok (.iload_n 1, 1) := by decide +kernel
theorem dJ1_charAt_3b067_8 : decode cJ1_charAt_3b067 8 = .ok (.baload, 1) := by decide +kernel
theorem dJ1_charAt_3b067_9 : decode cJ1_charAt_3b067 9 = .ok (.sipush 255, 3) := by decide +kernel
theorem dJ1_charAt_3b067_12 : decode cJ1_charAt_3b067 12 = .ok (.iand, 1) := by decide +kernel
theorem dJ1_charAt_3b067_13 : decode cJ1_charAt_3b067 13 = .ok (.i2c, 1) := by decide +kernel
theorem dJ1_charAt_3b067_14 : decode cJ1_charAt_3b067 14 = .ok (.ireturn, 1) := by decide +kernel
theorem dJ2_getChar_3b067_0 : decode cJ2_getChar_3b067 0 = .ok (.getstatic 44, 3) := by decide +kernel
theorem dJ2_getChar_3b067_3 : decode cJ2_getChar_3b067 3 = .ok (.ifCond .ne 25, 3) := by decide +kernel
theorem dJ2_getChar_3b067_6 : decode cJ2_getChar_3b067 6 = .ok (.iload_n 1, 1) := by decide +kernel
theorem dJ2_getChar_3b067_7 : decode cJ2_getChar_3b067 7 = .ok (.ifCond .lt 11, 3) := by decide +kernel
theorem dJ2_getChar_3b067_10 : decode cJ2_getChar_3b067 10 = .ok (.iload_n 1, 1) := by decide +kernel
theorem dJ2_getChar_3b067_11 : decode cJ2_getChar_3b067 11 = .ok (.aload_n 0, 1) := by decide +kernel
theorem dJ2_getChar_3b067_12 : decode cJ2_getChar_3b067 12 = .ok (.invokestatic 48, 3) := by decide +kernel
theorem dJ2_getChar_3b067_15 : decode cJ2_getChar_3b067 15 = .ok (.if_icmp .lt 13, 3) := by decide +kernel
theorem dJ2_getChar_3b067_18 : decode cJ2_getChar_3b067 18 = .ok (.new 52, 3) := by decide +kernel
theorem dJ2_getChar_3b067_21 : decode cJ2_getChar_3b067 21 = .ok (.dup, 1) := by decide +kernel
theorem dJ2_getChar_3b067_22 : decode cJ2_getChar_3b067 22 = .ok (.ldc 54, 2) := by decide +kernel
theorem dJ2_getChar_3b067_24 : decode cJ2_getChar_3b067 24 = .ok (.invokespecial 56, 3) := by decide +kernel
theorem dJ2_getChar_3b067_27 : decode cJ2_getChar_3b067 27 = .ok (.athrow, 1) := by decide +kernel
theorem dJ2_getChar_3b067_28 : decode cJ2_getChar_3b067 28 = .ok (.iload_n 1, 1) := by decide +kernel
theorem dJ2_getChar_3b067_29 : decode cJ2_getChar_3b067 29 = .ok (.iconst 1, 1) := by decide +kernel
theorem dJ2_getChar_3b067_30 : decode cJ2_getChar_3b067 30 = .ok (.ishl, 1) := by decide +kernel
theorem dJ2_getChar_3b067_31 : decode cJ2_getChar_3b067 31 = .ok (.istore_n 1, 1) := by decide +kernel
theorem dJ2_getChar_3b067_32 : decode cJ2_getChar_3b067 32 = .ok (.aload_n 0, 1) := by decide +kernel
theorem dJ2_getChar_3b067_33 : decode cJ2_getChar_3b067 33 = .ok (.iload_n 1, 1) := by decide +kernel
theorem dJ2_getChar_3b067_34 : decode cJ2_getChar_3b067 34 = .ok (.iinc 1 1, 3) := by decide +kernel
theorem dJ2_getChar_3b067_37 : decode cJ2_getChar_3b067 37 = .ok (.baload, 1) := by decide +kernel
theorem dJ2_getChar_3b067_38 : decode cJ2_getChar_3b067 38 = .ok (.sipush 255, 3) := by decide +kernel
theorem dJ2_getChar_3b067_41 : decode cJ2_getChar_3b067 41 = .ok (.iand, 1) := by decide +kernel
theorem dJ2_getChar_3b067_42 : decode cJ2_getChar_3b067 42 = .ok (.getstatic 59, 3) := by decide +kernel
theorem dJ2_getChar_3b067_45 : decode cJ2_getChar_3b067 45 = .ok (.ishl, 1) := by decide +kernel
theorem dJ2_getChar_3b067_46 : decode cJ2_getChar_3b067 46 = .ok (.aload_n 0, 1) := by decide +kernel
theorem dJ2_getChar_3b067_47 : decode cJ2_getChar_3b067 47 = .ok (.iload_n 1, 1) := by decide +kernel
theorem dJ2_getChar_3b067_48 : decode cJ2_getChar_3b067 48 = .ok (.baload, 1) := by decide +kernel
theorem dJ2_getChar_3b067_49 : decode cJ2_getChar_3b067 49 = .ok (.sipush 255, 3) := by decide +kernel
theorem dJ2_getChar_3b067_52 : decode cJ2_getChar_3b067 52 = .ok (.iand, 1) := by decide +kernel
theorem dJ2_getChar_3b067_53 : decode cJ2_getChar_3b067 53 = .ok (.getstatic 63, 3) := by decide +kernel
theorem dJ2_getChar_3b067_56 : decode cJ2_getChar_3b067 56 = .ok (.ishl, 1) := by decide +kernel
theorem dJ2_getChar_3b067_57 : decode cJ2_getChar_3b067 57 = .ok (.ior, 1) := by decide +kernel
theorem dJ2_getChar_3b067_58 : decode cJ2_getChar_3b067 58 = .ok (.i2c, 1) := by decide +kernel
theorem dJ2_getChar_3b067_59 : decode cJ2_getChar_3b067 59 = .ok (.ireturn, 1) := by decide +kernel
theorem dJ2_length_9d52b_0 : decode cJ2_length_9d52b 0 = .ok (.aload_n 0, 1) := by decide +kernel
theorem dJ2_length_9d52b_1 : decode cJ2_length_9d52b 1 = .ok (.arraylength, 1) := by decide +kernel
theorem dJ2_length_9d52b_2 : decode cJ2_length_9d52b 2 = .ok (.iconst 1, 1) := by decide +kernel
theorem dJ2_length_9d52b_3 : decode cJ2_length_9d52b 3 = .ok (.ishr, 1) := by decide +kernel
theorem dJ2_length_9d52b_4 : decode cJ2_length_9d52b 4 = .ok (.ireturn, 1) := by decide +kernel
theorem dJ2_charAt_3b067_0 : decode cJ2_charAt_3b067 0 = .ok (.iload_n 1, 1) := by decide +kernel
theorem dJ2_charAt_3b067_1 : decode cJ2_charAt_3b067 1 = .ok (.aload_n 0, 1) := by decide +kernel
theorem dJ2_charAt_3b067_2 : decode cJ2_charAt_3b067 2 = .ok (.invokestatic 67, 3) := by decide +kernel
theorem dJ2_charAt_3b067_5 : decode cJ2_charAt_3b067 5 = .ok (.aload_n 0, 1) := by decide +kernel
theorem dJ2_charAt_3b067_6 : decode cJ2_charAt_3b067 6 = .ok (.iload_n 1, 1) := by decide +kernel
theorem dJ2_charAt_3b067_7 : decode cJ2_charAt_3b067 7 = .ok (.invokestatic 71, 3) := by decide +kernel
theorem dJ2_charAt_3b067_10 : decode cJ2_charAt_3b067 10 = .ok (.ireturn, 1) := by decide +kernel
theorem dJ2_checkIndex_2214a_0 : decode cJ2_checkIndex_2214a 0 = .ok (.iload_n 0, 1) := by decide +kernel
theorem dJ2_checkIndex_2214a_1 : decode cJ2_checkIndex_2214a 1 = .ok (.aload_n 1, 1) := by decide +kernel
theorem dJ2_checkIndex_2214a_2 : decode cJ2_checkIndex_2214a 2 = .ok (.invokestatic 48, 3) := by decide +kernel
theorem dJ2_checkIndex_2214a_5 : decode cJ2_checkIndex_2214a 5 = .ok (.invokestatic 414, 3) := by decide +kernel
theorem dJ2_checkIndex_2214a_8 : decode cJ2_checkIndex_2214a 8 = .ok (.return_, 1) := by decide +kernel
theorem dJ7_fill_53178_0 : decode cJ7_fill_53178 0 = .ok (.iconst 0, 1) := by decide +kernel
theorem dJ7_fill_53178_1 : decode cJ7_fill_53178 1 = .ok (.istore_n 2, 1) := by decide +kernel
theorem dJ7_fill_53178_2 : decode cJ7_fill_53178 2 = .ok (.aload_n 0, 1) := by decide +kernel
theorem dJ7_fill_53178_3 : decode cJ7_fill_53178 3 = .ok (.arraylength, 1) := by decide +kernel
theorem dJ7_fill_53178_4 : decode cJ7_fill_53178 4 = .ok (.istore_n 3, 1) := by decide +kernel
theorem dJ7_fill_53178_5 : decode cJ7_fill_53178 5 = .ok (.iload_n 2, 1) := by decide +kernel
theorem dJ7_fill_53178_6 : decode cJ7_fill_53178 6 = .ok (.iload_n 3, 1) := by decide +kernel
theorem dJ7_fill_53178_7 : decode cJ7_fill_53178 7 = .ok (.if_icmp .ge 13, 3) := by decide +kernel
theorem dJ7_fill_53178_10 : decode cJ7_fill_53178 10 = .ok (.aload_n 0, 1) := by decide +kernel
theorem dJ7_fill_53178_11 : decode cJ7_fill_53178 11 = .ok (.iload_n 2, 1) := by decide +kernel
theorem dJ7_fill_53178_12 : decode cJ7_fill_53178 12 = .ok (.iload_n 1, 1) := by decide +kernel
theorem dJ7_fill_53178_13 : decode cJ7_fill_53178 13 = .ok (.iastore, 1) := by decide +kernel
theorem dJ7_fill_53178_14 : decode cJ7_fill_53178 14 = .ok (.iinc 2 1, 3) := by decide +kernel
theorem dJ7_fill_53178_17 : decode cJ7_fill_53178 17 = .ok (.goto (-12), 3) := by decide +kernel
theorem dJ7_fill_53178_20 : decode cJ7_fill_53178 20 = .ok (.return_, 1) := by decide +kernel
theorem dJ3_checkIndex_8e157_0 : decode cJ3_checkIndex_8e157 0 = .ok (.iload_n 0, 1) := by decide +kernel
theorem dJ3_checkIndex_8e157_1 : decode cJ3_checkIndex_8e157 1 = .ok (.ifCond .lt 8, 3) := by decide +kernel
theorem dJ3_checkIndex_8e157_4 : decode cJ3_checkIndex_8e157 4 = .ok (.iload_n 0, 1) := by decide +kernel
theorem dJ3_checkIndex_8e157_5 : decode cJ3_checkIndex_8e157 5 = .ok (.iload_n 1, 1) := by decide +kernel
theorem dJ3_checkIndex_8e157_6 : decode cJ3_checkIndex_8e157 6 = .ok (.if_icmp .lt 10, 3) := by decide +kernel
theorem dJ3_checkIndex_8e157_9 : decode cJ3_checkIndex_8e157 9 = .ok (.aload_n 2, 1) := by decide +kernel
theorem dJ3_checkIndex_8e157_10 : decode cJ3_checkIndex_8e157 10 = .ok (.iload_n 0, 1) := by decide +kernel
theorem dJ3_checkIndex_8e157_11 : decode cJ3_checkIndex_8e157 11 = .ok (.iload_n 1, 1) := by decide +kernel
theorem dJ3_checkIndex_8e157_12 : decode cJ3_checkIndex_8e157 12 = .ok (.invokestatic 95, 3) := by decide +kernel
theorem dJ3_checkIndex_8e157_15 : decode cJ3_checkIndex_8e157 15 = .ok (.athrow, 1) := by decide +kernel
theorem dJ3_checkIndex_8e157_16 : decode cJ3_checkIndex_8e157 16 = .ok (.iload_n 0, 1) := by decide +kernel
theorem dJ3_checkIndex_8e157_17 : decode cJ3_checkIndex_8e157 17 = .ok (.ireturn, 1) := by decide +kernel
theorem dL_law_0 : decode cL_law 0 = .ok (.new 7, 3) := by decide +kernel
theorem dL_law_3 : decode cL_law 3 = .ok (.dup, 1) := by decide +kernel
theorem dL_law_4 : decode cL_law 4 = .ok (.invokespecial 9, 3) := by decide +kernel
theorem dL_law_7 : decode cL_law 7 = .ok (.astore_n 1, 1) := by decide +kernel
theorem dL_law_8 : decode cL_law 8 = .ok (.new 10, 3) := by decide +kernel
theorem dL_law_11 : decode cL_law 11 = .ok (.dup, 1) := by decide +kernel
theorem dL_law_12 : decode cL_law 12 = .ok (.invokespecial 12, 3) := by decide +kernel
theorem dL_law_15 : decode cL_law 15 = .ok (.astore_n 2, 1) := by decide +kernel
theorem dL_law_16 : decode cL_law 16 = .ok (.iconst 0, 1) := by decide +kernel
theorem dL_law_17 : decode cL_law 17 = .ok (.istore_n 3, 1) := by decide +kernel
theorem dL_law_18 : decode cL_law 18 = .ok (.iload_n 3, 1) := by decide +kernel
theorem dL_law_19 : decode cL_law 19 = .ok (.aload_n 0, 1) := by decide +kernel
theorem dL_law_20 : decode cL_law 20 = .ok (.arraylength, 1) := by decide +kernel
theorem dL_law_21 : decode cL_law 21 = .ok (.iconst 4, 1) := by decide +kernel
theorem dL_law_22 : decode cL_law 22 = .ok (.isub, 1) := by decide +kernel
theorem dL_law_23 : decode cL_law 23 = .ok (.if_icmp .gt 833, 3) := by decide +kernel
theorem dL_law_26 : decode cL_law 26 = .ok (.aload_n 0, 1) := by decide +kernel
theorem dL_law_27 : decode cL_law 27 = .ok (.iload_n 3, 1) := by decide +kernel
theorem dL_law_28 : decode cL_law 28 = .ok (.iaload, 1) := by decide +kernel
theorem dL_law_29 : decode cL_law 29 = .ok (.bipush 31, 2) := by decide +kernel
theorem dL_law_31 : decode cL_law 31 = .ok (.iand, 1) := by decide +kernel
theorem dL_law_32 : decode cL_law 32 = .ok (.tableswitch 818 0 25 #[120, 143, 156, 169, 182, 215, 248, 291, 334, 347, 390, 403, 436, 459, 472, 515, 548, 571, 614, 627, 650, 693, 726, 769, 782, 795], 120) := by decide +kernel
theorem dL_law_152 : decode cL_law 152 = .ok (.aload_n 1, 1) := by decide +kernel
theorem dL_law_153 : decode cL_law 153 = .ok (.aload_n 0, 1) := by decide +kernel
theorem dL_law_154 : decode cL_law 154 = .ok (.iload_n 3, 1) := by decide +kernel
theorem dL_law_155 : decode cL_law 155 = .ok (.iconst 1, 1) := by decide +kernel
theorem dL_law_156 : decode cL_law 156 = .ok (.iadd, 1) := by decide +kernel
theorem dL_law_157 : decode cL_law 157 = .ok (.iaload, 1) := by decide +kernel
theorem dL_law_158 : decode cL_law 158 = .ok (.invokevirtual 13, 3) := by decide +kernel
theorem dL_law_161 : decode cL_law 161 = .ok (.aload_n 2, 1) := by decide +kernel
theorem dL_law_162 : decode cL_law 162 = .ok (.aload_n 0, 1) := by decide +kernel
theorem dL_law_163 : decode cL_law 163 = .ok (.iload_n 3, 1) := by decide +kernel
theorem dL_law_164 : decode cL_law 164 = .ok (.iconst 1, 1) := by decide +kernel
theorem dL_law_165 : decode cL_law 165 = .ok (.iadd, 1) := by decide +kernel
theorem dL_law_166 : decode cL_law 166 = .ok (.iaload, 1) := by decide +kernel
theorem dL_law_167 : decode cL_law 167 = .ok (.invokevirtual 17, 3) := by decide +kernel
theorem dL_law_170 : decode cL_law 170 = .ok (.if_icmp .eq 680, 3) := by decide +kernel
theorem dL_law_173 : decode cL_law 173 = .ok (.iconst 0, 1) := by decide +kernel
theorem dL_law_174 : decode cL_law 174 = .ok (.ireturn, 1) := by decide +kernel
theorem dL_law_175 : decode cL_law 175 = .ok (.aload_n 1, 1) := by decide +kernel
theorem dL_law_176 : decode cL_law 176 = .ok (.invokevirtual 18, 3) := by decide +kernel
theorem dL_law_179 : decode cL_law 179 = .ok (.aload_n 2, 1) := by decide +kernel
theorem dL_law_180 : decode cL_law 180 = .ok (.invokevirtual 22, 3) := by decide +kernel
theorem dL_law_183 : decode cL_law 183 = .ok (.if_icmp .eq 667, 3) := by decide +kernel
theorem dL_law_186 : decode cL_law 186 = .ok (.iconst 0, 1) := by decide +kernel
theorem dL_law_187 : decode cL_law 187 = .ok (.ireturn, 1) := by decide +kernel
theorem dL_law_188 : decode cL_law 188 = .ok (.aload_n 1, 1) := by decide +kernel
theorem dL_law_189 : decode cL_law 189 = .ok (.invokevirtual 23, 3) := by decide +kernel
theorem dL_law_192 : decode cL_law 192 = .ok (.aload_n 2, 1) := by decide +kernel
theorem dL_law_193 : decode cL_law 193 = .ok (.invokevirtual 26, 3) := by decide +kernel
theorem dL_law_196 : decode cL_law 196 = .ok (.if_icmp .eq 654, 3) := by decide +kernel
theorem dL_law_199 : decode cL_law 199 = .ok (.iconst 0, 1) := by decide +kernel
theorem dL_law_200 : decode cL_law 200 = .ok (.ireturn, 1) := by decide +kernel
theorem dL_law_201 : decode cL_law 201 = .ok (.aload_n 1, 1) := by decide +kernel
theorem dL_law_202 : decode cL_law 202 = .ok (.invokevirtual 27, 3) := by decide +kernel
theorem dL_law_205 : decode cL_law 205 = .ok (.aload_n 2, 1) := by decide +kernel
theorem dL_law_206 : decode cL_law 206 = .ok (.invokevirtual 30, 3) := by decide +kernel
theorem dL_law_209 : decode cL_law 209 = .ok (.if_icmp .eq 641, 3) := by decide +kernel
theorem dL_law_212 : decode cL_law 212 = .ok (.iconst 0, 1) := by decide +kernel
theorem dL_law_213 : decode cL_law 213 = .ok (.ireturn, 1) := by decide +kernel
theorem dL_law_214 : decode cL_law 214 = .ok (.aload_n 1, 1) := by decide +kernel
theorem dL_law_215 : decode cL_law 215 = .ok (.aload_n 0, 1) := by decide +kernel
theorem dL_law_216 : decode cL_law 216 = .ok (.iload_n 3, 1) := by decide +kernel
theorem dL_law_217 : decode cL_law 217 = .ok (.iconst 1, 1) := by decide +kernel
theorem dL_law_218 : decode cL_law 218 = .ok (.iadd, 1) := by decide +kernel
theorem dL_law_219 : decode cL_law 219 = .ok (.iaload, 1) := by decide +kernel
theorem dL_law_220 : decode cL_law 220 = .ok (.aload_n 0, 1) := by decide +kernel
theorem dL_law_221 : decode cL_law 221 = .ok (.iload_n 3, 1) := by decide +kernel
theorem dL_law_222 : decode cL_law 222 = .ok (.iconst 2, 1) := by decide +kernel
theorem dL_law_223 : decode cL_law 223 = .ok (.iadd, 1) := by decide +kernel
theorem dL_law_224 : decode cL_law 224 = .ok (.iaload, 1) := by decide +kernel
theorem dL_law_225 : decode cL_law 225 = .ok (.invokevirtual 31, 3) := by decide +kernel
theorem dL_law_228 : decode cL_law 228 = .ok (.aload_n 2, 1) := by decide +kernel
theorem dL_law_229 : decode cL_law 229 = .ok (.aload_n 0, 1) := by decide +kernel
theorem dL_law_230 : decode cL_law 230 = .ok (.iload_n 3, 1) := by decide +kernel
theorem dL_law_231 : decode cL_law 231 = .ok (.iconst 1, 1) := by decide +kernel
theorem dL_law_232 : decode cL_law 232 = .ok (.iadd, 1) := by decide +kernel
theorem dL_law_233 : decode cL_law 233 = .ok (.iaload, 1) := by decide +kernel
theorem dL_law_234 : decode cL_law 234 = .ok (.aload_n 0, 1) := by decide +kernel
theorem dL_law_235 : decode cL_law 235 = .ok (.iload_n 3, 1) := by decide +kernel
theorem dL_law_236 : decode cL_law 236 = .ok (.iconst 2, 1) := by decide +kernel
theorem dL_law_237 : decode cL_law 237 = .ok (.iadd, 1) := by decide +kernel
theorem dL_law_238 : decode cL_law 238 = .ok (.iaload, 1) := by decide +kernel
theorem dL_law_239 : decode cL_law 239 = .ok (.invokevirtual 35, 3) := by decide +kernel
theorem dL_law_242 : decode cL_law 242 = .ok (.if_icmp .eq 608, 3) := by decide +kernel
theorem dL_law_245 : decode cL_law 245 = .ok (.iconst 0, 1) := by decide +kernel
theorem dL_law_246 : decode cL_law 246 = .ok (.ireturn, 1) := by decide +kernel
theorem dL_law_247 : decode cL_law 247 = .ok (.aload_n 1, 1) := by decide +kernel
theorem dL_law_248 : decode cL_law 248 = .ok (.aload_n 0, 1) := by decide +kernel
theorem dL_law_249 : decode cL_law 249 = .ok (.iload_n 3, 1) := by decide +kernel
theorem dL_law_250 : decode cL_law 250 = .ok (.iconst 1, 1) := by decide +kernel
theorem dL_law_251 : decode cL_law 251 = .ok (.iadd, 1) := by decide +kernel
theorem dL_law_252 : decode cL_law 252 = .ok (.iaload, 1) := by decide +kernel
theorem dL_law_253 : decode cL_law 253 = .ok (.aload_n 0, 1) := by decide +kernel
theorem dL_law_254 : decode cL_law 254 = .ok (.iload_n 3, 1) := by decide +kernel
theorem dL_law_255 : decode cL_law 255 = .ok (.iconst 2, 1) := by decide +kernel
theorem dL_law_256 : decode cL_law 256 = .ok (.iadd, 1) := by decide +kernel
theorem dL_law_257 : decode cL_law 257 = .ok (.iaload, 1) := by decide +kernel
theorem dL_law_258 : decode cL_law 258 = .ok (.invokevirtual 36, 3) := by decide +kernel
theorem dL_law_261 : decode cL_law 261 = .ok (.aload_n 2, 1) := by decide +kernel
theorem dL_law_262 : decode cL_law 262 = .ok (.aload_n 0, 1) := by decide +kernel
theorem dL_law_263 : decode cL_law 263 = .ok (.iload_n 3, 1) := by decide +kernel
theorem dL_law_264 : decode cL_law 264 = .ok (.iconst 1, 1) := by decide +kernel
theorem dL_law_265 : decode cL_law 265 = .ok (.iadd, 1) := by decide +kernel
theorem dL_law_266 : decode cL_law 266 = .ok (.iaload, 1) := by decide +kernel
theorem dL_law_267 : decode cL_law 267 = .ok (.aload_n 0, 1) := by decide +kernel
theorem dL_law_268 : decode cL_law 268 = .ok (.iload_n 3, 1) := by decide +kernel
theorem dL_law_269 : decode cL_law 269 = .ok (.iconst 2, 1) := by decide +kernel
theorem dL_law_270 : decode cL_law 270 = .ok (.iadd, 1) := by decide +kernel
theorem dL_law_271 : decode cL_law 271 = .ok (.iaload, 1) := by decide +kernel
theorem dL_law_272 : decode cL_law 272 = .ok (.invokevirtual 39, 3) := by decide +kernel
theorem dL_law_275 : decode cL_law 275 = .ok (.if_icmp .eq 575, 3) := by decide +kernel
theorem dL_law_278 : decode cL_law 278 = .ok (.iconst 0, 1) := by decide +kernel
theorem dL_law_279 : decode cL_law 279 = .ok (.ireturn, 1) := by decide +kernel
theorem dL_law_280 : decode cL_law 280 = .ok (.aload_n 1, 1) := by decide +kernel
theorem dL_law_281 : decode cL_law 281 = .ok (.aload_n 0, 1) := by decide +kernel
theorem dL_law_282 : decode cL_law 282 = .ok (.iload_n 3, 1) := by decide +kernel
theorem dL_law_283 : decode cL_law 283 = .ok (.iconst 1, 1) := by decide +kernel
theorem dL_law_284 : decode cL_law 284 = .ok (.iadd, 1) := by decide +kernel
theorem dL_law_285 : decode cL_law 285 = .ok (.iaload, 1) := by decide +kernel
theorem dL_law_286 : decode cL_law 286 = .ok (.aload_n 0, 1) := by decide +kernel
theorem dL_law_287 : decode cL_law 287 = .ok (.iload_n 3, 1) := by decide +kernel
theorem dL_law_288 : decode cL_law 288 = .ok (.iconst 2, 1) := by decide +kernel
theorem dL_law_289 : decode cL_law 289 = .ok (.iadd, 1) := by decide +kernel
theorem dL_law_290 : decode cL_law 290 = .ok (.iaload, 1) := by decide +kernel
theorem dL_law_291 : decode cL_law 291 = .ok (.aload_n 0, 1) := by decide +kernel
theorem dL_law_292 : decode cL_law 292 = .ok (.iload_n 3, 1) := by decide +kernel
theorem dL_law_293 : decode cL_law 293 = .ok (.iconst 3, 1) := by decide +kernel
theorem dL_law_294 : decode cL_law 294 = .ok (.iadd, 1) := by decide +kernel
theorem dL_law_295 : decode cL_law 295 = .ok (.iaload, 1) := by decide +kernel
theorem dL_law_296 : decode cL_law 296 = .ok (.invokevirtual 40, 3) := by decide +kernel
theorem dL_law_299 : decode cL_law 299 = .ok (.aload_n 2, 1) := by decide +kernel
theorem dL_law_300 : decode cL_law 300 = .ok (.aload_n 0, 1) := by decide +kernel
theorem dL_law_301 : decode cL_law 301 = .ok (.iload_n 3, 1) := by decide +kernel
theorem dL_law_302 : decode cL_law 302 = .ok (.iconst 1, 1) := by decide +kernel
theorem dL_law_303 : decode cL_law 303 = .ok (.iadd, 1) := by decide +kernel
theorem dL_law_304 : decode cL_law 304 = .ok (.iaload, 1) := by decide +kernel
theorem dL_law_305 : decode cL_law 305 = .ok (.aload_n 0, 1) := by decide +kernel
theorem dL_law_306 : decode cL_law 306 = .ok (.iload_n 3, 1) := by decide +kernel
theorem dL_law_307 : decode cL_law 307 = .ok (.iconst 2, 1) := by decide +kernel
theorem dL_law_308 : decode cL_law 308 = .ok (.iadd, 1) := by decide +kernel
theorem dL_law_309 : decode cL_law 309 = .ok (.iaload, 1) := by decide +kernel
theorem dL_law_310 : decode cL_law 310 = .ok (.aload_n 0, 1) := by decide +kernel
theorem dL_law_311 : decode cL_law 311 = .ok (.iload_n 3, 1) := by decide +kernel
theorem dL_law_312 : decode cL_law 312 = .ok (.iconst 3, 1) := by decide +kernel
theorem dL_law_313 : decode cL_law 313 = .ok (.iadd, 1) := by decide +kernel
theorem dL_law_314 : decode cL_law 314 = .ok (.iaload, 1) := by decide +kernel
theorem dL_law_315 : decode cL_law 315 = .ok (.invokevirtual 44, 3) := by decide +kernel
theorem dL_law_318 : decode cL_law 318 = .ok (.if_icmp .eq 532, 3) := by decide +kernel
theorem dL_law_321 : decode cL_law 321 = .ok (.iconst 0, 1) := by decide +kernel
theorem dL_law_322 : decode cL_law 322 = .ok (.ireturn, 1) := by decide +kernel
theorem dL_law_323 : decode cL_law 323 = .ok (.aload_n 1, 1) := by decide +kernel
theorem dL_law_324 : decode cL_law 324 = .ok (.aload_n 0, 1) := by decide +kernel
theorem dL_law_325 : decode cL_law 325 = .ok (.iload_n 3, 1) := by decide +kernel
theorem dL_law_326 : decode cL_law 326 = .ok (.iconst 1, 1) := by decide +kernel
theorem dL_law_327 : decode cL_law 327 = .ok (.iadd, 1) := by decide +kernel
theorem dL_law_328 : decode cL_law 328 = .ok (.iaload, 1) := by decide +kernel
theorem dL_law_329 : decode cL_law 329 = .ok (.aload_n 0, 1) := by decide +kernel
theorem dL_law_330 : decode cL_law 330 = .ok (.iload_n 3, 1) := by decide +kernel
theorem dL_law_331 : decode cL_law 331 = .ok (.iconst 2, 1) := by decide +kernel
theorem dL_law_332 : decode cL_law 332 = .ok (.iadd, 1) := by decide +kernel
theorem dL_law_333 : decode cL_law 333 = .ok (.iaload, 1) := by decide +kernel
theorem dL_law_334 : decode cL_law 334 = .ok (.aload_n 0, 1) := by decide +kernel
theorem dL_law_335 : decode cL_law 335 = .ok (.iload_n 3, 1) := by decide +kernel
theorem dL_law_336 : decode cL_law 336 = .ok (.iconst 3, 1) := by decide +kernel
theorem dL_law_337 : decode cL_law 337 = .ok (.iadd, 1) := by decide +kernel
theorem dL_law_338 : decode cL_law 338 = .ok (.iaload, 1) := by decide +kernel
theorem dL_law_339 : decode cL_law 339 = .ok (.invokevirtual 45, 3) := by decide +kernel
theorem dL_law_342 : decode cL_law 342 = .ok (.aload_n 2, 1) := by decide +kernel
theorem dL_law_343 : decode cL_law 343 = .ok (.aload_n 0, 1) := by decide +kernel
theorem dL_law_344 : decode cL_law 344 = .ok (.iload_n 3, 1) := by decide +kernel
theorem dL_law_345 : decode cL_law 345 = .ok (.iconst 1, 1) := by decide +kernel
theorem dL_law_346 : decode cL_law 346 = .ok (.iadd, 1) := by decide +kernel
theorem dL_law_347 : decode cL_law 347 = .ok (.iaload, 1) := by decide +kernel
theorem dL_law_348 : decode cL_law 348 = .ok (.aload_n 0, 1) := by decide +kernel
theorem dL_law_349 : decode cL_law 349 = .ok (.iload_n 3, 1) := by decide +kernel
theorem dL_law_350 : decode cL_law 350 = .ok (.iconst 2, 1) := by decide +kernel
theorem dL_law_351 : decode cL_law 351 = .ok (.iadd, 1) := by decide +kernel
theorem dL_law_352 : decode cL_law 352 = .ok (.iaload, 1) := by decide +kernel
theorem dL_law_353 : decode cL_law 353 = .ok (.aload_n 0, 1) := by decide +kernel
theorem dL_law_354 : decode cL_law 354 = .ok (.iload_n 3, 1) := by decide +kernel
theorem dL_law_355 : decode cL_law 355 = .ok (.iconst 3, 1) := by decide +kernel
theorem dL_law_356 : decode cL_law 356 = .ok (.iadd, 1) := by decide +kernel
theorem dL_law_357 : decode cL_law 357 = .ok (.iaload, 1) := by decide +kernel
theorem dL_law_358 : decode cL_law 358 = .ok (.invokevirtual 48, 3) := by decide +kernel
theorem dL_law_361 : decode cL_law 361 = .ok (.if_icmp .eq 489, 3) := by decide +kernel
theorem dL_law_364 : decode cL_law 364 = .ok (.iconst 0, 1) := by decide +kernel
theorem dL_law_365 : decode cL_law 365 = .ok (.ireturn, 1) := by decide +kernel
theorem dL_law_366 : decode cL_law 366 = .ok (.aload_n 1, 1) := by decide +kernel
theorem dL_law_367 : decode cL_law 367 = .ok (.invokevirtual 49, 3) := by decide +kernel
theorem dL_law_370 : decode cL_law 370 = .ok (.aload_n 2, 1) := by decide +kernel
theorem dL_law_371 : decode cL_law 371 = .ok (.invokevirtual 52, 3) := by decide +kernel
theorem dL_law_374 : decode cL_law 374 = .ok (.if_icmp .eq 476, 3) := by decide +kernel
theorem dL_law_377 : decode cL_law 377 = .ok (.iconst 0, 1) := by decide +kernel
theorem dL_law_378 : decode cL_law 378 = .ok (.ireturn, 1) := by decide +kernel
theorem dL_law_379 : decode cL_law 379 = .ok (.aload_n 1, 1) := by decide +kernel
theorem dL_law_380 : decode cL_law 380 = .ok (.aload_n 0, 1) := by decide +kernel
theorem dL_law_381 : decode cL_law 381 = .ok (.iload_n 3, 1) := by decide +kernel
theorem dL_law_382 : decode cL_law 382 = .ok (.iconst 1, 1) := by decide +kernel
theorem dL_law_383 : decode cL_law 383 = .ok (.iadd, 1) := by decide +kernel
theorem dL_law_384 : decode cL_law 384 = .ok (.iaload, 1) := by decide +kernel
theorem dL_law_385 : decode cL_law 385 = .ok (.aload_n 0, 1) := by decide +kernel
theorem dL_law_386 : decode cL_law 386 = .ok (.iload_n 3, 1) := by decide +kernel
theorem dL_law_387 : decode cL_law 387 = .ok (.iconst 2, 1) := by decide +kernel
theorem dL_law_388 : decode cL_law 388 = .ok (.iadd, 1) := by decide +kernel
theorem dL_law_389 : decode cL_law 389 = .ok (.iaload, 1) := by decide +kernel
theorem dL_law_390 : decode cL_law 390 = .ok (.aload_n 0, 1) := by decide +kernel
theorem dL_law_391 : decode cL_law 391 = .ok (.iload_n 3, 1) := by decide +kernel
theorem dL_law_392 : decode cL_law 392 = .ok (.iconst 3, 1) := by decide +kernel
theorem dL_law_393 : decode cL_law 393 = .ok (.iadd, 1) := by decide +kernel
theorem dL_law_394 : decode cL_law 394 = .ok (.iaload, 1) := by decide +kernel
theorem dL_law_395 : decode cL_law 395 = .ok (.invokevirtual 53, 3) := by decide +kernel
theorem dL_law_398 : decode cL_law 398 = .ok (.aload_n 2, 1) := by decide +kernel
theorem dL_law_399 : decode cL_law 399 = .ok (.aload_n 0, 1) := by decide +kernel
theorem dL_law_400 : decode cL_law 400 = .ok (.iload_n 3, 1) := by decide +kernel
theorem dL_law_401 : decode cL_law 401 = .ok (.iconst 1, 1) := by decide +kernel
theorem dL_law_402 : decode cL_law 402 = .ok (.iadd, 1) := by decide +kernel
theorem dL_law_403 : decode cL_law 403 = .ok (.iaload, 1) := by decide +kernel
theorem dL_law_404 : decode cL_law 404 = .ok (.aload_n 0, 1) := by decide +kernel
theorem dL_law_405 : decode cL_law 405 = .ok (.iload_n 3, 1) := by decide +kernel
theorem dL_law_406 : decode cL_law 406 = .ok (.iconst 2, 1) := by decide +kernel
theorem dL_law_407 : decode cL_law 407 = .ok (.iadd, 1) := by decide +kernel
theorem dL_law_408 : decode cL_law 408 = .ok (.iaload, 1) := by decide +kernel
theorem dL_law_409 : decode cL_law 409 = .ok (.aload_n 0, 1) := by decide +kernel
theorem dL_law_410 : decode cL_law 410 = .ok (.iload_n 3, 1) := by decide +kernel
theorem dL_law_411 : decode cL_law 411 = .ok (.iconst 3, 1) := by decide +kernel
theorem dL_law_412 : decode cL_law 412 = .ok (.iadd, 1) := by decide +kernel
theorem dL_law_413 : decode cL_law 413 = .ok (.iaload, 1) := by decide +kernel
theorem dL_law_414 : decode cL_law 414 = .ok (.invokevirtual 56, 3) := by decide +kernel
theorem dL_law_417 : decode cL_law 417 = .ok (.if_icmp .eq 433, 3) := by decide +kernel
theorem dL_law_420 : decode cL_law 420 = .ok (.iconst 0, 1) := by decide +kernel
theorem dL_law_421 : decode cL_law 421 = .ok (.ireturn, 1) := by decide +kernel
theorem dL_law_422 : decode cL_law 422 = .ok (.aload_n 1, 1) := by decide +kernel
theorem dL_law_423 : decode cL_law 423 = .ok (.invokevirtual 57, 3) := by decide +kernel
theorem dL_law_426 : decode cL_law 426 = .ok (.aload_n 2, 1) := by decide +kernel
theorem dL_law_427 : decode cL_law 427 = .ok (.invokevirtual 60, 3) := by decide +kernel
theorem dL_law_430 : decode cL_law 430 = .ok (.if_icmp .eq 420, 3) := by decide +kernel
theorem dL_law_433 : decode cL_law 433 = .ok (.iconst 0, 1) := by decide +kernel
theorem dL_law_434 : decode cL_law 434 = .ok (.ireturn, 1) := by decide +kernel
theorem dL_law_435 : decode cL_law 435 = .ok (.aload_n 1, 1) := by decide +kernel
theorem dL_law_436 : decode cL_law 436 = .ok (.aload_n 0, 1) := by decide +kernel
theorem dL_law_437 : decode cL_law 437 = .ok (.iload_n 3, 1) := by decide +kernel
theorem dL_law_438 : decode cL_law 438 = .ok (.iconst 1, 1) := by decide +kernel
theorem dL_law_439 : decode cL_law 439 = .ok (.iadd, 1) := by decide +kernel
theorem dL_law_440 : decode cL_law 440 = .ok (.iaload, 1) := by decide +kernel
theorem dL_law_441 : decode cL_law 441 = .ok (.aload_n 0, 1) := by decide +kernel
theorem dL_law_442 : decode cL_law 442 = .ok (.iload_n 3, 1) := by decide +kernel
theorem dL_law_443 : decode cL_law 443 = .ok (.iconst 2, 1) := by decide +kernel
theorem dL_law_444 : decode cL_law 444 = .ok (.iadd, 1) := by decide +kernel
theorem dL_law_445 : decode cL_law 445 = .ok (.iaload, 1) := by decide +kernel
theorem dL_law_446 : decode cL_law 446 = .ok (.invokevirtual 61, 3) := by decide +kernel
theorem dL_law_449 : decode cL_law 449 = .ok (.aload_n 2, 1) := by decide +kernel
theorem dL_law_450 : decode cL_law 450 = .ok (.aload_n 0, 1) := by decide +kernel
theorem dL_law_451 : decode cL_law 451 = .ok (.iload_n 3, 1) := by decide +kernel
theorem dL_law_452 : decode cL_law 452 = .ok (.iconst 1, 1) := by decide +kernel
theorem dL_law_453 : decode cL_law 453 = .ok (.iadd, 1) := by decide +kernel
theorem dL_law_454 : decode cL_law 454 = .ok (.iaload, 1) := by decide +kernel
theorem dL_law_455 : decode cL_law 455 = .ok (.aload_n 0, 1) := by decide +kernel
theorem dL_law_456 : decode cL_law 456 = .ok (.iload_n 3, 1) := by decide +kernel
theorem dL_law_457 : decode cL_law 457 = .ok (.iconst 2, 1) := by decide +kernel
theorem dL_law_458 : decode cL_law 458 = .ok (.iadd, 1) := by decide +kernel
theorem dL_law_459 : decode cL_law 459 = .ok (.iaload, 1) := by decide +kernel
theorem dL_law_460 : decode cL_law 460 = .ok (.invokevirtual 64, 3) := by decide +kernel
theorem dL_law_463 : decode cL_law 463 = .ok (.if_icmp .eq 387, 3) := by decide +kernel
theorem dL_law_466 : decode cL_law 466 = .ok (.iconst 0, 1) := by decide +kernel
theorem dL_law_467 : decode cL_law 467 = .ok (.ireturn, 1) := by decide +kernel
theorem dL_law_468 : decode cL_law 468 = .ok (.aload_n 1, 1) := by decide +kernel
theorem dL_law_469 : decode cL_law 469 = .ok (.aload_n 0, 1) := by decide +kernel
theorem dL_law_470 : decode cL_law 470 = .ok (.iload_n 3, 1) := by decide +kernel
theorem dL_law_471 : decode cL_law 471 = .ok (.iconst 1, 1) := by decide +kernel
theorem dL_law_472 : decode cL_law 472 = .ok (.iadd, 1) := by decide +kernel
theorem dL_law_473 : decode cL_law 473 = .ok (.iaload, 1) := by decide +kernel
theorem dL_law_474 : decode cL_law 474 = .ok (.invokevirtual 65, 3) := by decide +kernel
theorem dL_law_477 : decode cL_law 477 = .ok (.aload_n 2, 1) := by decide +kernel
theorem dL_law_478 : decode cL_law 478 = .ok (.aload_n 0, 1) := by decide +kernel
theorem dL_law_479 : decode cL_law 479 = .ok (.iload_n 3, 1) := by decide +kernel
theorem dL_law_480 : decode cL_law 480 = .ok (.iconst 1, 1) := by decide +kernel
theorem dL_law_481 : decode cL_law 481 = .ok (.iadd, 1) := by decide +kernel
theorem dL_law_482 : decode cL_law 482 = .ok (.iaload, 1) := by decide +kernel
theorem dL_law_483 : decode cL_law 483 = .ok (.invokevirtual 68, 3) := by decide +kernel
theorem dL_law_486 : decode cL_law 486 = .ok (.if_icmp .eq 364, 3) := by decide +kernel
theorem dL_law_489 : decode cL_law 489 = .ok (.iconst 0, 1) := by decide +kernel
theorem dL_law_490 : decode cL_law 490 = .ok (.ireturn, 1) := by decide +kernel
theorem dL_law_491 : decode cL_law 491 = .ok (.aload_n 1, 1) := by decide +kernel
theorem dL_law_492 : decode cL_law 492 = .ok (.invokevirtual 69, 3) := by decide +kernel
theorem dL_law_495 : decode cL_law 495 = .ok (.aload_n 2, 1) := by decide +kernel
theorem dL_law_496 : decode cL_law 496 = .ok (.invokevirtual 72, 3) := by decide +kernel
theorem dL_law_499 : decode cL_law 499 = .ok (.if_icmp .eq 351, 3) := by decide +kernel
theorem dL_law_502 : decode cL_law 502 = .ok (.iconst 0, 1) := by decide +kernel
theorem dL_law_503 : decode cL_law 503 = .ok (.ireturn, 1) := by decide +kernel
theorem dL_law_504 : decode cL_law 504 = .ok (.aload_n 1, 1) := by decide +kernel
theorem dL_law_505 : decode cL_law 505 = .ok (.aload_n 0, 1) := by decide +kernel
theorem dL_law_506 : decode cL_law 506 = .ok (.iload_n 3, 1) := by decide +kernel
theorem dL_law_507 : decode cL_law 507 = .ok (.iconst 1, 1) := by decide +kernel
theorem dL_law_508 : decode cL_law 508 = .ok (.iadd, 1) := by decide +kernel
theorem dL_law_509 : decode cL_law 509 = .ok (.iaload, 1) := by decide +kernel
theorem dL_law_510 : decode cL_law 510 = .ok (.aload_n 0, 1) := by decide +kernel
theorem dL_law_511 : decode cL_law 511 = .ok (.iload_n 3, 1) := by decide +kernel
theorem dL_law_512 : decode cL_law 512 = .ok (.iconst 2, 1) := by decide +kernel
theorem dL_law_513 : decode cL_law 513 = .ok (.iadd, 1) := by decide +kernel
theorem dL_law_514 : decode cL_law 514 = .ok (.iaload, 1) := by decide +kernel
theorem dL_law_515 : decode cL_law 515 = .ok (.aload_n 0, 1) := by decide +kernel
theorem dL_law_516 : decode cL_law 516 = .ok (.iload_n 3, 1) := by decide +kernel
theorem dL_law_517 : decode cL_law 517 = .ok (.iconst 3, 1) := by decide +kernel
theorem dL_law_518 : decode cL_law 518 = .ok (.iadd, 1) := by decide +kernel
theorem dL_law_519 : decode cL_law 519 = .ok (.iaload, 1) := by decide +kernel
theorem dL_law_520 : decode cL_law 520 = .ok (.invokevirtual 73, 3) := by decide +kernel
theorem dL_law_523 : decode cL_law 523 = .ok (.aload_n 2, 1) := by decide +kernel
theorem dL_law_524 : decode cL_law 524 = .ok (.aload_n 0, 1) := by decide +kernel
theorem dL_law_525 : decode cL_law 525 = .ok (.iload_n 3, 1) := by decide +kernel
theorem dL_law_526 : decode cL_law 526 = .ok (.iconst 1, 1) := by decide +kernel
theorem dL_law_527 : decode cL_law 527 = .ok (.iadd, 1) := by decide +kernel
theorem dL_law_528 : decode cL_law 528 = .ok (.iaload, 1) := by decide +kernel
theorem dL_law_529 : decode cL_law 529 = .ok (.aload_n 0, 1) := by decide +kernel
theorem dL_law_530 : decode cL_law 530 = .ok (.iload_n 3, 1) := by decide +kernel
theorem dL_law_531 : decode cL_law 531 = .ok (.iconst 2, 1) := by decide +kernel
theorem dL_law_532 : decode cL_law 532 = .ok (.iadd, 1) := by decide +kernel
theorem dL_law_533 : decode cL_law 533 = .ok (.iaload, 1) := by decide +kernel
theorem dL_law_534 : decode cL_law 534 = .ok (.aload_n 0, 1) := by decide +kernel
theorem dL_law_535 : decode cL_law 535 = .ok (.iload_n 3, 1) := by decide +kernel
theorem dL_law_536 : decode cL_law 536 = .ok (.iconst 3, 1) := by decide +kernel
theorem dL_law_537 : decode cL_law 537 = .ok (.iadd, 1) := by decide +kernel
theorem dL_law_538 : decode cL_law 538 = .ok (.iaload, 1) := by decide +kernel
theorem dL_law_539 : decode cL_law 539 = .ok (.invokevirtual 76, 3) := by decide +kernel
theorem dL_law_542 : decode cL_law 542 = .ok (.if_icmp .eq 308, 3) := by decide +kernel
theorem dL_law_545 : decode cL_law 545 = .ok (.iconst 0, 1) := by decide +kernel
theorem dL_law_546 : decode cL_law 546 = .ok (.ireturn, 1) := by decide +kernel
theorem dL_law_547 : decode cL_law 547 = .ok (.aload_n 1, 1) := by decide +kernel
theorem dL_law_548 : decode cL_law 548 = .ok (.aload_n 0, 1) := by decide +kernel
theorem dL_law_549 : decode cL_law 549 = .ok (.iload_n 3, 1) := by decide +kernel
theorem dL_law_550 : decode cL_law 550 = .ok (.iconst 1, 1) := by decide +kernel
theorem dL_law_551 : decode cL_law 551 = .ok (.iadd, 1) := by decide +kernel
theorem dL_law_552 : decode cL_law 552 = .ok (.iaload, 1) := by decide +kernel
theorem dL_law_553 : decode cL_law 553 = .ok (.aload_n 0, 1) := by decide +kernel
theorem dL_law_554 : decode cL_law 554 = .ok (.iload_n 3, 1) := by decide +kernel
theorem dL_law_555 : decode cL_law 555 = .ok (.iconst 2, 1) := by decide +kernel
theorem dL_law_556 : decode cL_law 556 = .ok (.iadd, 1) := by decide +kernel
theorem dL_law_557 : decode cL_law 557 = .ok (.iaload, 1) := by decide +kernel
theorem dL_law_558 : decode cL_law 558 = .ok (.invokevirtual 77, 3) := by decide +kernel
theorem dL_law_561 : decode cL_law 561 = .ok (.aload_n 2, 1) := by decide +kernel
theorem dL_law_562 : decode cL_law 562 = .ok (.aload_n 0, 1) := by decide +kernel
theorem dL_law_563 : decode cL_law 563 = .ok (.iload_n 3, 1) := by decide +kernel
theorem dL_law_564 : decode cL_law 564 = .ok (.iconst 1, 1) := by decide +kernel
theorem dL_law_565 : decode cL_law 565 = .ok (.iadd, 1) := by decide +kernel
theorem dL_law_566 : decode cL_law 566 = .ok (.iaload, 1) := by decide +kernel
theorem dL_law_567 : decode cL_law 567 = .ok (.aload_n 0, 1) := by decide +kernel
theorem dL_law_568 : decode cL_law 568 = .ok (.iload_n 3, 1) := by decide +kernel
theorem dL_law_569 : decode cL_law 569 = .ok (.iconst 2, 1) := by decide +kernel
theorem dL_law_570 : decode cL_law 570 = .ok (.iadd, 1) := by decide +kernel
theorem dL_law_571 : decode cL_law 571 = .ok (.iaload, 1) := by decide +kernel
theorem dL_law_572 : decode cL_law 572 = .ok (.invokevirtual 80, 3) := by decide +kernel
theorem dL_law_575 : decode cL_law 575 = .ok (.if_icmp .eq 275, 3) := by decide +kernel
theorem dL_law_578 : decode cL_law 578 = .ok (.iconst 0, 1) := by decide +kernel
theorem dL_law_579 : decode cL_law 579 = .ok (.ireturn, 1) := by decide +kernel
theorem dL_law_580 : decode cL_law 580 = .ok (.aload_n 1, 1) := by decide +kernel
theorem dL_law_581 : decode cL_law 581 = .ok (.aload_n 0, 1) := by decide +kernel
theorem dL_law_582 : decode cL_law 582 = .ok (.iload_n 3, 1) := by decide +kernel
theorem dL_law_583 : decode cL_law 583 = .ok (.iconst 1, 1) := by decide +kernel
theorem dL_law_584 : decode cL_law 584 = .ok (.iadd, 1) := by decide +kernel
theorem dL_law_585 : decode cL_law 585 = .ok (.iaload, 1) := by decide +kernel
theorem dL_law_586 : decode cL_law 586 = .ok (.invokevirtual 81, 3) := by decide +kernel
theorem dL_law_589 : decode cL_law 589 = .ok (.aload_n 2, 1) := by decide +kernel
theorem dL_law_590 : decode cL_law 590 = .ok (.aload_n 0, 1) := by decide +kernel
theorem dL_law_591 : decode cL_law 591 = .ok (.iload_n 3, 1) := by decide +kernel
theorem dL_law_592 : decode cL_law 592 = .ok (.iconst 1, 1) := by decide +kernel
theorem dL_law_593 : decode cL_law 593 = .ok (.iadd, 1) := by decide +kernel
theorem dL_law_594 : decode cL_law 594 = .ok (.iaload, 1) := by decide +kernel
theorem dL_law_595 : decode cL_law 595 = .ok (.invokevirtual 84, 3) := by decide +kernel
theorem dL_law_598 : decode cL_law 598 = .ok (.if_icmp .eq 252, 3) := by decide +kernel
theorem dL_law_601 : decode cL_law 601 = .ok (.iconst 0, 1) := by decide +kernel
theorem dL_law_602 : decode cL_law 602 = .ok (.ireturn, 1) := by decide +kernel
theorem dL_law_603 : decode cL_law 603 = .ok (.aload_n 1, 1) := by decide +kernel
theorem dL_law_604 : decode cL_law 604 = .ok (.aload_n 0, 1) := by decide +kernel
theorem dL_law_605 : decode cL_law 605 = .ok (.iload_n 3, 1) := by decide +kernel
theorem dL_law_606 : decode cL_law 606 = .ok (.iconst 1, 1) := by decide +kernel
theorem dL_law_607 : decode cL_law 607 = .ok (.iadd, 1) := by decide +kernel
theorem dL_law_608 : decode cL_law 608 = .ok (.iaload, 1) := by decide +kernel
theorem dL_law_609 : decode cL_law 609 = .ok (.aload_n 0, 1) := by decide +kernel
theorem dL_law_610 : decode cL_law 610 = .ok (.iload_n 3, 1) := by decide +kernel
theorem dL_law_611 : decode cL_law 611 = .ok (.iconst 2, 1) := by decide +kernel
theorem dL_law_612 : decode cL_law 612 = .ok (.iadd, 1) := by decide +kernel
theorem dL_law_613 : decode cL_law 613 = .ok (.iaload, 1) := by decide +kernel
theorem dL_law_614 : decode cL_law 614 = .ok (.aload_n 0, 1) := by decide +kernel
theorem dL_law_615 : decode cL_law 615 = .ok (.iload_n 3, 1) := by decide +kernel
theorem dL_law_616 : decode cL_law 616 = .ok (.iconst 3, 1) := by decide +kernel
theorem dL_law_617 : decode cL_law 617 = .ok (.iadd, 1) := by decide +kernel
theorem dL_law_618 : decode cL_law 618 = .ok (.iaload, 1) := by decide +kernel
theorem dL_law_619 : decode cL_law 619 = .ok (.invokevirtual 85, 3) := by decide +kernel
theorem dL_law_622 : decode cL_law 622 = .ok (.aload_n 2, 1) := by decide +kernel
theorem dL_law_623 : decode cL_law 623 = .ok (.aload_n 0, 1) := by decide +kernel
theorem dL_law_624 : decode cL_law 624 = .ok (.iload_n 3, 1) := by decide +kernel
theorem dL_law_625 : decode cL_law 625 = .ok (.iconst 1, 1) := by decide +kernel
theorem dL_law_626 : decode cL_law 626 = .ok (.iadd, 1) := by decide +kernel
theorem dL_law_627 : decode cL_law 627 = .ok (.iaload, 1) := by decide +kernel
theorem dL_law_628 : decode cL_law 628 = .ok (.aload_n 0, 1) := by decide +kernel
theorem dL_law_629 : decode cL_law 629 = .ok (.iload_n 3, 1) := by decide +kernel
theorem dL_law_630 : decode cL_law 630 = .ok (.iconst 2, 1) := by decide +kernel
theorem dL_law_631 : decode cL_law 631 = .ok (.iadd, 1) := by decide +kernel
theorem dL_law_632 : decode cL_law 632 = .ok (.iaload, 1) := by decide +kernel
theorem dL_law_633 : decode cL_law 633 = .ok (.aload_n 0, 1) := by decide +kernel
theorem dL_law_634 : decode cL_law 634 = .ok (.iload_n 3, 1) := by decide +kernel
theorem dL_law_635 : decode cL_law 635 = .ok (.iconst 3, 1) := by decide +kernel
theorem dL_law_636 : decode cL_law 636 = .ok (.iadd, 1) := by decide +kernel
theorem dL_law_637 : decode cL_law 637 = .ok (.iaload, 1) := by decide +kernel
theorem dL_law_638 : decode cL_law 638 = .ok (.invokevirtual 88, 3) := by decide +kernel
theorem dL_law_641 : decode cL_law 641 = .ok (.if_icmp .eq 209, 3) := by decide +kernel
theorem dL_law_644 : decode cL_law 644 = .ok (.iconst 0, 1) := by decide +kernel
theorem dL_law_645 : decode cL_law 645 = .ok (.ireturn, 1) := by decide +kernel
theorem dL_law_646 : decode cL_law 646 = .ok (.aload_n 1, 1) := by decide +kernel
theorem dL_law_647 : decode cL_law 647 = .ok (.invokevirtual 89, 3) := by decide +kernel
theorem dL_law_650 : decode cL_law 650 = .ok (.aload_n 2, 1) := by decide +kernel
theorem dL_law_651 : decode cL_law 651 = .ok (.invokevirtual 92, 3) := by decide +kernel
theorem dL_law_654 : decode cL_law 654 = .ok (.if_icmp .eq 196, 3) := by decide +kernel
theorem dL_law_657 : decode cL_law 657 = .ok (.iconst 0, 1) := by decide +kernel
theorem dL_law_658 : decode cL_law 658 = .ok (.ireturn, 1) := by decide +kernel
theorem dL_law_659 : decode cL_law 659 = .ok (.aload_n 1, 1) := by decide +kernel
theorem dL_law_660 : decode cL_law 660 = .ok (.aload_n 0, 1) := by decide +kernel
theorem dL_law_661 : decode cL_law 661 = .ok (.iload_n 3, 1) := by decide +kernel
theorem dL_law_662 : decode cL_law 662 = .ok (.iconst 1, 1) := by decide +kernel
theorem dL_law_663 : decode cL_law 663 = .ok (.iadd, 1) := by decide +kernel
theorem dL_law_664 : decode cL_law 664 = .ok (.iaload, 1) := by decide +kernel
theorem dL_law_665 : decode cL_law 665 = .ok (.invokevirtual 93, 3) := by decide +kernel
theorem dL_law_668 : decode cL_law 668 = .ok (.aload_n 2, 1) := by decide +kernel
theorem dL_law_669 : decode cL_law 669 = .ok (.aload_n 0, 1) := by decide +kernel
theorem dL_law_670 : decode cL_law 670 = .ok (.iload_n 3, 1) := by decide +kernel
theorem dL_law_671 : decode cL_law 671 = .ok (.iconst 1, 1) := by decide +kernel
theorem dL_law_672 : decode cL_law 672 = .ok (.iadd, 1) := by decide +kernel
theorem dL_law_673 : decode cL_law 673 = .ok (.iaload, 1) := by decide +kernel
theorem dL_law_674 : decode cL_law 674 = .ok (.invokevirtual 96, 3) := by decide +kernel
theorem dL_law_677 : decode cL_law 677 = .ok (.if_icmp .eq 173, 3) := by decide +kernel
theorem dL_law_680 : decode cL_law 680 = .ok (.iconst 0, 1) := by decide +kernel
theorem dL_law_681 : decode cL_law 681 = .ok (.ireturn, 1) := by decide +kernel
theorem dL_law_682 : decode cL_law 682 = .ok (.aload_n 1, 1) := by decide +kernel
theorem dL_law_683 : decode cL_law 683 = .ok (.aload_n 0, 1) := by decide +kernel
theorem dL_law_684 : decode cL_law 684 = .ok (.iload_n 3, 1) := by decide +kernel
theorem dL_law_685 : decode cL_law 685 = .ok (.iconst 1, 1) := by decide +kernel
theorem dL_law_686 : decode cL_law 686 = .ok (.iadd, 1) := by decide +kernel
theorem dL_law_687 : decode cL_law 687 = .ok (.iaload, 1) := by decide +kernel
theorem dL_law_688 : decode cL_law 688 = .ok (.aload_n 0, 1) := by decide +kernel
theorem dL_law_689 : decode cL_law 689 = .ok (.iload_n 3, 1) := by decide +kernel
theorem dL_law_690 : decode cL_law 690 = .ok (.iconst 2, 1) := by decide +kernel
theorem dL_law_691 : decode cL_law 691 = .ok (.iadd, 1) := by decide +kernel
theorem dL_law_692 : decode cL_law 692 = .ok (.iaload, 1) := by decide +kernel
theorem dL_law_693 : decode cL_law 693 = .ok (.aload_n 0, 1) := by decide +kernel
theorem dL_law_694 : decode cL_law 694 = .ok (.iload_n 3, 1) := by decide +kernel
theorem dL_law_695 : decode cL_law 695 = .ok (.iconst 3, 1) := by decide +kernel
theorem dL_law_696 : decode cL_law 696 = .ok (.iadd, 1) := by decide +kernel
theorem dL_law_697 : decode cL_law 697 = .ok (.iaload, 1) := by decide +kernel
theorem dL_law_698 : decode cL_law 698 = .ok (.invokevirtual 97, 3) := by decide +kernel
theorem dL_law_701 : decode cL_law 701 = .ok (.aload_n 2, 1) := by decide +kernel
theorem dL_law_702 : decode cL_law 702 = .ok (.aload_n 0, 1) := by decide +kernel
theorem dL_law_703 : decode cL_law 703 = .ok (.iload_n 3, 1) := by decide +kernel
end
section
theorem dL_law_704 : decode cL_law 704 = .ok (.iconst 1, 1) := by decide +kernel
theorem dL_law_705 : decode cL_law 705 = .ok (.iadd, 1) := by decide +kernel
theorem dL_law_706 : decode cL_law 706 = .ok (.iaload, 1) := by decide +kernel
theorem dL_law_707 : decode cL_law 707 = .ok (.aload_n 0, 1) := by decide +kernel
theorem dL_law_708 : decode cL_law 708 = .ok (.iload_n 3, 1) := by decide +kernel
theorem dL_law_709 : decode cL_law 709 = .ok (.iconst 2, 1) := by decide +kernel
theorem dL_law_710 : decode cL_law 710 = .ok (.iadd, 1) := by decide +kernel
theorem dL_law_711 : decode cL_law 711 = .ok (.iaload, 1) := by decide +kernel
theorem dL_law_712 : decode cL_law 712 = .ok (.aload_n 0, 1) := by decide +kernel
theorem dL_law_713 : decode cL_law 713 = .ok (.iload_n 3, 1) := by decide +kernel
theorem dL_law_714 : decode cL_law 714 = .ok (.iconst 3, 1) := by decide +kernel
theorem dL_law_715 : decode cL_law 715 = .ok (.iadd, 1) := by decide +kernel
theorem dL_law_716 : decode cL_law 716 = .ok (.iaload, 1) := by decide +kernel
theorem dL_law_717 : decode cL_law 717 = .ok (.invokevirtual 100, 3) := by decide +kernel
theorem dL_law_720 : decode cL_law 720 = .ok (.if_icmp .eq 130, 3) := by decide +kernel
theorem dL_law_723 : decode cL_law 723 = .ok (.iconst 0, 1) := by decide +kernel
theorem dL_law_724 : decode cL_law 724 = .ok (.ireturn, 1) := by decide +kernel
theorem dL_law_725 : decode cL_law 725 = .ok (.aload_n 1, 1) := by decide +kernel
theorem dL_law_726 : decode cL_law 726 = .ok (.aload_n 0, 1) := by decide +kernel
theorem dL_law_727 : decode cL_law 727 = .ok (.iload_n 3, 1) := by decide +kernel
theorem dL_law_728 : decode cL_law 728 = .ok (.iconst 1, 1) := by decide +kernel
theorem dL_law_729 : decode cL_law 729 = .ok (.iadd, 1) := by decide +kernel
theorem dL_law_730 : decode cL_law 730 = .ok (.iaload, 1) := by decide +kernel
theorem dL_law_731 : decode cL_law 731 = .ok (.aload_n 0, 1) := by decide +kernel
theorem dL_law_732 : decode cL_law 732 = .ok (.iload_n 3, 1) := by decide +kernel
theorem dL_law_733 : decode cL_law 733 = .ok (.iconst 2, 1) := by decide +kernel
theorem dL_law_734 : decode cL_law 734 = .ok (.iadd, 1) := by decide +kernel
theorem dL_law_735 : decode cL_law 735 = .ok (.iaload, 1) := by decide +kernel
theorem dL_law_736 : decode cL_law 736 = .ok (.invokevirtual 101, 3) := by decide +kernel
theorem dL_law_739 : decode cL_law 739 = .ok (.aload_n 2, 1) := by decide +kernel
theorem dL_law_740 : decode cL_law 740 = .ok (.aload_n 0, 1) := by decide +kernel
theorem dL_law_741 : decode cL_law 741 = .ok (.iload_n 3, 1) := by decide +kernel
theorem dL_law_742 : decode cL_law 742 = .ok (.iconst 1, 1) := by decide +kernel
theorem dL_law_743 : decode cL_law 743 = .ok (.iadd, 1) := by decide +kernel
theorem dL_law_744 : decode cL_law 744 = .ok (.iaload, 1) := by decide +kernel
theorem dL_law_745 : decode cL_law 745 = .ok (.aload_n 0, 1) := by decide +kernel
theorem dL_law_746 : decode cL_law 746 = .ok (.iload_n 3, 1) := by decide +kernel
theorem dL_law_747 : decode cL_law 747 = .ok (.iconst 2, 1) := by decide +kernel
theorem dL_law_748 : decode cL_law 748 = .ok (.iadd, 1) := by decide +kernel
theorem dL_law_749 : decode cL_law 749 = .ok (.iaload, 1) := by decide +kernel
theorem dL_law_750 : decode cL_law 750 = .ok (.invokevirtual 104, 3) := by decide +kernel
theorem dL_law_753 : decode cL_law 753 = .ok (.if_icmp .eq 97, 3) := by decide +kernel
theorem dL_law_756 : decode cL_law 756 = .ok (.iconst 0, 1) := by decide +kernel
theorem dL_law_757 : decode cL_law 757 = .ok (.ireturn, 1) := by decide +kernel
theorem dL_law_758 : decode cL_law 758 = .ok (.aload_n 1, 1) := by decide +kernel
theorem dL_law_759 : decode cL_law 759 = .ok (.aload_n 0, 1) := by decide +kernel
theorem dL_law_760 : decode cL_law 760 = .ok (.iload_n 3, 1) := by decide +kernel
theorem dL_law_761 : decode cL_law 761 = .ok (.iconst 1, 1) := by decide +kernel
theorem dL_law_762 : decode cL_law 762 = .ok (.iadd, 1) := by decide +kernel
theorem dL_law_763 : decode cL_law 763 = .ok (.iaload, 1) := by decide +kernel
theorem dL_law_764 : decode cL_law 764 = .ok (.aload_n 0, 1) := by decide +kernel
theorem dL_law_765 : decode cL_law 765 = .ok (.iload_n 3, 1) := by decide +kernel
theorem dL_law_766 : decode cL_law 766 = .ok (.iconst 2, 1) := by decide +kernel
theorem dL_law_767 : decode cL_law 767 = .ok (.iadd, 1) := by decide +kernel
theorem dL_law_768 : decode cL_law 768 = .ok (.iaload, 1) := by decide +kernel
theorem dL_law_769 : decode cL_law 769 = .ok (.aload_n 0, 1) := by decide +kernel
theorem dL_law_770 : decode cL_law 770 = .ok (.iload_n 3, 1) := by decide +kernel
theorem dL_law_771 : decode cL_law 771 = .ok (.iconst 3, 1) := by decide +kernel
theorem dL_law_772 : decode cL_law 772 = .ok (.iadd, 1) := by decide +kernel
theorem dL_law_773 : decode cL_law 773 = .ok (.iaload, 1) := by decide +kernel
theorem dL_law_774 : decode cL_law 774 = .ok (.invokevirtual 105, 3) := by decide +kernel
theorem dL_law_777 : decode cL_law 777 = .ok (.aload_n 2, 1) := by decide +kernel
theorem dL_law_778 : decode cL_law 778 = .ok (.aload_n 0, 1) := by decide +kernel
theorem dL_law_779 : decode cL_law 779 = .ok (.iload_n 3, 1) := by decide +kernel
theorem dL_law_780 : decode cL_law 780 = .ok (.iconst 1, 1) := by decide +kernel
theorem dL_law_781 : decode cL_law 781 = .ok (.iadd, 1) := by decide +kernel
theorem dL_law_782 : decode cL_law 782 = .ok (.iaload, 1) := by decide +kernel
theorem dL_law_783 : decode cL_law 783 = .ok (.aload_n 0, 1) := by decide +kernel
theorem dL_law_784 : decode cL_law 784 = .ok (.iload_n 3, 1) := by decide +kernel
theorem dL_law_785 : decode cL_law 785 = .ok (.iconst 2, 1) := by decide +kernel
theorem dL_law_786 : decode cL_law 786 = .ok (.iadd, 1) := by decide +kernel
theorem dL_law_787 : decode cL_law 787 = .ok (.iaload, 1) := by decide +kernel
theorem dL_law_788 : decode cL_law 788 = .ok (.aload_n 0, 1) := by decide +kernel
theorem dL_law_789 : decode cL_law 789 = .ok (.iload_n 3, 1) := by decide +kernel
theorem dL_law_790 : decode cL_law 790 = .ok (.iconst 3, 1) := by decide +kernel
theorem dL_law_791 : decode cL_law 791 = .ok (.iadd, 1) := by decide +kernel
theorem dL_law_792 : decode cL_law 792 = .ok (.iaload, 1) := by decide +kernel
theorem dL_law_793 : decode cL_law 793 = .ok (.invokevirtual 108, 3) := by decide +kernel
theorem dL_law_796 : decode cL_law 796 = .ok (.if_icmp .eq 54, 3) := by decide +kernel
theorem dL_law_799 : decode cL_law 799 = .ok (.iconst 0, 1) := by decide +kernel
theorem dL_law_800 : decode cL_law 800 = .ok (.ireturn, 1) := by decide +kernel
theorem dL_law_801 : decode cL_law 801 = .ok (.aload_n 1, 1) := by decide +kernel
theorem dL_law_802 : decode cL_law 802 = .ok (.invokevirtual 109, 3) := by decide +kernel
theorem dL_law_805 : decode cL_law 805 = .ok (.aload_n 2, 1) := by decide +kernel
theorem dL_law_806 : decode cL_law 806 = .ok (.invokevirtual 112, 3) := by decide +kernel
theorem dL_law_809 : decode cL_law 809 = .ok (.if_icmp .eq 41, 3) := by decide +kernel
theorem dL_law_812 : decode cL_law 812 = .ok (.iconst 0, 1) := by decide +kernel
theorem dL_law_813 : decode cL_law 813 = .ok (.ireturn, 1) := by decide +kernel
theorem dL_law_814 : decode cL_law 814 = .ok (.aload_n 1, 1) := by decide +kernel
theorem dL_law_815 : decode cL_law 815 = .ok (.invokevirtual 113, 3) := by decide +kernel
theorem dL_law_818 : decode cL_law 818 = .ok (.aload_n 2, 1) := by decide +kernel
theorem dL_law_819 : decode cL_law 819 = .ok (.invokevirtual 116, 3) := by decide +kernel
theorem dL_law_822 : decode cL_law 822 = .ok (.if_icmp .eq 28, 3) := by decide +kernel
theorem dL_law_825 : decode cL_law 825 = .ok (.iconst 0, 1) := by decide +kernel
theorem dL_law_826 : decode cL_law 826 = .ok (.ireturn, 1) := by decide +kernel
theorem dL_law_827 : decode cL_law 827 = .ok (.aload_n 1, 1) := by decide +kernel
theorem dL_law_828 : decode cL_law 828 = .ok (.aload_n 0, 1) := by decide +kernel
theorem dL_law_829 : decode cL_law 829 = .ok (.iload_n 3, 1) := by decide +kernel
theorem dL_law_830 : decode cL_law 830 = .ok (.iconst 1, 1) := by decide +kernel
theorem dL_law_831 : decode cL_law 831 = .ok (.iadd, 1) := by decide +kernel
theorem dL_law_832 : decode cL_law 832 = .ok (.iaload, 1) := by decide +kernel
theorem dL_law_833 : decode cL_law 833 = .ok (.invokevirtual 117, 3) := by decide +kernel
theorem dL_law_836 : decode cL_law 836 = .ok (.aload_n 2, 1) := by decide +kernel
theorem dL_law_837 : decode cL_law 837 = .ok (.aload_n 0, 1) := by decide +kernel
theorem dL_law_838 : decode cL_law 838 = .ok (.iload_n 3, 1) := by decide +kernel
theorem dL_law_839 : decode cL_law 839 = .ok (.iconst 1, 1) := by decide +kernel
theorem dL_law_840 : decode cL_law 840 = .ok (.iadd, 1) := by decide +kernel
theorem dL_law_841 : decode cL_law 841 = .ok (.iaload, 1) := by decide +kernel
theorem dL_law_842 : decode cL_law 842 = .ok (.invokevirtual 120, 3) := by decide +kernel
theorem dL_law_845 : decode cL_law 845 = .ok (.if_icmp .eq 5, 3) := by decide +kernel
theorem dL_law_848 : decode cL_law 848 = .ok (.iconst 0, 1) := by decide +kernel
theorem dL_law_849 : decode cL_law 849 = .ok (.ireturn, 1) := by decide +kernel
theorem dL_law_850 : decode cL_law 850 = .ok (.iinc 3 4, 3) := by decide +kernel
theorem dL_law_853 : decode cL_law 853 = .ok (.goto (-835), 3) := by decide +kernel
theorem dL_law_856 : decode cL_law 856 = .ok (.iconst 1, 1) := by decide +kernel
theorem dL_law_857 : decode cL_law 857 = .ok (.ireturn, 1) := by decide +kernel
end
