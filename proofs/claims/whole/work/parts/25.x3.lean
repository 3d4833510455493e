/-! A FAIR, as both sides hold it; the class's -/
def salesS (C : Nat → Nat → Nat) (Z : Nat → Nat → Int32) (P N : Nat) (n : Nat) (σ : S3) : Int32 × S3 := fo (fun t (x : Int32 × S3) => if x.2.2.1 t = -4 then (if (sellS C Z P N t x.2).1 = 0 then x.1 else x.1 + 1, (sellS C Z P N t x.2).2) else x) n (0, σ)
def earn (E x : Int32) : Int32 := if 999 < x + E then 999 else x + E
def payday (E : Int32) (n : Nat) (co : Nat → Int32) : Nat → Int32 := fo (fun i co => upd co i (earn E (co i))) n co
def holdS (T : TA) (K : Nat → Nat → Nat) (σ : S3) : Int32 × S3 := ((salesS (CT T K) (ZZ T K) (T 0 0) (T 1 0) (T 1 0) σ).1, (payday (nI (T 3 0)) (T 0 0) (salesS (CT T K) (ZZ T K) (T 0 0) (T 1 0) (T 1 0) σ).2.1, (salesS (CT T K) (ZZ T K) (T 0 0) (T 1 0) (T 1 0) σ).2.2.1, (salesS (CT T K) (ZZ T K) (T 0 0) (T 1 0) (T 1 0) σ).2.2.2))
section X3
variable {μ : Mem} {q : Nat} {y si : Int32} {co ow mi : Nat → Int32} {br sn cn pr : Nat → Nat → Int32} {T : TA} {K : Nat → Nat → Nat} {Y : Nat}
theorem x_fair (hq : q < 12) (hB : TB T) (hT : TX (μ 13) T) (hY : Y + 1 < 128) (hTT : TT T K br sn cn pr) (hK : KI T K Y) :
    ∃ br' sn' cn' pr', X1_holdFair q (MK μ q (nI Y) si co ow mi br sn cn pr) = some ((holdS T K (co, ow, mi)).1, MK μ q (nI (Y + 1)) si (holdS T K (co, ow, mi)).2.1 (holdS T K (co, ow, mi)).2.2.1 (holdS T K (co, ow, mi)).2.2.2 br' sn' cn' pr') ∧ TT T (tdK T si (Y + 1) K (T 2 0)) br' sn' cn' pr' ∧ KI T (tdK T si (Y + 1) K (T 2 0)) (Y + 1) := by
  obtain ⟨b0, b1, b2, b3, -, -, -, b8⟩ := id hB
  obtain ⟨t0, t1, t2, t3, -, -, -, t8⟩ := id hT
  have hTC := TT_TC hB hTT hK
  obtain ⟨br', sn', cn', pr', ht1, ht2, ht3⟩ := x_told (co := (holdS T K (co, ow, mi)).2.1) (ow := (holdS T K (co, ow, mi)).2.2.1) (mi := (holdS T K (co, ow, mi)).2.2.2) (si := si) hq hB hT hY hTT (KI_up (by omega) hK)
  refine ⟨br', sn', cn', pr', ?_, ht2, ht3⟩
  unfold X1_holdFair
  refine lo2_eq (T 1 0) (fun k => (salesS (CT T K) (ZZ T K) (T 0 0) (T 1 0) k (co, ow, mi)).1) (fun k => nI k) (fun k => MK μ q (nI Y) si (salesS (CT T K) (ZZ T K) (T 0 0) (T 1 0) k (co, ow, mi)).2.1 (salesS (CT T K) (ZZ T K) (T 0 0) (T 1 0) k (co, ow, mi)).2.2.1 (salesS (CT T K) (ZZ T K) (T 0 0) (T 1 0) k (co, ow, mi)).2.2.2 br sn cn pr) ?_ ?_ 1000 (by omega)
  · intro k hk Kc
    unfold X1_holdFair_b4 X1_holdFair_b34
    have hst : salesS (CT T K) (ZZ T K) (T 0 0) (T 1 0) (k + 1) (co, ow, mi) = if (salesS (CT T K) (ZZ T K) (T 0 0) (T 1 0) k (co, ow, mi)).2.2.1 k = -4 then (if (sellS (CT T K) (ZZ T K) (T 0 0) (T 1 0) k (salesS (CT T K) (ZZ T K) (T 0 0) (T 1 0) k (co, ow, mi)).2).1 = 0 then (salesS (CT T K) (ZZ T K) (T 0 0) (T 1 0) k (co, ow, mi)).1 else (salesS (CT T K) (ZZ T K) (T 0 0) (T 1 0) k (co, ow, mi)).1 + 1, (sellS (CT T K) (ZZ T K) (T 0 0) (T 1 0) k (salesS (CT T K) (ZZ T K) (T 0 0) (T 1 0) k (co, ow, mi)).2).2) else salesS (CT T K) (ZZ T K) (T 0 0) (T 1 0) k (co, ow, mi) := rfl
    rw [hst]
    generalize salesS (CT T K) (ZZ T K) (T 0 0) (T 1 0) k (co, ow, mi) = x
    obtain ⟨xn, xc, xo, xm⟩ := x
    simp (discharger := omega) only [MK_13 hq, t1, leN, x_free, bdO, x_sell hq hB hT hTC hk, nI_1]
    rw [if_neg (by omega)]
    by_cases c : xo k = -4
    · rw [if_pos c, if_pos c, if_neg (by decide)]
      by_cases c2 : (sellS (CT T K) (ZZ T K) (T 0 0) (T 1 0) k (xc, xo, xm)).1 = 0
      · rw [if_pos c2, if_pos c2]
      · rw [if_neg c2, if_neg c2]
    · rw [if_neg c, if_neg c, if_pos rfl]
  · intro Kc
    unfold X1_holdFair_b4
    simp (discharger := omega) only [MK_13 hq, t1, leN]
    rw [if_pos (Nat.le_refl _)]
    refine lo1_eq (T 0 0) (fun k => nI k) (fun k => MK μ q (nI Y) si (payday (nI (T 3 0)) k (salesS (CT T K) (ZZ T K) (T 0 0) (T 1 0) (T 1 0) (co, ow, mi)).2.1) (salesS (CT T K) (ZZ T K) (T 0 0) (T 1 0) (T 1 0) (co, ow, mi)).2.2.1 (salesS (CT T K) (ZZ T K) (T 0 0) (T 1 0) (T 1 0) (co, ow, mi)).2.2.2 br sn cn pr) ?_ ?_ 1000 (by omega)
    · intro k hk Kd
      have hst : payday (nI (T 3 0)) (k + 1) (salesS (CT T K) (ZZ T K) (T 0 0) (T 1 0) (T 1 0) (co, ow, mi)).2.1 = upd (payday (nI (T 3 0)) k (salesS (CT T K) (ZZ T K) (T 0 0) (T 1 0) (T 1 0) (co, ow, mi)).2.1) k (earn (nI (T 3 0)) (payday (nI (T 3 0)) k (salesS (CT T K) (ZZ T K) (T 0 0) (T 1 0) (T 1 0) (co, ow, mi)).2.1 k)) := rfl
      rw [hst]
      unfold X1_holdFair_b42 earn
      simp (discharger := omega) only [MK_13 hq, MK_co, t0, t3, leN, giN, clN, MKs_co, nI_1]
      rw [if_neg (by omega)]
    · intro Kd
      unfold X1_holdFair_b42
      simp (discharger := omega) only [MK_13 hq, t0, leN, MKs_y, MK_y, nI_1]
      rw [if_pos (Nat.le_refl _)]
      have ht1' := ht1
      unfold holdS at ht1' ⊢
      rw [ht1', bdvO]
end X3
