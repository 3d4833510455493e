/-! THE PURE FUNCTIONS of the methods, laid by program out of the bytecode (wip/whole/gen) -/
noncomputable def J7_fill_53178_b5 (q f i : Nat) (v1 v3 : Int32) (k5 : Int32 → Mem → Option (Mem)) (v2 : Int32) (μ : Mem) : Option (Mem) :=
  if v3 ≤ v2 then (some μ)
  else (gi v2 6 (k5 (v2 + 1) (xs μ q f i v2.toNatClampNeg v1)))
noncomputable def J7_fill_53178 (q f i : Nat) (v1 : Int32) (μ : Mem) : Option (Mem) :=
  lo1 (J7_fill_53178_b5 q f i v1 6) 1000 0 μ
noncomputable def X1_copyFrom_b63 (q q1 : Nat) (k63 : Int32 → Mem → Option (Mem)) (v2 : Int32) (μ : Mem) : Option (Mem) :=
  if 6 ≤ v2 then (some μ)
  else (gi v2 6 (gi v2 6 (mlt (xa μ q 6 v2.toNatClampNeg (va_cpy (μ q1 6 v2.toNatClampNeg) (μ q 6 v2.toNatClampNeg) 0 0 6)) fun μ_10 => (gi v2 6 (gi v2 6 (mlt (xa μ_10 q 7 v2.toNatClampNeg (va_cpy (μ_10 q1 7 v2.toNatClampNeg) (μ_10 q 7 v2.toNatClampNeg) 0 0 6)) fun μ_14 => (gi v2 6 (gi v2 6 (mlt (xa μ_14 q 8 v2.toNatClampNeg (va_cpy (μ_14 q1 8 v2.toNatClampNeg) (μ_14 q 8 v2.toNatClampNeg) 0 0 6)) fun μ_18 => (gi v2 6 (gi v2 6 (mlt (xa μ_18 q 9 v2.toNatClampNeg (va_cpy (μ_18 q1 9 v2.toNatClampNeg) (μ_18 q 9 v2.toNatClampNeg) 0 0 6)) fun μ_22 => (k63 (v2 + 1) μ_22)))))))))))))
noncomputable def X1_copyFrom (q q1 : Nat) (μ : Mem) : Option (Mem) :=
  mlt (xa (xs (xs μ q 1 0 0 (μ q1 1 0 0)) q 2 0 0 ((xs μ q 1 0 0 (μ q1 1 0 0)) q1 2 0 0)) q 3 0 (va_cpy ((xs (xs μ q 1 0 0 (μ q1 1 0 0)) q 2 0 0 ((xs μ q 1 0 0 (μ q1 1 0 0)) q1 2 0 0)) q1 3 0) ((xs (xs μ q 1 0 0 (μ q1 1 0 0)) q 2 0 0 ((xs μ q 1 0 0 (μ q1 1 0 0)) q1 2 0 0)) q 3 0) 0 0 6)) fun μ_1 => (mlt (xa μ_1 q 4 0 (va_cpy (μ_1 q1 4 0) (μ_1 q 4 0) 0 0 6)) fun μ_3 => (mlt (xa μ_3 q 5 0 (va_cpy (μ_3 q1 5 0) (μ_3 q 5 0) 0 0 6)) fun μ_5 => (lo1 (X1_copyFrom_b63 q q1) 1000 0 μ_5)))
noncomputable def X0_remember (μ : Mem) : Option (Mem) :=
  gi (μ 15 1 0 0) 8 (bdv (X1_copyFrom (2 + (μ 15 1 0 0).toNatClampNeg) 0 μ) fun μ_3 => (some (xs (xs μ_3 15 1 0 0 (((μ_3 15 1 0 0) + 1) - ((μ_3 15 1 0 0) + 1) / 8 * 8)) 15 2 0 0 (if 8 < (((xs μ_3 15 1 0 0 (((μ_3 15 1 0 0) + 1) - ((μ_3 15 1 0 0) + 1) / 8 * 8)) 15 2 0 0) + 1) then 8 else (((xs μ_3 15 1 0 0 (((μ_3 15 1 0 0) + 1) - ((μ_3 15 1 0 0) + 1) / 8 * 8)) 15 2 0 0) + 1)))))
noncomputable def X0_restore (μ : Mem) : Option (Mem) :=
  gi ((xs (xs μ 15 1 0 0 ((((μ 15 1 0 0) + 8) - 1) - (((μ 15 1 0 0) + 8) - 1) / 8 * 8)) 15 2 0 0 (if (((xs μ 15 1 0 0 ((((μ 15 1 0 0) + 8) - 1) - (((μ 15 1 0 0) + 8) - 1) / 8 * 8)) 15 2 0 0) - 1) < 0 then 0 else (((xs μ 15 1 0 0 ((((μ 15 1 0 0) + 8) - 1) - (((μ 15 1 0 0) + 8) - 1) / 8 * 8)) 15 2 0 0) - 1))) 15 1 0 0) 8 (bdv (X1_copyFrom 0 (2 + ((xs (xs μ 15 1 0 0 ((((μ 15 1 0 0) + 8) - 1) - (((μ 15 1 0 0) + 8) - 1) / 8 * 8)) 15 2 0 0 (if (((xs μ 15 1 0 0 ((((μ 15 1 0 0) + 8) - 1) - (((μ 15 1 0 0) + 8) - 1) / 8 * 8)) 15 2 0 0) - 1) < 0 then 0 else (((xs μ 15 1 0 0 ((((μ 15 1 0 0) + 8) - 1) - (((μ 15 1 0 0) + 8) - 1) / 8 * 8)) 15 2 0 0) - 1))) 15 1 0 0).toNatClampNeg) (xs (xs μ 15 1 0 0 ((((μ 15 1 0 0) + 8) - 1) - (((μ 15 1 0 0) + 8) - 1) / 8 * 8)) 15 2 0 0 (if (((xs μ 15 1 0 0 ((((μ 15 1 0 0) + 8) - 1) - (((μ 15 1 0 0) + 8) - 1) / 8 * 8)) 15 2 0 0) - 1) < 0 then 0 else (((xs μ 15 1 0 0 ((((μ 15 1 0 0) + 8) - 1) - (((μ 15 1 0 0) + 8) - 1) / 8 * 8)) 15 2 0 0) - 1)))) fun μ_3 => (some μ_3))
noncomputable def X4_countedFor (q : Nat) (v1 v2 : Int32) (μ : Mem) : Option (Int32 × Mem) :=
  gi v1 6 (if (μ q 5 0 v1.toNatClampNeg) = 1 then (if 2 ≤ v2 then (some (v2 - 2, μ))
  else (some (0, μ)))
  else if (μ q 5 0 v1.toNatClampNeg) = 2 then (some (3 * v2, μ))
  else if (μ q 5 0 v1.toNatClampNeg) = 3 then (some (2 * v2, μ))
  else (some (v2, μ)))
noncomputable def X4_costIn (q : Nat) (v1 v2 : Int32) (μ : Mem) : Option (Int32 × Mem) :=
  gi v1 6 (some ((μ q 7 0 v1.toNatClampNeg) + ((μ q 4 0 0) * v2), μ))
noncomputable def X4_priceFor (q : Nat) (v1 v2 v3 : Int32) (μ : Mem) : Option (Int32 × Mem) :=
  bd (X4_costIn q v2 v3 μ) fun r_3 μ_2 => (gi v1 6 (if (μ_2 q 5 0 v1.toNatClampNeg) = 3 then (some (r_3 / 2, μ_2))
  else (some (r_3, μ_2))))
noncomputable def X1_addPause_b89 (q : Nat) (s0 s1 s2 : Int32) (μ : Mem) : Option (Mem) :=
  gi s1 6 (some (xs μ q 9 s0.toNatClampNeg s1.toNatClampNeg s2))
noncomputable def X1_addPause (q : Nat) (v1 v2 v3 : Int32) (μ : Mem) : Option (Mem) :=
  gi v1 6 (gi v2 6 (if (μ q 6 v1.toNatClampNeg v2.toNatClampNeg) < v3 then (gi v1 6 (gi v2 6 (gi v1 6 (gi v2 6 (gi v1 6 (bd (X4_countedFor 13 v1 v3 (xs (xs μ q 6 v1.toNatClampNeg v2.toNatClampNeg v3) q 7 v1.toNatClampNeg v2.toNatClampNeg ((xs μ q 6 v1.toNatClampNeg v2.toNatClampNeg v3) q 1 0 0))) fun r_11 μ_10 => (gi v2 6 (gi v1 6 (gi v1 6 (gi v2 6 (if ((xs μ_10 q 8 v1.toNatClampNeg v2.toNatClampNeg r_11) q 8 v1.toNatClampNeg v2.toNatClampNeg) < 9 then (X1_addPause_b89 q v1 v2 (-4) (xs μ_10 q 8 v1.toNatClampNeg v2.toNatClampNeg r_11))
  else (bd (X4_priceFor 13 v1 v2 ((xs μ_10 q 8 v1.toNatClampNeg v2.toNatClampNeg r_11) q 1 0 0) (xs μ_10 q 8 v1.toNatClampNeg v2.toNatClampNeg r_11)) fun r_20 μ_19 => (X1_addPause_b89 q v1 v2 r_20 μ_19)))))))))))))
  else (some μ)))
noncomputable def X1_addToldPauses_b76 (q : Nat) (k2 : Int32 → Mem → Option (Mem)) (v1 : Int32) (μ : Mem) : Option (Mem) :=
  k2 (v1 + 1) μ
noncomputable def X1_addToldPauses_b2 (q : Nat) (k2 : Int32 → Mem → Option (Mem)) (v1 : Int32) (μ : Mem) : Option (Mem) :=
  if (μ 13 2 0 0) ≤ v1 then (some μ)
  else (gi v1 9 (if (μ 13 11 0 v1.toNatClampNeg) = (μ q 1 0 0) then (gi v1 9 (if (μ 13 8 0 v1.toNatClampNeg) = (μ q 2 0 0) then (X1_addToldPauses_b76 q k2 v1 μ)
  else (gi v1 9 (gi v1 9 (gi v1 9 (bdv (X1_addPause q (μ 13 8 0 v1.toNatClampNeg) (μ 13 9 0 v1.toNatClampNeg) (μ 13 10 0 v1.toNatClampNeg) μ) fun μ_10 => (X1_addToldPauses_b76 q k2 v1 μ_10)))))))
  else (X1_addToldPauses_b76 q k2 v1 μ)))
noncomputable def X1_addToldPauses (q : Nat) (μ : Mem) : Option (Mem) :=
  lo1 (X1_addToldPauses_b2 q) 1000 0 μ
noncomputable def X1_begin_b47 (q : Nat) (k47 : Int32 → Mem → Option (Mem)) (v2 : Int32) (μ : Mem) : Option (Mem) :=
  if 6 ≤ v2 then (bdv (X1_addToldPauses q μ) fun μ_9 => (some μ_9))
  else (gi v2 6 (bdv (J7_fill_53178 q 6 v2.toNatClampNeg 0 μ) fun μ_12 => (gi v2 6 (bdv (J7_fill_53178 q 7 v2.toNatClampNeg (-4) μ_12) fun μ_15 => (gi v2 6 (bdv (J7_fill_53178 q 8 v2.toNatClampNeg 0 μ_15) fun μ_18 => (gi v2 6 (bdv (J7_fill_53178 q 9 v2.toNatClampNeg (-4) μ_18) fun μ_21 => (k47 (v2 + 1) μ_21)))))))))
noncomputable def X1_begin (q : Nat) (v1 : Int32) (μ : Mem) : Option (Mem) :=
  mlt (xa (xs (xs μ q 1 0 0 0) q 2 0 0 v1) q 3 0 (va_cpy ((xs (xs μ q 1 0 0 0) q 2 0 0 v1) 13 6 0) ((xs (xs μ q 1 0 0 0) q 2 0 0 v1) q 3 0) 0 0 6)) fun μ_1 => (bdv (J7_fill_53178 q 4 0 (-4) μ_1) fun μ_4 => (bdv (J7_fill_53178 q 5 0 0 μ_4) fun μ_6 => (lo1 (X1_begin_b47 q) 1000 0 μ_6)))
noncomputable def X1_dearestOf_b37 (q : Nat) (k5 : Int32 → Int32 → Mem → Option (Int32 × Mem)) (v1 v2 v3 : Int32) (μ : Mem) : Option (Int32 × Mem) :=
  k5 v2 (v3 + 1) μ
noncomputable def X1_dearestOf_b5 (q : Nat) (v1 : Int32) (k5 : Int32 → Int32 → Mem → Option (Int32 × Mem)) (v2 v3 : Int32) (μ : Mem) : Option (Int32 × Mem) :=
  if (μ 13 1 0 0) ≤ v3 then (some (v2, μ))
  else (gi v1 6 (gi v3 6 (if (μ q 9 v1.toNatClampNeg v3.toNatClampNeg) ≤ v2 then (X1_dearestOf_b37 q k5 v1 v2 v3 μ)
  else (gi v1 6 (gi v3 6 (X1_dearestOf_b37 q k5 v1 (μ q 9 v1.toNatClampNeg v3.toNatClampNeg) v3 μ))))))
noncomputable def X1_dearestOf (q : Nat) (v1 : Int32) (μ : Mem) : Option (Int32 × Mem) :=
  lo2 (X1_dearestOf_b5 q v1) 1000 (-4) 0 μ
noncomputable def X1_buyerInsteadOf_b60 (q : Nat) (k9 : Int32 → Int32 → Int32 → Mem → Option (Int32 × Mem)) (v1 v2 v3 v4 v5 : Int32) (μ : Mem) : Option (Int32 × Mem) :=
  k9 v3 v4 (v5 + 1) μ
noncomputable def X1_buyerInsteadOf_b9 (q : Nat) (v1 v2 : Int32) (k9 : Int32 → Int32 → Int32 → Mem → Option (Int32 × Mem)) (v3 v4 v5 : Int32) (μ : Mem) : Option (Int32 × Mem) :=
  if (μ 13 0 0 0) ≤ v5 then (some (v3, μ))
  else (if v5 = v1 then (X1_buyerInsteadOf_b60 q k9 v1 v2 v3 v4 v5 μ)
  else (gi v5 6 (if (μ q 3 0 v5.toNatClampNeg) < v2 then (X1_buyerInsteadOf_b60 q k9 v1 v2 v3 v4 v5 μ)
  else (bd (X1_dearestOf q v5 μ) fun r_7 μ_6 => (if r_7 ≤ v4 then (X1_buyerInsteadOf_b60 q k9 v1 v2 v3 v4 v5 μ_6)
  else (bd (X1_dearestOf q v5 μ_6) fun r_11 μ_10 => (X1_buyerInsteadOf_b60 q k9 v1 v2 v5 r_11 v5 μ_10)))))))
noncomputable def X1_buyerInsteadOf (q : Nat) (v1 v2 : Int32) (μ : Mem) : Option (Int32 × Mem) :=
  lo3 (X1_buyerInsteadOf_b9 q v1 v2) 1000 (-4) v2 0 μ
noncomputable def X1_claimantOf_b47 (q : Nat) (k9 : Int32 → Int32 → Int32 → Mem → Option (Int32 × Mem)) (v1 v2 v3 v4 : Int32) (μ : Mem) : Option (Int32 × Mem) :=
  k9 v2 v3 (v4 + 1) μ
noncomputable def X1_claimantOf_b9 (q : Nat) (v1 : Int32) (k9 : Int32 → Int32 → Int32 → Mem → Option (Int32 × Mem)) (v2 v3 v4 : Int32) (μ : Mem) : Option (Int32 × Mem) :=
  if (μ 13 0 0 0) ≤ v4 then (some (v2, μ))
  else (gi v4 6 (gi v1 6 (if (μ q 8 v4.toNatClampNeg v1.toNatClampNeg) ≤ v3 then (X1_claimantOf_b47 q k9 v1 v2 v3 v4 μ)
  else (gi v4 6 (gi v1 6 (X1_claimantOf_b47 q k9 v1 v4 (μ q 8 v4.toNatClampNeg v1.toNatClampNeg) v4 μ))))))
noncomputable def X1_claimantOf (q : Nat) (v1 : Int32) (μ : Mem) : Option (Int32 × Mem) :=
  lo3 (X1_claimantOf_b9 q v1) 1000 (-4) 8 0 μ
noncomputable def X1_coinsOfAll_b4 (q : Nat) (k4 : Int32 → Int32 → Mem → Option (Int32 × Mem)) (v1 v2 : Int32) (μ : Mem) : Option (Int32 × Mem) :=
  if (μ 13 0 0 0) ≤ v2 then (some (v1, μ))
  else (gi v2 6 (k4 (v1 + (μ q 3 0 v2.toNatClampNeg)) (v2 + 1) μ))
noncomputable def X1_coinsOfAll (q : Nat) (μ : Mem) : Option (Int32 × Mem) :=
  lo2 (X1_coinsOfAll_b4 q) 1000 0 0 μ
noncomputable def X1_dearerTo_b66 (q : Nat) (k5 : Int32 → Int32 → Mem → Option (Int32 × Mem)) (v1 v2 v3 v4 : Int32) (μ : Mem) : Option (Int32 × Mem) :=
  k5 v3 (v4 + 1) μ
noncomputable def X1_dearerTo_b63 (q : Nat) (k5 : Int32 → Int32 → Mem → Option (Int32 × Mem)) (v1 v2 v3 v4 : Int32) (μ : Mem) : Option (Int32 × Mem) :=
  X1_dearerTo_b66 q k5 v1 v2 (v3 + 1) v4 μ
noncomputable def X1_dearerTo_b5 (q : Nat) (v1 v2 : Int32) (k5 : Int32 → Int32 → Mem → Option (Int32 × Mem)) (v3 v4 : Int32) (μ : Mem) : Option (Int32 × Mem) :=
  if (μ 13 1 0 0) ≤ v4 then (some (v3, μ))
  else (gi v1 6 (gi v4 6 (gi v1 6 (gi v2 6 (if (μ q 9 v1.toNatClampNeg v2.toNatClampNeg) < (μ q 9 v1.toNatClampNeg v4.toNatClampNeg) then (X1_dearerTo_b63 q k5 v1 v2 v3 v4 μ)
  else (gi v1 6 (gi v4 6 (gi v1 6 (gi v2 6 (if (μ q 9 v1.toNatClampNeg v4.toNatClampNeg) = (μ q 9 v1.toNatClampNeg v2.toNatClampNeg) then (if v2 ≤ v4 then (X1_dearerTo_b66 q k5 v1 v2 v3 v4 μ)
  else (X1_dearerTo_b63 q k5 v1 v2 v3 v4 μ))
  else (X1_dearerTo_b66 q k5 v1 v2 v3 v4 μ)))))))))))
noncomputable def X1_dearerTo (q : Nat) (v1 v2 : Int32) (μ : Mem) : Option (Int32 × Mem) :=
  lo2 (X1_dearerTo_b5 q v1 v2) 1000 0 0 μ
noncomputable def X1_isFree (q : Nat) (v1 : Int32) (μ : Mem) : Option (Int32 × Mem) :=
  gi v1 6 (if (μ q 4 0 v1.toNatClampNeg) = (-4) then (some (1, μ))
  else (some (0, μ)))
noncomputable def X1_sell_b77 (q : Nat) (v1 v3 v4 : Int32) (μ : Mem) : Option (Int32 × Mem) :=
  if v4 = (-4) then (some (0, μ))
  else (gi v4 6 (gi v4 6 (gi v1 6 (some (1, (xs (xs μ q 3 0 v4.toNatClampNeg ((μ q 3 0 v4.toNatClampNeg) - v3)) q 4 0 v1.toNatClampNeg v4))))))
noncomputable def X1_sell_b75 (q : Nat) (v1 v3 s0 : Int32) (μ : Mem) : Option (Int32 × Mem) :=
  X1_sell_b77 q v1 v3 s0 μ
noncomputable def X1_sell (q : Nat) (v1 : Int32) (μ : Mem) : Option (Int32 × Mem) :=
  bd (X1_claimantOf q v1 μ) fun r_3 μ_2 => (if r_3 = (-4) then (some (0, μ_2))
  else (gi r_3 6 (gi v1 6 (gi r_3 6 (if (μ_2 q 9 r_3.toNatClampNeg v1.toNatClampNeg) ≤ (μ_2 q 3 0 r_3.toNatClampNeg) then (X1_sell_b77 q v1 (μ_2 q 9 r_3.toNatClampNeg v1.toNatClampNeg) r_3 μ_2)
  else (gi v1 6 (gi v1 6 (gi v1 6 (if ((xs μ_2 q 5 0 v1.toNatClampNeg (if 3 < ((μ_2 q 5 0 v1.toNatClampNeg) + 1) then 3 else ((μ_2 q 5 0 v1.toNatClampNeg) + 1))) q 5 0 v1.toNatClampNeg) = 3 then (bd (X1_buyerInsteadOf q r_3 (μ_2 q 9 r_3.toNatClampNeg v1.toNatClampNeg) (xs μ_2 q 5 0 v1.toNatClampNeg (if 3 < ((μ_2 q 5 0 v1.toNatClampNeg) + 1) then 3 else ((μ_2 q 5 0 v1.toNatClampNeg) + 1)))) fun r_19 μ_18 => (X1_sell_b75 q v1 (μ_2 q 9 r_3.toNatClampNeg v1.toNatClampNeg) r_19 μ_18))
  else (X1_sell_b75 q v1 (μ_2 q 9 r_3.toNatClampNeg v1.toNatClampNeg) (-4) (xs μ_2 q 5 0 v1.toNatClampNeg (if 3 < ((μ_2 q 5 0 v1.toNatClampNeg) + 1) then 3 else ((μ_2 q 5 0 v1.toNatClampNeg) + 1)))))))))))))
noncomputable def X1_holdFair_b42 (q : Nat) (v1 : Int32) (k42 : Int32 → Mem → Option (Int32 × Mem)) (v2 : Int32) (μ : Mem) : Option (Int32 × Mem) :=
  if (μ 13 0 0 0) ≤ v2 then (bdv (X1_addToldPauses q (xs μ q 1 0 0 ((μ q 1 0 0) + 1))) fun μ_4 => (some (v1, μ_4)))
  else (gi v2 6 (gi v2 6 (k42 (v2 + 1) (xs μ q 3 0 v2.toNatClampNeg (if 999 < ((μ q 3 0 v2.toNatClampNeg) + (μ 13 3 0 0)) then 999 else ((μ q 3 0 v2.toNatClampNeg) + (μ 13 3 0 0)))))))
noncomputable def X1_holdFair_b34 (q : Nat) (k4 : Int32 → Int32 → Mem → Option (Int32 × Mem)) (v1 v2 : Int32) (μ : Mem) : Option (Int32 × Mem) :=
  k4 v1 (v2 + 1) μ
noncomputable def X1_holdFair_b4 (q : Nat) (k4 : Int32 → Int32 → Mem → Option (Int32 × Mem)) (v1 v2 : Int32) (μ : Mem) : Option (Int32 × Mem) :=
  if (μ 13 1 0 0) ≤ v2 then (lo1 (X1_holdFair_b42 q v1) 1000 0 μ)
  else (bd (X1_isFree q v2 μ) fun r_9 μ_8 => (if r_9 = 0 then (X1_holdFair_b34 q k4 v1 v2 μ_8)
  else (bd (X1_sell q v2 μ_8) fun r_13 μ_12 => (if r_13 = 0 then (X1_holdFair_b34 q k4 v1 v2 μ_12)
  else (X1_holdFair_b34 q k4 (v1 + 1) v2 μ_12)))))
noncomputable def X1_holdFair (q : Nat) (μ : Mem) : Option (Int32 × Mem) :=
  lo2 (X1_holdFair_b4 q) 1000 0 0 μ
noncomputable def X1_fairsTillGone_b27 (q : Nat) (v1 v2 : Int32) (μ : Mem) : Option (Int32 × Mem) :=
  bd (X1_isFree q v1 μ) fun r_4 μ_3 => (if r_4 = 0 then (some (v2, μ_3))
  else (some ((-4), μ_3)))
noncomputable def X1_fairsTillGone_b2 (q : Nat) (v1 : Int32) (k2 : Int32 → Mem → Option (Int32 × Mem)) (v2 : Int32) (μ : Mem) : Option (Int32 × Mem) :=
  if 9 ≤ v2 then (X1_fairsTillGone_b27 q v1 v2 μ)
  else (bd (X1_isFree q v1 μ) fun r_8 μ_7 => (if r_8 = 0 then (X1_fairsTillGone_b27 q v1 v2 μ_7)
  else (bd (X1_holdFair q μ_7) fun r_12 μ_11 => (k2 (v2 + 1) μ_11))))
noncomputable def X1_fairsTillGone (q : Nat) (v1 : Int32) (μ : Mem) : Option (Int32 × Mem) :=
  lo1 (X1_fairsTillGone_b2 q v1) 1000 0 μ
noncomputable def X1_holdFairs_b2 (q : Nat) (v1 : Int32) (k2 : Int32 → Mem → Option (Mem)) (v2 : Int32) (μ : Mem) : Option (Mem) :=
  if v1 ≤ v2 then (some μ)
  else (bd (X1_holdFair q μ) fun r_4 μ_3 => (k2 (v2 + 1) μ_3))
noncomputable def X1_holdFairs (q : Nat) (v1 : Int32) (μ : Mem) : Option (Mem) :=
  lo1 (X1_holdFairs_b2 q v1) 1000 0 μ
noncomputable def X1_thingsGone_b26 (q : Nat) (k4 : Int32 → Int32 → Mem → Option (Int32 × Mem)) (v1 v2 : Int32) (μ : Mem) : Option (Int32 × Mem) :=
  k4 v1 (v2 + 1) μ
noncomputable def X1_thingsGone_b4 (q : Nat) (k4 : Int32 → Int32 → Mem → Option (Int32 × Mem)) (v1 v2 : Int32) (μ : Mem) : Option (Int32 × Mem) :=
  if (μ 13 1 0 0) ≤ v2 then (some (v1, μ))
  else (bd (X1_isFree q v2 μ) fun r_4 μ_3 => (if r_4 = 0 then (X1_thingsGone_b26 q k4 (v1 + 1) v2 μ_3)
  else (X1_thingsGone_b26 q k4 v1 v2 μ_3)))
noncomputable def X1_thingsGone (q : Nat) (μ : Mem) : Option (Int32 × Mem) :=
  lo2 (X1_thingsGone_b4 q) 1000 0 0 μ
noncomputable def X1_thingsOf_b28 (q : Nat) (k4 : Int32 → Int32 → Mem → Option (Int32 × Mem)) (v1 v2 v3 : Int32) (μ : Mem) : Option (Int32 × Mem) :=
  k4 v2 (v3 + 1) μ
noncomputable def X1_thingsOf_b4 (q : Nat) (v1 : Int32) (k4 : Int32 → Int32 → Mem → Option (Int32 × Mem)) (v2 v3 : Int32) (μ : Mem) : Option (Int32 × Mem) :=
  if (μ 13 1 0 0) ≤ v3 then (some (v2, μ))
  else (gi v3 6 (if (μ q 4 0 v3.toNatClampNeg) = v1 then (X1_thingsOf_b28 q k4 v1 (v2 + 1) v3 μ)
  else (X1_thingsOf_b28 q k4 v1 v2 v3 μ)))
noncomputable def X1_thingsOf (q : Nat) (v1 : Int32) (μ : Mem) : Option (Int32 × Mem) :=
  lo2 (X1_thingsOf_b4 q v1) 1000 0 0 μ
noncomputable def X1_wantersOf_b31 (q : Nat) (k4 : Int32 → Int32 → Mem → Option (Int32 × Mem)) (v1 v2 v3 : Int32) (μ : Mem) : Option (Int32 × Mem) :=
  k4 v2 (v3 + 1) μ
noncomputable def X1_wantersOf_b4 (q : Nat) (v1 : Int32) (k4 : Int32 → Int32 → Mem → Option (Int32 × Mem)) (v2 v3 : Int32) (μ : Mem) : Option (Int32 × Mem) :=
  if (μ 13 0 0 0) ≤ v3 then (some (v2, μ))
  else (gi v3 6 (gi v1 6 (if (μ q 9 v3.toNatClampNeg v1.toNatClampNeg) = (-4) then (X1_wantersOf_b31 q k4 v1 v2 v3 μ)
  else (X1_wantersOf_b31 q k4 v1 (v2 + 1) v3 μ))))
noncomputable def X1_wantersOf (q : Nat) (v1 : Int32) (μ : Mem) : Option (Int32 × Mem) :=
  lo2 (X1_wantersOf_b4 q v1) 1000 0 0 μ
noncomputable def X1_worthOf_b45 (q : Nat) (k9 : Int32 → Int32 → Mem → Option (Int32 × Mem)) (v1 v2 v3 : Int32) (μ : Mem) : Option (Int32 × Mem) :=
  k9 v2 (v3 + 1) μ
noncomputable def X1_worthOf_b9 (q : Nat) (v1 : Int32) (k9 : Int32 → Int32 → Mem → Option (Int32 × Mem)) (v2 v3 : Int32) (μ : Mem) : Option (Int32 × Mem) :=
  if (μ 13 1 0 0) ≤ v3 then (some (v2, μ))
  else (gi v3 6 (if (μ q 4 0 v3.toNatClampNeg) = v1 then (bd (X4_costIn 13 v3 (μ q 1 0 0) μ) fun r_7 μ_6 => (X1_worthOf_b45 q k9 v1 (v2 + r_7) v3 μ_6))
  else (X1_worthOf_b45 q k9 v1 v2 v3 μ)))
noncomputable def X1_worthOf (q : Nat) (v1 : Int32) (μ : Mem) : Option (Int32 × Mem) :=
  gi v1 6 (lo2 (X1_worthOf_b9 q v1) 1000 (μ q 3 0 v1.toNatClampNeg) 0 μ)
noncomputable def X2_letterAt (v2 : Int32) (μ : Mem) : Option (Int32 × Mem) :=
  if (μ 14 1 0 0) < 0 then (some (0, μ))
  else (if v2 ≤ (μ 14 1 0 0) then (some (0, μ))
  else (if 200 ≤ (μ 14 1 0 0) then (some (0, μ))
  else (gi (μ 14 1 0 0) 200 (some (μ 17 0 0 (μ 14 1 0 0).toNatClampNeg, μ)))))
noncomputable def X2_numbersDue (v0 : Int32) (μ : Mem) : Option (Int32 × Mem) :=
  if v0 = 97 then (some (4, μ))
  else if v0 = 101 then (some (1, μ))
  else if v0 = 103 then (some (1, μ))
  else if v0 = 112 then (some (2, μ))
  else if v0 = 116 then (some (1, μ))
  else (some (0, μ))
noncomputable def X4_clear (q : Nat) (μ : Mem) : Option (Mem) :=
  some (xs (xs (xs (xs (xs μ q 0 0 0 0) q 1 0 0 0) q 2 0 0 0) q 3 0 0 5) q 4 0 0 2)
noncomputable def X2_readNumber_b5 (v2 : Int32) (k5 : Int32 → Int32 → Mem → Option (Int32 × Mem)) (v3 v4 : Int32) (μ : Mem) : Option (Int32 × Mem) :=
  if 2 ≤ v4 then (some (v3, μ))
  else (bd (X2_letterAt v2 μ) fun r_4 μ_3 => (if r_4 < 48 then (some (v3, μ_3))
  else (if r_4 ≤ 57 then (k5 ((((if 0 < v3 then v3 else 0) * 10) + r_4) - 48) (v4 + 1) (xs μ_3 14 1 0 0 ((μ_3 14 1 0 0) + 1)))
  else (some (v3, μ_3)))))
noncomputable def X2_readNumber (v2 : Int32) (μ : Mem) : Option (Int32 × Mem) :=
  lo2 (X2_readNumber_b5 v2) 1000 (-1) 0 μ
noncomputable def X2_readItem_b77 (k23 : Int32 → Mem → Option (Int32 × Mem)) (v2 v3 v4 v5 s0 s1 : Int32) (μ : Mem) : Option (Int32 × Mem) :=
  if s0 = s1 then (gi v4 4 (k23 (v4 + 1) (xs μ 14 0 0 v4.toNatClampNeg v5)))
  else (some (0, μ))
noncomputable def X2_readItem_b23 (v2 v3 : Int32) (k23 : Int32 → Mem → Option (Int32 × Mem)) (v4 : Int32) (μ : Mem) : Option (Int32 × Mem) :=
  if v3 ≤ v4 then (if v3 ≤ 0 then (some (0, μ))
  else (some (1, μ)))
  else (bd (X2_readNumber v2 μ) fun r_11 μ_10 => (bd (X2_letterAt v2 μ_10) fun r_14 μ_13 => (if r_11 < 0 then (some (0, (xs μ_13 14 1 0 0 ((μ_13 14 1 0 0) + 1))))
  else (if v4 = (v3 - 1) then (X2_readItem_b77 k23 v2 v3 v4 r_11 r_14 59 (xs μ_13 14 1 0 0 ((μ_13 14 1 0 0) + 1)))
  else (X2_readItem_b77 k23 v2 v3 v4 r_11 r_14 44 (xs μ_13 14 1 0 0 ((μ_13 14 1 0 0) + 1)))))))
noncomputable def X2_readItem (v2 : Int32) (μ : Mem) : Option (Int32 × Mem) :=
  bd (X2_letterAt v2 μ) fun r_3 μ_2 => (bd (X2_numbersDue r_3 μ_2) fun r_6 μ_5 => (lo1 (X2_readItem_b23 v2 r_6) 1000 0 (xs μ_5 14 1 0 0 ((μ_5 14 1 0 0) + 1))))
noncomputable def X4_hasPerson (q : Nat) (v1 : Int32) (μ : Mem) : Option (Int32 × Mem) :=
  if v1 < 0 then (some (0, μ))
  else (if (μ q 0 0 0) ≤ v1 then (some (0, μ))
  else (some (1, μ)))
noncomputable def X4_hasThing (q : Nat) (v1 : Int32) (μ : Mem) : Option (Int32 × Mem) :=
  if v1 < 0 then (some (0, μ))
  else (if (μ q 1 0 0) ≤ v1 then (some (0, μ))
  else (some (1, μ)))
noncomputable def X4_takePause (q : Nat) (μ : Mem) : Option (Int32 × Mem) :=
  gi 0 4 (gi 1 4 (gi 2 4 (gi 3 4 (if 9 ≤ (μ q 2 0 0) then (some (0, μ))
  else (bd (X4_hasPerson q (μ 14 0 0 (0 : Int32).toNatClampNeg) μ) fun r_8 μ_7 => (if r_8 = 0 then (some (0, μ_7))
  else (bd (X4_hasThing q (μ 14 0 0 (1 : Int32).toNatClampNeg) μ_7) fun r_12 μ_11 => (if r_12 = 0 then (some (0, μ_11))
  else (if (μ 14 0 0 (2 : Int32).toNatClampNeg) < 1 then (some (0, μ_11))
  else (if 30 < (μ 14 0 0 (2 : Int32).toNatClampNeg) then (some (0, μ_11))
  else (if (μ 14 0 0 (3 : Int32).toNatClampNeg) ≤ 9 then (gi (μ_11 q 2 0 0) 9 (gi ((xs μ_11 q 8 0 (μ_11 q 2 0 0).toNatClampNeg (μ 14 0 0 (0 : Int32).toNatClampNeg)) q 2 0 0) 9 (gi ((xs (xs μ_11 q 8 0 (μ_11 q 2 0 0).toNatClampNeg (μ 14 0 0 (0 : Int32).toNatClampNeg)) q 9 0 ((xs μ_11 q 8 0 (μ_11 q 2 0 0).toNatClampNeg (μ 14 0 0 (0 : Int32).toNatClampNeg)) q 2 0 0).toNatClampNeg (μ 14 0 0 (1 : Int32).toNatClampNeg)) q 2 0 0) 9 (gi ((xs (xs (xs μ_11 q 8 0 (μ_11 q 2 0 0).toNatClampNeg (μ 14 0 0 (0 : Int32).toNatClampNeg)) q 9 0 ((xs μ_11 q 8 0 (μ_11 q 2 0 0).toNatClampNeg (μ 14 0 0 (0 : Int32).toNatClampNeg)) q 2 0 0).toNatClampNeg (μ 14 0 0 (1 : Int32).toNatClampNeg)) q 10 0 ((xs (xs μ_11 q 8 0 (μ_11 q 2 0 0).toNatClampNeg (μ 14 0 0 (0 : Int32).toNatClampNeg)) q 9 0 ((xs μ_11 q 8 0 (μ_11 q 2 0 0).toNatClampNeg (μ 14 0 0 (0 : Int32).toNatClampNeg)) q 2 0 0).toNatClampNeg (μ 14 0 0 (1 : Int32).toNatClampNeg)) q 2 0 0).toNatClampNeg (μ 14 0 0 (2 : Int32).toNatClampNeg)) q 2 0 0) 9 (some (1, (xs (xs (xs (xs (xs μ_11 q 8 0 (μ_11 q 2 0 0).toNatClampNeg (μ 14 0 0 (0 : Int32).toNatClampNeg)) q 9 0 ((xs μ_11 q 8 0 (μ_11 q 2 0 0).toNatClampNeg (μ 14 0 0 (0 : Int32).toNatClampNeg)) q 2 0 0).toNatClampNeg (μ 14 0 0 (1 : Int32).toNatClampNeg)) q 10 0 ((xs (xs μ_11 q 8 0 (μ_11 q 2 0 0).toNatClampNeg (μ 14 0 0 (0 : Int32).toNatClampNeg)) q 9 0 ((xs μ_11 q 8 0 (μ_11 q 2 0 0).toNatClampNeg (μ 14 0 0 (0 : Int32).toNatClampNeg)) q 2 0 0).toNatClampNeg (μ 14 0 0 (1 : Int32).toNatClampNeg)) q 2 0 0).toNatClampNeg (μ 14 0 0 (2 : Int32).toNatClampNeg)) q 11 0 ((xs (xs (xs μ_11 q 8 0 (μ_11 q 2 0 0).toNatClampNeg (μ 14 0 0 (0 : Int32).toNatClampNeg)) q 9 0 ((xs μ_11 q 8 0 (μ_11 q 2 0 0).toNatClampNeg (μ 14 0 0 (0 : Int32).toNatClampNeg)) q 2 0 0).toNatClampNeg (μ 14 0 0 (1 : Int32).toNatClampNeg)) q 10 0 ((xs (xs μ_11 q 8 0 (μ_11 q 2 0 0).toNatClampNeg (μ 14 0 0 (0 : Int32).toNatClampNeg)) q 9 0 ((xs μ_11 q 8 0 (μ_11 q 2 0 0).toNatClampNeg (μ 14 0 0 (0 : Int32).toNatClampNeg)) q 2 0 0).toNatClampNeg (μ 14 0 0 (1 : Int32).toNatClampNeg)) q 2 0 0).toNatClampNeg (μ 14 0 0 (2 : Int32).toNatClampNeg)) q 2 0 0).toNatClampNeg (μ 14 0 0 (3 : Int32).toNatClampNeg)) q 2 0 0 (((xs (xs (xs (xs μ_11 q 8 0 (μ_11 q 2 0 0).toNatClampNeg (μ 14 0 0 (0 : Int32).toNatClampNeg)) q 9 0 ((xs μ_11 q 8 0 (μ_11 q 2 0 0).toNatClampNeg (μ 14 0 0 (0 : Int32).toNatClampNeg)) q 2 0 0).toNatClampNeg (μ 14 0 0 (1 : Int32).toNatClampNeg)) q 10 0 ((xs (xs μ_11 q 8 0 (μ_11 q 2 0 0).toNatClampNeg (μ 14 0 0 (0 : Int32).toNatClampNeg)) q 9 0 ((xs μ_11 q 8 0 (μ_11 q 2 0 0).toNatClampNeg (μ 14 0 0 (0 : Int32).toNatClampNeg)) q 2 0 0).toNatClampNeg (μ 14 0 0 (1 : Int32).toNatClampNeg)) q 2 0 0).toNatClampNeg (μ 14 0 0 (2 : Int32).toNatClampNeg)) q 11 0 ((xs (xs (xs μ_11 q 8 0 (μ_11 q 2 0 0).toNatClampNeg (μ 14 0 0 (0 : Int32).toNatClampNeg)) q 9 0 ((xs μ_11 q 8 0 (μ_11 q 2 0 0).toNatClampNeg (μ 14 0 0 (0 : Int32).toNatClampNeg)) q 2 0 0).toNatClampNeg (μ 14 0 0 (1 : Int32).toNatClampNeg)) q 10 0 ((xs (xs μ_11 q 8 0 (μ_11 q 2 0 0).toNatClampNeg (μ 14 0 0 (0 : Int32).toNatClampNeg)) q 9 0 ((xs μ_11 q 8 0 (μ_11 q 2 0 0).toNatClampNeg (μ 14 0 0 (0 : Int32).toNatClampNeg)) q 2 0 0).toNatClampNeg (μ 14 0 0 (1 : Int32).toNatClampNeg)) q 2 0 0).toNatClampNeg (μ 14 0 0 (2 : Int32).toNatClampNeg)) q 2 0 0).toNatClampNeg (μ 14 0 0 (3 : Int32).toNatClampNeg)) q 2 0 0) + 1))))))))
  else (some (0, μ_11)))))))))))))
noncomputable def X4_takeEarned (q : Nat) (v1 : Int32) (μ : Mem) : Option (Int32 × Mem) :=
  if 30 < v1 then (some (0, (xs μ q 3 0 0 v1)))
  else (some (1, (xs μ q 3 0 0 v1)))
noncomputable def X4_takeDearer (q : Nat) (v1 : Int32) (μ : Mem) : Option (Int32 × Mem) :=
  if 9 < v1 then (some (0, (xs μ q 4 0 0 v1)))
  else (some (1, (xs μ q 4 0 0 v1)))
noncomputable def X4_takePerson (q : Nat) (v1 v2 : Int32) (μ : Mem) : Option (Int32 × Mem) :=
  if 6 ≤ (μ q 0 0 0) then (some (0, μ))
  else (if v1 ≤ 3 then (gi (μ q 0 0 0) 6 (gi ((xs μ q 5 0 (μ q 0 0 0).toNatClampNeg v1) q 0 0 0) 6 (some (1, (xs (xs (xs μ q 5 0 (μ q 0 0 0).toNatClampNeg v1) q 6 0 ((xs μ q 5 0 (μ q 0 0 0).toNatClampNeg v1) q 0 0 0).toNatClampNeg v2) q 0 0 0 (((xs (xs μ q 5 0 (μ q 0 0 0).toNatClampNeg v1) q 6 0 ((xs μ q 5 0 (μ q 0 0 0).toNatClampNeg v1) q 0 0 0).toNatClampNeg v2) q 0 0 0) + 1))))))
  else (some (0, μ)))
noncomputable def X4_takeThing (q : Nat) (v1 : Int32) (μ : Mem) : Option (Int32 × Mem) :=
  if 6 ≤ (μ q 1 0 0) then (some (0, μ))
  else (if v1 < 1 then (some (0, μ))
  else (if v1 ≤ 60 then (gi (μ q 1 0 0) 6 (some (1, (xs (xs μ q 7 0 (μ q 1 0 0).toNatClampNeg v1) q 1 0 0 (((xs μ q 7 0 (μ q 1 0 0).toNatClampNeg v1) q 1 0 0) + 1)))))
  else (some (0, μ))))
noncomputable def X4_takeItem (q : Nat) (v1 : Int32) (μ : Mem) : Option (Int32 × Mem) :=
  if v1 = 97 then (bd (X4_takePause q μ) fun r_4 μ_3 => (gb r_4 (some (r_4, μ_3))))
  else if v1 = 101 then (gi 0 4 (bd (X4_takeEarned q (μ 14 0 0 (0 : Int32).toNatClampNeg) μ) fun r_10 μ_9 => (gb r_10 (some (r_10, μ_9)))))
  else if v1 = 103 then (gi 0 4 (bd (X4_takeDearer q (μ 14 0 0 (0 : Int32).toNatClampNeg) μ) fun r_16 μ_15 => (gb r_16 (some (r_16, μ_15)))))
  else if v1 = 112 then (gi 0 4 (gi 1 4 (bd (X4_takePerson q (μ 14 0 0 (0 : Int32).toNatClampNeg) (μ 14 0 0 (1 : Int32).toNatClampNeg) μ) fun r_23 μ_22 => (gb r_23 (some (r_23, μ_22))))))
  else if v1 = 116 then (gi 0 4 (bd (X4_takeThing q (μ 14 0 0 (0 : Int32).toNatClampNeg) μ) fun r_29 μ_28 => (gb r_29 (some (r_29, μ_28)))))
  else (some (0, μ))
noncomputable def X2_read_b12 (q : Nat) (v2 : Int32) (k12 : Int32 → Mem → Option (Int32 × Mem)) (v4 : Int32) (μ : Mem) : Option (Int32 × Mem) :=
  if v2 ≤ v4 then (some ((-4), μ))
  else (if v2 ≤ (μ 14 1 0 0) then (some ((-4), μ))
  else (bd (X2_readItem v2 μ) fun r_7 μ_6 => (if r_7 = 0 then (some (μ 14 1 0 0, μ_6))
  else (gi (μ 14 1 0 0) 200 (bd (X4_takeItem q (μ_6 17 0 0 (μ 14 1 0 0).toNatClampNeg) μ_6) fun r_12 μ_11 => (if r_12 = 0 then (some (μ 14 1 0 0, μ_11))
  else (k12 (v4 + 1) μ_11)))))))
noncomputable def X2_read (q : Nat) (v2 : Int32) (μ : Mem) : Option (Int32 × Mem) :=
  bdv (X4_clear q μ) fun μ_2 => (lo1 (X2_read_b12 q v2) 1000 0 (xs μ_2 14 1 0 0 0))
noncomputable def X3_add (v1 v2 v3 : Int32) (μ : Mem) : Option (Mem) :=
  if 6 ≤ (μ 16 3 0 0) then (some μ)
  else (gi (μ 16 3 0 0) 6 (gi ((xs μ 16 0 0 (μ 16 3 0 0).toNatClampNeg v1) 16 3 0 0) 6 (gi ((xs (xs μ 16 0 0 (μ 16 3 0 0).toNatClampNeg v1) 16 1 0 ((xs μ 16 0 0 (μ 16 3 0 0).toNatClampNeg v1) 16 3 0 0).toNatClampNeg v2) 16 3 0 0) 6 (some (xs (xs (xs (xs μ 16 0 0 (μ 16 3 0 0).toNatClampNeg v1) 16 1 0 ((xs μ 16 0 0 (μ 16 3 0 0).toNatClampNeg v1) 16 3 0 0).toNatClampNeg v2) 16 2 0 ((xs (xs μ 16 0 0 (μ 16 3 0 0).toNatClampNeg v1) 16 1 0 ((xs μ 16 0 0 (μ 16 3 0 0).toNatClampNeg v1) 16 3 0 0).toNatClampNeg v2) 16 3 0 0).toNatClampNeg v3) 16 3 0 0 (((xs (xs (xs μ 16 0 0 (μ 16 3 0 0).toNatClampNeg v1) 16 1 0 ((xs μ 16 0 0 (μ 16 3 0 0).toNatClampNeg v1) 16 3 0 0).toNatClampNeg v2) 16 2 0 ((xs (xs μ 16 0 0 (μ 16 3 0 0).toNatClampNeg v1) 16 1 0 ((xs μ 16 0 0 (μ 16 3 0 0).toNatClampNeg v1) 16 3 0 0).toNatClampNeg v2) 16 3 0 0).toNatClampNeg v3) 16 3 0 0) + 1))))))
noncomputable def X3_allHoldIn_b65 (k7 : Int32 → Mem → Option (Int32 × Mem)) (k21 : Int32 → Mem → Option (Int32 × Mem)) (v3 v4 : Int32) (μ : Mem) : Option (Int32 × Mem) :=
  k21 (v4 + 1) μ
noncomputable def X3_allHoldIn_b21 (k7 : Int32 → Mem → Option (Int32 × Mem)) (v3 : Int32) (k21 : Int32 → Mem → Option (Int32 × Mem)) (v4 : Int32) (μ : Mem) : Option (Int32 × Mem) :=
  if (μ 16 3 0 0) ≤ v4 then (k7 (v3 + 1) μ)
  else (gi v4 6 (if (μ 16 2 0 v4.toNatClampNeg) = v3 then (gi v4 6 (gi (μ 16 0 0 v4.toNatClampNeg) 6 (gi v4 6 (if (μ 1 4 0 (μ 16 0 0 v4.toNatClampNeg).toNatClampNeg) = (μ 16 1 0 v4.toNatClampNeg) then (X3_allHoldIn_b65 k7 k21 v3 v4 μ)
  else (some (0, μ))))))
  else (X3_allHoldIn_b65 k7 k21 v3 v4 μ)))
noncomputable def X3_allHoldIn_b7 (k7 : Int32 → Mem → Option (Int32 × Mem)) (v3 : Int32) (μ : Mem) : Option (Int32 × Mem) :=
  if 9 < v3 then (some (1, μ))
  else (bd (X1_holdFair 1 μ) fun r_6 μ_5 => (lo1 (X3_allHoldIn_b21 k7 v3) 1000 0 μ_5))
noncomputable def X3_allHoldIn (v2 : Int32) (μ : Mem) : Option (Int32 × Mem) :=
  bdv (X1_begin 1 v2 μ) fun μ_2 => (lo1 (X3_allHoldIn_b7) 1000 1 μ_2)
noncomputable def X4_canBeLaid (q : Nat) (μ : Mem) : Option (Int32 × Mem) :=
  if (μ q 0 0 0) ≤ 0 then (some (0, μ))
  else (if (μ q 1 0 0) ≤ 0 then (some (0, μ))
  else (some (1, μ)))
noncomputable def X5_addDrawnPause (v1 : Int32) (μ : Mem) : Option (Mem) :=
  if (μ 13 0 0 0) ≤ 0 then (some μ)
  else (if (μ 13 1 0 0) ≤ 0 then (some μ)
  else (gz (μ 13 0 0 0) (gz (μ 13 1 0 0) (bdv (X1_addPause 1 (v1 - v1 / (μ 13 0 0 0) * (μ 13 0 0 0)) ((v1 / 8) - (v1 / 8) / (μ 13 1 0 0) * (μ 13 1 0 0)) (1 + ((v1 / 64) - (v1 / 64) / 12 * 12)) μ) fun μ_6 => (some μ_6)))))
noncomputable def X5_back (μ : Mem) : Option (Int32 × Mem) :=
  if (μ 17 10 0 0) = 0 then (some ((-2), μ))
  else (gi ((xs μ 17 10 0 0 ((μ 17 10 0 0) - 1)) 17 10 0 0) 2 (bdv (X1_copyFrom 0 (10 + ((xs μ 17 10 0 0 ((μ 17 10 0 0) - 1)) 17 10 0 0).toNatClampNeg) (xs μ 17 10 0 0 ((μ 17 10 0 0) - 1))) fun μ_4 => (some ((xs μ_4 15 2 0 0 0) 17 10 0 0, (xs μ_4 15 2 0 0 0)))))
noncomputable def X5_behind (v1 v2 : Int32) (μ : Mem) : Option (Int32 × Mem) :=
  bd (X4_hasThing 13 v1 μ) fun r_3 μ_2 => (if r_3 = 0 then (some ((-1), μ_2))
  else (if v2 < 0 then (some ((-1), μ_2))
  else (if v2 ≤ 9 then (bdv (X1_copyFrom 1 0 μ_2) fun μ_8 => (bdv (X1_holdFairs 1 v2 μ_8) fun μ_10 => (gi v1 6 (some (μ_10 1 4 0 v1.toNatClampNeg, μ_10)))))
  else (some ((-1), μ_2)))))
noncomputable def X5_cheapest_b85 (k32 : Int32 → Int32 → Int32 → Mem → Option (Int32 × Mem)) (v1 v2 v3 v4 v5 : Int32) (μ : Mem) : Option (Int32 × Mem) :=
  k32 v3 v4 (v5 + 1) μ
noncomputable def X5_cheapest_b78 (k32 : Int32 → Int32 → Int32 → Mem → Option (Int32 × Mem)) (v1 v2 v5 v6 : Int32) (μ : Mem) : Option (Int32 × Mem) :=
  X5_cheapest_b85 k32 v1 v2 v5 v6 v5 μ
noncomputable def X5_cheapest_b32 (v1 v2 : Int32) (k32 : Int32 → Int32 → Int32 → Mem → Option (Int32 × Mem)) (v3 v4 v5 : Int32) (μ : Mem) : Option (Int32 × Mem) :=
  if (μ 13 0 0 0) ≤ v5 then (if v2 = 0 then (some (v3, μ))
  else (some (v4, μ)))
  else (gi v5 6 (gi v1 6 (if (μ 0 9 v5.toNatClampNeg v1.toNatClampNeg) = (-4) then (X5_cheapest_b85 k32 v1 v2 v3 v4 v5 μ)
  else (if v3 = (-4) then (X5_cheapest_b78 k32 v1 v2 v5 (μ 0 9 v5.toNatClampNeg v1.toNatClampNeg) μ)
  else (if v4 ≤ (μ 0 9 v5.toNatClampNeg v1.toNatClampNeg) then (X5_cheapest_b85 k32 v1 v2 v3 v4 v5 μ)
  else (X5_cheapest_b78 k32 v1 v2 v5 (μ 0 9 v5.toNatClampNeg v1.toNatClampNeg) μ))))))
noncomputable def X5_cheapest (v1 v2 : Int32) (μ : Mem) : Option (Int32 × Mem) :=
  bd (X4_hasThing 13 v1 μ) fun r_3 μ_2 => (if r_3 = 0 then (some ((-1), μ_2))
  else (if v2 < 0 then (some ((-1), μ_2))
  else (if v2 ≤ 1 then (lo3 (X5_cheapest_b32 v1 v2) 1000 (-4) (-4) 0 μ_2)
  else (some ((-1), μ_2)))))
noncomputable def X5_count (v1 : Int32) (μ : Mem) : Option (Int32 × Mem) :=
  if v1 = 0 then (some (μ 13 0 0 0, μ))
  else if v1 = 1 then (some (μ 13 1 0 0, μ))
  else if v1 = 2 then (some (μ 0 1 0 0, μ))
  else if v1 = 3 then (bd (X1_thingsGone 0 μ) fun r_7 μ_6 => (some (r_7, μ_6)))
  else if v1 = 4 then (bd (X1_coinsOfAll 0 μ) fun r_11 μ_10 => (some (r_11, μ_10)))
  else if v1 = 5 then (some (μ 16 3 0 0, μ))
  else if v1 = 6 then (some (μ 15 2 0 0, μ))
  else if v1 = 7 then (some (μ 17 10 0 0, μ))
  else if v1 = 8 then (some (μ 17 9 0 0, μ))
  else (some ((-1), μ))
noncomputable def X5_greatestDivisor_b7 (k7 : Int32 → Int32 → Int32 → Mem → Option (Int32 × Mem)) (v2 v3 v4 : Int32) (μ : Mem) : Option (Int32 × Mem) :=
  if 100 ≤ v4 then (some (v2, μ))
  else (if v3 = 0 then (some (v2, μ))
  else (gz v3 (k7 v3 (v2 - v2 / v3 * v3) (v4 + 1) μ)))
noncomputable def X5_greatestDivisor (v0 v1 : Int32) (μ : Mem) : Option (Int32 × Mem) :=
  lo3 (X5_greatestDivisor_b7) 1000 v0 v1 0 μ
noncomputable def X5_uncountedDraws_b27 (k4 : Int32 → Int32 → Mem → Option (Int32 × Mem)) (v1 v2 v3 : Int32) (μ : Mem) : Option (Int32 × Mem) :=
  k4 v2 (v3 + 1) μ
noncomputable def X5_uncountedDraws_b4 (v1 : Int32) (k4 : Int32 → Int32 → Mem → Option (Int32 × Mem)) (v2 v3 : Int32) (μ : Mem) : Option (Int32 × Mem) :=
  if 12 < v3 then (some (v2, μ))
  else (bd (X4_countedFor 13 v1 v3 μ) fun r_4 μ_3 => (if 9 ≤ r_4 then (X5_uncountedDraws_b27 k4 v1 v2 v3 μ_3)
  else (X5_uncountedDraws_b27 k4 v1 (v2 + 1) v3 μ_3)))
noncomputable def X5_uncountedDraws (v1 : Int32) (μ : Mem) : Option (Int32 × Mem) :=
  lo2 (X5_uncountedDraws_b4 v1) 1000 0 1 μ
noncomputable def X5_counts_b40 (v1 v2 v3 : Int32) (k40 : Int32 → Int32 → Int32 → Mem → Option (Int32 × Mem)) (v4 v5 v6 : Int32) (μ : Mem) : Option (Int32 × Mem) :=
  if v2 ≤ v6 then (bd (X5_greatestDivisor v4 (v4 - v5) μ) fun r_12 μ_11 => (if v3 = 0 then (gz (if 1 < r_12 then r_12 else 1) (some ((v4 - v5) / (if 1 < r_12 then r_12 else 1), μ_11)))
  else (gz (if 1 < r_12 then r_12 else 1) (some (v4 / (if 1 < r_12 then r_12 else 1), μ_11)))))
  else (bd (X5_uncountedDraws v1 μ) fun r_18 μ_17 => (k40 (v4 * 12) (v5 * r_18) (v6 + 1) μ_17))
noncomputable def X5_counts (v1 v2 v3 : Int32) (μ : Mem) : Option (Int32 × Mem) :=
  bd (X4_hasPerson 13 v1 μ) fun r_3 μ_2 => (if r_3 = 0 then (some ((-1), μ_2))
  else (if v2 < 0 then (some ((-1), μ_2))
  else (if 4 < v2 then (some ((-1), μ_2))
  else (if v3 < 0 then (some ((-1), μ_2))
  else (if v3 ≤ 1 then (lo3 (X5_counts_b40 v1 v2 v3) 1000 1 1 0 μ_2)
  else (some ((-1), μ_2)))))))
noncomputable def X5_draw (v0 v1 : Int32) (μ : Mem) : Option (Int32 × Mem) :=
  some (((((((7919 * v0.toInt64) + (6151 * v1.toInt64)) + 1) * (((7919 * v0.toInt64) + (6151 * v1.toInt64)) + 1)) - ((((7919 * v0.toInt64) + (6151 * v1.toInt64)) + 1) * (((7919 * v0.toInt64) + (6151 * v1.toInt64)) + 1)) / 65521 * 65521) / 4).toInt32, μ)
noncomputable def X5_fair (μ : Mem) : Option (Int32 × Mem) :=
  if (μ 0 1 0 0) < 99 then (bdv (X0_remember μ) fun μ_3 => (bd (X1_holdFair 0 μ_3) fun r_6 μ_5 => (some (r_6, μ_5))))
  else (some ((-2), μ))
noncomputable def X5_fault (μ : Mem) : Option (Int32 × Mem) :=
  bd (X2_read 12 (μ 17 9 0 0) μ) fun r_3 μ_2 => (some (r_3, μ_2))
noncomputable def X5_feigned_b74 (k42 : Int32 → Int32 → Mem → Option (Int32 × Mem)) (v2 v3 : Int32) (μ : Mem) : Option (Int32 × Mem) :=
  k42 v2 (v3 + 1) μ
noncomputable def X5_feigned_b42 (k42 : Int32 → Int32 → Mem → Option (Int32 × Mem)) (v2 v3 : Int32) (μ : Mem) : Option (Int32 × Mem) :=
  if (μ 13 0 0 0) ≤ v3 then (some (v2, μ))
  else (bd (X3_allHoldIn v3 μ) fun r_7 μ_6 => (if r_7 = 0 then (X5_feigned_b74 k42 v2 v3 μ_6)
  else (X5_feigned_b74 k42 (v2 ||| (1 <<< (v3 &&& 31))) v3 μ_6)))
noncomputable def X5_feigned (v1 : Int32) (μ : Mem) : Option (Int32 × Mem) :=
  if v1 < 0 then (some ((-1), μ))
  else (if v1 ≤ 1 then (if v1 = 1 then (bd (X3_allHoldIn (-4) μ) fun r_11 μ_10 => (if r_11 = 0 then (some (0, μ_10))
  else (some (1, μ_10))))
  else (lo2 (X5_feigned_b42) 1000 0 0 μ))
  else (some ((-1), μ)))
noncomputable def X5_forget (μ : Mem) : Option (Int32 × Mem) :=
  some (μ 16 3 0 0, (xs μ 16 3 0 0 0))
noncomputable def X5_give (v1 v2 v3 : Int32) (μ : Mem) : Option (Int32 × Mem) :=
  bd (X4_hasPerson 13 v1 μ) fun r_3 μ_2 => (if r_3 = 0 then (some ((-1), μ_2))
  else (bd (X4_hasPerson 13 v2 μ_2) fun r_7 μ_6 => (if r_7 = 0 then (some ((-1), μ_6))
  else (if v1 = v2 then (some ((-1), μ_6))
  else (if v3 < 1 then (some ((-1), μ_6))
  else (if v3 ≤ 99 then (gi v1 6 (if v3 ≤ (μ_6 0 3 0 v1.toNatClampNeg) then (gi v2 6 (if ((μ_6 0 3 0 v2.toNatClampNeg) + v3) ≤ 999 then (bdv (X0_remember μ_6) fun μ_17 => (gi v1 6 (gi v1 6 (gi v2 6 (gi v2 6 (gi v1 6 (some ((xs (xs μ_17 0 3 0 v1.toNatClampNeg ((μ_17 0 3 0 v1.toNatClampNeg) - v3)) 0 3 0 v2.toNatClampNeg (((xs μ_17 0 3 0 v1.toNatClampNeg ((μ_17 0 3 0 v1.toNatClampNeg) - v3)) 0 3 0 v2.toNatClampNeg) + v3)) 0 3 0 v1.toNatClampNeg, (xs (xs μ_17 0 3 0 v1.toNatClampNeg ((μ_17 0 3 0 v1.toNatClampNeg) - v3)) 0 3 0 v2.toNatClampNeg (((xs μ_17 0 3 0 v1.toNatClampNeg ((μ_17 0 3 0 v1.toNatClampNeg) - v3)) 0 3 0 v2.toNatClampNeg) + v3))))))))))
  else (some ((-3), μ_6))))
  else (some ((-2), μ_6))))
  else (some ((-1), μ_6))))))))
noncomputable def X5_goes (v1 : Int32) (μ : Mem) : Option (Int32 × Mem) :=
  bd (X4_hasThing 13 v1 μ) fun r_3 μ_2 => (if r_3 = 0 then (some ((-1), μ_2))
  else (bdv (X1_copyFrom 1 0 μ_2) fun μ_6 => (bd (X1_fairsTillGone 1 v1 μ_6) fun r_9 μ_8 => (some (r_9, μ_8)))))
noncomputable def X5_greens_b47 (v1 v2 v3 : Int32) (k47 : Int32 → Mem → Option (Int32 × Mem)) (v4 : Int32) (μ : Mem) : Option (Int32 × Mem) :=
  if v2 ≤ v4 then (if v3 = 0 then (bd (X1_thingsGone 1 μ) fun r_16 μ_15 => (some (r_16, μ_15)))
  else (bd (X1_coinsOfAll 1 μ) fun r_13 μ_12 => (some (r_13, μ_12))))
  else (bd (X5_draw v1 v4 μ) fun r_19 μ_18 => (bdv (X5_addDrawnPause r_19 μ_18) fun μ_21 => (bd (X1_holdFair 1 μ_21) fun r_24 μ_23 => (k47 (v4 + 1) μ_23))))
noncomputable def X5_greens (v1 v2 v3 : Int32) (μ : Mem) : Option (Int32 × Mem) :=
  if v1 < 0 then (some ((-1), μ))
  else (if 9999 < v1 then (some ((-1), μ))
  else (if v2 < 1 then (some ((-1), μ))
  else (if 9 < v2 then (some ((-1), μ))
  else (if v3 < 0 then (some ((-1), μ))
  else (if v3 ≤ 1 then (bdv (X1_copyFrom 1 0 μ) fun μ_8 => (lo1 (X5_greens_b47 v1 v2 v3) 1000 0 μ_8))
  else (some ((-1), μ)))))))
noncomputable def X5_keep (μ : Mem) : Option (Int32 × Mem) :=
  if (μ 17 10 0 0) < 2 then (gi (μ 17 10 0 0) 2 (bdv (X1_copyFrom (10 + (μ 17 10 0 0).toNatClampNeg) 0 μ) fun μ_4 => (some ((xs μ_4 17 10 0 0 ((μ_4 17 10 0 0) + 1)) 17 10 0 0, (xs μ_4 17 10 0 0 ((μ_4 17 10 0 0) + 1))))))
  else (some ((-3), μ))
noncomputable def X5_layTheText (μ : Mem) : Option (Mem) :=
  bd (X2_read 13 (μ 17 9 0 0) μ) fun r_3 μ_2 => (bdv (X1_begin 0 (-4) μ_2) fun μ_5 => (some (xs (xs (xs μ_5 15 2 0 0 0) 17 10 0 0 0) 16 3 0 0 0)))
noncomputable def X5_lay (μ : Mem) : Option (Int32 × Mem) :=
  bd (X2_read 12 (μ 17 9 0 0) μ) fun r_3 μ_2 => (if r_3 = (-4) then (bd (X4_canBeLaid 12 μ_2) fun r_7 μ_6 => (if r_7 = 0 then (some ((-2), μ_6))
  else (bdv (X5_layTheText μ_6) fun μ_10 => (some (μ_10 13 1 0 0, μ_10)))))
  else (some ((-2), μ_2)))
noncomputable def X5_nearly (v1 v2 v3 : Int32) (μ : Mem) : Option (Int32 × Mem) :=
  bd (X4_hasPerson 13 v1 μ) fun r_3 μ_2 => (if r_3 = 0 then (some ((-1), μ_2))
  else (bd (X4_hasThing 13 v2 μ_2) fun r_7 μ_6 => (if r_7 = 0 then (some ((-1), μ_6))
  else (if v3 = 0 then (gi v1 6 (gi v2 6 (some (μ_6 0 6 v1.toNatClampNeg v2.toNatClampNeg, μ_6))))
  else if v3 = 1 then (gi v1 6 (gi v2 6 (some (μ_6 0 8 v1.toNatClampNeg v2.toNatClampNeg, μ_6))))
  else if v3 = 2 then (gi v1 6 (gi v2 6 (some (μ_6 0 7 v1.toNatClampNeg v2.toNatClampNeg, μ_6))))
  else if v3 = 3 then (gi v1 6 (gi v2 6 (if (μ_6 0 9 v1.toNatClampNeg v2.toNatClampNeg) = (-4) then (some (0, μ_6))
  else (some (1, μ_6)))))
  else if v3 = 4 then (gi v1 6 (gi v2 6 (some (μ_6 0 9 v1.toNatClampNeg v2.toNatClampNeg, μ_6))))
  else (some ((-1), μ_6))))))
noncomputable def X5_never_b52 (k24 : Int32 → Int32 → Mem → Option (Int32 × Mem)) (v1 v2 : Int32) (μ : Mem) : Option (Int32 × Mem) :=
  k24 v1 (v2 + 1) μ
noncomputable def X5_never_b24 (k24 : Int32 → Int32 → Mem → Option (Int32 × Mem)) (v1 v2 : Int32) (μ : Mem) : Option (Int32 × Mem) :=
  if (μ 13 1 0 0) ≤ v2 then (some (v1, μ))
  else (bd (X1_isFree 1 v2 μ) fun r_8 μ_7 => (if r_8 = 0 then (X5_never_b52 k24 v1 v2 μ_7)
  else (X5_never_b52 k24 (v1 ||| (1 <<< (v2 &&& 31))) v2 μ_7)))
noncomputable def X5_never (μ : Mem) : Option (Int32 × Mem) :=
  bdv (X1_copyFrom 1 0 μ) fun μ_2 => (bdv (X1_holdFairs 1 9 μ_2) fun μ_4 => (lo2 (X5_never_b24) 1000 0 0 μ_4))
noncomputable def X5_pause (v1 v2 v3 : Int32) (μ : Mem) : Option (Int32 × Mem) :=
  bd (X4_hasPerson 13 v1 μ) fun r_3 μ_2 => (if r_3 = 0 then (some ((-1), μ_2))
  else (bd (X4_hasThing 13 v2 μ_2) fun r_7 μ_6 => (if r_7 = 0 then (some ((-1), μ_6))
  else (if v3 < 1 then (some ((-1), μ_6))
  else (if v3 ≤ 30 then (bdv (X0_remember μ_6) fun μ_12 => (bdv (X1_addPause 0 v1 v2 v3 μ_12) fun μ_14 => (gi v1 6 (gi v2 6 (some (μ_14 0 8 v1.toNatClampNeg v2.toNatClampNeg, μ_14))))))
  else (some ((-1), μ_6)))))))
noncomputable def X5_person (v1 v2 : Int32) (μ : Mem) : Option (Int32 × Mem) :=
  bd (X4_hasPerson 13 v1 μ) fun r_3 μ_2 => (if r_3 = 0 then (some ((-1), μ_2))
  else (if v2 = 0 then (gi v1 6 (some (μ_2 13 5 0 v1.toNatClampNeg, μ_2)))
  else if v2 = 1 then (gi v1 6 (some (μ_2 0 3 0 v1.toNatClampNeg, μ_2)))
  else if v2 = 2 then (bd (X1_thingsOf 0 v1 μ_2) fun r_12 μ_11 => (some (r_12, μ_11)))
  else if v2 = 3 then (bd (X1_worthOf 0 v1 μ_2) fun r_16 μ_15 => (some (r_16, μ_15)))
  else (some ((-1), μ_2))))
noncomputable def X5_rank_b61 (k19 : Int32 → Mem → Option (Int32 × Mem)) (v1 v2 v3 : Int32) (μ : Mem) : Option (Int32 × Mem) :=
  k19 (v3 + 1) μ
noncomputable def X5_rank_b19 (v1 v2 : Int32) (k19 : Int32 → Mem → Option (Int32 × Mem)) (v3 : Int32) (μ : Mem) : Option (Int32 × Mem) :=
  if (μ 13 1 0 0) ≤ v3 then (some ((-4), μ))
  else (gi v1 6 (gi v3 6 (if (μ 0 9 v1.toNatClampNeg v3.toNatClampNeg) = (-4) then (X5_rank_b61 k19 v1 v2 v3 μ)
  else (bd (X1_dearerTo 0 v1 v3 μ) fun r_12 μ_11 => (if r_12 = v2 then (some (v3, μ_11))
  else (X5_rank_b61 k19 v1 v2 v3 μ_11))))))
noncomputable def X5_rank (v1 v2 : Int32) (μ : Mem) : Option (Int32 × Mem) :=
  bd (X4_hasPerson 13 v1 μ) fun r_3 μ_2 => (if r_3 = 0 then (some ((-1), μ_2))
  else (if 0 ≤ v2 then (lo1 (X5_rank_b19 v1 v2) 1000 0 μ_2)
  else (some ((-1), μ_2))))
noncomputable def X5_seen (v1 v2 v3 : Int32) (μ : Mem) : Option (Int32 × Mem) :=
  bd (X4_hasThing 13 v1 μ) fun r_3 μ_2 => (if r_3 = 0 then (some ((-1), μ_2))
  else (bd (X4_hasPerson 13 v2 μ_2) fun r_7 μ_6 => (if r_7 = 0 then (some ((-1), μ_6))
  else (if v3 < 1 then (some ((-1), μ_6))
  else (if v3 ≤ 9 then (if (μ_6 16 3 0 0) < 6 then (bdv (X3_add v1 v2 v3 μ_6) fun μ_13 => (some (μ_13 16 3 0 0, μ_13)))
  else (some ((-3), μ_6)))
  else (some ((-1), μ_6)))))))
noncomputable def X5_stop_b70 (k36 : Int32 → Mem → Option (Int32 × Mem)) (v1 v2 v3 v4 : Int32) (μ : Mem) : Option (Int32 × Mem) :=
  bd (X1_fairsTillGone 1 v2 μ) fun r_17 μ_16 => (gi v2 6 (if (μ_16 1 4 0 v2.toNatClampNeg) = v1 then (if v3 = 0 then (some (v4, μ_16))
  else (some (r_17, μ_16)))
  else (k36 (v4 + 1) μ_16)))
noncomputable def X5_stop_b36 (v1 v2 v3 : Int32) (k36 : Int32 → Mem → Option (Int32 × Mem)) (v4 : Int32) (μ : Mem) : Option (Int32 × Mem) :=
  if 30 < v4 then (some ((-4), μ))
  else (bdv (X1_copyFrom 1 0 μ) fun μ_13 => (if v4 ≤ 0 then (X5_stop_b70 k36 v1 v2 v3 v4 μ_13)
  else (bdv (X1_addPause 1 v1 v2 v4 μ_13) fun μ_22 => (X5_stop_b70 k36 v1 v2 v3 v4 μ_22))))
noncomputable def X5_stop (v1 v2 v3 : Int32) (μ : Mem) : Option (Int32 × Mem) :=
  bd (X4_hasPerson 13 v1 μ) fun r_3 μ_2 => (if r_3 = 0 then (some ((-1), μ_2))
  else (bd (X4_hasThing 13 v2 μ_2) fun r_7 μ_6 => (if r_7 = 0 then (some ((-1), μ_6))
  else (if v3 < 0 then (some ((-1), μ_6))
  else (if v3 ≤ 1 then (lo1 (X5_stop_b36 v1 v2 v3) 1000 0 μ_6)
  else (some ((-1), μ_6)))))))
noncomputable def X5_thing (v1 v2 : Int32) (μ : Mem) : Option (Int32 × Mem) :=
  bd (X4_hasThing 13 v1 μ) fun r_3 μ_2 => (if r_3 = 0 then (some ((-1), μ_2))
  else (if v2 = 0 then (bd (X4_costIn 13 v1 (μ_2 0 1 0 0) μ_2) fun r_8 μ_7 => (some (r_8, μ_7)))
  else if v2 = 1 then (gi v1 6 (some (μ_2 0 4 0 v1.toNatClampNeg, μ_2)))
  else if v2 = 2 then (gi v1 6 (some (μ_2 0 5 0 v1.toNatClampNeg, μ_2)))
  else if v2 = 3 then (bd (X1_isFree 0 v1 μ_2) fun r_16 μ_15 => (if r_16 = 0 then (some ((-4), μ_15))
  else (bd (X1_claimantOf 0 v1 μ_15) fun r_20 μ_19 => (some (r_20, μ_19)))))
  else (some ((-1), μ_2))))
noncomputable def X5_undo (μ : Mem) : Option (Int32 × Mem) :=
  if (μ 15 2 0 0) = 0 then (some ((-2), μ))
  else (bdv (X0_restore μ) fun μ_3 => (some (μ_3 15 2 0 0, μ_3)))
noncomputable def X5_wanted_b47 (k15 : Int32 → Int32 → Mem → Option (Int32 × Mem)) (v1 v2 v3 : Int32) (μ : Mem) : Option (Int32 × Mem) :=
  k15 v2 (v3 + 1) μ
noncomputable def X5_wanted_b15 (v1 : Int32) (k15 : Int32 → Int32 → Mem → Option (Int32 × Mem)) (v2 v3 : Int32) (μ : Mem) : Option (Int32 × Mem) :=
  if (μ 13 1 0 0) ≤ v3 then (if v1 = 0 then (some (v2, μ))
  else (bd (X1_wantersOf 0 v2 μ) fun r_7 μ_6 => (some (r_7, μ_6))))
  else (bd (X1_wantersOf 0 v3 μ) fun r_10 μ_9 => (bd (X1_wantersOf 0 v2 μ_9) fun r_13 μ_12 => (if r_10 ≤ r_13 then (X5_wanted_b47 k15 v1 v2 v3 μ_12)
  else (X5_wanted_b47 k15 v1 v3 v3 μ_12))))
noncomputable def X5_wanted (v1 : Int32) (μ : Mem) : Option (Int32 × Mem) :=
  if v1 < 0 then (some ((-1), μ))
  else (if v1 ≤ 1 then (lo2 (X5_wanted_b15 v1) 1000 0 1 μ)
  else (some ((-1), μ)))
noncomputable def X5_wipe (μ : Mem) : Option (Int32 × Mem) :=
  some (μ 17 9 0 0, (xs μ 17 9 0 0 0))
noncomputable def X5_write (v1 : Int32) (μ : Mem) : Option (Int32 × Mem) :=
  if v1 < 32 then (some ((-1), μ))
  else (if v1 ≤ 126 then (if (μ 17 9 0 0) < 200 then (gi (μ 17 9 0 0) 200 (some ((xs (xs μ 17 0 0 (μ 17 9 0 0).toNatClampNeg v1) 17 9 0 0 (((xs μ 17 0 0 (μ 17 9 0 0).toNatClampNeg v1) 17 9 0 0) + 1)) 17 9 0 0, (xs (xs μ 17 0 0 (μ 17 9 0 0).toNatClampNeg v1) 17 9 0 0 (((xs μ 17 0 0 (μ 17 9 0 0).toNatClampNeg v1) 17 9 0 0) + 1)))))
  else (some ((-3), μ)))
  else (some ((-1), μ)))
noncomputable def X6_allCoins_b4 (k4 : Int32 → Int32 → Mem → Option (Int32 × Mem)) (v1 v2 : Int32) (μ : Mem) : Option (Int32 × Mem) :=
  gi 0 59 (if (μ 20 2 0 (0 : Int32).toNatClampNeg) ≤ v2 then (some (v1, μ))
  else (gi v2 55 (k4 (v1 + (μ 20 4 0 v2.toNatClampNeg)) (v2 + 1) μ)))
noncomputable def X6_allCoins (μ : Mem) : Option (Int32 × Mem) :=
  lo2 (X6_allCoins_b4) 1000 0 0 μ
noncomputable def X6_back_b22 (k22 : Int32 → Mem → Option (Int32 × Mem)) (v1 : Int32) (μ : Mem) : Option (Int32 × Mem) :=
  if 55 ≤ v1 then (some ((xs μ 20 6 0 0 0) 20 8 0 0, (xs μ 20 6 0 0 0)))
  else (gi ((55 * (μ 20 8 0 0)) + v1) 110 (gi v1 55 (k22 (v1 + 1) (xs μ 20 4 0 v1.toNatClampNeg (μ 20 7 0 ((55 * (μ 20 8 0 0)) + v1).toNatClampNeg)))))
noncomputable def X6_back (μ : Mem) : Option (Int32 × Mem) :=
  if (μ 20 8 0 0) = 0 then (some ((-2), μ))
  else (lo1 (X6_back_b22) 1000 0 (xs μ 20 8 0 0 ((μ 20 8 0 0) - 1)))
noncomputable def X6_begins_b2 (k2 : Int32 → Mem → Option (Mem)) (v1 : Int32) (μ : Mem) : Option (Mem) :=
  if 59 ≤ v1 then (gi 3 59 (gi 4 59 (some (xs (xs μ 20 3 0 (3 : Int32).toNatClampNeg 5) 20 3 0 (4 : Int32).toNatClampNeg 2))))
  else (gi v1 59 (k2 (v1 + 1) (xs μ 20 3 0 v1.toNatClampNeg 0)))
noncomputable def X6_begins (μ : Mem) : Option (Mem) :=
  lo1 (X6_begins_b2) 1000 0 μ
noncomputable def X6_in (v0 v1 v2 : Int32) (μ : Mem) : Option (Int32 × Mem) :=
  if v0 < v1 then (some (0, μ))
  else (if v2 < v0 then (some (0, μ))
  else (some (1, μ)))
noncomputable def X6_isThing (v1 : Int32) (μ : Mem) : Option (Int32 × Mem) :=
  gi 1 59 (bd (X6_in v1 0 ((μ 20 2 0 (1 : Int32).toNatClampNeg) - 1) μ) fun r_4 μ_3 => (gb r_4 (some (r_4, μ_3))))
noncomputable def X6_remembers_b2 (k2 : Int32 → Mem → Option (Mem)) (v1 : Int32) (μ : Mem) : Option (Mem) :=
  if 55 ≤ v1 then (some μ)
  else (gi v1 55 (gi v1 55 (k2 (v1 + 1) (xs μ 20 13 0 v1.toNatClampNeg (μ 20 4 0 v1.toNatClampNeg)))))
noncomputable def X6_remembers (μ : Mem) : Option (Mem) :=
  lo1 (X6_remembers_b2) 1000 0 μ
noncomputable def X6_lets_b2 (k2 : Int32 → Mem → Option (Mem)) (v1 : Int32) (μ : Mem) : Option (Mem) :=
  if 55 ≤ v1 then (some μ)
  else (gi v1 55 (gi v1 55 (k2 (v1 + 1) (xs μ 20 4 0 v1.toNatClampNeg (μ 20 13 0 v1.toNatClampNeg)))))
noncomputable def X6_lets (μ : Mem) : Option (Mem) :=
  lo1 (X6_lets_b2) 1000 0 μ
noncomputable def X6_better_b44 (v0 v1 s0 : Int32) (μ : Mem) : Option (Int32 × Mem) :=
  if s0 = 0 then (some (v1, μ))
  else (some (v0, μ))
noncomputable def X6_better_b39 (v0 v1 : Int32) (μ : Mem) : Option (Int32 × Mem) :=
  X6_better_b44 v0 v1 1 μ
noncomputable def X6_better_b43 (v0 v1 : Int32) (μ : Mem) : Option (Int32 × Mem) :=
  X6_better_b44 v0 v1 0 μ
noncomputable def X6_better (v0 v1 : Int32) (μ : Mem) : Option (Int32 × Mem) :=
  if (v1 / 128) < (v0 / 128) then (X6_better_b39 v0 v1 μ)
  else (if (v0 / 128) = (v1 / 128) then (if (v1 - v1 / 128 * 128) < (v0 - v0 / 128 * 128) then (X6_better_b43 v0 v1 μ)
  else (X6_better_b39 v0 v1 μ))
  else (X6_better_b43 v0 v1 μ))
noncomputable def X6_pauseNow_b107 (k18 : Int32 → Int32 → Mem → Option (Int32 × Mem)) (v1 v2 v3 v4 : Int32) (μ : Mem) : Option (Int32 × Mem) :=
  k18 v3 (v4 + 1) μ
noncomputable def X6_pauseNow_b18 (v1 v2 : Int32) (k18 : Int32 → Int32 → Mem → Option (Int32 × Mem)) (v3 v4 : Int32) (μ : Mem) : Option (Int32 × Mem) :=
  gi 2 59 (if (μ 20 2 0 (2 : Int32).toNatClampNeg) ≤ v4 then (if v1 = (μ 20 12 0 0) then (some (0, μ))
  else (some (v3, μ)))
  else (gi (23 + v4) 59 (if (μ 20 2 0 (23 + v4).toNatClampNeg) = v1 then (gi (32 + v4) 59 (if (μ 20 2 0 (32 + v4).toNatClampNeg) = v2 then (gi (50 + v4) 59 (gi 54 55 (if (μ 20 4 0 (54 : Int32).toNatClampNeg) < (μ 20 2 0 (50 + v4).toNatClampNeg) then (X6_pauseNow_b107 k18 v1 v2 v3 v4 μ)
  else (gi (41 + v4) 59 (gi (50 + v4) 59 (bd (X6_better ((128 * (μ 20 2 0 (41 + v4).toNatClampNeg)) + (μ 20 2 0 (50 + v4).toNatClampNeg)) v3 μ) fun r_16 μ_15 => (X6_pauseNow_b107 k18 v1 v2 r_16 v4 μ_15)))))))
  else (X6_pauseNow_b107 k18 v1 v2 v3 v4 μ)))
  else (X6_pauseNow_b107 k18 v1 v2 v3 v4 μ))))
noncomputable def X6_pauseNow (v1 v2 : Int32) (μ : Mem) : Option (Int32 × Mem) :=
  gi ((18 + (6 * v1)) + v2) 55 (lo2 (X6_pauseNow_b18 v1 v2) 1000 (μ 20 4 0 ((18 + (6 * v1)) + v2).toNatClampNeg) 0 μ)
noncomputable def X6_countedOf (v1 v2 : Int32) (μ : Mem) : Option (Int32 × Mem) :=
  if v1 = 1 then (if 2 ≤ v2 then (some (v2 - 2, μ))
  else (some (0, μ)))
  else (if v1 = 2 then (some (3 * v2, μ))
  else (if v1 = 3 then (some (2 * v2, μ))
  else (some (v2, μ))))
noncomputable def X6_countedNow (v1 v2 : Int32) (μ : Mem) : Option (Int32 × Mem) :=
  gi (5 + v1) 59 (bd (X6_pauseNow v1 v2 μ) fun r_4 μ_3 => (bd (X6_countedOf (μ 20 2 0 (5 + v1).toNatClampNeg) (r_4 / 128) μ_3) fun r_7 μ_6 => (some (r_7, μ_6))))
noncomputable def X6_claim_b54 (k9 : Int32 → Int32 → Int32 → Mem → Option (Int32 × Mem)) (v1 v2 v4 s0 : Int32) (μ : Mem) : Option (Int32 × Mem) :=
  k9 v2 s0 (v4 + 1) μ
noncomputable def X6_claim_b41 (k9 : Int32 → Int32 → Int32 → Mem → Option (Int32 × Mem)) (v1 v3 v4 v5 s0 : Int32) (μ : Mem) : Option (Int32 × Mem) :=
  if v5 ≤ v3 then (X6_claim_b54 k9 v1 s0 v4 v3 μ)
  else (X6_claim_b54 k9 v1 s0 v4 v5 μ)
noncomputable def X6_claim_b9 (v1 : Int32) (k9 : Int32 → Int32 → Int32 → Mem → Option (Int32 × Mem)) (v2 v3 v4 : Int32) (μ : Mem) : Option (Int32 × Mem) :=
  gi 0 59 (if (μ 20 2 0 (0 : Int32).toNatClampNeg) ≤ v4 then (some (v2, μ))
  else (bd (X6_countedNow v4 v1 μ) fun r_5 μ_4 => (if r_5 ≤ v3 then (X6_claim_b41 k9 v1 v3 v4 r_5 v2 μ_4)
  else (X6_claim_b41 k9 v1 v3 v4 r_5 v4 μ_4))))
noncomputable def X6_claim (v1 : Int32) (μ : Mem) : Option (Int32 × Mem) :=
  lo3 (X6_claim_b9 v1) 1000 (-4) 8 0 μ
noncomputable def X6_costs (v1 v2 : Int32) (μ : Mem) : Option (Int32 × Mem) :=
  gi (17 + v1) 59 (gi 4 59 (some ((μ 20 2 0 (17 + v1).toNatClampNeg) + ((μ 20 2 0 (4 : Int32).toNatClampNeg) * v2), μ)))
noncomputable def X6_priceOf (v1 v2 : Int32) (μ : Mem) : Option (Int32 × Mem) :=
  bd (X6_pauseNow v1 v2 μ) fun r_3 μ_2 => (bd (X6_costs v2 (r_3 - r_3 / 128 * 128) μ_2) fun r_6 μ_5 => (gi (5 + v1) 59 (if (μ_5 20 2 0 (5 + v1).toNatClampNeg) = 3 then (some (r_6 / 2, μ_5))
  else (some (r_6, μ_5)))))
noncomputable def X6_sells (v1 v2 v3 : Int32) (μ : Mem) : Option (Mem) :=
  gi (6 + v1) 55 (gi v2 55 (gi v2 55 (some (xs (xs μ 20 4 0 (6 + v1).toNatClampNeg v2) 20 4 0 v2.toNatClampNeg (((xs μ 20 4 0 (6 + v1).toNatClampNeg v2) 20 4 0 v2.toNatClampNeg) - v3)))))
noncomputable def X6_isNearly (v1 v2 : Int32) (μ : Mem) : Option (Int32 × Mem) :=
  bd (X6_countedNow v1 v2 μ) fun r_3 μ_2 => (if r_3 ≤ 8 then (some (0, μ_2))
  else (some (1, μ_2)))
noncomputable def X6_dearest_b49 (k5 : Int32 → Int32 → Mem → Option (Int32 × Mem)) (v1 v3 s0 : Int32) (μ : Mem) : Option (Int32 × Mem) :=
  k5 s0 (v3 + 1) μ
noncomputable def X6_dearest_b35 (k5 : Int32 → Int32 → Mem → Option (Int32 × Mem)) (v1 v2 v3 s0 : Int32) (μ : Mem) : Option (Int32 × Mem) :=
  if s0 ≤ v2 then (X6_dearest_b49 k5 v1 v3 v2 μ)
  else (X6_dearest_b49 k5 v1 v3 s0 μ)
noncomputable def X6_dearest_b5 (v1 : Int32) (k5 : Int32 → Int32 → Mem → Option (Int32 × Mem)) (v2 v3 : Int32) (μ : Mem) : Option (Int32 × Mem) :=
  gi 1 59 (if (μ 20 2 0 (1 : Int32).toNatClampNeg) ≤ v3 then (some (v2, μ))
  else (bd (X6_isNearly v1 v3 μ) fun r_5 μ_4 => (if r_5 = 0 then (X6_dearest_b35 k5 v1 v2 v3 (-4) μ_4)
  else (bd (X6_priceOf v1 v3 μ_4) fun r_10 μ_9 => (X6_dearest_b35 k5 v1 v2 v3 r_10 μ_9)))))
noncomputable def X6_dearest (v1 : Int32) (μ : Mem) : Option (Int32 × Mem) :=
  lo2 (X6_dearest_b5 v1) 1000 (-4) 0 μ
noncomputable def X6_offers_b164 (v1 v3 v4 : Int32) (μ : Mem) : Option (Mem) :=
  if v4 = (-4) then (some μ)
  else (bdv (X6_sells v1 v4 v3 μ) fun μ_13 => (some μ_13))
noncomputable def X6_offers_b156 (k72 : Int32 → Int32 → Int32 → Mem → Option (Mem)) (v1 v2 v3 v4 v6 s0 : Int32) (μ : Mem) : Option (Mem) :=
  k72 v4 s0 (v6 + 1) μ
noncomputable def X6_offers_b140 (k72 : Int32 → Int32 → Int32 → Mem → Option (Mem)) (v1 v2 v3 v5 v6 v7 s0 : Int32) (μ : Mem) : Option (Mem) :=
  if v7 ≤ v5 then (X6_offers_b156 k72 v1 v2 v3 s0 v6 v5 μ)
  else (X6_offers_b156 k72 v1 v2 v3 s0 v6 v7 μ)
noncomputable def X6_offers_b124 (k72 : Int32 → Int32 → Int32 → Mem → Option (Mem)) (v1 v2 v3 v4 v5 v6 s0 : Int32) (μ : Mem) : Option (Mem) :=
  if s0 ≤ v5 then (X6_offers_b140 k72 v1 v2 v3 v5 v6 s0 v4 μ)
  else (X6_offers_b140 k72 v1 v2 v3 v5 v6 s0 v6 μ)
noncomputable def X6_offers_b122 (k72 : Int32 → Int32 → Int32 → Mem → Option (Mem)) (v1 v2 v3 v4 v5 v6 : Int32) (μ : Mem) : Option (Mem) :=
  X6_offers_b124 k72 v1 v2 v3 v4 v5 v6 (-4) μ
noncomputable def X6_offers_b72 (v1 v2 v3 : Int32) (k72 : Int32 → Int32 → Int32 → Mem → Option (Mem)) (v4 v5 v6 : Int32) (μ : Mem) : Option (Mem) :=
  gi 0 59 (if (μ 20 2 0 (0 : Int32).toNatClampNeg) ≤ v6 then (X6_offers_b164 v1 v3 v4 μ)
  else (gi (12 + v1) 55 (if (μ 20 4 0 (12 + v1).toNatClampNeg) = 3 then (if v6 = v2 then (X6_offers_b122 k72 v1 v2 v3 v4 v5 v6 μ)
  else (gi v6 55 (if (μ 20 4 0 v6.toNatClampNeg) < v3 then (X6_offers_b122 k72 v1 v2 v3 v4 v5 v6 μ)
  else (bd (X6_dearest v6 μ) fun r_23 μ_22 => (X6_offers_b124 k72 v1 v2 v3 v4 v5 v6 r_23 μ_22)))))
  else (X6_offers_b164 v1 v3 v4 μ))))
noncomputable def X6_offers_b61 (v1 v2 v3 s1 s2 : Int32) (μ : Mem) : Option (Mem) :=
  gi s1 55 (lo3 (X6_offers_b72 v1 v2 v3) 1000 (-4) v3 0 (xs μ 20 4 0 s1.toNatClampNeg s2))
noncomputable def X6_offers (v1 v2 : Int32) (μ : Mem) : Option (Mem) :=
  bd (X6_priceOf v2 v1 μ) fun r_3 μ_2 => (gi v2 55 (if (μ_2 20 4 0 v2.toNatClampNeg) < r_3 then (gi (12 + v1) 55 (if 3 ≤ (μ_2 20 4 0 (12 + v1).toNatClampNeg) then (X6_offers_b61 v1 v2 r_3 (12 + v1) 3 μ_2)
  else (gi (12 + v1) 55 (X6_offers_b61 v1 v2 r_3 (12 + v1) ((μ_2 20 4 0 (12 + v1).toNatClampNeg) + 1) μ_2))))
  else (bdv (X6_sells v1 v2 r_3 μ_2) fun μ_26 => (some μ_26))))
noncomputable def X6_holds_b131 (k78 : Int32 → Mem → Option (Int32 × Mem)) (v1 v2 s1 s2 : Int32) (μ : Mem) : Option (Int32 × Mem) :=
  gi s1 55 (k78 (v2 + 1) (xs μ 20 4 0 s1.toNatClampNeg s2))
noncomputable def X6_holds_b78 (v1 : Int32) (k78 : Int32 → Mem → Option (Int32 × Mem)) (v2 : Int32) (μ : Mem) : Option (Int32 × Mem) :=
  gi 0 59 (if (μ 20 2 0 (0 : Int32).toNatClampNeg) ≤ v2 then (gi 54 55 (gi 54 55 (some (v1, (xs μ 20 4 0 (54 : Int32).toNatClampNeg ((μ 20 4 0 (54 : Int32).toNatClampNeg) + 1))))))
  else (gi v2 55 (gi 3 59 (if ((μ 20 4 0 v2.toNatClampNeg) + (μ 20 2 0 (3 : Int32).toNatClampNeg)) ≤ 999 then (gi v2 55 (gi 3 59 (X6_holds_b131 k78 v1 v2 v2 ((μ 20 4 0 v2.toNatClampNeg) + (μ 20 2 0 (3 : Int32).toNatClampNeg)) μ)))
  else (X6_holds_b131 k78 v1 v2 v2 999 μ)))))
noncomputable def X6_holds_b70 (k4 : Int32 → Int32 → Mem → Option (Int32 × Mem)) (v1 v2 : Int32) (μ : Mem) : Option (Int32 × Mem) :=
  k4 v1 (v2 + 1) μ
noncomputable def X6_holds_b68 (k4 : Int32 → Int32 → Mem → Option (Int32 × Mem)) (v2 s0 s1 : Int32) (μ : Mem) : Option (Int32 × Mem) :=
  X6_holds_b70 k4 (s0 + s1) v2 μ
noncomputable def X6_holds_b4 (k4 : Int32 → Int32 → Mem → Option (Int32 × Mem)) (v1 v2 : Int32) (μ : Mem) : Option (Int32 × Mem) :=
  gi 1 59 (if (μ 20 2 0 (1 : Int32).toNatClampNeg) ≤ v2 then (lo1 (X6_holds_b78 v1) 1000 0 μ)
  else (gi (6 + v2) 55 (if (μ 20 4 0 (6 + v2).toNatClampNeg) = (-4) then (bd (X6_claim v2 μ) fun r_17 μ_16 => (if r_17 = (-4) then (X6_holds_b70 k4 v1 v2 μ_16)
  else (bd (X6_claim v2 μ_16) fun r_21 μ_20 => (bdv (X6_offers v2 r_21 μ_20) fun μ_23 => (gi (6 + v2) 55 (if (μ_23 20 4 0 (6 + v2).toNatClampNeg) = (-4) then (X6_holds_b68 k4 v2 v1 0 μ_23)
  else (X6_holds_b68 k4 v2 v1 1 μ_23)))))))
  else (X6_holds_b70 k4 v1 v2 μ))))
noncomputable def X6_holds (μ : Mem) : Option (Int32 × Mem) :=
  lo2 (X6_holds_b4) 1000 0 0 μ
noncomputable def X6_whoseBehind_b2 (v1 v2 : Int32) (k2 : Int32 → Mem → Option (Int32 × Mem)) (v3 : Int32) (μ : Mem) : Option (Int32 × Mem) :=
  if v2 ≤ v3 then (gi (6 + v1) 55 (bdv (X6_lets μ) fun μ_4 => (some (μ 20 4 0 (6 + v1).toNatClampNeg, μ_4))))
  else (bd (X6_holds μ) fun r_7 μ_6 => (k2 (v3 + 1) μ_6))
noncomputable def X6_whoseBehind (v1 v2 : Int32) (μ : Mem) : Option (Int32 × Mem) :=
  lo1 (X6_whoseBehind_b2 v1 v2) 1000 0 μ
noncomputable def X6_behind (v1 v2 : Int32) (μ : Mem) : Option (Int32 × Mem) :=
  bd (X6_isThing v1 μ) fun r_3 μ_2 => (if r_3 = 0 then (some ((-1), μ_2))
  else (bd (X6_in v2 0 9 μ_2) fun r_7 μ_6 => (if r_7 = 0 then (some ((-1), μ_6))
  else (bdv (X6_remembers μ_6) fun μ_10 => (bd (X6_whoseBehind v1 v2 μ_10) fun r_13 μ_12 => (some (r_13, μ_12)))))))
noncomputable def X6_cheapest_b92 (v3 : Int32) (μ : Mem) : Option (Int32 × Mem) :=
  some (v3, μ)
noncomputable def X6_cheapest_b75 (k32 : Int32 → Int32 → Mem → Option (Int32 × Mem)) (v1 v2 v4 s0 : Int32) (μ : Mem) : Option (Int32 × Mem) :=
  k32 s0 (v4 + (-1)) μ
noncomputable def X6_cheapest_b74 (k32 : Int32 → Int32 → Mem → Option (Int32 × Mem)) (v1 v2 v3 v4 : Int32) (μ : Mem) : Option (Int32 × Mem) :=
  X6_cheapest_b75 k32 v1 v2 v4 v3 μ
noncomputable def X6_cheapest_b69 (k32 : Int32 → Int32 → Mem → Option (Int32 × Mem)) (v1 v2 v4 : Int32) (μ : Mem) : Option (Int32 × Mem) :=
  X6_cheapest_b75 k32 v1 v2 v4 v4 μ
noncomputable def X6_cheapest_b32 (v1 v2 : Int32) (k32 : Int32 → Int32 → Mem → Option (Int32 × Mem)) (v3 v4 : Int32) (μ : Mem) : Option (Int32 × Mem) :=
  if v4 < 0 then (if v2 = 0 then (X6_cheapest_b92 v3 μ)
  else (if v3 = (-4) then (X6_cheapest_b92 v3 μ)
  else (bd (X6_priceOf v3 v1 μ) fun r_15 μ_14 => (some (r_15, μ_14)))))
  else (bd (X6_isNearly v4 v1 μ) fun r_18 μ_17 => (if r_18 = 0 then (X6_cheapest_b74 k32 v1 v2 v3 v4 μ_17)
  else (if v3 = (-4) then (X6_cheapest_b69 k32 v1 v2 v4 μ_17)
  else (bd (X6_priceOf v4 v1 μ_17) fun r_23 μ_22 => (bd (X6_priceOf v3 v1 μ_22) fun r_26 μ_25 => (if r_26 < r_23 then (X6_cheapest_b74 k32 v1 v2 v3 v4 μ_25)
  else (X6_cheapest_b69 k32 v1 v2 v4 μ_25)))))))
noncomputable def X6_cheapest (v1 v2 : Int32) (μ : Mem) : Option (Int32 × Mem) :=
  bd (X6_isThing v1 μ) fun r_3 μ_2 => (if r_3 = 0 then (some ((-1), μ_2))
  else (bd (X6_in v2 0 1 μ_2) fun r_7 μ_6 => (if r_7 = 0 then (some ((-1), μ_6))
  else (gi 0 59 (lo2 (X6_cheapest_b32 v1 v2) 1000 (-4) ((μ_6 20 2 0 (0 : Int32).toNatClampNeg) - 1) μ_6)))))
noncomputable def X6_taken_b34 (k4 : Int32 → Int32 → Mem → Option (Int32 × Mem)) (v2 s0 s1 : Int32) (μ : Mem) : Option (Int32 × Mem) :=
  k4 (s0 + s1) (v2 + 1) μ
noncomputable def X6_taken_b4 (k4 : Int32 → Int32 → Mem → Option (Int32 × Mem)) (v1 v2 : Int32) (μ : Mem) : Option (Int32 × Mem) :=
  gi 1 59 (if (μ 20 2 0 (1 : Int32).toNatClampNeg) ≤ v2 then (some (v1, μ))
  else (gi (6 + v2) 55 (if (μ 20 4 0 (6 + v2).toNatClampNeg) = (-4) then (X6_taken_b34 k4 v2 v1 0 μ)
  else (X6_taken_b34 k4 v2 v1 1 μ))))
noncomputable def X6_taken (μ : Mem) : Option (Int32 × Mem) :=
  lo2 (X6_taken_b4) 1000 0 0 μ
noncomputable def X6_count (v1 : Int32) (μ : Mem) : Option (Int32 × Mem) :=
  if v1 = 0 then (gi 0 59 (some (μ 20 2 0 (0 : Int32).toNatClampNeg, μ)))
  else if v1 = 1 then (gi 1 59 (some (μ 20 2 0 (1 : Int32).toNatClampNeg, μ)))
  else if v1 = 2 then (gi 54 55 (some (μ 20 4 0 (54 : Int32).toNatClampNeg, μ)))
  else if v1 = 3 then (bd (X6_taken μ) fun r_10 μ_9 => (some (r_10, μ_9)))
  else if v1 = 4 then (bd (X6_allCoins μ) fun r_14 μ_13 => (some (r_14, μ_13)))
  else if v1 = 5 then (some (μ 20 10 0 0, μ))
  else if v1 = 6 then (some (μ 20 6 0 0, μ))
  else if v1 = 7 then (some (μ 20 8 0 0, μ))
  else if v1 = 8 then (some (μ 20 1 0 0, μ))
  else (some ((-1), μ))
noncomputable def X6_isPerson (v1 : Int32) (μ : Mem) : Option (Int32 × Mem) :=
  gi 0 59 (bd (X6_in v1 0 ((μ 20 2 0 (0 : Int32).toNatClampNeg) - 1) μ) fun r_4 μ_3 => (gb r_4 (some (r_4, μ_3))))
noncomputable def X6_counts_b126 (v3 v6 v7 : Int32) (k126 : Int32 → Int32 → Mem → Option (Int32 × Mem)) (v8 v9 : Int32) (μ : Mem) : Option (Int32 × Mem) :=
  if v9 ≤ 0 then (if v3 = 0 then (gz v8 (some (v7 / v8, μ)))
  else (gz v8 (some (v6 / v8, μ))))
  else (gz v9 (k126 v9 (v8 - v8 / v9 * v9) μ))
noncomputable def X6_counts_b85 (v2 v3 v4 : Int32) (k85 : Int32 → Int32 → Int32 → Mem → Option (Int32 × Mem)) (v5 v6 v7 : Int32) (μ : Mem) : Option (Int32 × Mem) :=
  if v2 ≤ v7 then (lo2 (X6_counts_b126 v3 v6 (v6 - v5)) 1000 (v6 - v5) v6 μ)
  else (k85 (v5 * v4) (v6 * 12) (v7 + 1) μ)
noncomputable def X6_counts_b67 (k34 : Int32 → Int32 → Mem → Option (Int32 × Mem)) (v1 v2 v3 v5 s0 s1 : Int32) (μ : Mem) : Option (Int32 × Mem) :=
  k34 (s0 + s1) (v5 + 1) μ
noncomputable def X6_counts_b34 (v1 v2 v3 : Int32) (k34 : Int32 → Int32 → Mem → Option (Int32 × Mem)) (v4 v5 : Int32) (μ : Mem) : Option (Int32 × Mem) :=
  if 13 ≤ v5 then (lo3 (X6_counts_b85 v2 v3 v4) 1000 1 1 0 μ)
  else (gi (5 + v1) 59 (bd (X6_countedOf (μ 20 2 0 (5 + v1).toNatClampNeg) v5 μ) fun r_23 μ_22 => (if 9 ≤ r_23 then (X6_counts_b67 k34 v1 v2 v3 v5 v4 0 μ_22)
  else (X6_counts_b67 k34 v1 v2 v3 v5 v4 1 μ_22))))
noncomputable def X6_counts (v1 v2 v3 : Int32) (μ : Mem) : Option (Int32 × Mem) :=
  bd (X6_isPerson v1 μ) fun r_3 μ_2 => (if r_3 = 0 then (some ((-1), μ_2))
  else (bd (X6_in v2 0 4 μ_2) fun r_7 μ_6 => (if r_7 = 0 then (some ((-1), μ_6))
  else (bd (X6_in v3 0 1 μ_6) fun r_11 μ_10 => (if r_11 = 0 then (some ((-1), μ_10))
  else (lo2 (X6_counts_b34 v1 v2 v3) 1000 0 1 μ_10))))))
noncomputable def X6_keeps_b51 (k51 : Int32 → Mem → Option (Mem)) (v1 : Int32) (μ : Mem) : Option (Mem) :=
  if 55 ≤ v1 then (some (xs μ 20 6 0 0 ((μ 20 6 0 0) + 1)))
  else (gi v1 55 (gi ((55 * (μ 20 6 0 0)) + v1) 440 (k51 (v1 + 1) (xs μ 20 5 0 ((55 * (μ 20 6 0 0)) + v1).toNatClampNeg (μ 20 4 0 v1.toNatClampNeg)))))
noncomputable def X6_keeps_b49 (μ : Mem) : Option (Mem) :=
  lo1 (X6_keeps_b51) 1000 0 μ
noncomputable def X6_keeps_b11 (k11 : Int32 → Mem → Option (Mem)) (v1 : Int32) (μ : Mem) : Option (Mem) :=
  if 385 ≤ v1 then (X6_keeps_b49 (xs μ 20 6 0 0 ((μ 20 6 0 0) - 1)))
  else (gi (v1 + 55) 440 (gi v1 440 (k11 (v1 + 1) (xs μ 20 5 0 v1.toNatClampNeg (μ 20 5 0 (v1 + 55).toNatClampNeg)))))
noncomputable def X6_keeps (μ : Mem) : Option (Mem) :=
  if (μ 20 6 0 0) = 8 then (lo1 (X6_keeps_b11) 1000 0 μ)
  else (X6_keeps_b49 μ)
noncomputable def X6_fair (μ : Mem) : Option (Int32 × Mem) :=
  gi 54 55 (if (μ 20 4 0 (54 : Int32).toNatClampNeg) = 99 then (some ((-2), μ))
  else (bdv (X6_keeps μ) fun μ_4 => (bd (X6_holds μ_4) fun r_7 μ_6 => (some (r_7, μ_6)))))
noncomputable def X6_letterAt (v1 : Int32) (μ : Mem) : Option (Int32 × Mem) :=
  if (μ 20 1 0 0) ≤ v1 then (some ((-1), μ))
  else (gi v1 200 (some (μ 20 0 0 v1.toNatClampNeg, μ)))
noncomputable def X6_isFigure (v0 : Int32) (μ : Mem) : Option (Int32 × Mem) :=
  bd (X6_in v0 48 57 μ) fun r_3 μ_2 => (gb r_3 (some (r_3, μ_2)))
noncomputable def X6_number_b109 (v4 s0 : Int32) (μ : Mem) : Option (Int32 × Mem) :=
  if s0 = 0 then (some ((-1), (xs μ 20 11 0 0 ((μ 20 11 0 0) + 1))))
  else (some (v4, (xs μ 20 11 0 0 ((μ 20 11 0 0) + 1))))
noncomputable def X6_number_b108 (v4 : Int32) (μ : Mem) : Option (Int32 × Mem) :=
  X6_number_b109 v4 0 μ
noncomputable def X6_number_b82 (v1 v2 v3 v4 : Int32) (μ : Mem) : Option (Int32 × Mem) :=
  bd (X6_letterAt (μ 20 11 0 0) μ) fun r_20 μ_19 => (if r_20 = v3 then (bd (X6_in v4 v1 v2 μ_19) fun r_25 μ_24 => (if r_25 = 0 then (X6_number_b108 v4 μ_24)
  else (X6_number_b109 v4 1 μ_24)))
  else (X6_number_b108 v4 μ_19))
noncomputable def X6_number (v1 v2 v3 : Int32) (μ : Mem) : Option (Int32 × Mem) :=
  bd (X6_letterAt (μ 20 11 0 0) μ) fun r_3 μ_2 => (bd (X6_isFigure r_3 μ_2) fun r_6 μ_5 => (if r_6 = 0 then (some ((-1), μ_5))
  else (bd (X6_letterAt (μ_5 20 11 0 0) μ_5) fun r_10 μ_9 => (bd (X6_letterAt ((xs μ_9 20 11 0 0 ((μ_9 20 11 0 0) + 1)) 20 11 0 0) (xs μ_9 20 11 0 0 ((μ_9 20 11 0 0) + 1))) fun r_13 μ_12 => (bd (X6_isFigure r_13 μ_12) fun r_16 μ_15 => (if r_16 = 0 then (X6_number_b82 v1 v2 v3 (r_10 - 48) μ_15)
  else (bd (X6_letterAt (μ_15 20 11 0 0) μ_15) fun r_29 μ_28 => (X6_number_b82 v1 v2 v3 (((10 * (r_10 - 48)) + r_29) - 48) (xs μ_28 20 11 0 0 ((μ_28 20 11 0 0) + 1))))))))))
noncomputable def X6_pauseOf (v1 v2 v3 v4 : Int32) (μ : Mem) : Option (Mem) :=
  gi 2 59 (gi (23 + (μ 20 3 0 (2 : Int32).toNatClampNeg)) 59 (gi (32 + (μ 20 3 0 (2 : Int32).toNatClampNeg)) 59 (gi (41 + (μ 20 3 0 (2 : Int32).toNatClampNeg)) 59 (gi (50 + (μ 20 3 0 (2 : Int32).toNatClampNeg)) 59 (gi 2 59 (gi 2 59 (some (xs (xs (xs (xs (xs μ 20 3 0 (23 + (μ 20 3 0 (2 : Int32).toNatClampNeg)).toNatClampNeg v1) 20 3 0 (32 + (μ 20 3 0 (2 : Int32).toNatClampNeg)).toNatClampNeg v2) 20 3 0 (41 + (μ 20 3 0 (2 : Int32).toNatClampNeg)).toNatClampNeg v3) 20 3 0 (50 + (μ 20 3 0 (2 : Int32).toNatClampNeg)).toNatClampNeg v4) 20 3 0 (2 : Int32).toNatClampNeg (((xs (xs (xs (xs μ 20 3 0 (23 + (μ 20 3 0 (2 : Int32).toNatClampNeg)).toNatClampNeg v1) 20 3 0 (32 + (μ 20 3 0 (2 : Int32).toNatClampNeg)).toNatClampNeg v2) 20 3 0 (41 + (μ 20 3 0 (2 : Int32).toNatClampNeg)).toNatClampNeg v3) 20 3 0 (50 + (μ 20 3 0 (2 : Int32).toNatClampNeg)).toNatClampNeg v4) 20 3 0 (2 : Int32).toNatClampNeg) + 1)))))))))
noncomputable def X6_personOf (v1 v2 : Int32) (μ : Mem) : Option (Mem) :=
  gi 0 59 (gi (5 + (μ 20 3 0 (0 : Int32).toNatClampNeg)) 59 (gi (11 + (μ 20 3 0 (0 : Int32).toNatClampNeg)) 59 (gi 0 59 (gi 0 59 (some (xs (xs (xs μ 20 3 0 (5 + (μ 20 3 0 (0 : Int32).toNatClampNeg)).toNatClampNeg v1) 20 3 0 (11 + (μ 20 3 0 (0 : Int32).toNatClampNeg)).toNatClampNeg v2) 20 3 0 (0 : Int32).toNatClampNeg (((xs (xs μ 20 3 0 (5 + (μ 20 3 0 (0 : Int32).toNatClampNeg)).toNatClampNeg v1) 20 3 0 (11 + (μ 20 3 0 (0 : Int32).toNatClampNeg)).toNatClampNeg v2) 20 3 0 (0 : Int32).toNatClampNeg) + 1)))))))
noncomputable def X6_thingOf (v1 : Int32) (μ : Mem) : Option (Mem) :=
  gi 1 59 (gi (17 + (μ 20 3 0 (1 : Int32).toNatClampNeg)) 59 (gi 1 59 (gi 1 59 (some (xs (xs μ 20 3 0 (17 + (μ 20 3 0 (1 : Int32).toNatClampNeg)).toNatClampNeg v1) 20 3 0 (1 : Int32).toNatClampNeg (((xs μ 20 3 0 (17 + (μ 20 3 0 (1 : Int32).toNatClampNeg)).toNatClampNeg v1) 20 3 0 (1 : Int32).toNatClampNeg) + 1))))))
noncomputable def X6_readsItem_b215 (v2 v3 v4 s0 : Int32) (μ : Mem) : Option (Int32 × Mem) :=
  if s0 < 0 then (some (0, μ))
  else (gi 2 59 (if (μ 20 3 0 (2 : Int32).toNatClampNeg) = 9 then (some (0, μ))
  else (bdv (X6_pauseOf v2 v3 v4 s0 μ) fun μ_23 => (some (1, μ_23)))))
noncomputable def X6_readsItem_b195 (v2 v3 s0 : Int32) (μ : Mem) : Option (Int32 × Mem) :=
  if 0 ≤ s0 then (bd (X6_number 0 9 59 μ) fun r_18 μ_17 => (X6_readsItem_b215 v2 v3 s0 r_18 μ_17))
  else (X6_readsItem_b215 v2 v3 s0 (-1) μ)
noncomputable def X6_readsItem_b177 (v2 s0 : Int32) (μ : Mem) : Option (Int32 × Mem) :=
  if 0 ≤ s0 then (bd (X6_number 1 30 44 μ) fun r_14 μ_13 => (X6_readsItem_b195 v2 s0 r_14 μ_13))
  else (X6_readsItem_b195 v2 s0 (-1) μ)
noncomputable def X6_readsItem_b78 (v2 s0 : Int32) (μ : Mem) : Option (Int32 × Mem) :=
  if s0 < 0 then (some (0, μ))
  else (gi 0 59 (if (μ 20 3 0 (0 : Int32).toNatClampNeg) = 6 then (some (0, μ))
  else (bdv (X6_personOf v2 s0 μ) fun μ_50 => (some (1, μ_50)))))
noncomputable def X6_readsItem (v1 : Int32) (μ : Mem) : Option (Int32 × Mem) :=
  if v1 = 97 then (gi 0 59 (bd (X6_number 0 ((μ 20 3 0 (0 : Int32).toNatClampNeg) - 1) 44 μ) fun r_5 μ_4 => (if 0 ≤ r_5 then (gi 1 59 (bd (X6_number 0 ((μ_4 20 3 0 (1 : Int32).toNatClampNeg) - 1) 44 μ_4) fun r_10 μ_9 => (X6_readsItem_b177 r_5 r_10 μ_9)))
  else (X6_readsItem_b177 r_5 (-1) μ_4))))
  else if v1 = 101 then (bd (X6_number 0 30 59 μ) fun r_27 μ_26 => (gi 3 59 (gi 3 59 (if ((xs μ_26 20 3 0 (3 : Int32).toNatClampNeg r_27) 20 3 0 (3 : Int32).toNatClampNeg) < 0 then (some (0, (xs μ_26 20 3 0 (3 : Int32).toNatClampNeg r_27)))
  else (some (1, (xs μ_26 20 3 0 (3 : Int32).toNatClampNeg r_27)))))))
  else if v1 = 103 then (bd (X6_number 0 9 59 μ) fun r_34 μ_33 => (gi 4 59 (gi 4 59 (if ((xs μ_33 20 3 0 (4 : Int32).toNatClampNeg r_34) 20 3 0 (4 : Int32).toNatClampNeg) < 0 then (some (0, (xs μ_33 20 3 0 (4 : Int32).toNatClampNeg r_34)))
  else (some (1, (xs μ_33 20 3 0 (4 : Int32).toNatClampNeg r_34)))))))
  else if v1 = 112 then (bd (X6_number 0 3 44 μ) fun r_41 μ_40 => (if 0 ≤ r_41 then (bd (X6_number 0 99 59 μ_40) fun r_45 μ_44 => (X6_readsItem_b78 r_41 r_45 μ_44))
  else (X6_readsItem_b78 r_41 (-1) μ_40)))
  else if v1 = 116 then (bd (X6_number 1 60 59 μ) fun r_54 μ_53 => (if r_54 < 0 then (some (0, μ_53))
  else (gi 1 59 (if (μ_53 20 3 0 (1 : Int32).toNatClampNeg) = 6 then (some (0, μ_53))
  else (bdv (X6_thingOf r_54 μ_53) fun μ_59 => (some (1, μ_59)))))))
  else (some (0, μ))
noncomputable def X6_readsAll_b9 (k9 : Mem → Option (Int32 × Mem)) (μ : Mem) : Option (Int32 × Mem) :=
  if (μ 20 1 0 0) ≤ (μ 20 11 0 0) then (some ((-4), μ))
  else (gi (μ 20 11 0 0) 200 (bd (X6_readsItem ((xs μ 20 11 0 0 ((μ 20 11 0 0) + 1)) 20 0 0 (μ 20 11 0 0).toNatClampNeg) (xs μ 20 11 0 0 ((μ 20 11 0 0) + 1))) fun r_7 μ_6 => (if r_7 = 0 then (some (μ 20 11 0 0, μ_6))
  else (k9 μ_6))))
noncomputable def X6_readsAll (μ : Mem) : Option (Int32 × Mem) :=
  bdv (X6_begins μ) fun μ_2 => (lo0 (X6_readsAll_b9) 1000 (xs μ_2 20 11 0 0 0))
noncomputable def X6_fault (μ : Mem) : Option (Int32 × Mem) :=
  bd (X6_readsAll μ) fun r_3 μ_2 => (some (r_3, μ_2))
noncomputable def X6_starts_b43 (k2 : Int32 → Mem → Option (Mem)) (v1 s1 s2 : Int32) (μ : Mem) : Option (Mem) :=
  gi s1 55 (k2 (v1 + 1) (xs μ 20 4 0 s1.toNatClampNeg s2))
noncomputable def X6_starts_b2 (k2 : Int32 → Mem → Option (Mem)) (v1 : Int32) (μ : Mem) : Option (Mem) :=
  if 55 ≤ v1 then (some μ)
  else (if 6 ≤ v1 then (if 12 ≤ v1 then (X6_starts_b43 k2 v1 v1 0 μ)
  else (X6_starts_b43 k2 v1 v1 (-4) μ))
  else (gi (11 + v1) 59 (X6_starts_b43 k2 v1 v1 (μ 20 2 0 (11 + v1).toNatClampNeg) μ)))
noncomputable def X6_starts (μ : Mem) : Option (Mem) :=
  lo1 (X6_starts_b2) 1000 0 μ
noncomputable def X6_isSo_b97 (k17 : Int32 → Int32 → Mem → Option (Int32 × Mem)) (k31 : Int32 → Int32 → Mem → Option (Int32 × Mem)) (v3 v4 s0 : Int32) (μ : Mem) : Option (Int32 × Mem) :=
  k31 s0 (v4 + 1) μ
noncomputable def X6_isSo_b96 (k17 : Int32 → Int32 → Mem → Option (Int32 × Mem)) (k31 : Int32 → Int32 → Mem → Option (Int32 × Mem)) (v3 v4 : Int32) (μ : Mem) : Option (Int32 × Mem) :=
  X6_isSo_b97 k17 k31 v3 v4 0 μ
noncomputable def X6_isSo_b92 (k17 : Int32 → Int32 → Mem → Option (Int32 × Mem)) (k31 : Int32 → Int32 → Mem → Option (Int32 × Mem)) (v3 v4 : Int32) (μ : Mem) : Option (Int32 × Mem) :=
  X6_isSo_b97 k17 k31 v3 v4 1 μ
noncomputable def X6_isSo_b31 (k17 : Int32 → Int32 → Mem → Option (Int32 × Mem)) (v3 : Int32) (k31 : Int32 → Int32 → Mem → Option (Int32 × Mem)) (v2 v4 : Int32) (μ : Mem) : Option (Int32 × Mem) :=
  if (μ 20 10 0 0) ≤ v4 then (k17 v2 (v3 + 1) μ)
  else (if v2 = 0 then (X6_isSo_b96 k17 k31 v3 v4 μ)
  else (gi v4 6 (if ((μ 20 9 0 v4.toNatClampNeg) / 100) = v3 then (gi v4 6 (gi (6 + (((μ 20 9 0 v4.toNatClampNeg) / 10) - ((μ 20 9 0 v4.toNatClampNeg) / 10) / 10 * 10)) 55 (gi v4 6 (if (μ 20 4 0 (6 + (((μ 20 9 0 v4.toNatClampNeg) / 10) - ((μ 20 9 0 v4.toNatClampNeg) / 10) / 10 * 10)).toNatClampNeg) = ((μ 20 9 0 v4.toNatClampNeg) - (μ 20 9 0 v4.toNatClampNeg) / 10 * 10) then (X6_isSo_b92 k17 k31 v3 v4 μ)
  else (X6_isSo_b96 k17 k31 v3 v4 μ)))))
  else (X6_isSo_b92 k17 k31 v3 v4 μ))))
noncomputable def X6_isSo_b17 (k17 : Int32 → Int32 → Mem → Option (Int32 × Mem)) (v2 v3 : Int32) (μ : Mem) : Option (Int32 × Mem) :=
  if 9 < v3 then (bdv (X6_lets (xs μ 20 12 0 0 (-4))) fun μ_7 => (gb v2 (some (v2, μ_7))))
  else (bd (X6_holds μ) fun r_11 μ_10 => (lo2 (X6_isSo_b31 k17 v3) 1000 v2 0 μ_10))
noncomputable def X6_isSo (v1 : Int32) (μ : Mem) : Option (Int32 × Mem) :=
  bdv (X6_remembers μ) fun μ_2 => (bdv (X6_starts (xs μ_2 20 12 0 0 v1)) fun μ_4 => (lo2 (X6_isSo_b17) 1000 1 1 μ_4))
noncomputable def X6_feigned_b41 (k15 : Int32 → Int32 → Mem → Option (Int32 × Mem)) (v1 v3 s0 s1 : Int32) (μ : Mem) : Option (Int32 × Mem) :=
  k15 (s0 ||| s1) (v3 + 1) μ
noncomputable def X6_feigned_b15 (v1 : Int32) (k15 : Int32 → Int32 → Mem → Option (Int32 × Mem)) (v2 v3 : Int32) (μ : Mem) : Option (Int32 × Mem) :=
  gi 0 59 (if (μ 20 2 0 (0 : Int32).toNatClampNeg) ≤ v3 then (if v1 = 0 then (some (v2, μ))
  else (bd (X6_isSo (-4) μ) fun r_10 μ_9 => (if r_10 = 0 then (some (0, μ_9))
  else (some (1, μ_9)))))
  else (bd (X6_isSo v3 μ) fun r_14 μ_13 => (if r_14 = 0 then (X6_feigned_b41 k15 v1 v3 v2 0 μ_13)
  else (X6_feigned_b41 k15 v1 v3 v2 (1 <<< (v3 &&& 31)) μ_13))))
noncomputable def X6_feigned (v1 : Int32) (μ : Mem) : Option (Int32 × Mem) :=
  bd (X6_in v1 0 1 μ) fun r_3 μ_2 => (if r_3 = 0 then (some ((-1), μ_2))
  else (lo2 (X6_feigned_b15 v1) 1000 0 0 μ_2))
noncomputable def X6_forget (μ : Mem) : Option (Int32 × Mem) :=
  some (μ 20 10 0 0, (xs μ 20 10 0 0 0))
noncomputable def X6_give (v1 v2 v3 : Int32) (μ : Mem) : Option (Int32 × Mem) :=
  bd (X6_isPerson v1 μ) fun r_3 μ_2 => (if r_3 = 0 then (some ((-1), μ_2))
  else (bd (X6_isPerson v2 μ_2) fun r_7 μ_6 => (if r_7 = 0 then (some ((-1), μ_6))
  else (if v1 = v2 then (some ((-1), μ_6))
  else (bd (X6_in v3 1 99 μ_6) fun r_12 μ_11 => (if r_12 = 0 then (some ((-1), μ_11))
  else (gi v1 55 (if v3 ≤ (μ_11 20 4 0 v1.toNatClampNeg) then (gi v2 55 (if ((μ_11 20 4 0 v2.toNatClampNeg) + v3) ≤ 999 then (bdv (X6_keeps μ_11) fun μ_19 => (gi v1 55 (gi v1 55 (gi v2 55 (gi v2 55 (gi v1 55 (some ((xs (xs μ_19 20 4 0 v1.toNatClampNeg ((μ_19 20 4 0 v1.toNatClampNeg) - v3)) 20 4 0 v2.toNatClampNeg (((xs μ_19 20 4 0 v1.toNatClampNeg ((μ_19 20 4 0 v1.toNatClampNeg) - v3)) 20 4 0 v2.toNatClampNeg) + v3)) 20 4 0 v1.toNatClampNeg, (xs (xs μ_19 20 4 0 v1.toNatClampNeg ((μ_19 20 4 0 v1.toNatClampNeg) - v3)) 20 4 0 v2.toNatClampNeg (((xs μ_19 20 4 0 v1.toNatClampNeg ((μ_19 20 4 0 v1.toNatClampNeg) - v3)) 20 4 0 v2.toNatClampNeg) + v3))))))))))
  else (some ((-3), μ_11))))
  else (some ((-2), μ_11))))))))))
noncomputable def X6_goesBehind_b49 (v2 : Int32) (μ : Mem) : Option (Int32 × Mem) :=
  bdv (X6_lets μ) fun μ_3 => (some (v2, μ_3))
noncomputable def X6_goesBehind_b37 (k5 : Int32 → Int32 → Mem → Option (Int32 × Mem)) (v1 v3 s0 : Int32) (μ : Mem) : Option (Int32 × Mem) :=
  bd (X6_holds μ) fun r_9 μ_8 => (k5 s0 (v3 + 1) μ_8)
noncomputable def X6_goesBehind_b5 (v1 : Int32) (k5 : Int32 → Int32 → Mem → Option (Int32 × Mem)) (v2 v3 : Int32) (μ : Mem) : Option (Int32 × Mem) :=
  if 9 < v3 then (X6_goesBehind_b49 v2 μ)
  else (if v2 = (-4) then (gi (6 + v1) 55 (if (μ 20 4 0 (6 + v1).toNatClampNeg) = (-4) then (X6_goesBehind_b37 k5 v1 v3 (-4) μ)
  else (X6_goesBehind_b37 k5 v1 v3 v3 μ)))
  else (X6_goesBehind_b49 v2 μ))
noncomputable def X6_goesBehind (v1 : Int32) (μ : Mem) : Option (Int32 × Mem) :=
  lo2 (X6_goesBehind_b5 v1) 1000 (-4) 0 μ
noncomputable def X6_goes (v1 : Int32) (μ : Mem) : Option (Int32 × Mem) :=
  bd (X6_isThing v1 μ) fun r_3 μ_2 => (if r_3 = 0 then (some ((-1), μ_2))
  else (bdv (X6_remembers μ_2) fun μ_6 => (bd (X6_goesBehind v1 μ_6) fun r_9 μ_8 => (some (r_9, μ_8)))))
noncomputable def X6_pauses_b59 (s1 s2 : Int32) (μ : Mem) : Option (Mem) :=
  gi s1 55 (some (xs μ 20 4 0 s1.toNatClampNeg s2))
noncomputable def X6_pauses (v1 v2 v3 : Int32) (μ : Mem) : Option (Mem) :=
  gi 54 55 (gi ((18 + (6 * v1)) + v2) 55 (if (μ 20 4 0 ((18 + (6 * v1)) + v2).toNatClampNeg) = 0 then (X6_pauses_b59 ((18 + (6 * v1)) + v2) ((128 * v3) + (μ 20 4 0 (54 : Int32).toNatClampNeg)) μ)
  else (gi ((18 + (6 * v1)) + v2) 55 (bd (X6_better (μ 20 4 0 ((18 + (6 * v1)) + v2).toNatClampNeg) ((128 * v3) + (μ 20 4 0 (54 : Int32).toNatClampNeg)) μ) fun r_7 μ_6 => (X6_pauses_b59 ((18 + (6 * v1)) + v2) r_7 μ_6)))))
noncomputable def X6_greens_b138 (s0 : Int32) (μ : Mem) : Option (Int32 × Mem) :=
  bdv (X6_lets μ) fun μ_21 => (some (s0, μ_21))
noncomputable def X6_greens_b39 (v1 v2 v3 : Int32) (k39 : Int32 → Mem → Option (Int32 × Mem)) (v4 : Int32) (μ : Mem) : Option (Int32 × Mem) :=
  if v2 ≤ v4 then (if v3 = 0 then (bd (X6_taken μ) fun r_24 μ_23 => (X6_greens_b138 r_24 μ_23))
  else (bd (X6_allCoins μ) fun r_19 μ_18 => (X6_greens_b138 r_19 μ_18)))
  else (gi 0 59 (gz (μ 20 2 0 (0 : Int32).toNatClampNeg) (gi 1 59 (gz (μ 20 2 0 (1 : Int32).toNatClampNeg) (bdv (X6_pauses ((((((((7919 * v1.toInt64) + (6151 * v4.toInt64)) + 1) * (((7919 * v1.toInt64) + (6151 * v4.toInt64)) + 1)) - ((((7919 * v1.toInt64) + (6151 * v4.toInt64)) + 1) * (((7919 * v1.toInt64) + (6151 * v4.toInt64)) + 1)) / 65521 * 65521).toInt32) / 4) - (((((((7919 * v1.toInt64) + (6151 * v4.toInt64)) + 1) * (((7919 * v1.toInt64) + (6151 * v4.toInt64)) + 1)) - ((((7919 * v1.toInt64) + (6151 * v4.toInt64)) + 1) * (((7919 * v1.toInt64) + (6151 * v4.toInt64)) + 1)) / 65521 * 65521).toInt32) / 4) / (μ 20 2 0 (0 : Int32).toNatClampNeg) * (μ 20 2 0 (0 : Int32).toNatClampNeg)) (((((((((7919 * v1.toInt64) + (6151 * v4.toInt64)) + 1) * (((7919 * v1.toInt64) + (6151 * v4.toInt64)) + 1)) - ((((7919 * v1.toInt64) + (6151 * v4.toInt64)) + 1) * (((7919 * v1.toInt64) + (6151 * v4.toInt64)) + 1)) / 65521 * 65521).toInt32) / 4) / 8) - ((((((((7919 * v1.toInt64) + (6151 * v4.toInt64)) + 1) * (((7919 * v1.toInt64) + (6151 * v4.toInt64)) + 1)) - ((((7919 * v1.toInt64) + (6151 * v4.toInt64)) + 1) * (((7919 * v1.toInt64) + (6151 * v4.toInt64)) + 1)) / 65521 * 65521).toInt32) / 4) / 8) / (μ 20 2 0 (1 : Int32).toNatClampNeg) * (μ 20 2 0 (1 : Int32).toNatClampNeg)) (1 + (((((((((7919 * v1.toInt64) + (6151 * v4.toInt64)) + 1) * (((7919 * v1.toInt64) + (6151 * v4.toInt64)) + 1)) - ((((7919 * v1.toInt64) + (6151 * v4.toInt64)) + 1) * (((7919 * v1.toInt64) + (6151 * v4.toInt64)) + 1)) / 65521 * 65521).toInt32) / 4) / 64) - ((((((((7919 * v1.toInt64) + (6151 * v4.toInt64)) + 1) * (((7919 * v1.toInt64) + (6151 * v4.toInt64)) + 1)) - ((((7919 * v1.toInt64) + (6151 * v4.toInt64)) + 1) * (((7919 * v1.toInt64) + (6151 * v4.toInt64)) + 1)) / 65521 * 65521).toInt32) / 4) / 64) / 12 * 12)) μ) fun μ_30 => (bd (X6_holds μ_30) fun r_33 μ_32 => (k39 (v4 + 1) μ_32)))))))
noncomputable def X6_greens (v1 v2 v3 : Int32) (μ : Mem) : Option (Int32 × Mem) :=
  bd (X6_in v1 0 9999 μ) fun r_3 μ_2 => (if r_3 = 0 then (some ((-1), μ_2))
  else (bd (X6_in v2 1 9 μ_2) fun r_7 μ_6 => (if r_7 = 0 then (some ((-1), μ_6))
  else (bd (X6_in v3 0 1 μ_6) fun r_11 μ_10 => (if r_11 = 0 then (some ((-1), μ_10))
  else (bdv (X6_remembers μ_10) fun μ_14 => (lo1 (X6_greens_b39 v1 v2 v3) 1000 0 μ_14)))))))
noncomputable def X6_keep_b13 (k13 : Int32 → Mem → Option (Int32 × Mem)) (v1 : Int32) (μ : Mem) : Option (Int32 × Mem) :=
  if 55 ≤ v1 then (some ((xs μ 20 8 0 0 ((μ 20 8 0 0) + 1)) 20 8 0 0, (xs μ 20 8 0 0 ((μ 20 8 0 0) + 1))))
  else (gi v1 55 (gi ((55 * (μ 20 8 0 0)) + v1) 110 (k13 (v1 + 1) (xs μ 20 7 0 ((55 * (μ 20 8 0 0)) + v1).toNatClampNeg (μ 20 4 0 v1.toNatClampNeg)))))
noncomputable def X6_keep (μ : Mem) : Option (Int32 × Mem) :=
  if (μ 20 8 0 0) = 2 then (some ((-3), μ))
  else (lo1 (X6_keep_b13) 1000 0 μ)
noncomputable def X6_lays_b2 (k2 : Int32 → Mem → Option (Mem)) (v1 : Int32) (μ : Mem) : Option (Mem) :=
  if 59 ≤ v1 then (bdv (X6_starts μ) fun μ_3 => (some (xs (xs (xs μ_3 20 6 0 0 0) 20 8 0 0 0) 20 10 0 0 0)))
  else (gi v1 59 (gi v1 59 (k2 (v1 + 1) (xs μ 20 2 0 v1.toNatClampNeg (μ 20 3 0 v1.toNatClampNeg)))))
noncomputable def X6_lays (μ : Mem) : Option (Mem) :=
  lo1 (X6_lays_b2) 1000 0 μ
noncomputable def X6_lay (μ : Mem) : Option (Int32 × Mem) :=
  bd (X6_readsAll μ) fun r_3 μ_2 => (if r_3 = (-4) then (gi 0 59 (if (μ_2 20 3 0 (0 : Int32).toNatClampNeg) = 0 then (some ((-2), μ_2))
  else (gi 1 59 (if (μ_2 20 3 0 (1 : Int32).toNatClampNeg) = 0 then (some ((-2), μ_2))
  else (bdv (X6_lays μ_2) fun μ_10 => (gi 1 59 (some (μ_10 20 2 0 (1 : Int32).toNatClampNeg, μ_10))))))))
  else (some ((-2), μ_2)))
noncomputable def X6_nearly (v1 v2 v3 : Int32) (μ : Mem) : Option (Int32 × Mem) :=
  bd (X6_isPerson v1 μ) fun r_3 μ_2 => (if r_3 = 0 then (some ((-1), μ_2))
  else (bd (X6_isThing v2 μ_2) fun r_7 μ_6 => (if r_7 = 0 then (some ((-1), μ_6))
  else (bd (X6_pauseNow v1 v2 μ_6) fun r_11 μ_10 => (if v3 = 0 then (some (r_11 / 128, μ_10))
  else if v3 = 1 then (bd (X6_countedNow v1 v2 μ_10) fun r_16 μ_15 => (some (r_16, μ_15)))
  else if v3 = 2 then (if r_11 = 0 then (some ((-4), μ_10))
  else (some (r_11 - r_11 / 128 * 128, μ_10)))
  else if v3 = 3 then (bd (X6_isNearly v1 v2 μ_10) fun r_22 μ_21 => (if r_22 = 0 then (some (0, μ_21))
  else (some (1, μ_21))))
  else if v3 = 4 then (bd (X6_isNearly v1 v2 μ_10) fun r_27 μ_26 => (if r_27 = 0 then (some ((-4), μ_26))
  else (bd (X6_priceOf v1 v2 μ_26) fun r_31 μ_30 => (some (r_31, μ_30)))))
  else (some ((-1), μ_10)))))))
noncomputable def X6_never_b34 (k4 : Int32 → Int32 → Mem → Option (Int32 × Mem)) (v2 s0 s1 : Int32) (μ : Mem) : Option (Int32 × Mem) :=
  k4 (s0 ||| s1) (v2 + 1) μ
noncomputable def X6_never_b4 (k4 : Int32 → Int32 → Mem → Option (Int32 × Mem)) (v1 v2 : Int32) (μ : Mem) : Option (Int32 × Mem) :=
  gi 1 59 (if (μ 20 2 0 (1 : Int32).toNatClampNeg) ≤ v2 then (some (v1, μ))
  else (bd (X6_behind v2 9 μ) fun r_5 μ_4 => (if r_5 = (-4) then (X6_never_b34 k4 v2 v1 (1 <<< (v2 &&& 31)) μ_4)
  else (X6_never_b34 k4 v2 v1 0 μ_4))))
noncomputable def X6_never (μ : Mem) : Option (Int32 × Mem) :=
  lo2 (X6_never_b4) 1000 0 0 μ
noncomputable def X6_pause (v1 v2 v3 : Int32) (μ : Mem) : Option (Int32 × Mem) :=
  bd (X6_isPerson v1 μ) fun r_3 μ_2 => (if r_3 = 0 then (some ((-1), μ_2))
  else (bd (X6_isThing v2 μ_2) fun r_7 μ_6 => (if r_7 = 0 then (some ((-1), μ_6))
  else (bd (X6_in v3 1 30 μ_6) fun r_11 μ_10 => (if r_11 = 0 then (some ((-1), μ_10))
  else (bdv (X6_keeps μ_10) fun μ_14 => (bdv (X6_pauses v1 v2 v3 μ_14) fun μ_16 => (bd (X6_countedNow v1 v2 μ_16) fun r_19 μ_18 => (some (r_19, μ_18))))))))))
noncomputable def X6_thingsOf_b33 (k4 : Int32 → Int32 → Mem → Option (Int32 × Mem)) (v1 v3 s0 s1 : Int32) (μ : Mem) : Option (Int32 × Mem) :=
  k4 (s0 + s1) (v3 + 1) μ
noncomputable def X6_thingsOf_b4 (v1 : Int32) (k4 : Int32 → Int32 → Mem → Option (Int32 × Mem)) (v2 v3 : Int32) (μ : Mem) : Option (Int32 × Mem) :=
  gi 1 59 (if (μ 20 2 0 (1 : Int32).toNatClampNeg) ≤ v3 then (some (v2, μ))
  else (gi (6 + v3) 55 (if (μ 20 4 0 (6 + v3).toNatClampNeg) = v1 then (X6_thingsOf_b33 k4 v1 v3 v2 1 μ)
  else (X6_thingsOf_b33 k4 v1 v3 v2 0 μ))))
noncomputable def X6_thingsOf (v1 : Int32) (μ : Mem) : Option (Int32 × Mem) :=
  lo2 (X6_thingsOf_b4 v1) 1000 0 0 μ
noncomputable def X6_person_b63 (k20 : Int32 → Int32 → Mem → Option (Int32 × Mem)) (v1 v2 v4 s0 s1 : Int32) (μ : Mem) : Option (Int32 × Mem) :=
  k20 (s0 + s1) (v4 + 1) μ
noncomputable def X6_person_b20 (v1 v2 : Int32) (k20 : Int32 → Int32 → Mem → Option (Int32 × Mem)) (v3 v4 : Int32) (μ : Mem) : Option (Int32 × Mem) :=
  gi 1 59 (if (μ 20 2 0 (1 : Int32).toNatClampNeg) ≤ v4 then (if v2 = 0 then (gi (5 + v1) 59 (some (μ 20 2 0 (5 + v1).toNatClampNeg, μ)))
  else if v2 = 1 then (gi v1 55 (some (μ 20 4 0 v1.toNatClampNeg, μ)))
  else if v2 = 2 then (bd (X6_thingsOf v1 μ) fun r_15 μ_14 => (some (r_15, μ_14)))
  else if v2 = 3 then (some (v3, μ))
  else (some ((-1), μ)))
  else (gi (6 + v4) 55 (if (μ 20 4 0 (6 + v4).toNatClampNeg) = v1 then (gi 54 55 (bd (X6_costs v4 (μ 20 4 0 (54 : Int32).toNatClampNeg) μ) fun r_26 μ_25 => (X6_person_b63 k20 v1 v2 v4 v3 r_26 μ_25)))
  else (X6_person_b63 k20 v1 v2 v4 v3 0 μ))))
noncomputable def X6_person (v1 v2 : Int32) (μ : Mem) : Option (Int32 × Mem) :=
  bd (X6_isPerson v1 μ) fun r_3 μ_2 => (if r_3 = 0 then (some ((-1), μ_2))
  else (gi v1 55 (lo2 (X6_person_b20 v1 v2) 1000 (μ_2 20 4 0 v1.toNatClampNeg) 0 μ_2)))
noncomputable def X6_rank_b149 (k20 : Int32 → Int32 → Mem → Option (Int32 × Mem)) (v1 v2 v4 s0 : Int32) (μ : Mem) : Option (Int32 × Mem) :=
  k20 s0 (v4 + 1) μ
noncomputable def X6_rank_b148 (k20 : Int32 → Int32 → Mem → Option (Int32 × Mem)) (v1 v2 v3 v4 : Int32) (μ : Mem) : Option (Int32 × Mem) :=
  X6_rank_b149 k20 v1 v2 v4 v3 μ
noncomputable def X6_rank_b118 (k20 : Int32 → Int32 → Mem → Option (Int32 × Mem)) (k37 : Int32 → Int32 → Mem → Option (Int32 × Mem)) (v1 v2 v3 v4 v6 s0 s1 : Int32) (μ : Mem) : Option (Int32 × Mem) :=
  k37 (s0 + s1) (v6 + 1) μ
noncomputable def X6_rank_b104 (k20 : Int32 → Int32 → Mem → Option (Int32 × Mem)) (k37 : Int32 → Int32 → Mem → Option (Int32 × Mem)) (v1 v2 v3 v4 v5 v6 s0 : Int32) (μ : Mem) : Option (Int32 × Mem) :=
  if s0 = 0 then (X6_rank_b118 k20 k37 v1 v2 v3 v4 v6 v5 0 μ)
  else (X6_rank_b118 k20 k37 v1 v2 v3 v4 v6 v5 1 μ)
noncomputable def X6_rank_b103 (k20 : Int32 → Int32 → Mem → Option (Int32 × Mem)) (k37 : Int32 → Int32 → Mem → Option (Int32 × Mem)) (v1 v2 v3 v4 v5 v6 : Int32) (μ : Mem) : Option (Int32 × Mem) :=
  X6_rank_b104 k20 k37 v1 v2 v3 v4 v5 v6 0 μ
noncomputable def X6_rank_b99 (k20 : Int32 → Int32 → Mem → Option (Int32 × Mem)) (k37 : Int32 → Int32 → Mem → Option (Int32 × Mem)) (v1 v2 v3 v4 v5 v6 : Int32) (μ : Mem) : Option (Int32 × Mem) :=
  X6_rank_b104 k20 k37 v1 v2 v3 v4 v5 v6 1 μ
noncomputable def X6_rank_b37 (k20 : Int32 → Int32 → Mem → Option (Int32 × Mem)) (v1 v2 v3 v4 : Int32) (k37 : Int32 → Int32 → Mem → Option (Int32 × Mem)) (v5 v6 : Int32) (μ : Mem) : Option (Int32 × Mem) :=
  gi 1 59 (if (μ 20 2 0 (1 : Int32).toNatClampNeg) ≤ v6 then (bd (X6_isNearly v1 v4 μ) fun r_12 μ_11 => (if r_12 = 0 then (X6_rank_b148 k20 v1 v2 v3 v4 μ_11)
  else (if v5 = v2 then (X6_rank_b149 k20 v1 v2 v4 v4 μ_11)
  else (X6_rank_b148 k20 v1 v2 v3 v4 μ_11))))
  else (bd (X6_isNearly v1 v6 μ) fun r_17 μ_16 => (if r_17 = 0 then (X6_rank_b103 k20 k37 v1 v2 v3 v4 v5 v6 μ_16)
  else (bd (X6_priceOf v1 v6 μ_16) fun r_22 μ_21 => (bd (X6_priceOf v1 v4 μ_21) fun r_25 μ_24 => (if r_25 < r_22 then (X6_rank_b99 k20 k37 v1 v2 v3 v4 v5 v6 μ_24)
  else (bd (X6_priceOf v1 v6 μ_24) fun r_29 μ_28 => (bd (X6_priceOf v1 v4 μ_28) fun r_32 μ_31 => (if r_29 = r_32 then (if v4 ≤ v6 then (X6_rank_b103 k20 k37 v1 v2 v3 v4 v5 v6 μ_31)
  else (X6_rank_b99 k20 k37 v1 v2 v3 v4 v5 v6 μ_31))
  else (X6_rank_b103 k20 k37 v1 v2 v3 v4 v5 v6 μ_31))))))))))
noncomputable def X6_rank_b20 (v1 v2 : Int32) (k20 : Int32 → Int32 → Mem → Option (Int32 × Mem)) (v3 v4 : Int32) (μ : Mem) : Option (Int32 × Mem) :=
  gi 1 59 (if (μ 20 2 0 (1 : Int32).toNatClampNeg) ≤ v4 then (some (v3, μ))
  else (lo2 (X6_rank_b37 k20 v1 v2 v3 v4) 1000 0 0 μ))
noncomputable def X6_rank (v1 v2 : Int32) (μ : Mem) : Option (Int32 × Mem) :=
  bd (X6_isPerson v1 μ) fun r_3 μ_2 => (if r_3 = 0 then (some ((-1), μ_2))
  else (if 0 ≤ v2 then (lo2 (X6_rank_b20 v1 v2) 1000 (-4) 0 μ_2)
  else (some ((-1), μ_2))))
noncomputable def X6_seen (v1 v2 v3 : Int32) (μ : Mem) : Option (Int32 × Mem) :=
  bd (X6_isThing v1 μ) fun r_3 μ_2 => (if r_3 = 0 then (some ((-1), μ_2))
  else (bd (X6_isPerson v2 μ_2) fun r_7 μ_6 => (if r_7 = 0 then (some ((-1), μ_6))
  else (bd (X6_in v3 1 9 μ_6) fun r_11 μ_10 => (if r_11 = 0 then (some ((-1), μ_10))
  else (if (μ_10 20 10 0 0) = 6 then (some ((-3), μ_10))
  else (gi (μ_10 20 10 0 0) 6 (some ((xs (xs μ_10 20 9 0 (μ_10 20 10 0 0).toNatClampNeg (((100 * v3) + (10 * v1)) + v2)) 20 10 0 0 (((xs μ_10 20 9 0 (μ_10 20 10 0 0).toNatClampNeg (((100 * v3) + (10 * v1)) + v2)) 20 10 0 0) + 1)) 20 10 0 0, (xs (xs μ_10 20 9 0 (μ_10 20 10 0 0).toNatClampNeg (((100 * v3) + (10 * v1)) + v2)) 20 10 0 0 (((xs μ_10 20 9 0 (μ_10 20 10 0 0).toNatClampNeg (((100 * v3) + (10 * v1)) + v2)) 20 10 0 0) + 1)))))))))))
noncomputable def X6_stop_b90 (k59 : Int32 → Mem → Option (Int32 × Mem)) (v1 v2 v3 v4 s0 : Int32) (μ : Mem) : Option (Int32 × Mem) :=
  bdv (X6_pauses v1 v2 v4 μ) fun μ_27 => (bd (X6_goesBehind v2 μ_27) fun r_30 μ_29 => (if s0 = 0 then (k59 (v4 + 1) μ_29)
  else (if v3 = 0 then (some (v4, μ_29))
  else (some (r_30, μ_29)))))
noncomputable def X6_stop_b59 (v1 v2 v3 : Int32) (k59 : Int32 → Mem → Option (Int32 × Mem)) (v4 : Int32) (μ : Mem) : Option (Int32 × Mem) :=
  if 31 ≤ v4 then (some ((-4), μ))
  else (bdv (X6_pauses v1 v2 v4 μ) fun μ_21 => (bd (X6_whoseBehind v2 9 μ_21) fun r_24 μ_23 => (if r_24 = v1 then (X6_stop_b90 k59 v1 v2 v3 v4 1 μ_23)
  else (X6_stop_b90 k59 v1 v2 v3 v4 0 μ_23))))
noncomputable def X6_stop (v1 v2 v3 : Int32) (μ : Mem) : Option (Int32 × Mem) :=
  bd (X6_isPerson v1 μ) fun r_3 μ_2 => (if r_3 = 0 then (some ((-1), μ_2))
  else (bd (X6_isThing v2 μ_2) fun r_7 μ_6 => (if r_7 = 0 then (some ((-1), μ_6))
  else (bd (X6_in v3 0 1 μ_6) fun r_11 μ_10 => (if r_11 = 0 then (some ((-1), μ_10))
  else (bdv (X6_remembers μ_10) fun μ_14 => (bd (X6_whoseBehind v2 9 μ_14) fun r_17 μ_16 => (if r_17 = v1 then (if v3 = 0 then (some (0, μ_16))
  else (bd (X6_goesBehind v2 μ_16) fun r_36 μ_35 => (some (r_36, μ_35))))
  else (lo1 (X6_stop_b59 v1 v2 v3) 1000 1 μ_16)))))))))
noncomputable def X6_thing (v1 v2 : Int32) (μ : Mem) : Option (Int32 × Mem) :=
  bd (X6_isThing v1 μ) fun r_3 μ_2 => (if r_3 = 0 then (some ((-1), μ_2))
  else (if v2 = 0 then (gi 54 55 (bd (X6_costs v1 (μ_2 20 4 0 (54 : Int32).toNatClampNeg) μ_2) fun r_9 μ_8 => (some (r_9, μ_8))))
  else if v2 = 1 then (gi (6 + v1) 55 (some (μ_2 20 4 0 (6 + v1).toNatClampNeg, μ_2)))
  else if v2 = 2 then (gi (12 + v1) 55 (some (μ_2 20 4 0 (12 + v1).toNatClampNeg, μ_2)))
  else if v2 = 3 then (gi (6 + v1) 55 (if (μ_2 20 4 0 (6 + v1).toNatClampNeg) = (-4) then (bd (X6_claim v1 μ_2) fun r_19 μ_18 => (some (r_19, μ_18)))
  else (some ((-4), μ_2))))
  else (some ((-1), μ_2))))
noncomputable def X6_undo_b22 (k22 : Int32 → Mem → Option (Int32 × Mem)) (v1 : Int32) (μ : Mem) : Option (Int32 × Mem) :=
  if 55 ≤ v1 then (some (μ 20 6 0 0, μ))
  else (gi ((55 * (μ 20 6 0 0)) + v1) 440 (gi v1 55 (k22 (v1 + 1) (xs μ 20 4 0 v1.toNatClampNeg (μ 20 5 0 ((55 * (μ 20 6 0 0)) + v1).toNatClampNeg)))))
noncomputable def X6_undo (μ : Mem) : Option (Int32 × Mem) :=
  if (μ 20 6 0 0) = 0 then (some ((-2), μ))
  else (lo1 (X6_undo_b22) 1000 0 (xs μ 20 6 0 0 ((μ 20 6 0 0) - 1)))
noncomputable def X6_wants_b29 (k4 : Int32 → Int32 → Mem → Option (Int32 × Mem)) (v1 v3 s0 s1 : Int32) (μ : Mem) : Option (Int32 × Mem) :=
  k4 (s0 + s1) (v3 + 1) μ
noncomputable def X6_wants_b4 (v1 : Int32) (k4 : Int32 → Int32 → Mem → Option (Int32 × Mem)) (v2 v3 : Int32) (μ : Mem) : Option (Int32 × Mem) :=
  gi 0 59 (if (μ 20 2 0 (0 : Int32).toNatClampNeg) ≤ v3 then (some (v2, μ))
  else (bd (X6_isNearly v3 v1 μ) fun r_5 μ_4 => (if r_5 = 0 then (X6_wants_b29 k4 v1 v3 v2 0 μ_4)
  else (X6_wants_b29 k4 v1 v3 v2 1 μ_4))))
noncomputable def X6_wants (v1 : Int32) (μ : Mem) : Option (Int32 × Mem) :=
  lo2 (X6_wants_b4 v1) 1000 0 0 μ
noncomputable def X6_wanted_b43 (k15 : Int32 → Int32 → Mem → Option (Int32 × Mem)) (v1 v3 s0 : Int32) (μ : Mem) : Option (Int32 × Mem) :=
  k15 s0 (v3 + 1) μ
noncomputable def X6_wanted_b15 (v1 : Int32) (k15 : Int32 → Int32 → Mem → Option (Int32 × Mem)) (v2 v3 : Int32) (μ : Mem) : Option (Int32 × Mem) :=
  gi 1 59 (if (μ 20 2 0 (1 : Int32).toNatClampNeg) ≤ v3 then (if v1 = 0 then (some (v2, μ))
  else (bd (X6_wants v2 μ) fun r_10 μ_9 => (some (r_10, μ_9))))
  else (bd (X6_wants v3 μ) fun r_13 μ_12 => (bd (X6_wants v2 μ_12) fun r_16 μ_15 => (if r_13 ≤ r_16 then (X6_wanted_b43 k15 v1 v3 v2 μ_15)
  else (X6_wanted_b43 k15 v1 v3 v3 μ_15)))))
noncomputable def X6_wanted (v1 : Int32) (μ : Mem) : Option (Int32 × Mem) :=
  bd (X6_in v1 0 1 μ) fun r_3 μ_2 => (if r_3 = 0 then (some ((-1), μ_2))
  else (lo2 (X6_wanted_b15 v1) 1000 0 1 μ_2))
noncomputable def X6_wipe (μ : Mem) : Option (Int32 × Mem) :=
  some (μ 20 1 0 0, (xs μ 20 1 0 0 0))
noncomputable def X6_write (v1 : Int32) (μ : Mem) : Option (Int32 × Mem) :=
  bd (X6_in v1 32 126 μ) fun r_3 μ_2 => (if r_3 = 0 then (some ((-1), μ_2))
  else (if (μ_2 20 1 0 0) = 200 then (some ((-3), μ_2))
  else (gi (μ_2 20 1 0 0) 200 (some ((xs (xs μ_2 20 0 0 (μ_2 20 1 0 0).toNatClampNeg v1) 20 1 0 0 (((xs μ_2 20 0 0 (μ_2 20 1 0 0).toNatClampNeg v1) 20 1 0 0) + 1)) 20 1 0 0, (xs (xs μ_2 20 0 0 (μ_2 20 1 0 0).toNatClampNeg v1) 20 1 0 0 (((xs μ_2 20 0 0 (μ_2 20 1 0 0).toNatClampNeg v1) 20 1 0 0) + 1)))))))
