/-! THE TEXT: things, persons -/
theorem ut_at (T : TA) (f j v f' j' : Nat) : ut T f j v f' j' = if f' = f ∧ j' = j then v else T f' j' := rfl
theorem xs_at (μ : Mem) (q f i j : Nat) (v : Int32) (j' : Nat) : xs μ q f i j v q f i j' = if j' = j then v else μ q f i j' := by
  rw [xs_xa, xa_row, upd_at]
section ITM2
variable {ch : Nat → Nat} {N q : Nat} {x m : Mem} {T : TA} {p : Nat}
theorem it_t (hq : q = 12 ∨ q = 13) (h : TXT ch N x m) (hD : DR q T x m) (hp : p < N) (hc : ch p = 116) : IT ch N q 1 x m p := by
  obtain ⟨hB, hX, hM⟩ := hD
  have h200 := h.1
  have b1 := hB.2.1
  have n1 := hX.2.1
  have m1 := hM.2.1
  have hrd : ∀ y, X6_readsItem (nI (ch p)) y = bd (X6_number (nI 1) (nI 60) (nI 59) y) fun r_54 μ_53 => (if r_54 < 0 then (some (0, μ_53)) else (gi 1 59 (if (μ_53 20 3 0 (1 : Int32).toNatClampNeg) = 6 then (some (0, μ_53)) else (bdv (X6_thingOf r_54 μ_53) fun μ_59 => (some (1, μ_59)))))) := fun y => by
    rw [hc]
    unfold X6_readsItem
    rw [if_neg (by decide), if_neg (by decide), if_neg (by decide), if_neg (by decide), if_pos (by decide)]
    rfl
  have htk : ∀ y, X4_takeItem q (nI (ch p)) y = bd (X4_takeThing q (y 14 0 0 0) y) fun r μ => gb r (some (r, μ)) := fun y => by
    rw [hc]
    unfold X4_takeItem
    rw [if_neg (by decide), if_neg (by decide), if_neg (by decide), if_neg (by decide), if_pos (by decide), gl0 (by omega) (by omega), tc0]
  have mneg : (∀ v p', fld ch 59 (p + 1) = some (v, p') → ¬ (1 ≤ v ∧ v ≤ 60)) → ∃ m', FM m m' ∧ X6_readsItem (nI (ch p)) (mm m (p + 1)) = some (0, m') := fun hn => by
    obtain ⟨p1, g1⟩ := m_bad h (p := p + 1) (by omega) (by omega) (by omega) (by omega) (by omega) hn
    refine ⟨_, FM_mm m p1, ?_⟩
    rw [hrd, g1, bdO, if_pos (by decide)]
  cases e : fld ch 59 (p + 1) with
  | none =>
    obtain ⟨p2, g2⟩ := rd_none (x := x) h (p := p + 1) (k := 0) (due := 1) (F := 999) (by omega) (by omega) (by omega) e
    obtain ⟨m', k1, k2⟩ := mneg (fun v p' hh => by rw [e] at hh; cases hh)
    exact Or.inr ⟨_, m', FX_pp q x p2, k1, Or.inl g2, k2⟩
  | some a =>
    obtain ⟨v, p'⟩ := a
    obtain ⟨l1, l2, l3⟩ := fld_lt (N := N) (by omega) h.2.2.2.2 e
    have g2 := rd_some (x := x) h (p := p + 1) (k := 0) (due := 1) (F := 999) (by omega) (by omega) (by omega) e
    rw [rd_end (by omega) (by omega)] at g2
    have htk' := htk (pp (xs x 14 0 0 0 (nI v)) p')
    rw [pp_o _ (by omega), xs_self] at htk'
    have hFX1 : FX q x (xs x 14 0 0 0 (nI v)) := FX_row 0 _ FX_rfl
    have hFXp : FX q x (pp (xs x 14 0 0 0 (nI v)) p') := FX_to hFX1 (FX_pp q _ p')
    have h17 : pp (xs x 14 0 0 0 (nI v)) p' 17 = x 17 := hFXp 17 (by omega) (by omega)
    have y1 : pp (xs x 14 0 0 0 (nI v)) p' q 1 0 0 = nI (T 1 0) := by rw [pp_o _ (by omega), xs_fr x (by omega)]; exact n1
    by_cases c6 : T 1 0 = 6
    · -- too many
      have t0 : X4_takeItem q (nI (ch p)) (pp (xs x 14 0 0 0 (nI v)) p') = some (0, pp (xs x 14 0 0 0 (nI v)) p') := by
        rw [htk']
        unfold X4_takeThing
        rw [y1, if_pos (show 6 ≤ nI (T 1 0) by rw [lt6, leN (by omega) (by omega)]; omega), bdO, gb0]
      by_cases c : 1 ≤ v ∧ v ≤ 60
      · have g1 := m_ok h (p := p + 1) (a := 1) (b := 60) (by omega) (by omega) (by omega) (by omega) (by omega) e c.1 c.2
        refine Or.inr ⟨_, mm m p', hFXp, FM_mm m p', Or.inr ⟨_, g2, h17, t0⟩, ?_⟩
        rw [hrd, g1, bdO, if_neg (nN0 (by omega)), gl1 (by omega) (by omega), tc1, mm_o m (by omega), m1, if_pos (by rw [c6]; rfl)]
      · obtain ⟨m', k1, k2⟩ := mneg (fun v' p'' hh => by rw [e] at hh; cases hh; exact c)
        exact Or.inr ⟨_, m', hFXp, k1, Or.inr ⟨_, g2, h17, t0⟩, k2⟩
    · by_cases c : 1 ≤ v ∧ v ≤ 60
      · have g1 := m_ok h (p := p + 1) (a := 1) (b := 60) (by omega) (by omega) (by omega) (by omega) (by omega) e c.1 c.2
        generalize hn : T 1 0 = n at n1 m1 y1 c6 b1
        have t1 : X4_takeItem q (nI (ch p)) (pp (xs x 14 0 0 0 (nI v)) p') = some (1, pp (xs (xs (xs x 14 0 0 0 (nI v)) q 7 0 n (nI v)) q 1 0 0 (nI (n + 1))) p') := by
          rw [htk']
          unfold X4_takeThing
          rw [y1, if_neg (show ¬ 6 ≤ nI n by rw [lt6, leN (by omega) (by omega)]; omega), if_neg (show ¬ nI v < 1 by rw [lt1, ltN (by omega) (by omega)]; omega), if_pos (show nI v ≤ 60 by rw [show (60 : Int32) = nI 60 from rfl, leN (by omega) (by omega)]; omega), giN (by omega) (by omega), clN (by omega), bdO, gb1, xs_fr _ (by omega), y1, nI_1, pp_com _ _ (by omega), pp_com _ _ (by omega)]
        refine Or.inl ⟨ut (ut T 7 n v) 1 0 (n + 1), _, _, xs (xs m 20 3 0 (17 + n) (nI v)) 20 3 0 1 (nI (n + 1)), p', by omega, l3, ⟨?_, ?_, ?_⟩, ?_, ?_, g2, h17, t1, ?_⟩
        · obtain ⟨b0, b1', b2, b3, b4, b5, b6, b7⟩ := hB
          refine ⟨by simpa [ut_at] using b0, by simp [ut_at]; omega, by simpa [ut_at] using b2, by simpa [ut_at] using b3, by simpa [ut_at] using b4, fun i hi => ?_, fun t ht => ?_, fun a ha => ?_⟩
          · simp [ut_at] at hi ⊢
            exact b5 i hi
          · simp [ut_at] at ht ⊢
            by_cases z : t = n
            · simp [z]; exact c
            · simp [z]; exact b6 t (by omega)
          · simp [ut_at] at ha ⊢
            have := b7 a ha
            omega
        · obtain ⟨b0, b1', b2, b3, b4, b5, b6, b7⟩ := hX
          have fr : ∀ f, f ≠ 7 → f ≠ 1 → xs (xs (xs x 14 0 0 0 (nI v)) q 7 0 n (nI v)) q 1 0 0 (nI (n + 1)) q f = x q f := fun f h1 h2 => by
            funext i
            rw [xs_fr _ (by omega), xs_fr _ (by omega), xs_fr _ (by omega)]
          have f1 : xs (xs (xs x 14 0 0 0 (nI v)) q 7 0 n (nI v)) q 1 0 0 (nI (n + 1)) q 1 0 0 = nI (n + 1) := xs_self ..
          have f7 : ∀ t, xs (xs (xs x 14 0 0 0 (nI v)) q 7 0 n (nI v)) q 1 0 0 (nI (n + 1)) q 7 0 t = if t = n then nI v else x q 7 0 t := fun t => by
            rw [xs_fr _ (by omega), xs_at, xs_fr x (by omega)]
          unfold TX
          rw [fr 0 (by omega) (by omega), fr 2 (by omega) (by omega), fr 3 (by omega) (by omega), fr 4 (by omega) (by omega), fr 5 (by omega) (by omega), fr 6 (by omega) (by omega), fr 8 (by omega) (by omega), fr 9 (by omega) (by omega), fr 10 (by omega) (by omega), fr 11 (by omega) (by omega), f1]
          refine ⟨by simpa [ut_at] using b0, by simp [ut_at], by simpa [ut_at] using b2, by simpa [ut_at] using b3, by simpa [ut_at] using b4, fun i hi => ?_, fun t ht => ?_, fun a ha => ?_⟩
          · simp [ut_at] at hi ⊢
            exact b5 i hi
          · rw [f7]
            simp [ut_at] at ht ⊢
            by_cases z : t = n
            · simp [z]
            · simp [z]; exact b6 t (by omega)
          · simp [ut_at] at ha ⊢
            exact b7 a ha
        · obtain ⟨b0, b1', b2, b3, b4, b5, b6, b7⟩ := hM
          have b2' := hB.2.2.1
          have b0' := hB.1
          have f : ∀ j, xs (xs m 20 3 0 (17 + n) (nI v)) 20 3 0 1 (nI (n + 1)) 20 3 0 j = if j = 1 then nI (n + 1) else if j = 17 + n then nI v else m 20 3 0 j := fun j => by
            rw [xs_at, xs_at]
          have fo : ∀ j, j ≠ 1 → j ≠ 17 + n → xs (xs m 20 3 0 (17 + n) (nI v)) 20 3 0 1 (nI (n + 1)) 20 3 0 j = m 20 3 0 j := fun j h1 h2 => by
            rw [f, if_neg h1, if_neg h2]
          refine ⟨?_, ?_, ?_, ?_, ?_, fun i hi => ?_, fun t ht => ?_, fun a ha => ?_⟩
          · rw [fo 0 (by omega) (by omega)]; simpa [ut_at] using b0
          · rw [f, if_pos rfl]; simp [ut_at]
          · rw [fo 2 (by omega) (by omega)]; simpa [ut_at] using b2
          · rw [fo 3 (by omega) (by omega)]; simpa [ut_at] using b3
          · rw [fo 4 (by omega) (by omega)]; simpa [ut_at] using b4
          · simp [ut_at] at hi ⊢
            rw [fo _ (by omega) (by omega), fo _ (by omega) (by omega)]
            exact b5 i hi
          · simp [ut_at] at ht ⊢
            by_cases z : t = n
            · subst z
              rw [f, if_neg (by omega), if_pos rfl]
              simp
            · rw [fo _ (by omega) (by omega)]
              simp [z]; exact b6 t (by omega)
          · simp [ut_at] at ha ⊢
            rw [fo _ (by omega) (by omega), fo _ (by omega) (by omega), fo _ (by omega) (by omega), fo _ (by omega) (by omega)]
            exact b7 a ha
        · intro q' h1 h2
          funext f i
          rw [xs_fr _ (by omega), xs_fr _ (by omega), xs_fr _ (by omega)]
        · intro f h1 h2
          rw [xs_fr _ (by omega), xs_fr _ (by omega)]
        · have y3 : mm m p' 20 3 0 1 = nI n := by rw [mm_o m (by omega)]; exact m1
          have y4 : xs (mm m p') 20 3 0 (17 + n) (nI v) 20 3 0 1 = nI n := by rw [xs_at, if_neg (by omega)]; exact y3
          rw [hrd, g1, bdO, if_neg (nN0 (by omega)), gl1 (by omega) (by omega), tc1, y3, if_neg (show ¬ nI n = 6 by rw [lt6, eqN (by omega) (by omega)]; omega)]
          unfold X6_thingOf
          rw [tc1, y3, ad17, clN (by omega), y4, nI_1, gl1 (by omega) (by omega), giN (by omega) (by omega), gl1 (by omega) (by omega), gl1 (by omega) (by omega), bdvO, mm_com, mm_com]
      · have t0 : X4_takeItem q (nI (ch p)) (pp (xs x 14 0 0 0 (nI v)) p') = some (0, pp (xs x 14 0 0 0 (nI v)) p') := by
          rw [htk']
          unfold X4_takeThing
          rw [y1, if_neg (show ¬ 6 ≤ nI (T 1 0) by rw [lt6, leN (by omega) (by omega)]; omega)]
          by_cases d : v < 1
          · rw [if_pos (show nI v < 1 by rw [lt1, ltN (by omega) (by omega)]; exact d), bdO, gb0]
          · rw [if_neg (show ¬ nI v < 1 by rw [lt1, ltN (by omega) (by omega)]; exact d), if_neg (show ¬ nI v ≤ 60 by rw [show (60 : Int32) = nI 60 from rfl, leN (by omega) (by omega)]; omega), bdO, gb0]
        obtain ⟨m', k1, k2⟩ := mneg (fun v' p'' hh => by rw [e] at hh; cases hh; exact c)
        exact Or.inr ⟨_, m', hFXp, k1, Or.inr ⟨_, g2, h17, t0⟩, k2⟩
end ITM2
