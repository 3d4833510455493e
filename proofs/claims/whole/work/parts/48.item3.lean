/-! THE TEXT: persons -/
section ITM3
variable {ch : Nat → Nat} {N q : Nat} {x m : Mem} {T : TA} {p : Nat}
theorem it_p (hq : q = 12 ∨ q = 13) (h : TXT ch N x m) (hD : DR q T x m) (hp : p < N) (hc : ch p = 112) : IT ch N q 2 x m p := by
  obtain ⟨hB, hX, hM⟩ := hD
  have h200 := h.1
  have b0 := hB.1
  have n1 := hX.1
  have m1 := hM.1
  have hrd : ∀ y, X6_readsItem (nI (ch p)) y = bd (X6_number (nI 0) (nI 3) (nI 44) y) fun r_41 μ_40 => (if 0 ≤ r_41 then (bd (X6_number (nI 0) (nI 99) (nI 59) μ_40) fun r_45 μ_44 => (X6_readsItem_b78 r_41 r_45 μ_44)) else (X6_readsItem_b78 r_41 (-1) μ_40)) := fun y => by
    rw [hc]
    unfold X6_readsItem
    rw [if_neg (by decide), if_neg (by decide), if_neg (by decide), if_pos (by decide)]
    rfl
  have htk : ∀ y, X4_takeItem q (nI (ch p)) y = bd (X4_takePerson q (y 14 0 0 0) (y 14 0 0 1) y) fun r μ => gb r (some (r, μ)) := fun y => by
    rw [hc]
    unfold X4_takeItem
    rw [if_neg (by decide), if_neg (by decide), if_neg (by decide), if_pos (by decide), gl0 (by omega) (by omega), gl1 (by omega) (by omega), tc0, tc1]
  have h78 : ∀ r y, X6_readsItem_b78 r (-1) y = some (0, y) := fun r y => by
    unfold X6_readsItem_b78
    rw [if_pos (by decide)]
  have mneg1 : (∀ v p', fld ch 44 (p + 1) = some (v, p') → ¬ (0 ≤ v ∧ v ≤ 3)) → ∃ m', FM m m' ∧ X6_readsItem (nI (ch p)) (mm m (p + 1)) = some (0, m') := fun hn => by
    obtain ⟨p1, g1⟩ := m_bad h (p := p + 1) (by omega) (by omega) (by omega) (by omega) (by omega) hn
    refine ⟨_, FM_mm m p1, ?_⟩
    rw [hrd, g1, bdO, if_neg (by decide), h78]
  cases e : fld ch 44 (p + 1) with
  | none =>
    obtain ⟨p2, g2⟩ := rd_none (x := x) h (p := p + 1) (k := 0) (due := 2) (F := 999) (by omega) (by omega) (by omega) e
    obtain ⟨m', k1, k2⟩ := mneg1 (fun v p' hh => by rw [e] at hh; cases hh)
    exact Or.inr ⟨_, m', FX_pp q x p2, k1, Or.inl g2, k2⟩
  | some a =>
    obtain ⟨v, p1⟩ := a
    obtain ⟨l1, l2, l3⟩ := fld_lt (N := N) (by omega) h.2.2.2.2 e
    have g2 := rd_some (x := x) h (p := p + 1) (k := 0) (due := 2) (F := 999) (by omega) (by omega) (by omega) e
    have hr1 : TXT ch N (xs x 14 0 0 0 (nI v)) m := TXT_row h
    have hFX1 : FX q x (xs x 14 0 0 0 (nI v)) := FX_row 0 _ FX_rfl
    cases e2 : fld ch 59 p1 with
    | none =>
      obtain ⟨p2, g3⟩ := rd_none hr1 (p := p1) (k := 1) (due := 2) (F := 998) (by omega) (by omega) (by omega) e2
      rw [g3] at g2
      by_cases c : 0 ≤ v ∧ v ≤ 3
      · have g1 := m_ok h (p := p + 1) (a := 0) (b := 3) (by omega) (by omega) (by omega) (by omega) (by omega) e c.1 c.2
        obtain ⟨p3, g4⟩ := m_bad h (p := p1) (sep := 59) (a := 0) (b := 99) (by omega) (by omega) (by omega) (by omega) (by omega) (fun v p' hh => by rw [e2] at hh; cases hh)
        refine Or.inr ⟨_, mm m p3, FX_to hFX1 (FX_pp q _ p2), FM_mm m p3, Or.inl g2, ?_⟩
        rw [hrd, g1, bdO, if_pos (show 0 ≤ nI v by rw [lt0, leN (by omega) (by omega)]; omega), g4, bdO, h78]
      · obtain ⟨m', k1, k2⟩ := mneg1 (fun v' p'' hh => by rw [e] at hh; cases hh; exact c)
        exact Or.inr ⟨_, m', FX_to hFX1 (FX_pp q _ p2), k1, Or.inl g2, k2⟩
    | some a2 =>
      obtain ⟨w, p'⟩ := a2
      obtain ⟨l4, l5, l6⟩ := fld_lt (N := N) (by omega) h.2.2.2.2 e2
      have g3 := rd_some hr1 (p := p1) (k := 1) (due := 2) (F := 998) (by omega) (by omega) (by omega) e2
      rw [rd_end (by omega) (by omega)] at g3
      rw [g3] at g2
      have hFX2 : FX q x (xs (xs x 14 0 0 0 (nI v)) 14 0 0 1 (nI w)) := FX_row 1 _ hFX1
      have hFXp : FX q x (pp (xs (xs x 14 0 0 0 (nI v)) 14 0 0 1 (nI w)) p') := FX_to hFX2 (FX_pp q _ p')
      have h17 : pp (xs (xs x 14 0 0 0 (nI v)) 14 0 0 1 (nI w)) p' 17 = x 17 := hFXp 17 (by omega) (by omega)
      have r0 : pp (xs (xs x 14 0 0 0 (nI v)) 14 0 0 1 (nI w)) p' 14 0 0 0 = nI v := by rw [pp_o _ (by omega), xs_at, if_neg (by omega), xs_self]
      have r1 : pp (xs (xs x 14 0 0 0 (nI v)) 14 0 0 1 (nI w)) p' 14 0 0 1 = nI w := by rw [pp_o _ (by omega), xs_self]
      have htk' := htk (pp (xs (xs x 14 0 0 0 (nI v)) 14 0 0 1 (nI w)) p')
      rw [r0, r1] at htk'
      have y1 : ∀ f i, pp (xs (xs x 14 0 0 0 (nI v)) 14 0 0 1 (nI w)) p' q f i = x q f i := fun f i => by rw [pp_o _ (by omega), xs_fr _ (by omega), xs_fr x (by omega)]
      have mok : v ≤ 3 → X6_readsItem (nI (ch p)) (mm m (p + 1)) = X6_readsItem_b78 (nI v) (nI w) (mm m p') := fun hv => by
        have g1 := m_ok h (p := p + 1) (a := 0) (b := 3) (by omega) (by omega) (by omega) (by omega) (by omega) e (by omega) hv
        have g4 := m_ok h (p := p1) (a := 0) (b := 99) (by omega) (by omega) (by omega) (by omega) (by omega) e2 (by omega) (by omega)
        rw [hrd, g1, bdO, if_pos (show 0 ≤ nI v by rw [lt0, leN (by omega) (by omega)]; omega), g4, bdO]
      generalize hy : xs (xs x 14 0 0 0 (nI v)) 14 0 0 1 (nI w) = y at g2 hFX2 hFXp h17 r0 r1 htk' y1
      by_cases c : v ≤ 3
      · by_cases c6 : T 0 0 = 6
        · refine Or.inr ⟨pp y p', mm m p', hFXp, FM_mm m p', Or.inr ⟨_, g2, h17, ?_⟩, ?_⟩
          · rw [htk']
            unfold X4_takePerson
            rw [y1, n1, if_pos (show 6 ≤ nI (T 0 0) by rw [lt6, leN (by omega) (by omega)]; omega), bdO, gb0]
          · rw [mok c]
            unfold X6_readsItem_b78
            rw [if_neg (nN0 (by omega)), gl0 (by omega) (by omega), tc0, mm_o m (by omega), m1, if_pos (by rw [c6]; rfl)]
        · generalize hn : T 0 0 = n at n1 m1 c6 b0
          have yq : ∀ f i, y q f i = x q f i := fun f i => by rw [← y1 f i, pp_o _ (by omega)]
          have t1 : X4_takeItem q (nI (ch p)) (pp y p') = some (1, pp (xs (xs (xs y q 5 0 n (nI v)) q 6 0 n (nI w)) q 0 0 0 (nI (n + 1))) p') := by
            have z0 : pp y p' q 0 0 0 = nI n := by rw [y1]; exact n1
            have z1 : xs (pp y p') q 5 0 n (nI v) q 0 0 0 = nI n := by rw [xs_fr _ (by omega)]; exact z0
            have z2 : xs (xs (pp y p') q 5 0 n (nI v)) q 6 0 n (nI w) q 0 0 0 = nI n := by rw [xs_fr _ (by omega)]; exact z1
            rw [htk']
            unfold X4_takePerson
            rw [z0, if_neg (show ¬ 6 ≤ nI n by rw [lt6, leN (by omega) (by omega)]; omega), if_pos (show nI v ≤ 3 by rw [lt3, leN (by omega) (by omega)]; omega), giN (by omega) (by omega), clN (by omega), z1, giN (by omega) (by omega), clN (by omega), z2, nI_1, bdO, gb1, pp_com _ _ (by omega), pp_com _ _ (by omega), pp_com _ _ (by omega)]
          refine Or.inl ⟨ut (ut (ut T 5 n v) 6 n w) 0 0 (n + 1), _, _, xs (xs (xs m 20 3 0 (5 + n) (nI v)) 20 3 0 (11 + n) (nI w)) 20 3 0 0 (nI (n + 1)), p', by omega, l6, ⟨?_, ?_, ?_⟩, ?_, ?_, g2, h17, t1, ?_⟩
          · obtain ⟨b0', b1, b2, b3, b4, b5, b6, b7⟩ := hB
            refine ⟨by simp [ut_at]; omega, by simpa [ut_at] using b1, by simpa [ut_at] using b2, by simpa [ut_at] using b3, by simpa [ut_at] using b4, fun i hi => ?_, fun t ht => ?_, fun a ha => ?_⟩
            · simp [ut_at] at hi ⊢
              by_cases z : i = n
              · simp [z]; omega
              · simp [z]; exact b5 i (by omega)
            · simp [ut_at] at ht ⊢
              exact b6 t ht
            · simp [ut_at] at ha ⊢
              have := b7 a ha
              omega
          · obtain ⟨b0', b1, b2, b3, b4, b5, b6, b7⟩ := hX
            have fr : ∀ f, f ≠ 5 → f ≠ 6 → f ≠ 0 → xs (xs (xs y q 5 0 n (nI v)) q 6 0 n (nI w)) q 0 0 0 (nI (n + 1)) q f 0 = x q f 0 := fun f h1 h2 h3 => by
              rw [xs_fr _ (by omega), xs_fr _ (by omega), xs_fr _ (by omega), yq]
            have f0 : xs (xs (xs y q 5 0 n (nI v)) q 6 0 n (nI w)) q 0 0 0 (nI (n + 1)) q 0 0 0 = nI (n + 1) := xs_self ..
            have f5 : ∀ t, xs (xs (xs y q 5 0 n (nI v)) q 6 0 n (nI w)) q 0 0 0 (nI (n + 1)) q 5 0 t = if t = n then nI v else x q 5 0 t := fun t => by
              rw [xs_fr _ (by omega), xs_fr _ (by omega), xs_at, yq]
            have f6 : ∀ t, xs (xs (xs y q 5 0 n (nI v)) q 6 0 n (nI w)) q 0 0 0 (nI (n + 1)) q 6 0 t = if t = n then nI w else x q 6 0 t := fun t => by
              rw [xs_fr _ (by omega), xs_at, xs_fr _ (by omega), yq]
            unfold TX
            rw [fr 1 (by omega) (by omega) (by omega), fr 2 (by omega) (by omega) (by omega), fr 3 (by omega) (by omega) (by omega), fr 4 (by omega) (by omega) (by omega), fr 7 (by omega) (by omega) (by omega), fr 8 (by omega) (by omega) (by omega), fr 9 (by omega) (by omega) (by omega), fr 10 (by omega) (by omega) (by omega), fr 11 (by omega) (by omega) (by omega), f0]
            refine ⟨by simp [ut_at], by simpa [ut_at] using b1, by simpa [ut_at] using b2, by simpa [ut_at] using b3, by simpa [ut_at] using b4, fun i hi => ?_, fun t ht => ?_, fun a ha => ?_⟩
            · rw [f5, f6]
              simp [ut_at] at hi ⊢
              by_cases z : i = n
              · simp [z]
              · simp [z]; exact b5 i (by omega)
            · simp [ut_at] at ht ⊢
              exact b6 t ht
            · simp [ut_at] at ha ⊢
              exact b7 a ha
          · obtain ⟨b0', b1, b2, b3, b4, b5, b6, b7⟩ := hM
            have b2' := hB.2.2.1
            have b1' := hB.2.1
            have f : ∀ j, xs (xs (xs m 20 3 0 (5 + n) (nI v)) 20 3 0 (11 + n) (nI w)) 20 3 0 0 (nI (n + 1)) 20 3 0 j = if j = 0 then nI (n + 1) else if j = 11 + n then nI w else if j = 5 + n then nI v else m 20 3 0 j := fun j => by
              rw [xs_at, xs_at, xs_at]
            have fo : ∀ j, j ≠ 0 → j ≠ 11 + n → j ≠ 5 + n → xs (xs (xs m 20 3 0 (5 + n) (nI v)) 20 3 0 (11 + n) (nI w)) 20 3 0 0 (nI (n + 1)) 20 3 0 j = m 20 3 0 j := fun j h1 h2 h3 => by
              rw [f, if_neg h1, if_neg h2, if_neg h3]
            have g5 := f (5 + n)
            rw [if_neg (by omega), if_neg (by omega), if_pos rfl] at g5
            have g11 := f (11 + n)
            rw [if_neg (by omega), if_pos rfl] at g11
            refine ⟨?_, ?_, ?_, ?_, ?_, fun i hi => ?_, fun t ht => ?_, fun a ha => ?_⟩
            · rw [f, if_pos rfl]; simp [ut_at]
            · rw [fo 1 (by omega) (by omega) (by omega)]; simpa [ut_at] using b1
            · rw [fo 2 (by omega) (by omega) (by omega)]; simpa [ut_at] using b2
            · rw [fo 3 (by omega) (by omega) (by omega)]; simpa [ut_at] using b3
            · rw [fo 4 (by omega) (by omega) (by omega)]; simpa [ut_at] using b4
            · simp [ut_at] at hi ⊢
              by_cases z : i = n
              · subst z
                rw [g5, g11]
                simp
              · rw [fo _ (by omega) (by omega) (by omega), fo _ (by omega) (by omega) (by omega)]
                simp [z]; exact b5 i (by omega)
            · simp [ut_at] at ht ⊢
              rw [fo _ (by omega) (by omega) (by omega)]
              exact b6 t ht
            · simp [ut_at] at ha ⊢
              rw [fo _ (by omega) (by omega) (by omega), fo _ (by omega) (by omega) (by omega), fo _ (by omega) (by omega) (by omega), fo _ (by omega) (by omega) (by omega)]
              exact b7 a ha
          · intro q' h1 h2
            rw [← hFX2 q' h1 h2]
            funext f i
            rw [xs_fr _ (by omega), xs_fr _ (by omega), xs_fr _ (by omega)]
          · intro f h1 h2
            rw [xs_fr _ (by omega), xs_fr _ (by omega), xs_fr _ (by omega)]
          · have y3 : mm m p' 20 3 0 0 = nI n := by rw [mm_o m (by omega)]; exact m1
            have y4 : xs (mm m p') 20 3 0 (5 + n) (nI v) 20 3 0 0 = nI n := by rw [xs_at, if_neg (by omega)]; exact y3
            have y5 : xs (xs (mm m p') 20 3 0 (5 + n) (nI v)) 20 3 0 (11 + n) (nI w) 20 3 0 0 = nI n := by rw [xs_at, if_neg (by omega)]; exact y4
            rw [mok c]
            unfold X6_readsItem_b78 X6_personOf
            rw [if_neg (nN0 (by omega)), gl0 (by omega) (by omega), tc0, y3, if_neg (show ¬ nI n = 6 by rw [lt6, eqN (by omega) (by omega)]; omega), ad5, ad11, clN (by omega), clN (by omega), y5, nI_1, gl0 (by omega) (by omega), giN (by omega) (by omega), giN (by omega) (by omega), gl0 (by omega) (by omega), gl0 (by omega) (by omega), bdvO, mm_com, mm_com, mm_com]
      · obtain ⟨m', k1, k2⟩ := mneg1 (fun v' p'' hh => by rw [e] at hh; cases hh; omega)
        refine Or.inr ⟨pp y p', m', hFXp, k1, Or.inr ⟨_, g2, h17, ?_⟩, k2⟩
        rw [htk']
        unfold X4_takePerson
        rw [y1, n1]
        by_cases d : 6 ≤ T 0 0
        · rw [if_pos (show 6 ≤ nI (T 0 0) by rw [lt6, leN (by omega) (by omega)]; exact d), bdO, gb0]
        · rw [if_neg (show ¬ 6 ≤ nI (T 0 0) by rw [lt6, leN (by omega) (by omega)]; exact d), if_neg (show ¬ nI v ≤ 3 by rw [lt3, leN (by omega) (by omega)]; exact c), bdO, gb0]
end ITM3
