/-! THE TEXT: items -/
/-- the tale so far, on both sides -/
def DR (q : Nat) (T : TA) (x m : Mem) : Prop := TB T ∧ TX (x q) T ∧ TM (m 20 3 0) T
def FX (q : Nat) (x x' : Mem) : Prop := ∀ q', q' ≠ q → q' ≠ 14 → x' q' = x q'
def FM (m m' : Mem) : Prop := ∀ f, f ≠ 3 → f ≠ 11 → m' 20 f 0 = m 20 f 0
noncomputable def rdL (N due : Nat) (F : Nat) (k : Nat) (y : Mem) : Option (Int32 × Mem) := lo1 (X2_readItem_b23 (nI N) (nI due)) F (nI k) y
/-- what an item at p does on both sides: taken, or not so -/
def IT (ch : Nat → Nat) (N q due : Nat) (x m : Mem) (p : Nat) : Prop :=
  (∃ T' x1 x' m' p', p < p' ∧ p' ≤ N ∧ DR q T' x' m' ∧ FX q x x' ∧ FM m m' ∧ rdL N due 1000 0 (pp x (p + 1)) = some (1, x1) ∧ x1 17 = x 17 ∧ X4_takeItem q (nI (ch p)) x1 = some (1, pp x' p') ∧ X6_readsItem (nI (ch p)) (mm m (p + 1)) = some (1, mm m' p')) ∨
  (∃ x' m', FX q x x' ∧ FM m m' ∧ (rdL N due 1000 0 (pp x (p + 1)) = some (0, x') ∨ ∃ x1, rdL N due 1000 0 (pp x (p + 1)) = some (1, x1) ∧ x1 17 = x 17 ∧ X4_takeItem q (nI (ch p)) x1 = some (0, x')) ∧ X6_readsItem (nI (ch p)) (mm m (p + 1)) = some (0, m'))
section ITM
variable {ch : Nat → Nat} {N q : Nat} {x m : Mem} {T : TA} {p : Nat}
theorem FX_pp (q : Nat) (x : Mem) (p : Nat) : FX q x (pp x p) := fun q' h1 h2 => by
  funext f i
  exact pp_o x (by omega)
theorem FX_row {q : Nat} {x x' : Mem} (k : Nat) (v : Int32) (h : FX q x x') : FX q x (xs x' 14 0 0 k v) := fun q' h1 h2 => by
  rw [← h q' h1 h2]
  funext f i
  exact xs_fr x' (by omega)
theorem FX_rfl : FX q x x := fun _ _ _ => rfl
theorem FX_to {x' x'' : Mem} (h : FX q x x') (h2 : FX q x' x'') : FX q x x'' := fun q' a b => by rw [h2 q' a b, h q' a b]
theorem FM_mm (m : Mem) (p : Nat) : FM m (mm m p) := fun f h1 h2 => mm_o m (by omega)
theorem TXT_row {k : Nat} {v : Int32} (h : TXT ch N x m) : TXT ch N (xs x 14 0 0 k v) m := by
  obtain ⟨h1, h2, h3, h4, h5⟩ := h
  refine ⟨h1, h2, fun j hj => ?_, h4, h5⟩
  rw [xs_fr x (by omega)]
  exact h3 j hj
/-- the loop over an item's numbers, a step -/
theorem rd_some (h : TXT ch N x m) {p k due v p' F : Nat} (hp : p < 800) (hd : due ≤ 4) (hk : k < due) (e : fld ch (if k + 1 = due then 59 else 44) p = some (v, p')) : rdL N due (F + 1) k (pp x p) = rdL N due F (k + 1) (pp (xs x 14 0 0 k (nI v)) p') := (x_fld h hp hd hk (lo1 (X2_readItem_b23 (nI N) (nI due)) F)).1 v p' e
theorem rd_none (h : TXT ch N x m) {p k due F : Nat} (hp : p < 800) (hd : due ≤ 4) (hk : k < due) (e : fld ch (if k + 1 = due then 59 else 44) p = none) : ∃ p', rdL N due (F + 1) k (pp x p) = some (0, pp x p') := (x_fld h hp hd hk (lo1 (X2_readItem_b23 (nI N) (nI due)) F)).2 e
theorem rd_end {due F : Nat} (hd : due ≤ 4) (h0 : 0 < due) (y : Mem) : rdL N due (F + 1) due y = some (1, y) := by
  show X2_readItem_b23 (nI N) (nI due) (lo1 (X2_readItem_b23 (nI N) (nI due)) F) (nI due) y = _
  generalize lo1 (X2_readItem_b23 (nI N) (nI due)) F = K
  unfold X2_readItem_b23
  rw [if_pos (show nI due ≤ nI due by rw [leN (by omega) (by omega)]; omega), if_neg (show ¬ nI due ≤ 0 by rw [lt0, leN (by omega) (by omega)]; omega)]
/-- tales grow -/
def ut (T : TA) (f j v : Nat) : TA := fun f' j' => if f' = f ∧ j' = j then v else T f' j'
theorem ut_f {T : TA} {f j v f' j' : Nat} (h : f' ≠ f) : ut T f j v f' j' = T f' j' := if_neg (fun q => h q.1)
theorem ut_s {T : TA} {f j v : Nat} : ut T f j v f j = v := if_pos ⟨rfl, rfl⟩
theorem m_ok (h : TXT ch N x m) {p sep v p' a b : Nat} (hp : p < 800) (hs : 0 < sep) (hs2 : sep < 200) (ha : a < 1000) (hb : b < 1000) (e : fld ch sep p = some (v, p')) (h1 : a ≤ v) (h2 : v ≤ b) : X6_number (nI a) (nI b) (nI sep) (mm m p) = some (nI v, mm m p') := by
  obtain ⟨l1, l2, l3⟩ := fld_lt (N := N) (by omega) h.2.2.2.2 e
  have g := (m_num h hp hs hs2 (lo := nI a) (hi := nI b)).1 v p' e
  rwa [if_pos ⟨by rw [leN (by omega) (by omega)]; exact h1, by rw [leN (by omega) (by omega)]; exact h2⟩] at g
theorem m_bad (h : TXT ch N x m) {p sep a b : Nat} (hp : p < 800) (hs : 0 < sep) (hs2 : sep < 200) (ha : a < 1000) (hb : b < 1000) (hn : ∀ v p', fld ch sep p = some (v, p') → ¬ (a ≤ v ∧ v ≤ b)) : ∃ p', X6_number (nI a) (nI b) (nI sep) (mm m p) = some (-1, mm m p') := by
  cases e : fld ch sep p with
  | none => exact (m_num h hp hs hs2).2 e
  | some w =>
    obtain ⟨v, p'⟩ := w
    obtain ⟨l1, l2, l3⟩ := fld_lt (N := N) (by omega) h.2.2.2.2 e
    have g := (m_num h hp hs hs2 (lo := nI a) (hi := nI b)).1 v p' e
    refine ⟨p', ?_⟩
    rwa [if_neg (fun z => hn v p' e ⟨(leN (by omega) (by omega)).mp z.1, (leN (by omega) (by omega)).mp z.2⟩)] at g
theorem mm_com (m : Mem) (p' k : Nat) (v : Int32) : xs (mm m p') 20 3 0 k v = mm (xs m 20 3 0 k v) p' := by
  unfold mm
  funext a b c d
  simp only [xs]
  by_cases e : a = 20 ∧ b = 11 ∧ c = 0 ∧ d = 0
  · obtain ⟨rfl, rfl, rfl, rfl⟩ := e
    simp
  · simp only [if_neg e]
theorem pp_com (x : Mem) (p' : Nat) {q f i k : Nat} (hq : q ≠ 14) (v : Int32) : xs (pp x p') q f i k v = pp (xs x q f i k v) p' := by
  unfold pp
  funext a b c d
  simp only [xs]
  by_cases e : a = 14 ∧ b = 1 ∧ c = 0 ∧ d = 0
  · obtain ⟨rfl, rfl, rfl, rfl⟩ := e
    have : ¬ 14 = q := fun z => hq z.symm
    simp [this]
  · simp only [if_neg e]
theorem it_one (hq : q = 12 ∨ q = 13) (h : TXT ch N x m) (hD : DR q T x m) (hp : p < N) {f b : Nat} (hf : f = 3 ∨ f = 4) (hb : b < 100) (hrd : ∀ y, X6_readsItem (nI (ch p)) y = bd (X6_number (nI 0) (nI b) (nI 59) y) fun r μ => if r < 0 then some (0, xs μ 20 3 0 f r) else some (1, xs μ 20 3 0 f r)) (htk : ∀ y, X4_takeItem q (nI (ch p)) y = if nI b < y 14 0 0 0 then some (0, xs y q f 0 0 (y 14 0 0 0)) else some (1, xs y q f 0 0 (y 14 0 0 0))) (hTB : ∀ v, v ≤ b → TB (ut T f 0 v)) : IT ch N q 1 x m p := by
  obtain ⟨hB, hX, hM⟩ := hD
  have h200 := h.1
  have hFM : ∀ v p', FM m (mm (xs m 20 3 0 f v) p') := fun v p' f h1 h2 => by rw [mm_o _ (by omega), xs_fr m (by omega)]
  have mneg : (∀ v p', fld ch 59 (p + 1) = some (v, p') → ¬ (0 ≤ v ∧ v ≤ b)) → ∃ m', FM m m' ∧ X6_readsItem (nI (ch p)) (mm m (p + 1)) = some (0, m') := fun hn => by
    obtain ⟨p1, g1⟩ := m_bad h (p := p + 1) (by omega) (by omega) (by omega) (by omega) (by omega) hn
    refine ⟨_, hFM (-1) p1, ?_⟩
    rw [hrd, g1, bdO, if_pos (by decide), mm_com]
  cases e : fld ch 59 (p + 1) with
  | none =>
    obtain ⟨p2, g2⟩ := rd_none (x := x) h (p := p + 1) (k := 0) (due := 1) (F := 999) (by omega) (by omega) (by omega) e
    obtain ⟨m', k1, k2⟩ := mneg (fun v p' hh => by rw [e] at hh; cases hh)
    exact Or.inr ⟨_, m', FX_pp q x p2, k1, Or.inl g2, k2⟩
  | some a =>
    obtain ⟨v, p'⟩ := a
    obtain ⟨l1, l2, l3⟩ := fld_lt (N := N) (by omega) h.2.2.2.2 e
    have g2 := rd_some (x := x) h (p := p + 1) (k := 0) (due := 1) (F := 999) (by omega) (by omega) (by omega) e
    rw [rd_end (by omega) (by omega)] at g2
    have htk' := htk (pp (xs x 14 0 0 0 (nI v)) p')
    rw [pp_o _ (by omega), xs_self, pp_com _ _ (by omega)] at htk'
    have hFX : FX q x (xs (xs x 14 0 0 0 (nI v)) q f 0 0 (nI v)) := fun q' h1 h2 => by
      funext f i
      rw [xs_fr _ (by omega), xs_fr _ (by omega)]
    have h17 : pp (xs x 14 0 0 0 (nI v)) p' 17 = x 17 := by
      funext f i
      rw [pp_o _ (by omega), xs_fr _ (by omega)]
    by_cases c : b < v
    · rw [if_pos (show nI b < nI v by rw [ltN (by omega) (by omega)]; exact c)] at htk'
      obtain ⟨m', k1, k2⟩ := mneg (fun v' p'' hh => by rw [e] at hh; cases hh; omega)
      exact Or.inr ⟨_, m', FX_to hFX (FX_pp q _ p'), k1, Or.inr ⟨_, g2, h17, htk'⟩, k2⟩
    · rw [if_neg (show ¬ nI b < nI v by rw [ltN (by omega) (by omega)]; exact c)] at htk'
      have g1 := m_ok h (p := p + 1) (a := 0) (b := b) (by omega) (by omega) (by omega) (by omega) (by omega) e (by omega) (by omega)
      refine Or.inl ⟨ut T f 0 v, _, _, xs m 20 3 0 f (nI v), p', by omega, l3, ⟨hTB v (by omega), ?_, ?_⟩, hFX, fun f h1 h2 => xs_fr m (by omega), g2, h17, htk', ?_⟩
      · obtain ⟨b0, b1, b2, b3, b4, b5, b6, b7⟩ := hX
        have fr : ∀ g, g ≠ f → xs (xs x 14 0 0 0 (nI v)) q f 0 0 (nI v) q g = x q g := fun g hg => by
          funext i
          rw [xs_fr _ (by omega), xs_fr _ (by omega)]
        have sf : xs (xs x 14 0 0 0 (nI v)) q f 0 0 (nI v) q f 0 0 = nI v := xs_self ..
        rcases hf with rfl | rfl
        · unfold TX
          rw [fr 0 (by omega), fr 1 (by omega), fr 2 (by omega), fr 4 (by omega), fr 5 (by omega), fr 6 (by omega), fr 7 (by omega), fr 8 (by omega), fr 9 (by omega), fr 10 (by omega), fr 11 (by omega), sf, ut_s]
          exact ⟨b0, b1, b2, rfl, b4, b5, b6, b7⟩
        · unfold TX
          rw [fr 0 (by omega), fr 1 (by omega), fr 2 (by omega), fr 3 (by omega), fr 5 (by omega), fr 6 (by omega), fr 7 (by omega), fr 8 (by omega), fr 9 (by omega), fr 10 (by omega), fr 11 (by omega), sf, ut_s]
          exact ⟨b0, b1, b2, b3, rfl, b5, b6, b7⟩
      · obtain ⟨b0, b1, b2, b3, b4, b5, b6, b7⟩ := hM
        have fr : ∀ j, j ≠ f → xs m 20 3 0 f (nI v) 20 3 0 j = m 20 3 0 j := fun j hj => by rw [xs_xa, xa_row, upd_at, if_neg hj]
        have r5 : ∀ i, i < T 0 0 → xs m 20 3 0 f (nI v) 20 3 0 (5 + i) = nI (T 5 i) ∧ xs m 20 3 0 f (nI v) 20 3 0 (11 + i) = nI (T 6 i) := fun i hi => by rw [fr _ (by omega), fr _ (by omega)]; exact b5 i hi
        have r6 : ∀ t, t < T 1 0 → xs m 20 3 0 f (nI v) 20 3 0 (17 + t) = nI (T 7 t) := fun t ht => by rw [fr _ (by omega)]; exact b6 t ht
        have r7 : ∀ a, a < T 2 0 → xs m 20 3 0 f (nI v) 20 3 0 (23 + a) = nI (T 8 a) ∧ xs m 20 3 0 f (nI v) 20 3 0 (32 + a) = nI (T 9 a) ∧ xs m 20 3 0 f (nI v) 20 3 0 (41 + a) = nI (T 10 a) ∧ xs m 20 3 0 f (nI v) 20 3 0 (50 + a) = nI (T 11 a) := fun a ha => by rw [fr _ (by omega), fr _ (by omega), fr _ (by omega), fr _ (by omega)]; exact b7 a ha
        have sf : xs m 20 3 0 f (nI v) 20 3 0 f = nI v := xs_self ..
        have c0 := (fr 0 (by omega)).trans b0
        have c1 := (fr 1 (by omega)).trans b1
        have c2 := (fr 2 (by omega)).trans b2
        rcases hf with rfl | rfl
        · exact ⟨c0, c1, c2, sf, (fr 4 (by omega)).trans b4, r5, r6, r7⟩
        · exact ⟨c0, c1, c2, (fr 3 (by omega)).trans b3, sf, r5, r6, r7⟩
      · rw [hrd, g1, bdO, if_neg (nN0 (by omega)), mm_com]
theorem it_e (hq : q = 12 ∨ q = 13) (h : TXT ch N x m) (hD : DR q T x m) (hp : p < N) (hc : ch p = 101) : IT ch N q 1 x m p := by
  refine it_one hq h hD hp (f := 3) (b := 30) (Or.inl rfl) (by omega) (fun y => ?_) (fun y => ?_) (fun v hv => ?_)
  · rw [hc]
    unfold X6_readsItem
    rw [if_neg (by decide), if_pos (by decide)]
    simp (discharger := omega) only [gl3, tc3, xs_self]
    rfl
  · rw [hc]
    unfold X4_takeItem X4_takeEarned
    rw [if_neg (by decide), if_pos (by decide), gl0 (by omega) (by omega), tc0]
    by_cases c : 30 < y 14 0 0 0
    · rw [if_pos c, bdO, gb0, if_pos (show nI 30 < y 14 0 0 0 from c)]
    · rw [if_neg c, bdO, gb1, if_neg (show ¬ nI 30 < y 14 0 0 0 from c)]
  · obtain ⟨b0, b1, b2, b3, b4, b5, b6, b7⟩ := hD.1
    exact ⟨b0, b1, b2, by rw [ut_s]; omega, b4, b5, b6, b7⟩
theorem it_g (hq : q = 12 ∨ q = 13) (h : TXT ch N x m) (hD : DR q T x m) (hp : p < N) (hc : ch p = 103) : IT ch N q 1 x m p := by
  refine it_one hq h hD hp (f := 4) (b := 9) (Or.inr rfl) (by omega) (fun y => ?_) (fun y => ?_) (fun v hv => ?_)
  · rw [hc]
    unfold X6_readsItem
    rw [if_neg (by decide), if_neg (by decide), if_pos (by decide)]
    simp (discharger := omega) only [gl4, tc4, xs_self]
    rfl
  · rw [hc]
    unfold X4_takeItem X4_takeDearer
    rw [if_neg (by decide), if_neg (by decide), if_pos (by decide), gl0 (by omega) (by omega), tc0]
    by_cases c : 9 < y 14 0 0 0
    · rw [if_pos c, bdO, gb0, if_pos (show nI 9 < y 14 0 0 0 from c)]
    · rw [if_neg c, bdO, gb1, if_neg (show ¬ nI 9 < y 14 0 0 0 from c)]
  · obtain ⟨b0, b1, b2, b3, b4, b5, b6, b7⟩ := hD.1
    exact ⟨b0, b1, b2, b3, by rw [ut_s]; omega, b5, b6, b7⟩
end ITM
