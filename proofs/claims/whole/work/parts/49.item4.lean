/-! THE TEXT: pauses told -/
section ITM4
variable {ch : Nat → Nat} {N q : Nat} {x m : Mem} {T : TA} {p : Nat}
def okA (T : TA) (i t b y : Nat) : Prop := i < T 0 0 ∧ t < T 1 0 ∧ 1 ≤ b ∧ b ≤ 30 ∧ y ≤ 9 ∧ T 2 0 < 9
/-- a number under a count -/
theorem m_und (h : TXT ch N x m) {p sep n : Nat} (hp : p < 800) (hs : 0 < sep) (hs2 : sep < 200) (hn : n ≤ 6) : (∀ v p', fld ch sep p = some (v, p') → v < n → X6_number 0 (nI n - 1) (nI sep) (mm m p) = some (nI v, mm m p')) ∧ ((∀ v p', fld ch sep p = some (v, p') → ¬ v < n) → ∃ p', X6_number 0 (nI n - 1) (nI sep) (mm m p) = some (-1, mm m p')) := by
  have hl : ∀ v, v < 100 → ((0 ≤ nI v ∧ nI v ≤ nI n - 1) ↔ v < n) := fun v hv => by
    by_cases z : n = 0
    · subst z
      constructor
      · intro a
        have h1 : nI v ≤ -1 := a.2
        exact absurd (Int32.le_trans a.1 h1) (by decide)
      · intro a; omega
    · rw [lt1, pk_sub (by omega), leN (by omega) (by omega), lt0, leN (by omega) (by omega)]
      omega
  have g := m_num h hp hs hs2 (lo := 0) (hi := nI n - 1)
  refine ⟨fun v p' e hv => ?_, fun hno => ?_⟩
  · obtain ⟨l1, -, -⟩ := fld_lt (N := N) (by omega) h.2.2.2.2 e
    have := g.1 v p' e
    rwa [if_pos ((hl v l1).mpr hv)] at this
  · cases e : fld ch sep p with
    | none => exact g.2 e
    | some w =>
      obtain ⟨v, p'⟩ := w
      obtain ⟨l1, -, -⟩ := fld_lt (N := N) (by omega) h.2.2.2.2 e
      have := g.1 v p' e
      rw [if_neg (fun z => hno v p' e ((hl v l1).mp z))] at this
      exact ⟨p', this⟩
theorem m_a (h : TXT ch N x m) (hB : TB T) (hM : TM (m 20 3 0) T) (hp : p < N) (hc : ch p = 97) :
    (∀ i p1 t p2 b p3 y p4, fld ch 44 (p + 1) = some (i, p1) → fld ch 44 p1 = some (t, p2) → fld ch 44 p2 = some (b, p3) → fld ch 59 p3 = some (y, p4) → okA T i t b y → X6_readsItem (nI (ch p)) (mm m (p + 1)) = bdv (X6_pauseOf (nI i) (nI t) (nI b) (nI y) (mm m p4)) fun μ => some (1, μ)) ∧
    ((∀ i p1 t p2 b p3 y p4, fld ch 44 (p + 1) = some (i, p1) → fld ch 44 p1 = some (t, p2) → fld ch 44 p2 = some (b, p3) → fld ch 59 p3 = some (y, p4) → ¬ okA T i t b y) → ∃ m', FM m m' ∧ X6_readsItem (nI (ch p)) (mm m (p + 1)) = some (0, m')) := by
  have h200 := h.1
  have b0 := hB.1
  have b1 := hB.2.1
  have b2 := hB.2.2.1
  obtain ⟨t0, t1, t2, -⟩ := hM
  have h215 : ∀ r s t y, X6_readsItem_b215 r s t (-1) y = some (0, y) := fun r s t y => by
    unfold X6_readsItem_b215
    rw [if_pos (by decide)]
  have h195 : ∀ r s y, X6_readsItem_b195 r s (-1) y = some (0, y) := fun r s y => by
    unfold X6_readsItem_b195
    rw [if_neg (by decide), h215]
  have h177 : ∀ r y, X6_readsItem_b177 r (-1) y = some (0, y) := fun r y => by
    unfold X6_readsItem_b177
    rw [if_neg (by decide), h195]
  have g0 : ∀ v, v < 1000 → 0 ≤ nI v := fun v hv => by rw [lt0, leN (by omega) (by omega)]; omega
  have hrd : X6_readsItem (nI (ch p)) (mm m (p + 1)) = bd (X6_number 0 (nI (T 0 0) - 1) (nI 44) (mm m (p + 1))) fun r_5 μ_4 => (if 0 ≤ r_5 then (gi 1 59 (bd (X6_number 0 ((μ_4 20 3 0 1) - 1) (nI 44) μ_4) fun r_10 μ_9 => (X6_readsItem_b177 r_5 r_10 μ_9))) else (X6_readsItem_b177 r_5 (-1) μ_4)) := by
    rw [hc]
    unfold X6_readsItem
    rw [if_pos (by decide), gl0 (by omega) (by omega), tc0, mm_o m (by omega), t0]
    rfl
  have u0 := m_und h (p := p + 1) (sep := 44) (n := T 0 0) (by omega) (by omega) (by omega) b0
  by_cases e0 : ∃ i p1, fld ch 44 (p + 1) = some (i, p1) ∧ i < T 0 0
  · obtain ⟨i, p1, e0, hi⟩ := e0
    obtain ⟨l1, l2, l3⟩ := fld_lt (N := N) (by omega) h.2.2.2.2 e0
    have u1 := m_und h (p := p1) (sep := 44) (n := T 1 0) (by omega) (by omega) (by omega) b1
    have r0 := u0.1 i p1 e0 hi
    rw [r0, bdO, if_pos (g0 i (by omega)), gl1 (by omega) (by omega), mm_o m (by omega), t1] at hrd
    by_cases e1 : ∃ t p2, fld ch 44 p1 = some (t, p2) ∧ t < T 1 0
    · obtain ⟨t, p2, e1, ht⟩ := e1
      obtain ⟨k1, k2, k3⟩ := fld_lt (N := N) (by omega) h.2.2.2.2 e1
      rw [u1.1 t p2 e1 ht, bdO] at hrd
      by_cases e2 : ∃ b p3, fld ch 44 p2 = some (b, p3) ∧ 1 ≤ b ∧ b ≤ 30
      · obtain ⟨b, p3, e2, hb1, hb⟩ := e2
        obtain ⟨j1, j2, j3⟩ := fld_lt (N := N) (by omega) h.2.2.2.2 e2
        have h1 : X6_readsItem_b177 (nI i) (nI t) (mm m p2) = X6_readsItem_b195 (nI i) (nI t) (nI b) (mm m p3) := by
          unfold X6_readsItem_b177
          have := m_ok h (p := p2) (sep := 44) (a := 1) (b := 30) (by omega) (by omega) (by omega) (by omega) (by omega) e2 hb1 hb
          rw [if_pos (g0 t (by omega)), show (1 : Int32) = nI 1 from rfl, show (30 : Int32) = nI 30 from rfl, show (44 : Int32) = nI 44 from rfl, this, bdO]
        rw [h1] at hrd
        by_cases e3 : ∃ y p4, fld ch 59 p3 = some (y, p4) ∧ y ≤ 9
        · obtain ⟨y, p4, e3, hy⟩ := e3
          have h2 : X6_readsItem_b195 (nI i) (nI t) (nI b) (mm m p3) = X6_readsItem_b215 (nI i) (nI t) (nI b) (nI y) (mm m p4) := by
            unfold X6_readsItem_b195
            have := m_ok h (p := p3) (sep := 59) (a := 0) (b := 9) (by omega) (by omega) (by omega) (by omega) (by omega) e3 (by omega) hy
            rw [if_pos (g0 b (by omega)), show (0 : Int32) = nI 0 from rfl, show (9 : Int32) = nI 9 from rfl, show (59 : Int32) = nI 59 from rfl, this, bdO]
          rw [h2] at hrd
          unfold X6_readsItem_b215 at hrd
          rw [if_neg (nN0 (by omega)), gl2 (by omega) (by omega), tc2, mm_o m (by omega), t2] at hrd
          by_cases c9 : T 2 0 = 9
          · rw [if_pos (by rw [c9]; rfl)] at hrd
            refine ⟨fun i' p1' t' p2' b' p3' y' p4' q0 q1 q2 q3 ok => ?_, fun _ => ⟨_, FM_mm m p4, hrd⟩⟩
            have := ok.2.2.2.2.2
            omega
          · rw [if_neg (show ¬ nI (T 2 0) = 9 by rw [lt9, eqN (by omega) (by omega)]; exact c9)] at hrd
            refine ⟨fun i' p1' t' p2' b' p3' y' p4' q0 q1 q2 q3 ok => ?_, fun hno => absurd ⟨hi, ht, hb1, hb, hy, by omega⟩ (hno i p1 t p2 b p3 y p4 e0 e1 e2 e3)⟩
            rw [e0] at q0; cases q0
            rw [e1] at q1; cases q1
            rw [e2] at q2; cases q2
            rw [e3] at q3; cases q3
            exact hrd
        · obtain ⟨p5, w⟩ := m_bad h (p := p3) (sep := 59) (a := 0) (b := 9) (by omega) (by omega) (by omega) (by omega) (by omega) (fun y p4 q3 z => e3 ⟨y, p4, q3, z.2⟩)
          have h2 : X6_readsItem_b195 (nI i) (nI t) (nI b) (mm m p3) = some (0, mm m p5) := by
            unfold X6_readsItem_b195
            rw [if_pos (g0 b (by omega)), show (0 : Int32) = nI 0 from rfl, show (9 : Int32) = nI 9 from rfl, show (59 : Int32) = nI 59 from rfl, w, bdO, h215]
            rfl
          rw [h2] at hrd
          refine ⟨fun i' p1' t' p2' b' p3' y' p4' q0 q1 q2 q3 ok => ?_, fun _ => ⟨_, FM_mm m p5, hrd⟩⟩
          rw [e0] at q0; cases q0
          rw [e1] at q1; cases q1
          rw [e2] at q2; cases q2
          exact absurd ⟨y', p4', q3, ok.2.2.2.2.1⟩ e3
      · obtain ⟨p5, w⟩ := m_bad h (p := p2) (sep := 44) (a := 1) (b := 30) (by omega) (by omega) (by omega) (by omega) (by omega) (fun y p4 q3 z => e2 ⟨y, p4, q3, z⟩)
        have h1 : X6_readsItem_b177 (nI i) (nI t) (mm m p2) = some (0, mm m p5) := by
          unfold X6_readsItem_b177
          rw [if_pos (g0 t (by omega)), show (1 : Int32) = nI 1 from rfl, show (30 : Int32) = nI 30 from rfl, show (44 : Int32) = nI 44 from rfl, w, bdO, h195]
        rw [h1] at hrd
        refine ⟨fun i' p1' t' p2' b' p3' y' p4' q0 q1 q2 q3 ok => ?_, fun _ => ⟨_, FM_mm m p5, hrd⟩⟩
        rw [e0] at q0; cases q0
        rw [e1] at q1; cases q1
        exact absurd ⟨b', p3', q2, ok.2.2.1, ok.2.2.2.1⟩ e2
    · obtain ⟨p5, w⟩ := u1.2 (fun t p2 q1 z => e1 ⟨t, p2, q1, z⟩)
      rw [w, bdO, h177] at hrd
      refine ⟨fun i' p1' t' p2' b' p3' y' p4' q0 q1 q2 q3 ok => ?_, fun _ => ⟨_, FM_mm m p5, hrd⟩⟩
      rw [e0] at q0; cases q0
      exact absurd ⟨t', p2', q1, ok.2.1⟩ e1
  · obtain ⟨p5, w⟩ := u0.2 (fun t p2 q1 z => e0 ⟨t, p2, q1, z⟩)
    rw [w, bdO, if_neg (by decide), h177] at hrd
    refine ⟨fun i' p1' t' p2' b' p3' y' p4' q0 q1 q2 q3 ok => ?_, fun _ => ⟨_, FM_mm m p5, hrd⟩⟩
    exact absurd ⟨i', p1', q0, ok.1⟩ e0
end ITM4
