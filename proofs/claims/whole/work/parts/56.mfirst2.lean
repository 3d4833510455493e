/-! THE REFERENCE'S FIRST TALE, chained -/
theorem upd_c {f f' : Nat → Int32} {k : Nat} {v : Int32} (h : ∀ j, j < 59 → f j = f' j) : ∀ j, j < 59 → upd f k v j = upd f' k v j := fun j hj => by
  rw [upd_at, upd_at, h j hj]
def fr0 : Nat → Int32 := fun j => if j = 3 then 5 else if j = 4 then 2 else 0
def fr1 : Nat → Int32 := upd (upd (upd (fr0) 5 0) 11 20) 0 1
def fr2 : Nat → Int32 := upd (upd (upd (fr1) 6 1) 12 8) 0 2
def fr3 : Nat → Int32 := upd (upd (upd (fr2) 7 2) 13 35) 0 3
def fr4 : Nat → Int32 := upd (upd (upd (fr3) 8 3) 14 4) 0 4
def fr5 : Nat → Int32 := upd (upd (fr4) 17 30) 1 1
def fr6 : Nat → Int32 := upd (upd (fr5) 18 6) 1 2
def fr7 : Nat → Int32 := upd (upd (fr6) 19 14) 1 3
def fr8 : Nat → Int32 := upd (upd (fr7) 20 9) 1 4
def fr9 : Nat → Int32 := upd (upd (upd (upd (upd (fr8) 23 0) 32 0) 41 12) 50 0) 2 1
def fr10 : Nat → Int32 := upd (upd (upd (upd (upd (fr9) 24 1) 33 0) 42 9) 51 0) 2 2
def fr11 : Nat → Int32 := upd (upd (upd (upd (upd (fr10) 25 2) 34 2) 43 3) 52 0) 2 3
def fr12 : Nat → Int32 := upd (upd (upd (upd (upd (fr11) 26 3) 35 3) 44 5) 53 0) 2 4
def fr13 : Nat → Int32 := upd (upd (upd (upd (upd (fr12) 27 0) 36 1) 45 10) 54 1) 2 5
def fr14 : Nat → Int32 := upd (upd (upd (upd (upd (fr13) 28 1) 37 3) 46 9) 55 0) 2 6
def fr15 : Nat → Int32 := upd (upd (upd (upd (upd (fr14) 29 2) 38 1) 47 2) 56 1) 2 7
theorem fr_end : ∀ j, j < 59 → fr15 j = nI (frL.getD j 0) := by decide +kernel
theorem m_begins_at {m : Mem} : X6_begins m = some (xa m 20 3 0 (upd (upd (cpF (fun _ => 0) 0 59 (m 20 3 0)) 3 5) 4 2)) := by
  have e := lo1_eq (b := X6_begins_b2) (E := some (xa m 20 3 0 (upd (upd (cpF (fun _ => 0) 0 59 (m 20 3 0)) 3 5) 4 2))) 59 (fun k => nI k) (fun k => xa m 20 3 0 (cpF (fun _ => 0) 0 k (m 20 3 0))) (fun k hk K => by
    unfold X6_begins_b2
    have h := cpF_s (fun _ => (0 : Int32)) 0 k (m 20 3 0)
    rw [Nat.zero_add] at h
    rw [if_neg (show ¬ 59 ≤ nI k by rw [lt59, leN (by omega) (by omega)]; omega), giN (by omega) (by omega), clN (by omega), xs_xa, xa_xa, xa_row, nI_1, ← h]) (fun K => by
    unfold X6_begins_b2
    rw [if_pos (show 59 ≤ nI 59 by rw [lt59, leN (by omega) (by omega)]; omega), gl3 (by omega) (by omega), gl4 (by omega) (by omega), tc3, tc4, xs_r3, xs_r3]) 1000 (by omega)
  rw [cpF_0, xa_me] at e
  exact e
noncomputable def firstM (μ : Mem) : Option Mem := bdv (X6_begins μ) fun μ0 => bdv (X6_personOf 0 20 μ0) fun μ1 => bdv (X6_personOf 1 8 μ1) fun μ2 => bdv (X6_personOf 2 35 μ2) fun μ3 => bdv (X6_personOf 3 4 μ3) fun μ4 => bdv (X6_thingOf 30 μ4) fun μ5 => bdv (X6_thingOf 6 μ5) fun μ6 => bdv (X6_thingOf 14 μ6) fun μ7 => bdv (X6_thingOf 9 μ7) fun μ8 => bdv (X6_pauseOf 0 0 12 0 μ8) fun μ9 => bdv (X6_pauseOf 1 0 9 0 μ9) fun μ10 => bdv (X6_pauseOf 2 2 3 0 μ10) fun μ11 => bdv (X6_pauseOf 3 3 5 0 μ11) fun μ12 => bdv (X6_pauseOf 0 1 10 1 μ12) fun μ13 => bdv (X6_pauseOf 1 3 9 0 μ13) fun μ14 => bdv (X6_pauseOf 2 1 2 1 μ14) fun μ15 => some μ15
theorem m_first (μ : Mem) : ∃ g, firstM μ = some (xa μ 20 3 0 g) ∧ ∀ j, j < 59 → g j = nI (frL.getD j 0) := by
  have o : ∀ j, j < 59 → upd (upd (cpF (fun _ => (0 : Int32)) 0 59 (μ 20 3 0)) 3 5) 4 2 j = fr0 j := fun j hj => by
    rw [upd_at, upd_at, cpF_0n hj]
    unfold fr0
    by_cases c : j = 4
    · rw [if_pos c, if_neg (by omega), if_pos c]
    · rw [if_neg c, if_neg c]
  have e0 : X6_begins μ = some (xa μ 20 3 0 (upd (upd (cpF (fun _ => 0) 0 59 (μ 20 3 0)) 3 5) 4 2)) := m_begins_at
  generalize upd (upd (cpF (fun _ => (0 : Int32)) 0 59 (μ 20 3 0)) 3 5) 4 2 = g0 at o e0
  unfold firstM
  rw [e0, bdvO]
  have h0 : g0 0 = nI 0 := by rw [o 0 (by omega)]; decide
  rw [m_pers h0 (by omega), bdvO]
  have o2 : ∀ j, j < 59 → upd (upd (upd (g0) (5 + 0) 0) (11 + 0) 20) 0 (nI (0 + 1)) j = fr1 j := (upd_c (upd_c (upd_c o)))
  clear o
  generalize upd (upd (upd (g0) (5 + 0) 0) (11 + 0) 20) 0 (nI (0 + 1)) = g1 at o2
  have o := o2
  clear o2
  have h1 : g1 0 = nI 1 := by rw [o 0 (by omega)]; decide
  rw [m_pers h1 (by omega), bdvO]
  have o2 : ∀ j, j < 59 → upd (upd (upd (g1) (5 + 1) 1) (11 + 1) 8) 0 (nI (1 + 1)) j = fr2 j := (upd_c (upd_c (upd_c o)))
  clear o
  generalize upd (upd (upd (g1) (5 + 1) 1) (11 + 1) 8) 0 (nI (1 + 1)) = g2 at o2
  have o := o2
  clear o2
  have h2 : g2 0 = nI 2 := by rw [o 0 (by omega)]; decide
  rw [m_pers h2 (by omega), bdvO]
  have o2 : ∀ j, j < 59 → upd (upd (upd (g2) (5 + 2) 2) (11 + 2) 35) 0 (nI (2 + 1)) j = fr3 j := (upd_c (upd_c (upd_c o)))
  clear o
  generalize upd (upd (upd (g2) (5 + 2) 2) (11 + 2) 35) 0 (nI (2 + 1)) = g3 at o2
  have o := o2
  clear o2
  have h3 : g3 0 = nI 3 := by rw [o 0 (by omega)]; decide
  rw [m_pers h3 (by omega), bdvO]
  have o2 : ∀ j, j < 59 → upd (upd (upd (g3) (5 + 3) 3) (11 + 3) 4) 0 (nI (3 + 1)) j = fr4 j := (upd_c (upd_c (upd_c o)))
  clear o
  generalize upd (upd (upd (g3) (5 + 3) 3) (11 + 3) 4) 0 (nI (3 + 1)) = g4 at o2
  have o := o2
  clear o2
  have h4 : g4 1 = nI 0 := by rw [o 1 (by omega)]; decide
  rw [m_thin h4 (by omega), bdvO]
  have o2 : ∀ j, j < 59 → upd (upd (g4) (17 + 0) 30) 1 (nI (0 + 1)) j = fr5 j := (upd_c (upd_c o))
  clear o
  generalize upd (upd (g4) (17 + 0) 30) 1 (nI (0 + 1)) = g5 at o2
  have o := o2
  clear o2
  have h5 : g5 1 = nI 1 := by rw [o 1 (by omega)]; decide
  rw [m_thin h5 (by omega), bdvO]
  have o2 : ∀ j, j < 59 → upd (upd (g5) (17 + 1) 6) 1 (nI (1 + 1)) j = fr6 j := (upd_c (upd_c o))
  clear o
  generalize upd (upd (g5) (17 + 1) 6) 1 (nI (1 + 1)) = g6 at o2
  have o := o2
  clear o2
  have h6 : g6 1 = nI 2 := by rw [o 1 (by omega)]; decide
  rw [m_thin h6 (by omega), bdvO]
  have o2 : ∀ j, j < 59 → upd (upd (g6) (17 + 2) 14) 1 (nI (2 + 1)) j = fr7 j := (upd_c (upd_c o))
  clear o
  generalize upd (upd (g6) (17 + 2) 14) 1 (nI (2 + 1)) = g7 at o2
  have o := o2
  clear o2
  have h7 : g7 1 = nI 3 := by rw [o 1 (by omega)]; decide
  rw [m_thin h7 (by omega), bdvO]
  have o2 : ∀ j, j < 59 → upd (upd (g7) (17 + 3) 9) 1 (nI (3 + 1)) j = fr8 j := (upd_c (upd_c o))
  clear o
  generalize upd (upd (g7) (17 + 3) 9) 1 (nI (3 + 1)) = g8 at o2
  have o := o2
  clear o2
  have h8 : g8 2 = nI 0 := by rw [o 2 (by omega)]; decide
  rw [m_paus h8 (by omega), bdvO]
  have o2 : ∀ j, j < 59 → upd (upd (upd (upd (upd (g8) (23 + 0) 0) (32 + 0) 0) (41 + 0) 12) (50 + 0) 0) 2 (nI (0 + 1)) j = fr9 j := (upd_c (upd_c (upd_c (upd_c (upd_c o)))))
  clear o
  generalize upd (upd (upd (upd (upd (g8) (23 + 0) 0) (32 + 0) 0) (41 + 0) 12) (50 + 0) 0) 2 (nI (0 + 1)) = g9 at o2
  have o := o2
  clear o2
  have h9 : g9 2 = nI 1 := by rw [o 2 (by omega)]; decide
  rw [m_paus h9 (by omega), bdvO]
  have o2 : ∀ j, j < 59 → upd (upd (upd (upd (upd (g9) (23 + 1) 1) (32 + 1) 0) (41 + 1) 9) (50 + 1) 0) 2 (nI (1 + 1)) j = fr10 j := (upd_c (upd_c (upd_c (upd_c (upd_c o)))))
  clear o
  generalize upd (upd (upd (upd (upd (g9) (23 + 1) 1) (32 + 1) 0) (41 + 1) 9) (50 + 1) 0) 2 (nI (1 + 1)) = g10 at o2
  have o := o2
  clear o2
  have h10 : g10 2 = nI 2 := by rw [o 2 (by omega)]; decide
  rw [m_paus h10 (by omega), bdvO]
  have o2 : ∀ j, j < 59 → upd (upd (upd (upd (upd (g10) (23 + 2) 2) (32 + 2) 2) (41 + 2) 3) (50 + 2) 0) 2 (nI (2 + 1)) j = fr11 j := (upd_c (upd_c (upd_c (upd_c (upd_c o)))))
  clear o
  generalize upd (upd (upd (upd (upd (g10) (23 + 2) 2) (32 + 2) 2) (41 + 2) 3) (50 + 2) 0) 2 (nI (2 + 1)) = g11 at o2
  have o := o2
  clear o2
  have h11 : g11 2 = nI 3 := by rw [o 2 (by omega)]; decide
  rw [m_paus h11 (by omega), bdvO]
  have o2 : ∀ j, j < 59 → upd (upd (upd (upd (upd (g11) (23 + 3) 3) (32 + 3) 3) (41 + 3) 5) (50 + 3) 0) 2 (nI (3 + 1)) j = fr12 j := (upd_c (upd_c (upd_c (upd_c (upd_c o)))))
  clear o
  generalize upd (upd (upd (upd (upd (g11) (23 + 3) 3) (32 + 3) 3) (41 + 3) 5) (50 + 3) 0) 2 (nI (3 + 1)) = g12 at o2
  have o := o2
  clear o2
  have h12 : g12 2 = nI 4 := by rw [o 2 (by omega)]; decide
  rw [m_paus h12 (by omega), bdvO]
  have o2 : ∀ j, j < 59 → upd (upd (upd (upd (upd (g12) (23 + 4) 0) (32 + 4) 1) (41 + 4) 10) (50 + 4) 1) 2 (nI (4 + 1)) j = fr13 j := (upd_c (upd_c (upd_c (upd_c (upd_c o)))))
  clear o
  generalize upd (upd (upd (upd (upd (g12) (23 + 4) 0) (32 + 4) 1) (41 + 4) 10) (50 + 4) 1) 2 (nI (4 + 1)) = g13 at o2
  have o := o2
  clear o2
  have h13 : g13 2 = nI 5 := by rw [o 2 (by omega)]; decide
  rw [m_paus h13 (by omega), bdvO]
  have o2 : ∀ j, j < 59 → upd (upd (upd (upd (upd (g13) (23 + 5) 1) (32 + 5) 3) (41 + 5) 9) (50 + 5) 0) 2 (nI (5 + 1)) j = fr14 j := (upd_c (upd_c (upd_c (upd_c (upd_c o)))))
  clear o
  generalize upd (upd (upd (upd (upd (g13) (23 + 5) 1) (32 + 5) 3) (41 + 5) 9) (50 + 5) 0) 2 (nI (5 + 1)) = g14 at o2
  have o := o2
  clear o2
  have h14 : g14 2 = nI 6 := by rw [o 2 (by omega)]; decide
  rw [m_paus h14 (by omega), bdvO]
  have o2 : ∀ j, j < 59 → upd (upd (upd (upd (upd (g14) (23 + 6) 2) (32 + 6) 1) (41 + 6) 2) (50 + 6) 1) 2 (nI (6 + 1)) j = fr15 j := (upd_c (upd_c (upd_c (upd_c (upd_c o)))))
  clear o
  generalize upd (upd (upd (upd (upd (g14) (23 + 6) 2) (32 + 6) 1) (41 + 6) 2) (50 + 6) 1) 2 (nI (6 + 1)) = g15 at o2
  have o := o2
  clear o2
  exact ⟨g15, rfl, fun j hj => by rw [o j hj, fr_end j hj]⟩
