/-! THE REFERENCE'S FIRST TALE, from its own calls -/
section MF
variable {μ : Mem} {g : Nat → Int32} {n : Nat}
theorem xs_r3 (g : Nat → Int32) (k : Nat) (v : Int32) : xs (xa μ 20 3 0 g) 20 3 0 k v = xa μ 20 3 0 (upd g k v) := by
  rw [xs_xa, xa_row, xa_xa]
theorem m_pers {a b : Int32} (hg : g 0 = nI n) (hn : n < 6) : X6_personOf a b (xa μ 20 3 0 g) = some (xa μ 20 3 0 (upd (upd (upd g (5 + n) a) (11 + n) b) 0 (nI (n + 1)))) := by
  unfold X6_personOf
  have e2 : upd (upd g (5 + n) a) (11 + n) b 0 = nI n := by rw [upd_at, if_neg (by omega), upd_at, if_neg (by omega)]; exact hg
  rw [tc0, xa_row, hg, ad5, ad11, clN (by omega), clN (by omega), xs_r3, xs_r3, xa_row, e2, nI_1, xs_r3, gl0 (by omega) (by omega), giN (by omega) (by omega), giN (by omega) (by omega), gl0 (by omega) (by omega), gl0 (by omega) (by omega)]
theorem m_thin {a : Int32} (hg : g 1 = nI n) (hn : n < 6) : X6_thingOf a (xa μ 20 3 0 g) = some (xa μ 20 3 0 (upd (upd g (17 + n) a) 1 (nI (n + 1)))) := by
  unfold X6_thingOf
  have e1 : upd g (17 + n) a 1 = nI n := by rw [upd_at, if_neg (by omega)]; exact hg
  rw [tc1, xa_row, hg, ad17, clN (by omega), xs_r3, xa_row, e1, nI_1, xs_r3, gl1 (by omega) (by omega), giN (by omega) (by omega), gl1 (by omega) (by omega), gl1 (by omega) (by omega)]
theorem m_paus {a b c d : Int32} (hg : g 2 = nI n) (hn : n < 9) : X6_pauseOf a b c d (xa μ 20 3 0 g) = some (xa μ 20 3 0 (upd (upd (upd (upd (upd g (23 + n) a) (32 + n) b) (41 + n) c) (50 + n) d) 2 (nI (n + 1)))) := by
  unfold X6_pauseOf
  have e1 : upd (upd (upd (upd g (23 + n) a) (32 + n) b) (41 + n) c) (50 + n) d 2 = nI n := by rw [upd_at, if_neg (by omega), upd_at, if_neg (by omega), upd_at, if_neg (by omega), upd_at, if_neg (by omega)]; exact hg
  rw [tc2, xa_row, hg, ad23, ad32, ad41, ad50, clN (by omega), clN (by omega), clN (by omega), clN (by omega), xs_r3, xs_r3, xs_r3, xs_r3, xa_row, e1, nI_1, xs_r3, gl2 (by omega) (by omega), giN (by omega) (by omega), giN (by omega) (by omega), giN (by omega) (by omega), giN (by omega) (by omega), gl2 (by omega) (by omega), gl2 (by omega) (by omega)]
end MF
