/-! THE WORDS OF THE PURE FUNCTIONS: none where an index is outside, a divisor is 0, or the fuel of a loop is used up -/
def gi {R : Type} (i : Int32) (n : Nat) (x : Option R) : Option R := if i < 0 ∨ n ≤ i.toNatClampNeg then none else x
def gz {R : Type} (y : Int32) (x : Option R) : Option R := if y = 0 then none else x
def gzl {R : Type} (y : Int64) (x : Option R) : Option R := if y = 0 then none else x
def gb {R : Type} (y : Int32) (x : Option R) : Option R := if y = 0 ∨ y = 1 then x else none
def bd {R : Type} (x : Option (Int32 × Mem)) (k : Int32 → Mem → Option R) : Option R := match x with
  | none => none
  | some y => k y.1 y.2
def bdv {R : Type} (x : Option Mem) (k : Mem → Option R) : Option R := match x with
  | none => none
  | some y => k y
def lo0 {R : Type} (b : (Mem → Option R) → Mem → Option R) : Nat → Mem → Option R
  | 0 => fun _ => none
  | n + 1 => fun μ => b (lo0 b n) μ
def lo1 {R : Type} (b : (Int32 → Mem → Option R) → Int32 → Mem → Option R) : Nat → Int32 → Mem → Option R
  | 0 => fun _ _ => none
  | n + 1 => fun x1 μ => b (lo1 b n) x1 μ
def lo2 {R : Type} (b : (Int32 → Int32 → Mem → Option R) → Int32 → Int32 → Mem → Option R) : Nat → Int32 → Int32 → Mem → Option R
  | 0 => fun _ _ _ => none
  | n + 1 => fun x1 x2 μ => b (lo2 b n) x1 x2 μ
def lo3 {R : Type} (b : (Int32 → Int32 → Int32 → Mem → Option R) → Int32 → Int32 → Int32 → Mem → Option R) : Nat → Int32 → Int32 → Int32 → Mem → Option R
  | 0 => fun _ _ _ _ => none
  | n + 1 => fun x1 x2 x3 μ => b (lo3 b n) x1 x2 x3 μ
def lo4 {R : Type} (b : (Int32 → Int32 → Int32 → Int32 → Mem → Option R) → Int32 → Int32 → Int32 → Int32 → Mem → Option R) : Nat → Int32 → Int32 → Int32 → Int32 → Mem → Option R
  | 0 => fun _ _ _ _ _ => none
  | n + 1 => fun x1 x2 x3 x4 μ => b (lo4 b n) x1 x2 x3 x4 μ
def mlt {R : Type} (x : Mem) (k : Mem → Option R) : Option R := k x
theorem mlt_s {R : Type} {x : Mem} {k : Mem → Option R} {y : R} (h : mlt x k = some y) : ∃ z : Mem, z = x ∧ k z = some y := ⟨x, rfl, h⟩
theorem mltE {R : Type} {x : Mem} {k : Mem → Option R} : mlt x k = k x := rfl
theorem gi_s {R : Type} {i : Int32} {n : Nat} {x : Option R} {y : R} (h : gi i n x = some y) : vp_in i n ∧ x = some y := by
  unfold gi at h
  by_cases c : i < 0 ∨ n ≤ i.toNatClampNeg
  · rw [if_pos c] at h; cases h
  · rw [if_neg c] at h; exact ⟨c, h⟩
theorem gz_s {R : Type} {i : Int32} {x : Option R} {y : R} (h : gz i x = some y) : (¬ i = 0) ∧ x = some y := by
  unfold gz at h
  by_cases c : i = 0
  · rw [if_pos c] at h; cases h
  · rw [if_neg c] at h; exact ⟨c, h⟩
theorem gzl_s {R : Type} {i : Int64} {x : Option R} {y : R} (h : gzl i x = some y) : (¬ i = 0) ∧ x = some y := by
  unfold gzl at h
  by_cases c : i = 0
  · rw [if_pos c] at h; cases h
  · rw [if_neg c] at h; exact ⟨c, h⟩
theorem gb_s {R : Type} {i : Int32} {x : Option R} {y : R} (h : gb i x = some y) : narrow .boolean (.int i) = .int i ∧ x = some y := by
  unfold gb at h
  by_cases c : i = 0 ∨ i = 1
  · rw [if_pos c] at h
    refine ⟨?_, h⟩
    rcases c with rfl | rfl <;> decide
  · rw [if_neg c] at h; cases h
theorem bd_s {R : Type} {x : Option (Int32 × Mem)} {k : Int32 → Mem → Option R} {y : R} (h : bd x k = some y) : ∃ (r : Int32) (μ : Mem), x = some (r, μ) ∧ k r μ = some y := by
  cases x with
  | none => cases h
  | some z => exact ⟨z.1, z.2, rfl, h⟩
theorem bdv_s {R : Type} {x : Option Mem} {k : Mem → Option R} {y : R} (h : bdv x k = some y) : ∃ μ : Mem, x = some μ ∧ k μ = some y := by
  cases x with
  | none => cases h
  | some z => exact ⟨z, rfl, h⟩
theorem ite_p {α : Type} {c : Prop} [i : Decidable c] {a b x : α} (hc : c) (h : (if c then a else b) = x) : a = x := by rw [if_pos hc] at h; exact h
theorem ite_n {α : Type} {c : Prop} [i : Decidable c] {a b x : α} (hc : ¬ c) (h : (if c then a else b) = x) : b = x := by rw [if_neg hc] at h; exact h
theorem vp_lt {i : Int32} {n : Nat} (h : vp_in i n) : i.toNatClampNeg < n := Nat.not_le.mp fun q => h (Or.inr q)
theorem ne_ti {x y : Int32} {k : Int} (hy : y.toInt = k) (h : ¬ x = y) : x.toInt ≠ k := fun e => h (Int32.toInt_inj.mp (e.trans hy.symm))
theorem kl_14_0_0 : ((14, 0, 0) : Ky) ∈ keysX := by decide +kernel
theorem kl_14_50_0 : ((14, 50, 0) : Ky) ∈ keysX := by decide +kernel
theorem kl_15_50_0 : ((15, 50, 0) : Ky) ∈ keysX := by decide +kernel
theorem kl_15_0_50 : ((15, 0, 50) : Ky) ∈ keysX := by decide +kernel
theorem kl_16_50_0 : ((16, 50, 0) : Ky) ∈ keysX := by decide +kernel
theorem kl_16_0_0 : ((16, 0, 0) : Ky) ∈ keysX := by decide +kernel
theorem kl_16_1_0 : ((16, 1, 0) : Ky) ∈ keysX := by decide +kernel
theorem kl_16_2_0 : ((16, 2, 0) : Ky) ∈ keysX := by decide +kernel
theorem kl_17_50_0 : ((17, 50, 0) : Ky) ∈ keysX := by decide +kernel
theorem kl_17_0_0 : ((17, 0, 0) : Ky) ∈ keysX := by decide +kernel
theorem kl_17_7_50 : ((17, 7, 50) : Ky) ∈ keysX := by decide +kernel
theorem kl_20_50_0 : ((20, 50, 0) : Ky) ∈ keysM := by decide +kernel
theorem kl_20_0_0 : ((20, 0, 0) : Ky) ∈ keysM := by decide +kernel
theorem kl_20_2_0 : ((20, 2, 0) : Ky) ∈ keysM := by decide +kernel
theorem kl_20_3_0 : ((20, 3, 0) : Ky) ∈ keysM := by decide +kernel
theorem kl_20_4_0 : ((20, 4, 0) : Ky) ∈ keysM := by decide +kernel
theorem kl_20_5_0 : ((20, 5, 0) : Ky) ∈ keysM := by decide +kernel
theorem kl_20_7_0 : ((20, 7, 0) : Ky) ∈ keysM := by decide +kernel
theorem kl_20_9_0 : ((20, 9, 0) : Ky) ∈ keysM := by decide +kernel
theorem kl_20_13_0 : ((20, 13, 0) : Ky) ∈ keysM := by decide +kernel
abbrev TgI (r0 : Int32) (p : Program) (l : Launch) (e : Env) (R : Room) (s : State) (m : MethodId) (args : Array Value) (below : List Frame) (meth : Method) (c : Code) (D : va_G) (g : G3) (ks : List Ky) (ad : Ky → Nat) (A : Nat → Prop) (μ0 : Mem) (H : Heap) (locs : List Loc) (fr : JFrame) : Prop :=
  W p l e R s m args below meth c H locs 0 0 (MQ below (va_Qi (fun (r1 : Int32) (u : Mem) => r1 = r0 ∧ u = μ0) (fun u t => Wp D (tysX g) ks ad A (cX g ad u) t) A) args s 0 0 A) fr
abbrev TgV (p : Program) (l : Launch) (e : Env) (R : Room) (s : State) (m : MethodId) (args : Array Value) (below : List Frame) (meth : Method) (c : Code) (D : va_G) (g : G3) (ks : List Ky) (ad : Ky → Nat) (A : Nat → Prop) (μ0 : Mem) (H : Heap) (locs : List Loc) (fr : JFrame) : Prop :=
  W p l e R s m args below meth c H locs 0 0 (MQ below (va_Qv (fun (u : Mem) => u = μ0) (fun u t => Wp D (tysX g) ks ad A (cX g ad u) t) A) args s 0 0 A) fr
section XE
variable {p : Program} {l : Launch} {e : Env} {R : Room} {s : State} {m : MethodId} {args : Array Value} {below : List Frame} {meth : Method} {c : Code} {H : Heap} {locs : List Loc}
variable {cc : ByteArray} {pc : Nat} {ls : Array Slot} {D : va_G} {A : Nat → Prop} {g : G3} {ks : List Ky} {ad : Ky → Nat} {μ μ0 : Mem} {ret : Option FieldType} {nL : Nat} {own : String} {Ts : List Cond}
theorem xw_iret {r r0 : Int32} (S : Cx p s m args meth c cc ret nL own Ts A) (hr : ret = some .int) (hW : WX D g ks ad A s s.heap μ H locs) (hdg : decode cc pc = .ok (.ireturn, 1)) (h : some (r, μ) = some (r0, μ0)) : TgI r0 p l e R s m args below meth c D g ks ad A μ0 H locs (F0 m pc ls [.int r]) := by
  cases h
  exact wo_iret S hr hW hdg
theorem xw_zret {r r0 : Int32} (S : Cx p s m args meth c cc ret nL own Ts A) (hr : ret = some .boolean) (hn : narrow .boolean (.int r) = .int r) (hW : WX D g ks ad A s s.heap μ H locs) (hdg : decode cc pc = .ok (.ireturn, 1)) (h : some (r, μ) = some (r0, μ0)) : TgI r0 p l e R s m args below meth c D g ks ad A μ0 H locs (F0 m pc ls [.int r]) := by
  cases h
  exact wo_zret S hr hn hW hdg
theorem xw_vret (S : Cx p s m args meth c cc ret nL own Ts A) (hr : ret = none) (hW : WX D g ks ad A s s.heap μ H locs) (hdg : decode cc pc = .ok (.return_, 1)) (h : some μ = some μ0) : TgV p l e R s m args below meth c D g ks ad A μ0 H locs (F0 m pc ls []) := by
  cases h
  exact wo_vret S hr hW hdg
end XE
