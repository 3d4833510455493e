/-! PURE, BASE: numbers nI k, guards, loops, lenses -/
theorem clN {k : Nat} (h : k < 100000) : (nI k).toNatClampNeg = k := nI_clamp (by omega)
theorem leN {a b : Nat} (ha : a < 100000) (hb : b < 100000) : nI a ≤ nI b ↔ a ≤ b := nI_leI (by omega) (by omega)
theorem ltN {a b : Nat} (ha : a < 100000) (hb : b < 100000) : nI a < nI b ↔ a < b := nI_ltI (by omega) (by omega)
theorem eqN {a b : Nat} (ha : a < 100000) (hb : b < 100000) : nI a = nI b ↔ a = b := nI_eq (by omega) (by omega)
theorem vpN {k n : Nat} (h : k < n) (hn : n ≤ 1000) : vp_in (nI k) n := vp_in_nI h (by omega)
theorem giO {R : Type} {i : Int32} {n : Nat} {x : Option R} (h : vp_in i n) : gi i n x = x := if_neg h
theorem giN {R : Type} {k n : Nat} {x : Option R} (h : k < n) (hn : n ≤ 1000) : gi (nI k) n x = x := giO (vpN h hn)
theorem gz_ok {R : Type} {i : Int32} {x : Option R} (h : ¬ i = 0) : gz i x = x := if_neg h
theorem gb1 {R : Type} {x : Option R} : gb 1 x = x := if_pos (Or.inr rfl)
theorem gb0 {R : Type} {x : Option R} : gb 0 x = x := if_pos (Or.inl rfl)
theorem bdO {R : Type} {r : Int32} {μ : Mem} {k : Int32 → Mem → Option R} : bd (some (r, μ)) k = k r μ := rfl
theorem bdvO {R : Type} {μ : Mem} {k : Mem → Option R} : bdv (some μ) k = k μ := rfl
theorem nle {a b : Int32} : (¬ a ≤ b) ↔ b < a := Int32.not_le
theorem nlt {a b : Int32} : (¬ a < b) ↔ b ≤ a := Int32.not_lt
theorem neM {k : Nat} (h : k < 100000) : ¬ nI k = (-4) := by
  intro e
  have := congrArg Int32.toInt e
  rw [nI_toInt (by omega)] at this
  have h4 : (-4 : Int32).toInt = -4 := rfl
  omega
theorem neM' {k : Nat} (h : k < 100000) : ¬ (-4) = nI k := fun e => neM h e.symm
theorem ltM {k : Nat} (h : k < 100000) : (-4) < nI k := by
  rw [Int32.lt_iff_toInt_lt, nI_toInt (by omega)]
  have h4 : (-4 : Int32).toInt = -4 := rfl
  omega
theorem nN0 {k : Nat} (h : k < 100000) : ¬ nI k < 0 := nI_pos (by omega)
def fo {α : Type} (f : Nat → α → α) : Nat → α → α
  | 0, a => a
  | n + 1, a => f n (fo f n a)
theorem fo_cong {α : Type} {f g : Nat → α → α} {a : α} : ∀ {n : Nat}, (∀ k a, k < n → f k a = g k a) → fo f n a = fo g n a
  | 0, _ => rfl
  | n + 1, h => by
    show f n (fo f n a) = g n (fo g n a)
    rw [fo_cong (n := n) (fun k a hk => h k a (by omega)), h n _ (by omega)]
theorem fo_inv {α : Type} {f : Nat → α → α} {a : α} (I : Nat → α → Prop) (h0 : I 0 a) : ∀ n : Nat, (∀ k a, k < n → I k a → I (k + 1) (f k a)) → I n (fo f n a)
  | 0, _ => h0
  | n + 1, h => h n _ (by omega) (fo_inv I h0 n (fun k a hk => h k a (by omega)))
theorem lo0_eq {R : Type} {b : (Mem → Option R) → Mem → Option R} {E : Option R} (n : Nat) (mu : Nat → Mem) (hs : ∀ k, k < n → ∀ K, b K (mu k) = K (mu (k + 1))) (hx : ∀ K, b K (mu n) = E) : ∀ fuel : Nat, n < fuel → lo0 b fuel (mu 0) = E := by
  have main : ∀ d j fuel : Nat, j + d = n → d < fuel → lo0 b fuel (mu j) = E := by
    intro d
    induction d with
    | zero =>
      intro j fuel hj hf
      obtain ⟨f, rfl⟩ : ∃ f, fuel = f + 1 := ⟨fuel - 1, by omega⟩
      have e : j = n := by omega
      subst e
      exact hx _
    | succ d ih =>
      intro j fuel hj hf
      obtain ⟨f, rfl⟩ : ∃ f, fuel = f + 1 := ⟨fuel - 1, by omega⟩
      show b (lo0 b f) (mu j) = E
      rw [hs j (by omega)]
      exact ih (j + 1) f (by omega) (by omega)
  intro fuel hf
  exact main n 0 fuel (by omega) hf
theorem lo0_inv {R : Type} {b : (Mem → Option R) → Mem → Option R} (n : Nat) (I : Nat → Mem → Prop) (hs : ∀ (k : Nat) (μ : Mem), k < n → I k  μ → ∃ ν : Mem, I (k + 1) ν ∧ ∀ K, b K  μ = K ν) (μ : Mem) (h0 : I 0  μ) (fuel : Nat) (hf : n < fuel) : ∃ (ν : Mem), I n ν ∧ ∃ K, lo0 b fuel  μ = b K ν := by
  have main : ∀ d j fuel : Nat, j + d = n → d < fuel → ∀ (μ : Mem), I j  μ → ∃ (ν : Mem), I n ν ∧ ∃ K, lo0 b fuel  μ = b K ν := by
    intro d
    induction d with
    | zero =>
      intro j fuel hj hf  μ h
      obtain ⟨f, rfl⟩ : ∃ f, fuel = f + 1 := ⟨fuel - 1, by omega⟩
      have e : j = n := by omega
      subst e
      exact ⟨μ, h, _, rfl⟩
    | succ d ih =>
      intro j fuel hj hf  μ h
      obtain ⟨f, rfl⟩ : ∃ f, fuel = f + 1 := ⟨fuel - 1, by omega⟩
      obtain ⟨ν, h1, h2⟩ := hs j  μ (by omega) h
      obtain ⟨ν', h3, K, h4⟩ := ih (j + 1) f (by omega) (by omega) ν h1
      exact ⟨ν', h3, K, (h2 _).trans h4⟩
  exact main n 0 fuel (by omega) hf  μ h0
theorem lo1_eq {R : Type} {b : (Int32 → Mem → Option R) → Int32 → Mem → Option R} {E : Option R} (n : Nat) (v1 : Nat → Int32) (mu : Nat → Mem) (hs : ∀ k, k < n → ∀ K, b K (v1 k) (mu k) = K (v1 (k + 1)) (mu (k + 1))) (hx : ∀ K, b K (v1 n) (mu n) = E) : ∀ fuel : Nat, n < fuel → lo1 b fuel (v1 0) (mu 0) = E := by
  have main : ∀ d j fuel : Nat, j + d = n → d < fuel → lo1 b fuel (v1 j) (mu j) = E := by
    intro d
    induction d with
    | zero =>
      intro j fuel hj hf
      obtain ⟨f, rfl⟩ : ∃ f, fuel = f + 1 := ⟨fuel - 1, by omega⟩
      have e : j = n := by omega
      subst e
      exact hx _
    | succ d ih =>
      intro j fuel hj hf
      obtain ⟨f, rfl⟩ : ∃ f, fuel = f + 1 := ⟨fuel - 1, by omega⟩
      show b (lo1 b f) (v1 j) (mu j) = E
      rw [hs j (by omega)]
      exact ih (j + 1) f (by omega) (by omega)
  intro fuel hf
  exact main n 0 fuel (by omega) hf
theorem lo1_inv {R : Type} {b : (Int32 → Mem → Option R) → Int32 → Mem → Option R} (n : Nat) (I : Nat → Int32 → Mem → Prop) (hs : ∀ (k : Nat) (x1 : Int32) (μ : Mem), k < n → I k x1 μ → ∃ y1 : Int32, ∃ ν : Mem, I (k + 1) y1 ν ∧ ∀ K, b K x1 μ = K y1 ν) (x1 : Int32) (μ : Mem) (h0 : I 0 x1 μ) (fuel : Nat) (hf : n < fuel) : ∃ y1 : Int32, ∃ (ν : Mem), I n y1 ν ∧ ∃ K, lo1 b fuel x1 μ = b K y1 ν := by
  have main : ∀ d j fuel : Nat, j + d = n → d < fuel → ∀ (x1 : Int32) (μ : Mem), I j x1 μ → ∃ y1 : Int32, ∃ (ν : Mem), I n y1 ν ∧ ∃ K, lo1 b fuel x1 μ = b K y1 ν := by
    intro d
    induction d with
    | zero =>
      intro j fuel hj hf x1 μ h
      obtain ⟨f, rfl⟩ : ∃ f, fuel = f + 1 := ⟨fuel - 1, by omega⟩
      have e : j = n := by omega
      subst e
      exact ⟨x1, μ, h, _, rfl⟩
    | succ d ih =>
      intro j fuel hj hf x1 μ h
      obtain ⟨f, rfl⟩ : ∃ f, fuel = f + 1 := ⟨fuel - 1, by omega⟩
      obtain ⟨y1, ν, h1, h2⟩ := hs j x1 μ (by omega) h
      obtain ⟨z1, ν', h3, K, h4⟩ := ih (j + 1) f (by omega) (by omega) y1 ν h1
      exact ⟨z1, ν', h3, K, (h2 _).trans h4⟩
  exact main n 0 fuel (by omega) hf x1 μ h0
theorem lo2_eq {R : Type} {b : (Int32 → Int32 → Mem → Option R) → Int32 → Int32 → Mem → Option R} {E : Option R} (n : Nat) (v1 : Nat → Int32) (v2 : Nat → Int32) (mu : Nat → Mem) (hs : ∀ k, k < n → ∀ K, b K (v1 k) (v2 k) (mu k) = K (v1 (k + 1)) (v2 (k + 1)) (mu (k + 1))) (hx : ∀ K, b K (v1 n) (v2 n) (mu n) = E) : ∀ fuel : Nat, n < fuel → lo2 b fuel (v1 0) (v2 0) (mu 0) = E := by
  have main : ∀ d j fuel : Nat, j + d = n → d < fuel → lo2 b fuel (v1 j) (v2 j) (mu j) = E := by
    intro d
    induction d with
    | zero =>
      intro j fuel hj hf
      obtain ⟨f, rfl⟩ : ∃ f, fuel = f + 1 := ⟨fuel - 1, by omega⟩
      have e : j = n := by omega
      subst e
      exact hx _
    | succ d ih =>
      intro j fuel hj hf
      obtain ⟨f, rfl⟩ : ∃ f, fuel = f + 1 := ⟨fuel - 1, by omega⟩
      show b (lo2 b f) (v1 j) (v2 j) (mu j) = E
      rw [hs j (by omega)]
      exact ih (j + 1) f (by omega) (by omega)
  intro fuel hf
  exact main n 0 fuel (by omega) hf
theorem lo2_inv {R : Type} {b : (Int32 → Int32 → Mem → Option R) → Int32 → Int32 → Mem → Option R} (n : Nat) (I : Nat → Int32 → Int32 → Mem → Prop) (hs : ∀ (k : Nat) (x1 x2 : Int32) (μ : Mem), k < n → I k x1 x2 μ → ∃ y1 y2 : Int32, ∃ ν : Mem, I (k + 1) y1 y2 ν ∧ ∀ K, b K x1 x2 μ = K y1 y2 ν) (x1 x2 : Int32) (μ : Mem) (h0 : I 0 x1 x2 μ) (fuel : Nat) (hf : n < fuel) : ∃ y1 y2 : Int32, ∃ (ν : Mem), I n y1 y2 ν ∧ ∃ K, lo2 b fuel x1 x2 μ = b K y1 y2 ν := by
  have main : ∀ d j fuel : Nat, j + d = n → d < fuel → ∀ (x1 x2 : Int32) (μ : Mem), I j x1 x2 μ → ∃ y1 y2 : Int32, ∃ (ν : Mem), I n y1 y2 ν ∧ ∃ K, lo2 b fuel x1 x2 μ = b K y1 y2 ν := by
    intro d
    induction d with
    | zero =>
      intro j fuel hj hf x1 x2 μ h
      obtain ⟨f, rfl⟩ : ∃ f, fuel = f + 1 := ⟨fuel - 1, by omega⟩
      have e : j = n := by omega
      subst e
      exact ⟨x1, x2, μ, h, _, rfl⟩
    | succ d ih =>
      intro j fuel hj hf x1 x2 μ h
      obtain ⟨f, rfl⟩ : ∃ f, fuel = f + 1 := ⟨fuel - 1, by omega⟩
      obtain ⟨y1, y2, ν, h1, h2⟩ := hs j x1 x2 μ (by omega) h
      obtain ⟨z1, z2, ν', h3, K, h4⟩ := ih (j + 1) f (by omega) (by omega) y1 y2 ν h1
      exact ⟨z1, z2, ν', h3, K, (h2 _).trans h4⟩
  exact main n 0 fuel (by omega) hf x1 x2 μ h0
theorem lo3_eq {R : Type} {b : (Int32 → Int32 → Int32 → Mem → Option R) → Int32 → Int32 → Int32 → Mem → Option R} {E : Option R} (n : Nat) (v1 : Nat → Int32) (v2 : Nat → Int32) (v3 : Nat → Int32) (mu : Nat → Mem) (hs : ∀ k, k < n → ∀ K, b K (v1 k) (v2 k) (v3 k) (mu k) = K (v1 (k + 1)) (v2 (k + 1)) (v3 (k + 1)) (mu (k + 1))) (hx : ∀ K, b K (v1 n) (v2 n) (v3 n) (mu n) = E) : ∀ fuel : Nat, n < fuel → lo3 b fuel (v1 0) (v2 0) (v3 0) (mu 0) = E := by
  have main : ∀ d j fuel : Nat, j + d = n → d < fuel → lo3 b fuel (v1 j) (v2 j) (v3 j) (mu j) = E := by
    intro d
    induction d with
    | zero =>
      intro j fuel hj hf
      obtain ⟨f, rfl⟩ : ∃ f, fuel = f + 1 := ⟨fuel - 1, by omega⟩
      have e : j = n := by omega
      subst e
      exact hx _
    | succ d ih =>
      intro j fuel hj hf
      obtain ⟨f, rfl⟩ : ∃ f, fuel = f + 1 := ⟨fuel - 1, by omega⟩
      show b (lo3 b f) (v1 j) (v2 j) (v3 j) (mu j) = E
      rw [hs j (by omega)]
      exact ih (j + 1) f (by omega) (by omega)
  intro fuel hf
  exact main n 0 fuel (by omega) hf
theorem lo3_inv {R : Type} {b : (Int32 → Int32 → Int32 → Mem → Option R) → Int32 → Int32 → Int32 → Mem → Option R} (n : Nat) (I : Nat → Int32 → Int32 → Int32 → Mem → Prop) (hs : ∀ (k : Nat) (x1 x2 x3 : Int32) (μ : Mem), k < n → I k x1 x2 x3 μ → ∃ y1 y2 y3 : Int32, ∃ ν : Mem, I (k + 1) y1 y2 y3 ν ∧ ∀ K, b K x1 x2 x3 μ = K y1 y2 y3 ν) (x1 x2 x3 : Int32) (μ : Mem) (h0 : I 0 x1 x2 x3 μ) (fuel : Nat) (hf : n < fuel) : ∃ y1 y2 y3 : Int32, ∃ (ν : Mem), I n y1 y2 y3 ν ∧ ∃ K, lo3 b fuel x1 x2 x3 μ = b K y1 y2 y3 ν := by
  have main : ∀ d j fuel : Nat, j + d = n → d < fuel → ∀ (x1 x2 x3 : Int32) (μ : Mem), I j x1 x2 x3 μ → ∃ y1 y2 y3 : Int32, ∃ (ν : Mem), I n y1 y2 y3 ν ∧ ∃ K, lo3 b fuel x1 x2 x3 μ = b K y1 y2 y3 ν := by
    intro d
    induction d with
    | zero =>
      intro j fuel hj hf x1 x2 x3 μ h
      obtain ⟨f, rfl⟩ : ∃ f, fuel = f + 1 := ⟨fuel - 1, by omega⟩
      have e : j = n := by omega
      subst e
      exact ⟨x1, x2, x3, μ, h, _, rfl⟩
    | succ d ih =>
      intro j fuel hj hf x1 x2 x3 μ h
      obtain ⟨f, rfl⟩ : ∃ f, fuel = f + 1 := ⟨fuel - 1, by omega⟩
      obtain ⟨y1, y2, y3, ν, h1, h2⟩ := hs j x1 x2 x3 μ (by omega) h
      obtain ⟨z1, z2, z3, ν', h3, K, h4⟩ := ih (j + 1) f (by omega) (by omega) y1 y2 y3 ν h1
      exact ⟨z1, z2, z3, ν', h3, K, (h2 _).trans h4⟩
  exact main n 0 fuel (by omega) hf x1 x2 x3 μ h0
theorem lo4_eq {R : Type} {b : (Int32 → Int32 → Int32 → Int32 → Mem → Option R) → Int32 → Int32 → Int32 → Int32 → Mem → Option R} {E : Option R} (n : Nat) (v1 : Nat → Int32) (v2 : Nat → Int32) (v3 : Nat → Int32) (v4 : Nat → Int32) (mu : Nat → Mem) (hs : ∀ k, k < n → ∀ K, b K (v1 k) (v2 k) (v3 k) (v4 k) (mu k) = K (v1 (k + 1)) (v2 (k + 1)) (v3 (k + 1)) (v4 (k + 1)) (mu (k + 1))) (hx : ∀ K, b K (v1 n) (v2 n) (v3 n) (v4 n) (mu n) = E) : ∀ fuel : Nat, n < fuel → lo4 b fuel (v1 0) (v2 0) (v3 0) (v4 0) (mu 0) = E := by
  have main : ∀ d j fuel : Nat, j + d = n → d < fuel → lo4 b fuel (v1 j) (v2 j) (v3 j) (v4 j) (mu j) = E := by
    intro d
    induction d with
    | zero =>
      intro j fuel hj hf
      obtain ⟨f, rfl⟩ : ∃ f, fuel = f + 1 := ⟨fuel - 1, by omega⟩
      have e : j = n := by omega
      subst e
      exact hx _
    | succ d ih =>
      intro j fuel hj hf
      obtain ⟨f, rfl⟩ : ∃ f, fuel = f + 1 := ⟨fuel - 1, by omega⟩
      show b (lo4 b f) (v1 j) (v2 j) (v3 j) (v4 j) (mu j) = E
      rw [hs j (by omega)]
      exact ih (j + 1) f (by omega) (by omega)
  intro fuel hf
  exact main n 0 fuel (by omega) hf
theorem lo4_inv {R : Type} {b : (Int32 → Int32 → Int32 → Int32 → Mem → Option R) → Int32 → Int32 → Int32 → Int32 → Mem → Option R} (n : Nat) (I : Nat → Int32 → Int32 → Int32 → Int32 → Mem → Prop) (hs : ∀ (k : Nat) (x1 x2 x3 x4 : Int32) (μ : Mem), k < n → I k x1 x2 x3 x4 μ → ∃ y1 y2 y3 y4 : Int32, ∃ ν : Mem, I (k + 1) y1 y2 y3 y4 ν ∧ ∀ K, b K x1 x2 x3 x4 μ = K y1 y2 y3 y4 ν) (x1 x2 x3 x4 : Int32) (μ : Mem) (h0 : I 0 x1 x2 x3 x4 μ) (fuel : Nat) (hf : n < fuel) : ∃ y1 y2 y3 y4 : Int32, ∃ (ν : Mem), I n y1 y2 y3 y4 ν ∧ ∃ K, lo4 b fuel x1 x2 x3 x4 μ = b K y1 y2 y3 y4 ν := by
  have main : ∀ d j fuel : Nat, j + d = n → d < fuel → ∀ (x1 x2 x3 x4 : Int32) (μ : Mem), I j x1 x2 x3 x4 μ → ∃ y1 y2 y3 y4 : Int32, ∃ (ν : Mem), I n y1 y2 y3 y4 ν ∧ ∃ K, lo4 b fuel x1 x2 x3 x4 μ = b K y1 y2 y3 y4 ν := by
    intro d
    induction d with
    | zero =>
      intro j fuel hj hf x1 x2 x3 x4 μ h
      obtain ⟨f, rfl⟩ : ∃ f, fuel = f + 1 := ⟨fuel - 1, by omega⟩
      have e : j = n := by omega
      subst e
      exact ⟨x1, x2, x3, x4, μ, h, _, rfl⟩
    | succ d ih =>
      intro j fuel hj hf x1 x2 x3 x4 μ h
      obtain ⟨f, rfl⟩ : ∃ f, fuel = f + 1 := ⟨fuel - 1, by omega⟩
      obtain ⟨y1, y2, y3, y4, ν, h1, h2⟩ := hs j x1 x2 x3 x4 μ (by omega) h
      obtain ⟨z1, z2, z3, z4, ν', h3, K, h4⟩ := ih (j + 1) f (by omega) (by omega) y1 y2 y3 y4 ν h1
      exact ⟨z1, z2, z3, z4, ν', h3, K, (h2 _).trans h4⟩
  exact main n 0 fuel (by omega) hf x1 x2 x3 x4 μ h0
theorem lt0 : (0 : Int32) = nI 0 := rfl
theorem lt1 : (1 : Int32) = nI 1 := rfl
theorem lt2 : (2 : Int32) = nI 2 := rfl
theorem lt3 : (3 : Int32) = nI 3 := rfl
theorem lt4 : (4 : Int32) = nI 4 := rfl
theorem lt5 : (5 : Int32) = nI 5 := rfl
theorem lt6 : (6 : Int32) = nI 6 := rfl
theorem lt8 : (8 : Int32) = nI 8 := rfl
theorem lt9 : (9 : Int32) = nI 9 := rfl
theorem lt10 : (10 : Int32) = nI 10 := rfl
theorem lt11 : (11 : Int32) = nI 11 := rfl
theorem lt12 : (12 : Int32) = nI 12 := rfl
theorem lt17 : (17 : Int32) = nI 17 := rfl
theorem lt18 : (18 : Int32) = nI 18 := rfl
theorem lt20 : (20 : Int32) = nI 20 := rfl
theorem lt23 : (23 : Int32) = nI 23 := rfl
theorem lt30 : (30 : Int32) = nI 30 := rfl
theorem lt32 : (32 : Int32) = nI 32 := rfl
theorem lt41 : (41 : Int32) = nI 41 := rfl
theorem lt50 : (50 : Int32) = nI 50 := rfl
theorem lt54 : (54 : Int32) = nI 54 := rfl
theorem lt55 : (55 : Int32) = nI 55 := rfl
theorem lt59 : (59 : Int32) = nI 59 := rfl
theorem lt128 : (128 : Int32) = nI 128 := rfl
theorem lt200 : (200 : Int32) = nI 200 := rfl
theorem lt385 : (385 : Int32) = nI 385 := rfl
theorem lt440 : (440 : Int32) = nI 440 := rfl
theorem lt999 : (999 : Int32) = nI 999 := rfl
theorem tc0 : (0 : Int32).toNatClampNeg = 0 := rfl
theorem gl0 {R : Type} {n : Nat} {x : Option R} (h : 0 < n) (hn : n ≤ 1000) : gi 0 n x = x := giN (k := 0) h hn
theorem tc1 : (1 : Int32).toNatClampNeg = 1 := rfl
theorem gl1 {R : Type} {n : Nat} {x : Option R} (h : 1 < n) (hn : n ≤ 1000) : gi 1 n x = x := giN (k := 1) h hn
theorem tc2 : (2 : Int32).toNatClampNeg = 2 := rfl
theorem gl2 {R : Type} {n : Nat} {x : Option R} (h : 2 < n) (hn : n ≤ 1000) : gi 2 n x = x := giN (k := 2) h hn
theorem tc3 : (3 : Int32).toNatClampNeg = 3 := rfl
theorem gl3 {R : Type} {n : Nat} {x : Option R} (h : 3 < n) (hn : n ≤ 1000) : gi 3 n x = x := giN (k := 3) h hn
theorem tc4 : (4 : Int32).toNatClampNeg = 4 := rfl
theorem gl4 {R : Type} {n : Nat} {x : Option R} (h : 4 < n) (hn : n ≤ 1000) : gi 4 n x = x := giN (k := 4) h hn
theorem tc54 : (54 : Int32).toNatClampNeg = 54 := rfl
theorem gl54 {R : Type} {n : Nat} {x : Option R} (h : 54 < n) (hn : n ≤ 1000) : gi 54 n x = x := giN (k := 54) h hn
theorem ad5 {i : Nat} : 5 + nI i = nI (5 + i) := by rw [lt5, nI_add]
theorem ad6 {i : Nat} : 6 + nI i = nI (6 + i) := by rw [lt6, nI_add]
theorem ad10 {i : Nat} : 10 + nI i = nI (10 + i) := by rw [lt10, nI_add]
theorem ad11 {i : Nat} : 11 + nI i = nI (11 + i) := by rw [lt11, nI_add]
theorem ad12 {i : Nat} : 12 + nI i = nI (12 + i) := by rw [lt12, nI_add]
theorem ad17 {i : Nat} : 17 + nI i = nI (17 + i) := by rw [lt17, nI_add]
theorem ad18 {i : Nat} : 18 + nI i = nI (18 + i) := by rw [lt18, nI_add]
theorem ad23 {i : Nat} : 23 + nI i = nI (23 + i) := by rw [lt23, nI_add]
theorem ad32 {i : Nat} : 32 + nI i = nI (32 + i) := by rw [lt32, nI_add]
theorem ad41 {i : Nat} : 41 + nI i = nI (41 + i) := by rw [lt41, nI_add]
theorem ad50 {i : Nat} : 50 + nI i = nI (50 + i) := by rw [lt50, nI_add]
theorem mu6 {i : Nat} : 6 * nI i = nI (6 * i) := by rw [lt6, pk_mul]
theorem mu128 {i : Nat} : 128 * nI i = nI (128 * i) := by rw [lt128, pk_mul]
theorem mu55 {i : Nat} : 55 * nI i = nI (55 * i) := by rw [lt55, pk_mul]
theorem dv128 {v : Nat} (h : v < 100000) : nI v / 128 = nI (v / 128) := by rw [lt128, pk_div (by omega) (by omega) (by omega)]
theorem rmB {v : Nat} (h : v < 100000) : nI v - nI (v / 128) * 128 = nI (v % 128) := by rw [← dv128 h]; exact (by rw [lt128, pk_rem (by omega) (by omega) (by omega)])
theorem rm128 {v : Nat} (h : v < 100000) : nI v - nI v / 128 * 128 = nI (v % 128) := by rw [lt128, pk_rem (by omega) (by omega) (by omega)]
/-! the lenses: one object's array put anew -/
theorem xs_xa (μ : Mem) (q f i j : Nat) (v : Int32) : xs μ q f i j v = xa μ q f i (upd (μ q f i) j v) := by
  funext q' f' i' j'
  simp only [xs, xa, upd]
  by_cases h : q' = q ∧ f' = f ∧ i' = i
  · obtain ⟨rfl, rfl, rfl⟩ := h
    by_cases e : j' = j
    · simp [e]
    · simp [e]
  · rw [if_neg (fun e => h ⟨e.1, e.2.1, e.2.2.1⟩), if_neg h]
theorem xa_xa (μ : Mem) (q f i : Nat) (g g' : Nat → Int32) : xa (xa μ q f i g) q f i g' = xa μ q f i g' := by
  funext q' f' i' j'
  simp only [xa]
  by_cases h : q' = q ∧ f' = f ∧ i' = i <;> simp [h]
theorem xa_me (μ : Mem) (q f i : Nat) : xa μ q f i (μ q f i) = μ := by
  funext q' f' i' j'
  simp only [xa]
  by_cases h : q' = q ∧ f' = f ∧ i' = i
  · obtain ⟨rfl, rfl, rfl⟩ := h
    simp
  · simp [h]
theorem xa_at (μ : Mem) (q f i : Nat) (g : Nat → Int32) (q' f' i' : Nat) : xa μ q f i g q' f' i' = if q' = q ∧ f' = f ∧ i' = i then g else μ q' f' i' := by
  funext j'
  simp only [xa]
  by_cases h : q' = q ∧ f' = f ∧ i' = i <;> simp [h]
theorem upd_at (f : Nat → Int32) (k j : Nat) (v : Int32) : upd f k v j = if j = k then v else f j := rfl
