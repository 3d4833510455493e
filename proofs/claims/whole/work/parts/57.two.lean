/-! TWO WORLDS IN ONE HEAP: a call on the one keeps the other -/
section TWO
variable {p : Program} {l : Launch} {e : Env} {R : Room} {s : State} {m : MethodId} {args : Array Value} {below : List Frame} {meth : Method} {c : Code} {H : Heap} {locs : List Loc} {cells slots : Nat} {Q : State → Prop}
variable {pc : Nat} {ls : Array Slot} {rest : List Value} {D : va_G} {A : Nat → Prop} {tys : List (ClassId × FieldType)} {H0 : Heap} {ks : List Ky} {ad : Ky → Nat} {ks2 : List Ky} {ad2 : Ky → Nat} {ce2 : Ky → va_E}
variable {M : Type} {cf : M → Ky → va_E} {μ μ' : M} {st0 : List Value} {aa : Array Value}
theorem wo2_keep {H1 : Heap} {locs1 : List Loc} (hW2 : Wo D tys ks2 ad2 A s H0 ce2 H locs) (hk : ∀ k ∈ ks2, H1[ad2 k]? = H[ad2 k]?) (hS : va_S A H0 H1 locs1) : Wo D tys ks2 ad2 A s H0 ce2 H1 locs1 := by
  obtain ⟨hK, hP, hD, -, hn⟩ := hW2
  refine ⟨hK, fun k q hq => ?_, hD, hS, hn⟩
  have h := hP k q hq
  obtain ⟨k2, hk2, rfl⟩ := ky_mem hq
  have hq2 : H1[ad2 k2]? = H[ad2 k2]? := hk k2 hk2
  revert h
  unfold va_at
  dsimp only
  cases ce2 k2 with
  | inl a =>
    intro h
    dsimp only at h ⊢
    rw [hq2]
    exact h
  | inr o =>
    intro h
    dsimp only at h ⊢
    unfold t_OB at h ⊢
    rw [hq2]
    exact h
end TWO
