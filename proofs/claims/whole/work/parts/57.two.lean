/-! TWO WORLDS IN ONE HEAP: a call on the one keeps the other -/
section TWO
variable {p : Program} {l : Launch} {e : Env} {R : Room} {s : State} {m : MethodId} {args : Array Value} {below : List Frame} {meth : Method} {c : Code} {H : Heap} {locs : List Loc} {cells slots : Nat} {Q : State → Prop}
variable {pc : Nat} {ls : Array Slot} {rest : List Value} {D : va_G} {A : Nat → Prop} {tys : List (ClassId × FieldType)} {H0 : Heap} {ks : List Ky} {ad : Ky → Nat} {ks2 : List Ky} {ad2 : Ky → Nat} {ce2 : Ky → va_E}
variable {M : Type} {cf : M → Ky → va_E} {μ μ' : M} {st0 : List Value} {aa : Array Value}
theorem wo2_keep {H1 : Heap} {locs1 : List Loc} (hW2 : Wo D tys ks2 ad2 A s H0 ce2 H locs) (hk : ∀ k ∈ ks2, H1[ad2 k]? = H[ad2 k]?) (hS : va_S A H0 H1 locs1) : Wo D tys ks2 ad2 A s H0 ce2 H1 locs1 := by
  obtain ⟨hK, hP, hD, -, hn⟩ := hW2
  refine ⟨hK, fun k q hq => ?_, hD, hS, hn⟩
  have h := hP k q hq
  obtain ⟨k2, hk2, rfl⟩ := ky_mem hq
  have hq2 : H1[ad2 k2]? = H[ad2 k2]? := hk k2 hk2
  revert h
  unfold va_at
  dsimp only
  cases ce2 k2 with
  | inl a =>
    intro h
    dsimp only at h ⊢
    rw [hq2]
    exact h
  | inr o =>
    intro h
    dsimp only at h ⊢
    unfold t_OB at h ⊢
    rw [hq2]
    exact h
theorem wo2_ci {r : Int32} (hr : va_Run p l e R s m args below meth c H locs cells slots 0 0 (F0 m pc ls st0) rest (va_Qi (fun (r1 : Int32) (u : M) => r1 = r ∧ u = μ') (fun u t => Wp D tys ks ad (ky_fr ks ad H.size) (cf u) t) (ky_fr ks ad H.size) aa) (ky_fr ks ad H.size)) (hW : Wo D tys ks ad A s H0 (cf μ) H locs) (hW2 : Wo D tys ks2 ad2 A s H0 ce2 H locs) (hA : ∀ q : Nat, H0.size ≤ q → A q) (hlt : ∀ k ∈ ks2, ad2 k < H.size) (hdis : ∀ k2 ∈ ks2, ∀ k ∈ ks, ad2 k2 ≠ ad k)
    (kk : ∀ (H1 : Heap) (locs1 : List Loc), H.size ≤ H1.size → Wo D tys ks ad A s H0 (cf μ') H1 locs1 → Wo D tys ks2 ad2 A s H0 ce2 H1 locs1 → W p l e R s m args below meth c H1 locs1 cells slots Q (F0 m (pc + 3) ls (.int r :: rest))) : W p l e R s m args below meth c H locs cells slots Q (F0 m pc ls st0) := by
  have hf := wo_frA (H' := H) hW hA
  refine va_calli hr hW.2.2.2.1 (fun q _ h => hf q h) hf (fun r1 u t H1 locs1 ht hvm hp hB hz hk hS => ?_)
  obtain ⟨rfl, rfl⟩ := hp
  obtain ⟨hP1, hK1, hD1⟩ := hB
  rw [ht] at hP1
  exact kk H1 locs1 hz ⟨hW.1, hP1, ⟨hD1.1, fun k q h => hf _ (hD1.2 k q h)⟩, hS, hW.2.2.2.2⟩ (wo2_keep hW2 (fun k2 h2 => hk _ (hlt k2 h2) (fun hz => hz.elim (fun ⟨k, hk1, e⟩ => hdis k2 h2 k hk1 e) (fun e => absurd (hlt k2 h2) (by omega)))) hS)
end TWO
