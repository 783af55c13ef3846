/-! the first state -/
theorem gmZ (a k : Nat) (h1 : ¬ ((a = 1 ∧ k = 5) ∨ (a = 332 ∧ k = 17))) (h2 : ¬ (a = 0 ∧ (k = 6 ∨ k = 7))) : gI mZ a k = 0 := by
  unfold gI mZ
  rw [if_neg h1, if_neg (fun z => h2 ⟨z.1, Or.inl z.2⟩), if_neg (fun z => h2 ⟨z.1, Or.inr z.2⟩)]
  rfl
theorem zmZ (a : Nat) (i : Int) (h0 : a ≠ 0) (h1 : a ≠ 1) (h2 : a ≠ 332) : gZ mZ a i = 0 := gmZ a _ (by omega) (by omega)
theorem inv_mZ : Inv mZ := by
  have f1 : gI mZ 1 5 = -1 := by unfold gI mZ; rw [if_pos (by omega)]; decide
  have f2 : gI mZ 332 17 = -1 := by unfold gI mZ; rw [if_pos (by omega)]; decide
  have f3 : gI mZ 0 6 = 300 := by unfold gI mZ; rw [if_neg (by omega), if_pos (by omega)]; decide
  have f4 : gI mZ 0 7 = 306 := by unfold gI mZ; rw [if_neg (by omega), if_neg (by omega), if_pos (by omega)]; decide
  have c5 : gI mZ 300 5 = 0 := gmZ _ _ (by omega) (by omega)
  have c6 : gI mZ 300 6 = 0 := gmZ _ _ (by omega) (by omega)
  have c7 : gI mZ 300 7 = 0 := gmZ _ _ (by omega) (by omega)
  have c8 : gI mZ 300 8 = 0 := gmZ _ _ (by omega) (by omega)
  have m : ∀ k, k ≠ 17 → gI mZ 332 k = 0 := fun k hk => gmZ _ _ (by omega) (by omega)
  have b : ∀ i, gZ mZ 333 i = 0 := fun i => zmZ _ i (by decide) (by decide) (by decide)
  refine ⟨300, 306, ⟨f3, f4, Or.inl ⟨rfl, rfl⟩⟩, ?_, ?_, ?_, ?_, ?_, ?_, ?_⟩
  · unfold LoomR
    rw [c5, c6, c7, c8, m 2 (by decide), m 6 (by decide), m 9 (by decide)]
    exact ⟨by decide, by decide, by decide, fun _ => ⟨rfl, rfl⟩, fun j j0 j1 => by omega, fun k k0 k1 => by omega, fun c hc => by omega, by decide, by decide, fun c hc => by omega⟩
  · unfold WR WRf
    rw [c5, c6, gmZ 3 8 (by omega) (by omega)]
    refine ⟨fun c c0 c1 => by omega, fun k k0 k1 => by omega, fun k _ _ => b _, ⟨(b _).symm, by decide, by decide, by show gZ mZ 333 (0 + 49) = _; rw [b]; rfl⟩, fun i c i0 i1 c0 c1 => by omega⟩
  · unfold UndoR
    rw [gmZ 21 1 (by omega) (by omega), gmZ 21 2 (by omega) (by omega), m 18 (by decide)]
    exact ⟨by decide, by decide, fun j hj => by omega⟩
  · intro i hi
    rw [zmZ 334 _ (by decide) (by decide) (by decide), gmZ (312 + 10 * i) 2 (by omega) (by omega)]
    exact ⟨rfl, Or.inl rfl⟩
  · unfold NotesR
    rw [gmZ 293 5 (by omega) (by omega), gmZ 293 6 (by omega) (by omega), m 23 (by decide), m 26 (by decide)]
    exact ⟨⟨rfl, by decide, by decide⟩, ⟨rfl, by decide, by decide⟩, fun i i0 i1 => by omega, fun i i0 i1 => by omega⟩
  · unfold TextR
    rw [gmZ 1 1 (by omega) (by omega), m 13 (by decide), f1, f2]
    exact ⟨⟨rfl, by decide, by decide⟩, fun i i0 i1 => by omega, rfl⟩
  · rw [gmZ 0 8 (by omega) (by omega), b]
    exact ⟨rfl, by decide⟩
