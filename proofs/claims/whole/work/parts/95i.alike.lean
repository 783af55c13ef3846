/-! cards that showed the same -/
theorem areAlike_0 (N : Nat) {μ : Mm} {t : Nat} (hW : WR μ t 3 0) {c d : Int} : ∀ (n : Nat) (i : Int), 0 ≤ i → i ≤ gZ μ 333 49 → gZ μ 333 49 - i < n → fX9_areAlike_l5 N c d μ n 0 i = some 0 := by
  obtain ⟨hr, hb0, hb1⟩ := r_rows N hW
  intro n
  induction n with
  | zero => intro i h0 h1 h2; omega
  | succ n ih =>
    intro i h0 h1 h2
    rw [fX9_areAlike_l5, ldA_ok (by decide) (by decide) (by decide), ob_s, wr_gZ, wr_id (a := i) (by omega) (by omega)]
    by_cases q : gZ μ 333 49 ≤ i
    · rw [if_pos q]; rfl
    · rw [if_neg q, if_pos (by decide)]
      exact ih (i + 1) (by omega) (by omega) (by omega)
theorem areAlike_l (N : Nat) {μ : Mm} {t : Nat} (hL : LoomR μ t) (hW : WR μ t 3 0) {c d : Int} (c0 : 0 ≤ c) (c1 : c < gI μ t 6) (d0 : 0 ≤ d) (d1 : d < gI μ t 6) : ∀ (n : Nat) (i : Int), 0 ≤ i → i ≤ gZ μ 333 49 → gZ μ 333 49 - i < n → ∃ r, fX0_showedSame_l2 N 3 c d μ n i = some r ∧ fX9_areAlike_l5 N c d μ n 1 i = some r ∧ (r = 0 ∨ r = 1) := by
  obtain ⟨-, ⟨e6, a6, b6⟩, -⟩ := id hL
  obtain ⟨hr, hb0, hb1⟩ := r_rows N hW
  intro n
  induction n with
  | zero => intro i h0 h1 h2; omega
  | succ n ih =>
    intro i h0 h1 h2
    rw [fX0_showedSame_l2, fX9_areAlike_l5, hr, ob_s, ldA_ok (by decide) (by decide) (by decide), ob_s, wr_gZ, wr_id (a := i) (by omega) (by omega)]
    by_cases q : gZ μ 333 49 ≤ i
    · rw [if_pos q, if_pos q]
      exact ⟨1, rfl, rfl, Or.inr rfl⟩
    · rw [if_neg q, if_neg q, if_neg (by decide), r_showedAt N hL hW h0 (by omega) c0 c1, ob_s, r_showedAt N hL hW h0 (by omega) d0 d1, ob_s, p_was N μ hb1 h0 (by omega) c0 (by omega), ob_s, p_was N μ hb1 h0 (by omega) d0 (by omega), ob_s]
      by_cases y : wr (gZ μ 333 (50 + 8 * (gZ μ 333 49 - 1 - i) + c)) = wr (gZ μ 333 (50 + 8 * (gZ μ 333 49 - 1 - i) + d))
      · rw [if_pos y, if_pos y]
        exact ih (i + 1) (by omega) (by omega) (by omega)
      · rw [if_neg y, if_neg y]
        exact ⟨0, rfl, areAlike_0 N hW n (i + 1) (by omega) (by omega) (by omega), Or.inl rfl⟩
theorem r_alike (N : Nat) (hNB : NB N) {μ : Mm} {t : Nat} (hL : LoomR μ t) (hW : WR μ t 3 0) {c d : Int} (c0 : 0 ≤ c) (c1 : c < gI μ t 6) (d0 : 0 ≤ d) (d1 : d < gI μ t 6) : ∃ r, fX0_showedSame N 3 c d μ = some r ∧ fX9_areAlike N c d μ = some r ∧ (r = 0 ∨ r = 1) := by
  obtain ⟨hr, hb0, hb1⟩ := r_rows N hW
  have hN2 : 300 ≤ N := hNB
  exact areAlike_l N hL hW c0 c1 d0 d1 N 0 (by omega) (by omega) (by omega)
