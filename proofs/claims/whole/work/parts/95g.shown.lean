/-! how often a colour is in the band -/
theorem shown_in (N : Nat) {μ : Mm} {t : Nat} (hL : LoomR μ t) (hW : WR μ t 3 0) {k i Z : Int} (hi0 : 0 ≤ i) (hi1 : i < gZ μ 333 49) (rx rm : Int → Int → Option Int) : ∀ (n : Nat) (c acc : Int), 0 ≤ c → c ≤ gI μ t 6 → gI μ t 6 - c < n → 0 ≤ acc → (∀ a, acc ≤ a → a ≤ acc + (gI μ t 6 - c) → ∃ r, rx a (i + 1) = some r ∧ rm a (i + 1) = some r ∧ 0 ≤ r ∧ r ≤ a + Z) → ∃ r, fX0_countShown_l17 N 3 (gI μ t 6) k μ i rx n acc c = some r ∧ fX9_shownOf_l18 N k μ i rm n acc c = some r ∧ 0 ≤ r ∧ r ≤ acc + (gI μ t 6 - c) + Z := by
  obtain ⟨-, ⟨e6, a6, b6⟩, -⟩ := id hL
  obtain ⟨hr, hb0, hb1⟩ := r_rows N hW
  intro n
  induction n with
  | zero => intro c acc h0 h1 h2; omega
  | succ n ih =>
    intro c acc h0 h1 h2 h3 hrec
    rw [fX0_countShown_l17, fX9_shownOf_l18, wr_gI, wr_gI, e6, wr_id (by omega) (by omega)]
    by_cases q : gI μ t 6 ≤ c
    · rw [if_pos q, if_pos q]
      obtain ⟨r, r1, r2, r3, r4⟩ := hrec acc (by omega) (by omega)
      exact ⟨r, r1, r2, r3, by omega⟩
    · rw [if_neg q, if_neg q, r_showedAt N hL hW hi0 hi1 h0 (by omega), p_was N μ hb1 hi0 hi1 h0 (by omega), ob_s, ob_s]
      by_cases q2 : wr (gZ μ 333 (50 + 8 * (gZ μ 333 49 - 1 - i) + c)) = wr k
      · obtain ⟨r, r1, r2, r3, r4⟩ := ih (c + 1) (acc + 1) (by omega) (by omega) (by omega) (by omega) (fun a x y => hrec a (by omega) (by omega))
        rw [if_pos q2, if_pos q2]
        unfold fX9_shownOf_j44 fX9_one
        rw [if_neg (by decide), ob_s]
        exact ⟨r, r1, r2, r3, by omega⟩
      · obtain ⟨r, r1, r2, r3, r4⟩ := ih (c + 1) acc (by omega) (by omega) (by omega) (by omega) (fun a x y => hrec a (by omega) (by omega))
        rw [if_neg q2, if_neg q2]
        unfold fX9_shownOf_j44 fX9_one
        rw [if_pos (by decide), ob_s, Int.add_zero]
        exact ⟨r, r1, r2, r3, by omega⟩
theorem shown_out (N : Nat) (hNB : NB N) {μ : Mm} {t : Nat} (hL : LoomR μ t) (hW : WR μ t 3 0) {k : Int} : ∀ (n : Nat) (i acc : Int), 0 ≤ i → i ≤ gZ μ 333 49 → gZ μ 333 49 - i < n → 0 ≤ acc → ∃ r, fX0_countShown_l5 N 3 (gI μ t 6) k μ n acc i = some r ∧ fX9_shownOf_l4 N k μ n acc i = some r ∧ 0 ≤ r ∧ r ≤ acc + (gZ μ 333 49 - i) * 8 := by
  obtain ⟨-, ⟨e6, a6, b6⟩, -⟩ := id hL
  obtain ⟨hr, hb0, hb1⟩ := r_rows N hW
  have hN2 : 300 ≤ N := hNB
  intro n
  induction n with
  | zero => intro i acc h0 h1 h2; omega
  | succ n ih =>
    intro i acc h0 h1 h2 h3
    rw [fX0_countShown_l5, fX9_shownOf_l4, hr, ob_s, ldA_ok (by decide) (by decide) (by decide), ob_s, wr_gZ, wr_id (a := i) (by omega) (by omega)]
    by_cases q : gZ μ 333 49 ≤ i
    · rw [if_pos q, if_pos q]
      exact ⟨acc, rfl, rfl, h3, by omega⟩
    · rw [if_neg q, if_neg q]
      obtain ⟨r, r1, r2, r3, r4⟩ := shown_in N hL hW (k := k) (Z := (gZ μ 333 49 - (i + 1)) * 8) h0 (by omega) (fX0_countShown_l5 N 3 (gI μ t 6) k μ n) (fX9_shownOf_l4 N k μ n) N 0 acc (by omega) (by omega) (by omega) h3 (fun a x y => ih (i + 1) a (by omega) (by omega) (by omega) (by omega))
      exact ⟨r, r1, r2, r3, by omega⟩
theorem r_shown (N : Nat) (hNB : NB N) {μ : Mm} {t : Nat} (hL : LoomR μ t) (hW : WR μ t 3 0) (k : Int) : ∃ r, fX0_countShown N 3 (gI μ t 6) k μ = some r ∧ fX9_shownOf N k μ = some r ∧ 0 ≤ r ∧ r ≤ 192 := by
  obtain ⟨hr, hb0, hb1⟩ := r_rows N hW
  have hN2 : 300 ≤ N := hNB
  obtain ⟨r, r1, r2, r3, r4⟩ := shown_out N hNB hL hW (k := k) N 0 0 (by omega) (by omega) (by omega) (by omega)
  exact ⟨r, r1, r2, r3, by omega⟩
theorem okp_shown (N : Nat) (hNB : NB N) : ok_shown N Inv := by
  intro μ k hk hI
  obtain ⟨t, u, hT, hL, hW, hU, hG, hN, hX, hS⟩ := id hI
  obtain ⟨⟨e5, a5, b5⟩, ⟨e6, a6, b6⟩, -⟩ := id hL
  obtain ⟨r, r1, r2, -⟩ := r_shown N hNB hL hW k
  unfold fX8_shown fX9_shown
  rw [hT.t, gd_p hT.kt, p_hasColour N t k μ hk, p_isColour N k μ (by omega) hk, e5, r1, r2]
  by_cases q : 0 ≤ k ∧ k < gI μ t 5
  · rw [if_pos q, ob_s, ob_s]
    exact ⟨_, _, rfl, rfl, rfl, hI⟩
  · rw [if_neg q, ob_s, ob_s]
    exact ⟨_, _, rfl, rfl, rfl, hI⟩
