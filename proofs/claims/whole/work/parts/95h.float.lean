/-! floats -/
theorem float_l (N : Nat) {μ : Mm} {t : Nat} (hL : LoomR μ t) (hW : WR μ t 3 0) {c : Int} (c0 : 0 ≤ c) (c1 : c < gI μ t 6) : ∀ (n : Nat) (i lg ln : Int), 0 ≤ i → i ≤ gZ μ 333 49 → gZ μ 333 49 - i < n → 0 ≤ lg → lg ≤ i → 0 ≤ ln → ln ≤ i → ∃ r, fX0_findFloat_l7 N 3 c μ n lg ln i = some r ∧ fX9_floatOf_l7 N c μ n lg ln i = some r ∧ 0 ≤ r ∧ r ≤ 24 := by
  obtain ⟨-, ⟨e6, a6, b6⟩, -⟩ := id hL
  obtain ⟨hr, hb0, hb1⟩ := r_rows N hW
  intro n
  induction n with
  | zero => intro i lg ln h0 h1 h2; omega
  | succ n ih =>
    intro i lg ln h0 h1 h2 h3 h4 h5 h6
    rw [fX0_findFloat_l7, fX9_floatOf_l7, hr, ob_s, ldA_ok (by decide) (by decide) (by decide), ob_s, wr_gZ, wr_id (a := i) (by omega) (by omega)]
    by_cases q : gZ μ 333 49 ≤ i
    · rw [if_pos q, if_pos q]
      exact ⟨lg, rfl, rfl, h3, by omega⟩
    · have ex := r_showedAt N hL hW h0 (show i < gZ μ 333 49 by omega) c0 c1
      have em := p_was N μ hb1 h0 (show i < gZ μ 333 49 by omega) c0 (show c < 8 by omega)
      generalize hv : gZ μ 333 (50 + 8 * (gZ μ 333 49 - 1 - i) + c) = v at ex em
      have hvw : wr v = v := by rw [← hv]; exact wr_gZ _ _ _
      -- one step with the new length z
      have step : ∀ z : Int, 0 ≤ z → z ≤ i + 1 → ∃ r, fX0_findFloat_j58 N lg i (fX0_findFloat_l7 N 3 c μ n) z = some r ∧ fX9_floatOf_j77 N μ lg i (fX9_floatOf_l7 N c μ n) z = some r ∧ 0 ≤ r ∧ r ≤ 24 := by
        intro z z0 z1
        unfold fX0_findFloat_j58 fX9_floatOf_j77 fX9_most
        rw [wr_id (a := lg) (by omega) (by omega), wr_id (a := z) (by omega) (by omega)]
        by_cases y : lg < z
        · rw [if_pos y, if_neg (by omega), ob_s]
          exact ih (i + 1) z z (by omega) (by omega) (by omega) z0 z1 z0 z1
        · rw [if_neg y, if_pos (by omega), ob_s]
          exact ih (i + 1) lg z (by omega) (by omega) (by omega) h3 (by omega) z0 z1
      rw [if_neg q, if_neg q, ex, ob_s, hvw]
      by_cases qv : v = -1
      · rw [if_pos qv]
        obtain ⟨r, r1, r2, r3⟩ := step 0 (by omega) (by omega)
        refine ⟨r, r1, ?_, r3⟩
        have j : ∀ s, fX9_floatOf_j48 N c μ lg ln i (fX9_floatOf_l7 N c μ n) s = some r := fun s => by
          unfold fX9_floatOf_j48
          rw [em, ob_s, hvw, if_pos qv]
          exact r2
        by_cases qi : i ≤ 0
        · rw [if_pos qi]; exact j 0
        · rw [if_neg qi, em, ob_s, p_was N μ hb1 (show 0 ≤ i - 1 by omega) (by omega) c0 (by omega), ob_s]
          by_cases qq : wr v = wr (gZ μ 333 (50 + 8 * (gZ μ 333 49 - 1 - (i - 1)) + c))
          · rw [if_pos qq]; exact j 1
          · rw [if_neg qq]; exact j 0
      · rw [if_neg qv]
        have j0 : fX9_floatOf_j48 N c μ lg ln i (fX9_floatOf_l7 N c μ n) 0 = fX9_floatOf_j77 N μ lg i (fX9_floatOf_l7 N c μ n) 1 := by
          unfold fX9_floatOf_j48
          rw [em, ob_s, hvw, if_neg qv, if_pos (by decide)]
        have j1 : fX9_floatOf_j48 N c μ lg ln i (fX9_floatOf_l7 N c μ n) 1 = fX9_floatOf_j77 N μ lg i (fX9_floatOf_l7 N c μ n) (ln + 1) := by
          unfold fX9_floatOf_j48
          rw [em, ob_s, hvw, if_neg qv, if_neg (by decide)]
        by_cases qi : i ≤ 0
        · rw [if_pos qi, r_showedOut N hW (i := i - 1) (by omega) (by omega), ob_s, if_neg (by rw [wr_id (a := -1) (by decide) (by decide)]; exact qv), j0]
          exact step 1 (by omega) (by omega)
        · rw [if_neg qi, em, ob_s, p_was N μ hb1 (show 0 ≤ i - 1 by omega) (by omega) c0 (by omega), ob_s, r_showedAt N hL hW (show 0 ≤ i - 1 by omega) (by omega) c0 c1, ob_s, hvw]
          by_cases qq : v = wr (gZ μ 333 (50 + 8 * (gZ μ 333 49 - 1 - (i - 1)) + c))
          · rw [if_pos qq, if_pos qq, j1]; exact step (ln + 1) (by omega) (by omega)
          · rw [if_neg qq, if_neg qq, j0]; exact step 1 (by omega) (by omega)
theorem r_float (N : Nat) (hNB : NB N) {μ : Mm} {t : Nat} (hL : LoomR μ t) (hW : WR μ t 3 0) {c : Int} (c0 : 0 ≤ c) (c1 : c < gI μ t 6) : ∃ r, fX0_findFloat N 3 c μ = some r ∧ fX9_floatOf N c μ = some r ∧ 0 ≤ r ∧ r ≤ 24 := by
  obtain ⟨hr, hb0, hb1⟩ := r_rows N hW
  have hN2 : 300 ≤ N := hNB
  exact float_l N hL hW c0 c1 N 0 0 0 (by omega) (by omega) (by omega) (by omega) (by omega) (by omega) (by omega)
theorem okp_floats (N : Nat) (hNB : NB N) : ok_floats N Inv := by
  intro μ c hc hI
  obtain ⟨t, u, hT, hL, hW, hU, hG, hN, hX, hS⟩ := id hI
  obtain ⟨⟨e5, a5, b5⟩, ⟨e6, a6, b6⟩, -⟩ := id hL
  unfold fX8_floats fX9_floats
  rw [hT.t, gd_p hT.kt, p_hasCard N t c μ hc, p_isCard N c μ (by omega) hc, e6]
  by_cases q : 0 ≤ c ∧ c < gI μ t 6
  · obtain ⟨r, r1, r2, -⟩ := r_float N hNB hL hW q.1 q.2
    rw [if_pos q, ob_s, ob_s, if_neg (by decide), if_neg (by decide), r1, r2]
    exact ⟨_, _, rfl, rfl, rfl, hI⟩
  · rw [if_neg q, ob_s, ob_s, if_pos (by decide), if_pos (by decide)]
    exact ⟨_, _, rfl, rfl, rfl, hI⟩
