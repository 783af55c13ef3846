/-! READING: colours of holes, rows of the band, both sides alike -/
theorem p_colourOf (N : Nat) {c : Int} (h : Int) (μ : Mm) (h0 : 0 ≤ c) (h1 : c < 16) : fX9_colourOf N c h μ = some (gZ μ 335 (4 * c + h % 4)) := by
  unfold fX9_colourOf
  rw [andI_3]
  have := Int.emod_nonneg h (show (4 : Int) ≠ 0 by decide)
  have := Int.emod_lt_of_pos h (show (0 : Int) < 4 by decide)
  rw [ldA_ok (by omega) (by omega) (by omega)]
  rfl
theorem p_colourAt (N : Nat) {t : Nat} {c : Int} (h : Int) (μ : Mm) (h0 : 0 ≤ c) (h1 : c < 8) : fX5_colourAt N t c h μ = some (gZ μ (t + 1) (4 * c + h % 4)) := by
  unfold fX5_colourAt fX5_indexOf
  rw [andI_3, andI_7, ob_s]
  have := Int.emod_nonneg h (show (4 : Int) ≠ 0 by decide)
  have := Int.emod_lt_of_pos h (show (0 : Int) < 4 by decide)
  rw [show c % 8 * 4 + h % 4 = 4 * c + h % 4 by omega, ldA_ok (by omega) (by omega) (by omega)]
  rfl
theorem r_col (N : Nat) {μ : Mm} {t : Nat} (hL : LoomR μ t) {c : Int} (h : Int) (h0 : 0 ≤ c) (h1 : c < gI μ t 6) : fX5_colourAt N t c h μ = some (gZ μ 335 (4 * c + h % 4)) ∧ 0 ≤ gZ μ 335 (4 * c + h % 4) ∧ gZ μ 335 (4 * c + h % 4) < gI μ t 5 := by
  obtain ⟨-, ⟨e6, a6, b6⟩, -, -, hh, -⟩ := hL
  have := Int.emod_nonneg h (show (4 : Int) ≠ 0 by decide)
  have := Int.emod_lt_of_pos h (show (0 : Int) < 4 by decide)
  have h2 := hh (4 * c + h % 4) (by omega) (by omega)
  rw [p_colourAt N h μ h0 (by omega), h2.1]
  exact ⟨rfl, h2.2⟩
theorem p_was (N : Nat) {i c : Int} (μ : Mm) (hb : gZ μ 333 49 ≤ 24) (h0 : 0 ≤ i) (h1 : i < gZ μ 333 49) (h2 : 0 ≤ c) (h3 : c < 8) : fX9_was N i c μ = some (gZ μ 333 (50 + 8 * (gZ μ 333 49 - 1 - i) + c)) := by
  unfold fX9_was
  rw [ldA_ok (by decide) (by decide) (by decide), ob_s, ldA_ok (by omega) (by omega) (by omega)]
  rfl
theorem r_rows (N : Nat) {μ : Mm} {t : Nat} (hW : WR μ t 3 0) : fX7_countRows N 3 μ = some (gZ μ 333 49) ∧ 0 ≤ gZ μ 333 49 ∧ gZ μ 333 49 ≤ 24 := by
  obtain ⟨h1, h2, h3, h4⟩ := hW.pk
  unfold fX7_countRows
  rw [wr_gI, h4]
  by_cases q : gI μ 3 8 < 24
  · rw [if_pos q, if_neg (by rw [wr_id (by decide) (by decide)]; omega)]
    exact ⟨rfl, by omega, by omega⟩
  · rw [if_neg q]
    by_cases q2 : 24 < gI μ 3 8
    · rw [if_pos (by rw [wr_id (by decide) (by decide)]; omega)]
      exact ⟨rfl, by omega, by omega⟩
    · rw [if_neg (by rw [wr_id (by decide) (by decide)]; omega)]
      exact ⟨by congr 1; omega, by omega, by omega⟩
theorem p_slotOf (N : Nat) {p : Int} (μ : Mm) (h0 : 0 ≤ p) (h1 : p < 2147483648) : fX7_slotOf N p μ = some (p % 24 * 8) := by
  obtain ⟨n, rfl⟩ : ∃ n : Nat, p = n := ⟨p.toNat, by omega⟩
  unfold fX7_slotOf
  have e : fJ9_floorMod_7cf53 N (n : Int) 24 μ = some ((n : Int) % 24) := p_floorMod N (a := n) (b := 24) μ (by omega) (by decide) (by decide)
  rw [e]
  rfl
theorem r_showedAt (N : Nat) {μ : Mm} {t : Nat} (hL : LoomR μ t) (hW : WR μ t 3 0) {i c : Int} (h0 : 0 ≤ i) (h1 : i < gZ μ 333 49) (h2 : 0 ≤ c) (h3 : c < gI μ t 6) : fX7_showedAt N 3 i c μ = some (gZ μ 333 (50 + 8 * (gZ μ 333 49 - 1 - i) + c)) := by
  obtain ⟨-, ⟨e6, a6, b6⟩, -⟩ := hL
  obtain ⟨hr, hb0, hb1⟩ := r_rows N hW
  obtain ⟨g1, g2, g3, g4⟩ := hW.pk
  have hib : i < gI μ 3 8 := by
    rw [g4] at h1
    by_cases q : gI μ 3 8 < 24
    · rw [if_pos q] at h1; omega
    · omega
  unfold fX7_showedAt
  simp only [wr_id (show -2147483648 ≤ i by omega) (show i < 2147483648 by omega), wr_id (show -2147483648 ≤ c by omega) (show c < 2147483648 by omega)]
  rw [if_neg (by omega), hr, ob_s, wr_id (by omega) (by omega), if_neg (by omega), if_neg (by omega), if_pos (by omega), p_slotOf N μ (by omega) (by omega), ob_s]
  have := Int.emod_nonneg (gI μ 3 8 - 1 - i) (show (24 : Int) ≠ 0 by decide)
  have := Int.emod_lt_of_pos (gI μ 3 8 - 1 - i) (show (0 : Int) < 24 by decide)
  rw [ldA_ok (by omega) (by omega) (by omega), ob_s]
  exact congrArg some (hW.bd h0 h1 h2 h3).1
theorem r_showedOut (N : Nat) {μ : Mm} {t : Nat} (hW : WR μ t 3 0) {i c : Int} (hi : -2147483648 ≤ i ∧ i < 2147483648) (h : i < 0 ∨ gZ μ 333 49 ≤ i) : fX7_showedAt N 3 i c μ = some (-1) := by
  obtain ⟨hr, hb0, hb1⟩ := r_rows N hW
  unfold fX7_showedAt
  rw [wr_id hi.1 hi.2]
  by_cases q : i < 0
  · rw [if_pos q]
  · rw [if_neg q, hr, ob_s, wr_id (by omega) (by omega), if_pos (by omega)]
theorem okp_row (N : Nat) : ok_row N Inv := by
  intro μ i c hi hc hI
  obtain ⟨t, u, hT, hL, hW, hU, hG, hN, hX, hS⟩ := id hI
  obtain ⟨⟨e5, a5, b5⟩, ⟨e6, a6, b6⟩, -⟩ := id hL
  obtain ⟨hr, hb0, hb1⟩ := r_rows N hW
  unfold fX8_row fX9_row
  rw [hT.t, gd_p hT.kt, p_hasCard N t c μ hc, p_isCard N c μ (by omega) hc, e6]
  by_cases q : 0 ≤ c ∧ c < gI μ t 6
  · rw [if_pos q, ob_s, ob_s, if_neg (by decide), if_neg (by decide)]
    rw [ldA_ok (by decide) (by decide) (by decide), ob_s, wr_id hi.1 hi.2, wr_id (show -2147483648 ≤ gZ μ 333 49 - 1 by omega) (by omega), p_in N i 0 _ μ (by omega) (by omega) (by omega), ob_s]
    by_cases q2 : 0 ≤ i ∧ i < gZ μ 333 49
    · rw [if_pos (show 0 ≤ i ∧ i ≤ gZ μ 333 49 - 1 by omega), if_neg (by decide), r_showedAt N hL hW q2.1 q2.2 q.1 q.2, p_was N μ hb1 q2.1 q2.2 q.1 (by omega)]
      exact ⟨_, _, rfl, rfl, rfl, hI⟩
    · rw [if_neg (show ¬ (0 ≤ i ∧ i ≤ gZ μ 333 49 - 1) by omega), if_pos (by decide), r_showedOut N hW hi (by omega)]
      exact ⟨_, _, rfl, rfl, rfl, hI⟩
  · rw [if_neg q, ob_s, ob_s, if_pos (by decide), if_pos (by decide)]
    exact ⟨_, _, rfl, rfl, rfl, hI⟩
theorem p_hasZ (N : Nat) {s c : Int} (μ : Mm) (h0 : 0 ≤ s) (h1 : s < 2147483648) (h2 : 0 ≤ c) (h3 : c < 8) : fX9_has N s c μ = some (if s.toNat.testBit c.toNat then 1 else 0) := by
  obtain ⟨a, rfl⟩ : ∃ a : Nat, s = a := ⟨s.toNat, by omega⟩
  obtain ⟨k, rfl⟩ : ∃ k : Nat, c = k := ⟨c.toNat, by omega⟩
  rw [p_has N μ (by omega) (by omega)]
  rfl
theorem r_packOf (N : Nat) (hN : NB N) {μ : Mm} {t : Nat} (hL : LoomR μ t) {c : Int} (h0 : 0 ≤ c) (h1 : c < gI μ t 6) : fX9_packOf N c μ = some (gZ μ (t + 3) c) ∧ -1 ≤ gZ μ (t + 3) c ∧ gZ μ (t + 3) c < gI μ t 7 := by
  obtain ⟨-, ⟨e6, a6, b6⟩, ⟨e7, a7, b7⟩, -, -, hk, hc, -⟩ := hL
  obtain ⟨cn, rfl⟩ : ∃ a : Nat, c = a := ⟨c.toNat, by omega⟩
  obtain ⟨P, hP⟩ : ∃ P : Nat, gI μ t 7 = P := ⟨(gI μ t 7).toNat, by omega⟩
  have hcc := hc cn h1
  unfold NB at hN
  generalize hp : gZ μ (t + 3) cn = p at hcc ⊢
  have key := loopN (fun n i s => fX9_packOf_l4 N cn μ n s i) (some p) P (fun k => if 0 ≤ p ∧ p < (k : Int) then p else -1) (fun n k hkP => by
      have hkk := hk k (by omega) (by omega)
      show fX9_packOf_l4 N cn μ (n + 1) _ _ = fX9_packOf_l4 N cn μ n _ _
      rw [fX9_packOf_l4, wr_gI, e7, wr_id (by omega) (by omega), if_neg (by omega), ldA_ok (by omega) (by omega) (by omega), ob_s, p_hasZ N μ (by omega) (by omega) (by omega) (by omega), ob_s]
      rw [show ((cn : Int)).toNat = cn by omega]
      rcases hcc with ⟨q1, q2⟩ | ⟨q1, q2, q3⟩
      · rw [q2 k (by omega) (by omega), q1]
        simp (disch := first | omega | decide) only [Bool.false_eq_true, ↓reduceIte, if_pos, if_neg, wr_id]
      · by_cases q4 : (k : Int) = p
        · rw [(q3 k (by omega) (by omega)).mpr q4, if_pos rfl, if_neg (by decide), if_pos (show 0 ≤ p ∧ p < ((k + 1 : Nat) : Int) by omega), q4]
        · have q5 : (gZ μ 337 k).toNat.testBit cn = false := by
            cases hb : (gZ μ 337 k).toNat.testBit cn with
            | false => rfl
            | true => exact absurd ((q3 k (by omega) (by omega)).mp hb) q4
          rw [q5, if_pos (by decide)]
          have e : (if 0 ≤ p ∧ p < (k : Int) then p else -1) = (if 0 ≤ p ∧ p < ((k + 1 : Nat) : Int) then p else -1) := by
            by_cases q6 : p < (k : Int)
            · rw [if_pos (by omega), if_pos (by omega)]
            · rw [if_neg (by omega), if_neg (by omega)]
          rw [e]) (fun n => by
      show fX9_packOf_l4 N cn μ (n + 1) _ _ = some p
      rw [fX9_packOf_l4, wr_gI, e7, wr_id (by omega) (by omega), if_pos (by omega)]
      congr 1
      rcases hcc with ⟨q1, q2⟩ | ⟨q1, q2, q3⟩
      · rw [if_neg (by omega)]; omega
      · rw [if_pos (by omega)]) N 0 (by omega) (by omega)
  refine ⟨?_, by rcases hcc with q | q <;> omega, by rcases hcc with q | q <;> omega⟩
  have e0 : (if 0 ≤ p ∧ p < ((0 : Nat) : Int) then p else -1) = -1 := if_neg (by omega)
  simp only [e0] at key
  exact key
theorem okp_card (N : Nat) (hNB : NB N) : ok_card N Inv := by
  intro μ c w hc hw hI
  obtain ⟨t, u, hT, hL, hW, hU, hG, hN, hX, hS⟩ := id hI
  obtain ⟨⟨e5, a5, b5⟩, ⟨e6, a6, b6⟩, -⟩ := id hL
  unfold fX8_card fX9_card
  rw [hT.t, gd_p hT.kt, p_hasCard N t c μ hc, p_isCard N c μ (by omega) hc, e6]
  by_cases q : 0 ≤ c ∧ c < gI μ t 6
  · have hcd := hW.cd q.1 q.2
    rw [if_pos q]
    simp only [ob_s, wr_id hw.1 hw.2]
    have hpk : fX9_packOf N c μ = some (gZ μ (t + 3) c) := (r_packOf N hNB hL q.1 q.2).1
    by_cases w0 : w < 0
    · simp (disch := first | omega | decide) only [if_pos, if_neg]
      exact ⟨_, _, rfl, rfl, rfl, hI⟩
    · by_cases w4 : w < 4
      · have h1 := (r_col N hL w q.1 q.2).1
        have h2 := p_colourOf N w μ q.1 (show c < 16 by omega)
        rcases (show w = 0 ∨ w = 1 ∨ w = 2 ∨ w = 3 by omega) with rfl | rfl | rfl | rfl
        all_goals simp (disch := first | omega | decide) only [if_pos, if_neg, h1, h2, ob_s]
        all_goals exact ⟨_, _, rfl, rfl, rfl, hI⟩
      · by_cases w9 : 9 < w
        · simp (disch := first | omega | decide) only [if_pos, if_neg]
          exact ⟨_, _, rfl, rfl, rfl, hI⟩
        · rcases (show w = 4 ∨ w = 5 ∨ w = 6 ∨ w = 7 ∨ w = 8 ∨ w = 9 by omega) with rfl | rfl | rfl | rfl | rfl | rfl
          all_goals simp (disch := first | omega | decide) only [if_pos, if_neg, ldA_ok, ob_s, hpk]
          all_goals refine ⟨_, _, rfl, rfl, ?_, hI⟩
          all_goals congr 1
          all_goals omega
  · rw [if_neg q, ob_s, ob_s, if_pos (by decide), if_pos (by decide)]
    exact ⟨_, _, rfl, rfl, rfl, hI⟩
theorem plain_l (N : Nat) (a z : Int) : ∀ (n : Nat) (x i : Int), fX8_plain_l30 N a z n x i = fX9_plain_l34 N a z n x i := by
  intro n
  induction n with
  | zero => intro x i; rfl
  | succ n ih => intro x i; rw [fX8_plain_l30, fX9_plain_l34, ih]
