/-! copies of whole states, both sides -/
theorem p_copy_l (N : Nat) {x y : Int} (μ : Mm) (hx : 0 ≤ x ∧ x + 243 ≤ 8262) (hy : 0 ≤ y ∧ y + 243 ≤ 8262) (hd : x + 243 ≤ y ∨ y + 243 ≤ x) : ∀ (n : Nat) (i : Int) (ν : Mm), 0 ≤ i → i ≤ 243 → 243 - i < n → (∀ r, r ≠ 333 → ν r = μ r) → (∀ k, 0 ≤ k → gZ ν 333 k = if y ≤ k ∧ k < y + i then gZ μ 333 (x + (k - y)) else gZ μ 333 k) → ∃ ν1, fX9_copy_l2 N x y n i ν = some ν1 ∧ (∀ r, r ≠ 333 → ν1 r = μ r) ∧ (∀ k, 0 ≤ k → gZ ν1 333 k = if y ≤ k ∧ k < y + 243 then gZ μ 333 (x + (k - y)) else gZ μ 333 k) := by
  intro n
  induction n with
  | zero => intro i ν h0 h1 h2; omega
  | succ n ih =>
    intro i ν h0 h1 h2 hr hv
    rw [fX9_copy_l2, wr_id (by omega) (by omega)]
    by_cases q : 243 ≤ i
    · rw [if_pos q]
      have e : i = 243 := by omega
      subst e
      exact ⟨ν, rfl, hr, hv⟩
    · rw [if_neg q, ldA_ok (by omega) (by omega) (by omega), ob_s, stA_ok (by omega) (by omega) (by omega), ob_s]
      refine ih (i + 1) _ (by omega) (by omega) (by omega) (fun r h => by rw [row_pZ h]; exact hr r h) (fun k hk => ?_)
      by_cases q2 : k = y + i
      · subst q2
        rw [gZ_pZ_s, wr_gZ, hv _ (by omega), if_neg (by omega), if_pos (by omega)]
        congr 1
        omega
      · rw [gZ_pZ_n (by omega) hk q2, hv k hk]
        by_cases q3 : y ≤ k ∧ k < y + i
        · rw [if_pos q3, if_pos (by omega)]
        · rw [if_neg q3, if_neg (by omega)]
theorem p_copy (N : Nat) (hNB : NB N) {x y : Int} (μ : Mm) (hx : 0 ≤ x ∧ x + 243 ≤ 8262) (hy : 0 ≤ y ∧ y + 243 ≤ 8262) (hd : x + 243 ≤ y ∨ y + 243 ≤ x) : ∃ ν1, fX9_copy N x y μ = some ν1 ∧ (∀ r, r ≠ 333 → ν1 r = μ r) ∧ (∀ k, 0 ≤ k → gZ ν1 333 k = if y ≤ k ∧ k < y + 243 then gZ μ 333 (x + (k - y)) else gZ μ 333 k) := by
  unfold NB at hNB
  exact p_copy_l N μ hx hy hd N 0 μ (by omega) (by omega) (by omega) (fun _ _ => rfl) (fun k _ => by rw [if_neg (by omega)])
theorem cpA_z {μ : Mm} {a c n : Nat} (hn : n < 1000) : cpA μ a n c n 0 0 n = some (sM μ c (va_cpy (μ a) (μ c) 0 0 n)) := by
  unfold cpA
  rw [wr_id (a := 0) (by decide) (by decide), wr_id (a := (n : Int)) (by omega) (by omega), if_pos (by omega)]
  rfl
theorem gZ_cpy {μ : Mm} {a c n : Nat} {i : Int} (h0 : 0 ≤ i) (h1 : i < n) : gZ (sM μ c (va_cpy (μ a) (μ c) 0 0 n)) c i = gZ μ a i := by
  unfold gZ gI sM va_cpy
  rw [if_pos rfl, if_pos (by omega)]
  simp
/-- Weave.become: a becomes b -/
theorem p_become (N : Nat) {a b : Nat} (μ : Mm) (hd : a + 9 ≤ b ∨ b + 9 ≤ a) : ∃ ν, fX7_become N a b μ = some ν ∧ (∀ r, (r < a ∨ a + 8 < r ∨ r = a + 7) → ν r = μ r) ∧ (∀ k, k ≠ 8 → gI ν a k = gI μ a k) ∧ gI ν a 8 = gI μ b 8 ∧ (∀ (j : Nat) (i : Int), 1 ≤ j → j ≤ 6 → 0 ≤ i → i < 8 → gZ ν (a + j) i = gZ μ (b + j) i) ∧ (∀ i : Int, 0 ≤ i → i < 192 → gZ ν (a + 8) i = gZ μ (b + 8) i) := by
  have c8 : ∀ (ν : Mm) (x y : Nat), cpA ν x 8 y 8 0 0 8 = some (sM ν y (va_cpy (ν x) (ν y) 0 0 8)) := fun ν x y => cpA_z (n := 8) (by decide)
  have c192 : ∀ (ν : Mm) (x y : Nat), cpA ν x 192 y 192 0 0 192 = some (sM ν y (va_cpy (ν x) (ν y) 0 0 192)) := fun ν x y => cpA_z (n := 192) (by decide)
  unfold fX7_become
  simp only [c8, c192, ob_s]
  generalize e1 : sM μ (a + 1) (va_cpy (μ (b + 1)) (μ (a + 1)) 0 0 8) = μ1
  generalize e2 : sM μ1 (a + 2) (va_cpy (μ1 (b + 2)) (μ1 (a + 2)) 0 0 8) = μ2
  generalize e3 : sM μ2 (a + 3) (va_cpy (μ2 (b + 3)) (μ2 (a + 3)) 0 0 8) = μ3
  generalize e4 : sM μ3 (a + 4) (va_cpy (μ3 (b + 4)) (μ3 (a + 4)) 0 0 8) = μ4
  generalize e5 : sM μ4 (a + 5) (va_cpy (μ4 (b + 5)) (μ4 (a + 5)) 0 0 8) = μ5
  generalize e6 : sM μ5 (a + 6) (va_cpy (μ5 (b + 6)) (μ5 (a + 6)) 0 0 8) = μ6
  generalize e8 : sM μ6 (a + 8) (va_cpy (μ6 (b + 8)) (μ6 (a + 8)) 0 0 192) = μ8
  have r1 : ∀ r, r ≠ a + 1 → μ1 r = μ r := fun r h => by rw [← e1, row_sM h]
  have r2 : ∀ r, r ≠ a + 2 → μ2 r = μ1 r := fun r h => by rw [← e2, row_sM h]
  have r3 : ∀ r, r ≠ a + 3 → μ3 r = μ2 r := fun r h => by rw [← e3, row_sM h]
  have r4 : ∀ r, r ≠ a + 4 → μ4 r = μ3 r := fun r h => by rw [← e4, row_sM h]
  have r5 : ∀ r, r ≠ a + 5 → μ5 r = μ4 r := fun r h => by rw [← e5, row_sM h]
  have r6 : ∀ r, r ≠ a + 6 → μ6 r = μ5 r := fun r h => by rw [← e6, row_sM h]
  have r8 : ∀ r, r ≠ a + 8 → μ8 r = μ6 r := fun r h => by rw [← e8, row_sM h]
  have g1 : ∀ i : Int, 0 ≤ i → i < 8 → gZ μ1 (a + 1) i = gZ μ (b + 1) i := fun i h0 h1 => by rw [← e1, gZ_cpy h0 (by omega)]
  have g2 : ∀ i : Int, 0 ≤ i → i < 8 → gZ μ2 (a + 2) i = gZ μ1 (b + 2) i := fun i h0 h1 => by rw [← e2, gZ_cpy h0 (by omega)]
  have g3 : ∀ i : Int, 0 ≤ i → i < 8 → gZ μ3 (a + 3) i = gZ μ2 (b + 3) i := fun i h0 h1 => by rw [← e3, gZ_cpy h0 (by omega)]
  have g4 : ∀ i : Int, 0 ≤ i → i < 8 → gZ μ4 (a + 4) i = gZ μ3 (b + 4) i := fun i h0 h1 => by rw [← e4, gZ_cpy h0 (by omega)]
  have g5 : ∀ i : Int, 0 ≤ i → i < 8 → gZ μ5 (a + 5) i = gZ μ4 (b + 5) i := fun i h0 h1 => by rw [← e5, gZ_cpy h0 (by omega)]
  have g6 : ∀ i : Int, 0 ≤ i → i < 8 → gZ μ6 (a + 6) i = gZ μ5 (b + 6) i := fun i h0 h1 => by rw [← e6, gZ_cpy h0 (by omega)]
  have g8 : ∀ i : Int, 0 ≤ i → i < 192 → gZ μ8 (a + 8) i = gZ μ6 (b + 8) i := fun i h0 h1 => by rw [← e8, gZ_cpy h0 (by omega)]
  have rb : ∀ r, (r < a ∨ a + 8 < r ∨ r = a + 7 ∨ r = a) → μ8 r = μ r := fun r h => by
    rw [r8 r (by omega), r6 r (by omega), r5 r (by omega), r4 r (by omega), r3 r (by omega), r2 r (by omega), r1 r (by omega)]
  refine ⟨_, rfl, fun r h => by rw [row_pI (by omega)]; exact rb r (by omega), fun k hk => by rw [gI_pI_k hk]; exact gI_row (rb a (by omega)) k, by rw [gI_pI_s, gI_row (rb b (by omega)), wr_gI], fun j i h1 h2 h3 h4 => ?_, fun i h0 h1 => ?_⟩
  · rw [gZ_pI_a (by omega)]
    rcases (show j = 1 ∨ j = 2 ∨ j = 3 ∨ j = 4 ∨ j = 5 ∨ j = 6 by omega) with rfl | rfl | rfl | rfl | rfl | rfl
    · rw [gZ_row (r8 _ (by omega)), gZ_row (r6 _ (by omega)), gZ_row (r5 _ (by omega)), gZ_row (r4 _ (by omega)), gZ_row (r3 _ (by omega)), gZ_row (r2 _ (by omega)), g1 i h3 h4]
    · rw [gZ_row (r8 _ (by omega)), gZ_row (r6 _ (by omega)), gZ_row (r5 _ (by omega)), gZ_row (r4 _ (by omega)), gZ_row (r3 _ (by omega)), g2 i h3 h4, gZ_row (r1 _ (by omega))]
    · rw [gZ_row (r8 _ (by omega)), gZ_row (r6 _ (by omega)), gZ_row (r5 _ (by omega)), gZ_row (r4 _ (by omega)), g3 i h3 h4, gZ_row (r2 _ (by omega)), gZ_row (r1 _ (by omega))]
    · rw [gZ_row (r8 _ (by omega)), gZ_row (r6 _ (by omega)), gZ_row (r5 _ (by omega)), g4 i h3 h4, gZ_row (r3 _ (by omega)), gZ_row (r2 _ (by omega)), gZ_row (r1 _ (by omega))]
    · rw [gZ_row (r8 _ (by omega)), gZ_row (r6 _ (by omega)), g5 i h3 h4, gZ_row (r4 _ (by omega)), gZ_row (r3 _ (by omega)), gZ_row (r2 _ (by omega)), gZ_row (r1 _ (by omega))]
    · rw [gZ_row (r8 _ (by omega)), g6 i h3 h4, gZ_row (r5 _ (by omega)), gZ_row (r4 _ (by omega)), gZ_row (r3 _ (by omega)), gZ_row (r2 _ (by omega)), gZ_row (r1 _ (by omega))]
  · rw [gZ_pI_a (by omega), g8 i h0 h1, gZ_row (r6 _ (by omega)), gZ_row (r5 _ (by omega)), gZ_row (r4 _ (by omega)), gZ_row (r3 _ (by omega)), gZ_row (r2 _ (by omega)), gZ_row (r1 _ (by omega))]
