/-! remember, both sides -/
theorem WR.mv {μ ν : Mm} {t a b : Nat} {o o2 : Int} (h : WR μ t a o) (hL : LoomR μ t) (e5 : gI ν t 5 = gI μ t 5) (e6 : gI ν t 6 = gI μ t 6) (hp : gI ν b 8 = gI μ a 8) (hX : ∀ (j : Nat) (i : Int), 1 ≤ j → j ≤ 8 → j ≠ 7 → 0 ≤ i → i < 192 → (j ≠ 8 → i < 8) → gZ ν (b + j) i = gZ μ (a + j) i) (hv : ∀ k, 0 ≤ k → k < 242 → gZ ν 333 (o2 + k) = gZ μ 333 (o + k)) : WR ν t b o2 := by
  obtain ⟨⟨f5, a5, b5⟩, ⟨f6, a6, b6⟩, -⟩ := hL
  unfold WR
  rw [e5, e6, hp]
  exact WRf.fr ⟨a5, b5⟩ ⟨a6, b6⟩ h hX hv
theorem kd_d {n : Int} (h0 : 0 ≤ n) (h1 : n < 30) : kd (23 + 9 * n.toNat) = 5 := kd_dw (by omega)
theorem p_weaveAt (N : Nat) {n : Int} (μ : Mm) (h0 : 0 ≤ n) (h1 : n < 30) : fX1_weaveAt N n μ = some ((23 + 9 * n.toNat : Nat) : Int) := by
  unfold fX1_weaveAt
  rw [wr_id (by omega) (by omega), if_neg (by omega), if_neg (by omega), ckI_ok h0 (by omega) (by omega)]
  rfl
theorem x_remember (N : Nat) (μ : Mm) (hn : 0 ≤ gI μ 21 1 ∧ gI μ 21 1 < 30) (hc : 0 ≤ gI μ 21 2 ∧ gI μ 21 2 ≤ 30) : ∃ ν, fX1_remember N 3 μ = some ν ∧ (∀ r, (r < 21 ∨ r = 22 ∨ 292 < r) → ν r = μ r) ∧ gI ν 21 1 = (gI μ 21 1 + 1) % 30 ∧ gI ν 21 2 = (if gI μ 21 2 < 30 then gI μ 21 2 + 1 else 30) ∧ (∀ r, 23 ≤ r → r ≤ 292 → (r < 23 + 9 * (gI μ 21 1).toNat ∨ 23 + 9 * (gI μ 21 1).toNat + 8 < r) → ν r = μ r) ∧ gI ν (23 + 9 * (gI μ 21 1).toNat) 8 = gI μ 3 8 ∧ (∀ (j : Nat) (i : Int), 1 ≤ j → j ≤ 8 → j ≠ 7 → 0 ≤ i → i < 192 → (j ≠ 8 → i < 8) → gZ ν (23 + 9 * (gI μ 21 1).toNat + j) i = gZ μ (3 + j) i) := by
  generalize hB : 23 + 9 * (gI μ 21 1).toNat = B
  obtain ⟨ν, h1, h2, h3, h4, h5, h6⟩ := p_become N (a := B) (b := 3) μ (by omega)
  have hk : kd B = 5 := by rw [← hB]; exact kd_d hn.1 hn.2
  have e1 : gI ν 21 1 = gI μ 21 1 := gI_row (h2 21 (by omega)) 1
  have e2 : gI ν 21 2 = gI μ 21 2 := gI_row (h2 21 (by omega)) 2
  unfold fX1_remember
  rw [p_weaveAt N μ hn.1 hn.2, ob_s, if_neg (by omega), Int.toNat_natCast, hB, gd_p hk, h1]
  simp only [ob_s]
  rw [e1, rmI_p (by omega) (by omega) (by omega) (by omega)]
  refine ⟨_, rfl, fun r hr => ?_, ?_, ?_, fun r a1 a2 a3 => ?_, ?_, fun j i b1 b2 b3 b4 b5 b6 => ?_⟩
  · rw [row_pI (by omega), row_pI (by omega), h2 r (by omega)]
  · rw [gI_pI_k (by decide), gI_pI_s, wr_id (by omega) (by omega)]
  · rw [gI_pI_s, gI_pI_k (by decide), e2, wr_id (a := gI μ 21 2 + 1) (by omega) (by omega), wr_id (a := 30) (by decide) (by decide)]
    by_cases q : gI μ 21 2 < 30
    · rw [if_pos q]
      by_cases q2 : gI μ 21 2 + 1 < 30
      · rw [if_pos q2, wr_id (by omega) (by omega)]
      · rw [if_neg q2, wr_id (by decide) (by decide)]; omega
    · rw [if_neg q, if_neg (by omega), wr_id (by decide) (by decide)]
  · rw [row_pI (by omega), row_pI (by omega), h2 r (by omega)]
  · rw [gI_pI_a (by omega), gI_pI_a (by omega), h4]
  · rw [gZ_pI_a (by omega), gZ_pI_a (by omega)]
    by_cases q : j = 8
    · subst q
      exact h6 i b4 b5
    · exact h5 j i b1 (by omega) b4 (b6 q)
theorem m_shift_l (N : Nat) (hNB : NB N) (μ : Mm) : ∀ (n : Nat) (i : Int) (ν : Mm), 1 ≤ i → i ≤ 30 → 30 - i < n → (∀ r, r ≠ 333 → ν r = μ r) → (∀ k, 0 ≤ k → gZ ν 333 k = if 972 ≤ k ∧ k < 972 + 243 * (i - 1) then gZ μ 333 (k + 243) else gZ μ 333 k) → ∃ ν1, fX9_remember_l11 N n i ν = fX9_remember_k47 N ν1 ∧ (∀ r, r ≠ 333 → ν1 r = μ r) ∧ (∀ k, 0 ≤ k → gZ ν1 333 k = if 972 ≤ k ∧ k < 972 + 243 * 29 then gZ μ 333 (k + 243) else gZ μ 333 k) := by
  intro n
  induction n with
  | zero => intro i ν h0 h1 h2; omega
  | succ n ih =>
    intro i ν h0 h1 h2 hr hv
    rw [fX9_remember_l11, wr_id (by omega) (by omega)]
    by_cases q : 30 ≤ i
    · rw [if_pos q]
      have e : i = 30 := by omega
      subst e
      exact ⟨ν, rfl, hr, hv⟩
    · obtain ⟨ν1, g1, g2, g3⟩ := p_copy N hNB (x := 972 + 243 * i) (y := 972 + 243 * (i - 1)) ν (by omega) (by omega) (by omega)
      rw [if_neg q, g1, ob_s]
      refine ih (i + 1) ν1 (by omega) (by omega) (by omega) (fun r h => by rw [g2 r h]; exact hr r h) (fun k hk => ?_)
      rw [g3 k hk]
      by_cases q2 : 972 + 243 * (i - 1) ≤ k ∧ k < 972 + 243 * (i - 1) + 243
      · rw [if_pos q2, if_pos (by omega), hv _ (by omega), if_neg (by omega)]
        congr 1
        omega
      · rw [if_neg q2, hv k hk]
        by_cases q3 : 972 ≤ k ∧ k < 972 + 243 * (i - 1)
        · rw [if_pos q3, if_pos (by omega)]
        · rw [if_neg q3, if_neg (by omega)]
theorem m_remember (N : Nat) (hNB : NB N) (μ : Mm) (hc : 0 ≤ gI μ 332 18 ∧ gI μ 332 18 ≤ 30) : ∃ ν, fX9_remember N μ = some ν ∧ (∀ r, r ≠ 332 → r ≠ 333 → ν r = μ r) ∧ (∀ k, k ≠ 18 → gI ν 332 k = gI μ 332 k) ∧ gI ν 332 18 = (if gI μ 332 18 < 30 then gI μ 332 18 + 1 else 30) ∧ (∀ k, 0 ≤ k → k < 972 → gZ ν 333 k = gZ μ 333 k) ∧ (∀ j k : Int, 0 ≤ j → j < (if gI μ 332 18 < 30 then gI μ 332 18 else 29) → 0 ≤ k → k < 243 → gZ ν 333 (972 + 243 * j + k) = gZ μ 333 (972 + 243 * (if gI μ 332 18 < 30 then j else j + 1) + k)) ∧ (∀ k : Int, 0 ≤ k → k < 243 → gZ ν 333 (972 + 243 * (if gI μ 332 18 < 30 then gI μ 332 18 else 29) + k) = gZ μ 333 k) := by
  unfold fX9_remember
  rw [wr_gI]
  by_cases q : gI μ 332 18 = 30
  · have hN2 : 300 ≤ N := hNB
    obtain ⟨ν, g1, g2, g3⟩ := m_shift_l N hNB μ N 1 μ (by omega) (by omega) (by omega) (fun _ _ => rfl) (fun k _ => by rw [if_neg (by omega)])
    rw [if_pos q, g1]
    unfold fX9_remember_k47 fX9_remember_j57
    have e18 : gI ν 332 18 = 30 := (gI_row (g2 332 (by decide)) 18).trans q
    rw [e18, ob_s]
    obtain ⟨ν2, f1, f2, f3⟩ := p_copy N hNB (x := 0) (y := 972 + 243 * 29) (pI ν 332 18 29) (by omega) (by omega) (by omega)
    have e1 : gI (pI ν 332 18 (30 - 1)) 332 18 = 29 := by rw [gI_pI_s]; rfl
    rw [e1, show (30 - 1 : Int) = 29 from rfl, f1, ob_s, ob_s]
    have e2 : gI ν2 332 18 = 29 := (gI_row (f2 332 (by decide)) 18).trans e1
    simp only [q, if_neg (show ¬ (30 : Int) < 30 by decide)]
    refine ⟨_, rfl, fun r h1 h2 => ?_, fun k hk => ?_, ?_, fun k h0 h1 => ?_, fun j k h0 h1 h2 h3 => ?_, fun k h0 h1 => ?_⟩
    · rw [row_pI h1, f2 r h2, row_pI h1, g2 r h2]
    · rw [gI_pI_k hk, gI_row (f2 332 (by decide)), gI_pI_k hk, gI_row (g2 332 (by decide))]
    · rw [gI_pI_s, e2]; rfl
    · rw [gZ_pI_a (by decide), f3 k h0, if_neg (by omega), gZ_pI_a (by decide), g3 k h0, if_neg (by omega)]
    · rw [gZ_pI_a (by decide), f3 _ (by omega), if_neg (by omega), gZ_pI_a (by decide), g3 _ (by omega), if_pos (by omega)]
      congr 1
      omega
    · rw [gZ_pI_a (by decide), f3 _ (by omega), if_pos (by omega), gZ_pI_a (by decide), g3 _ (by omega), if_neg (by omega)]
      congr 1
      omega
  · rw [if_neg q]
    unfold fX9_remember_j57
    obtain ⟨ν2, f1, f2, f3⟩ := p_copy N hNB (x := 0) (y := 972 + 243 * gI μ 332 18) μ (by omega) (by omega) (by omega)
    rw [f1, ob_s, ob_s]
    have e2 : gI ν2 332 18 = gI μ 332 18 := gI_row (f2 332 (by decide)) 18
    simp only [if_pos (show gI μ 332 18 < 30 by omega)]
    refine ⟨_, rfl, fun r h1 h2 => ?_, fun k hk => ?_, ?_, fun k h0 h1 => ?_, fun j k h0 h1 h2 h3 => ?_, fun k h0 h1 => ?_⟩
    · rw [row_pI h1, f2 r h2]
    · rw [gI_pI_k hk, gI_row (f2 332 (by decide))]
    · rw [gI_pI_s, e2, wr_id (by omega) (by omega)]
    · rw [gZ_pI_a (by decide), f3 k h0, if_neg (by omega)]
    · rw [gZ_pI_a (by decide), f3 _ (by omega), if_neg (by omega)]
    · rw [gZ_pI_a (by decide), f3 _ (by omega), if_pos (by omega)]
      congr 1
      omega
