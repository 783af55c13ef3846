theorem lay_b (N : Nat) {μ : Mm} {o B : Int} (ho : 0 ≤ o ∧ o + 243 ≤ 8262) (hB : gZ μ 333 (o + 49) = B) (b0 : 0 ≤ B) (b1 : B ≤ 23) : ∀ (n : Nat) (x : Int) (ν : Mm), 0 ≤ x → x ≤ 8 → 8 - x < n → (∀ r, r ≠ 333 → ν r = μ r) → (∀ k, 0 ≤ k → gZ ν 333 k = if o + 50 + 8 * B ≤ k ∧ k < o + 50 + 8 * B + x then gZ μ 333 (o + 16 + (k - (o + 50 + 8 * B))) else gZ μ 333 k) → ∃ ν1, fX9_lay_l70 N o n x ν = fX9_lay_k117 N o ν1 ∧ (∀ r, r ≠ 333 → ν1 r = μ r) ∧ (∀ k, 0 ≤ k → gZ ν1 333 k = if o + 50 + 8 * B ≤ k ∧ k < o + 50 + 8 * B + 8 then gZ μ 333 (o + 16 + (k - (o + 50 + 8 * B))) else gZ μ 333 k) := by
  intro n
  induction n with
  | zero => intro x ν h0 h1 h2; omega
  | succ n ih =>
    intro x ν h0 h1 h2 hr hv
    rw [fX9_lay_l70, wr_id (a := x) (by omega) (by omega)]
    by_cases q : 8 ≤ x
    · rw [if_pos q]
      refine ⟨ν, rfl, hr, fun k hk => ?_⟩
      rw [hv k hk, show x = 8 by omega]
    · have e49 : gZ ν 333 (o + 49) = B := by rw [hv _ (by omega), if_neg (by omega)]; exact hB
      rw [if_neg q, ldA_ok (by omega) (by omega) (by omega), ob_s, ldA_ok (by omega) (by omega) (by omega), ob_s, e49, stA_ok (by omega) (by omega) (by omega), ob_s]
      refine ih (x + 1) _ (by omega) (by omega) (by omega) (fun r h => by rw [row_pZ h]; exact hr r h) (fun k hk => ?_)
      rw [gZ_pZ (by omega) hk]
      by_cases q2 : k = o + 50 + 8 * B + x
      · rw [if_pos q2, wr_gZ, hv _ (by omega), if_neg (by omega), if_pos (by omega)]
        congr 1
        omega
      · rw [if_neg q2, hv k hk]
        by_cases q3 : o + 50 + 8 * B ≤ k ∧ k < o + 50 + 8 * B + x
        · rw [if_pos q3, if_pos (by omega)]
        · rw [if_neg q3, if_neg (by omega)]
