/-! a deed that changes one number: remember, then the number -/
theorem deed1 (N : Nat) (hNB : NB N) {μ : Mm} {t u J : Nat} {F c z : Int} (hT : TU μ t u) (hL : LoomR μ t) (hW : WR μ t 3 0) (hU : UndoR μ t) (hG : ImageR μ t) (hN : NotesR μ t) (hX : TextR μ) (hS : gI μ 0 8 = gZ μ 333 242 ∧ 0 ≤ gI μ 0 8) (hc : 0 ≤ c) (hJ : (J = 2 ∧ F = 0 ∧ 0 ≤ z ∧ z ≤ 3 ∧ c < gI μ t 6) ∨ (J = 3 ∧ F = 8 ∧ -99 ≤ z ∧ z ≤ 99 ∧ c < gI μ t 6) ∨ (J = 4 ∧ F = 16 ∧ -1 ≤ z ∧ z < gI μ t 5 ∧ c < gI μ t 6) ∨ (J = 5 ∧ F = 24 ∧ -1 ≤ z ∧ z ≤ 1 ∧ c < gI μ t 6) ∨ (J = 1 ∧ F = 32 ∧ 0 ≤ z ∧ z ≤ 1 ∧ c < gI μ t 6) ∨ (J = 6 ∧ F = 40 ∧ 0 ≤ z ∧ z ≤ 999 ∧ c < gI μ t 5)) : ∃ ν1, fX1_remember N 3 μ = some ν1 ∧ (∀ r, r < 21 → ν1 r = μ r) ∧ (∀ k, gI (pZ ν1 (3 + J) c z) 332 k = gI μ 332 k) ∧ ∃ ν2, fX9_remember N (pZ ν1 (3 + J) c z) = some ν2 ∧ (∀ k, 0 ≤ k → k < 972 → gZ ν2 333 k = gZ μ 333 k) ∧ Inv (pZ ν2 333 (F + c) z) := by
  have ht := hT.r
  obtain ⟨⟨e5, a5, b5⟩, ⟨e6, a6, b6⟩, -⟩ := id hL
  have hJb : 1 ≤ J ∧ J ≤ 6 ∧ 0 ≤ F ∧ F + c < 48 ∧ c < 8 ∧ -99 ≤ z ∧ z ≤ 999 := by omega
  obtain ⟨ν1, g1, g2, g3⟩ := rem_both N hNB hT hL hW hU
  obtain ⟨ν2, k1, k2, k3, k4, k5⟩ := g3 (pZ ν1 (3 + J) c z) (fun r hr => row_pZ (by omega))
  have rr : ∀ r, (r < 21 ∨ r = 22 ∨ 292 < r) → r ≠ 3 + J → r ≠ 332 → r ≠ 333 → (pZ ν2 333 (F + c) z) r = μ r := fun r h a b d => by
    rw [row_pZ d, k2 r b d, row_pZ a, g2 r h]
  refine ⟨ν1, g1, fun r h => g2 r (by omega), fun k => by rw [gI_pZ_a (by omega), gI_row (g2 332 (by decide))], ν2, k1, k4, t, u, hT.fr ?_ ?_, hL.fr (fun r hr => rr r (by omega) (by omega) (by omega) (by omega)) ?_ ?_ ?_, ?_, ?_, hG.fr hL (fun r hr => rr r (by omega) (by omega) (by omega) (by omega)) (fun k a b => ?_), hN.fr (fun r hr => rr r (by omega) (by omega) (by omega) (by omega)) ?_ ?_, hX.fr (fun r hr => rr r (by omega) (by omega) (by omega) (by omega)) ?_ ?_, ?_⟩
  · rw [gI_row (rr 0 (by decide) (by omega) (by decide) (by decide))]
  · rw [gI_row (rr 0 (by decide) (by omega) (by decide) (by decide))]
  · rw [gI_pZ_a (by decide), k3 _ (by decide)]
  · rw [gI_pZ_a (by decide), k3 _ (by decide)]
  · rw [gI_pZ_a (by decide), k3 _ (by decide)]
  · have et := gI_row (rr t (by omega) (by omega) (by omega) (by omega))
    unfold WR
    rw [et, et, gI_row (rr 3 (by decide) (by omega) (by decide) (by decide))]
    refine WRf.set ⟨a5, b5⟩ ⟨a6, b6⟩ hW hc hJ (fun j i a b d e f g => ?_) (fun k a b => ?_)
    · by_cases j1 : j = J
      · subst j1
        rw [gZ_pZ_a (by omega), gZ_row (k2 (3 + j) (by omega) (by omega)), gZ_pZ hc e, wr_id (by omega) (by omega), gZ_row (g2 (3 + j) (by omega))]
        by_cases ic : i = c
        · rw [if_pos ic, if_pos ⟨rfl, ic⟩]
        · rw [if_neg ic, if_neg (fun y => ic y.2)]
      · rw [if_neg (fun y => j1 y.1)]
        exact gZ_row (rr (3 + j) (by omega) (by omega) (by omega) (by omega)) i
    · rw [Int.zero_add, gZ_pZ (by omega) (by omega), wr_id (by omega) (by omega), k4 _ (by omega) (by omega)]
  · exact k5 _ (fun r a b => row_pZ b) (fun k a b => gZ_pZ_n (by omega) (by omega) (by omega))
  · rw [gZ_pZ_n (by omega) (by omega) (by omega), k4 _ (by omega) (by omega)]
  · rw [gI_pZ_a (by decide), k3 _ (by decide)]
  · rw [gI_pZ_a (by decide), k3 _ (by decide)]
  · rw [gI_pZ_a (by decide), k3 _ (by decide)]
  · rw [gI_pZ_a (by decide), k3 _ (by decide)]
  · rw [gI_row (rr 0 (by decide) (by omega) (by decide) (by decide)), gZ_pZ_n (by omega) (by omega) (by omega), k4 _ (by omega) (by omega)]
    exact hS
theorem okp_shift (N : Nat) (hNB : NB N) : ok_shift N Inv := by
  intro μ c n hc hn hI
  obtain ⟨t, u, hT, hL, hW, hU, hG, hN, hX, hS⟩ := id hI
  obtain ⟨⟨e5, a5, b5⟩, ⟨e6, a6, b6⟩, -⟩ := id hL
  have hin : ∀ μ' : Mm, fX9_in N n 0 3 μ' = some (if 0 ≤ n ∧ n ≤ 3 then 1 else 0) := fun μ' => p_in N n 0 3 μ' (by omega) (by omega) (by omega)
  unfold fX8_shift fX9_shift
  simp only [hT.t, gd_p hT.kt, p_hasCard N t c μ hc, ob_s, wr_id hn.1 hn.2, hin]
  by_cases q : 0 ≤ c ∧ c < gI μ t 6
  · by_cases q2 : 0 ≤ n ∧ n ≤ 3
    · have hcd := hW.cd q.1 q.2
      obtain ⟨ν1, g1, g2, g3, ν2, k1, k2, k3⟩ := deed1 N hNB (J := 2) (F := 0) (c := c) (z := (gZ μ 333 c + n) % 4) hT hL hW hU hG hN hX hS q.1 (Or.inl ⟨rfl, rfl, by omega, by omega, q.2⟩)
      rw [Int.zero_add] at k3
      have w5 : gZ ν1 5 c = gZ μ 333 c := by rw [gZ_row (g2 5 (by decide))]; exact hcd.1
      refine ⟨(gZ μ 333 c + n) % 4, (gZ μ 333 c + n) % 4, pZ ν1 5 c ((gZ μ 333 c + n) % 4), pZ ν2 333 c ((gZ μ 333 c + n) % 4), ?_, ?_, rfl, k3⟩
      · rw [if_pos q, if_neg (by decide), if_neg (by omega), if_pos (by omega), g1, ob_s, ldA_ok (by omega) (by omega) (by omega), ob_s, w5, andI_3, stA_ok (by omega) (by omega) (by omega), ob_s, ldA_ok (by omega) (by omega) (by omega), ob_s, gZ_pZ_s, wr_id (by omega) (by omega)]
      · rw [p_isCard N c _ (by rw [g3]; omega) hc, g3, e6, if_pos q, ob_s, if_neg (by decide), if_pos q2, if_neg (by decide), k1, ob_s, ldA_ok (by omega) (by omega) (by omega), ob_s, k2 _ (by omega) (by omega), rmI_p (by omega) (by omega) (by omega) (by omega), stA_ok (by omega) (by omega) (by omega), ob_s, ldA_ok (by omega) (by omega) (by omega), ob_s, gZ_pZ_s, wr_id (by omega) (by omega)]
    · refine ⟨-1000000002, -1000000002, μ, μ, ?_, ?_, rfl, hI⟩
      · rw [if_pos q, if_neg (by decide)]
        by_cases q3 : n < 0
        · rw [if_pos q3]
        · rw [if_neg q3, if_neg (by omega)]
      · rw [p_isCard N c μ (by omega) hc, e6, if_pos q, ob_s, if_neg (by decide), if_neg q2, if_pos (by decide)]
  · refine ⟨-1000000001, -1000000001, μ, μ, ?_, ?_, rfl, hI⟩
    · rw [if_neg q, if_pos (by decide)]
    · rw [p_isCard N c μ (by omega) hc, e6, if_neg q, ob_s, if_pos (by decide)]
theorem okp_buy (N : Nat) (hNB : NB N) : ok_buy N Inv := by
  intro μ c n hc hn hI
  obtain ⟨t, u, hT, hL, hW, hU, hG, hN, hX, hS⟩ := id hI
  obtain ⟨⟨e5, a5, b5⟩, ⟨e6, a6, b6⟩, -⟩ := id hL
  have hin : ∀ μ' : Mm, fX9_in N n 1 999 μ' = some (if 1 ≤ n ∧ n ≤ 999 then 1 else 0) := fun μ' => p_in N n 1 999 μ' (by omega) (by omega) (by omega)
  unfold fX8_buy fX9_buy
  simp only [hT.t, gd_p hT.kt, p_hasColour N t c μ hc, ob_s, wr_id hn.1 hn.2, hin]
  by_cases q : 0 ≤ c ∧ c < gI μ t 5
  · by_cases q2 : 1 ≤ n ∧ n ≤ 999
    · have hcd := hW.ya q.1 q.2
      generalize hz : (if gZ μ 333 (40 + c) + n < 999 then gZ μ 333 (40 + c) + n else 999) = z
      have hzb : 0 ≤ z ∧ z ≤ 999 ∧ (gZ μ 333 (40 + c) + n < 999 → z = gZ μ 333 (40 + c) + n) ∧ (¬ gZ μ 333 (40 + c) + n < 999 → z = 999) := by
        rw [← hz]
        by_cases y : gZ μ 333 (40 + c) + n < 999
        · rw [if_pos y]; omega
        · rw [if_neg y]; omega
      obtain ⟨ν1, g1, g2, g3, ν2, k1, k2, k3⟩ := deed1 N hNB (J := 6) (F := 40) (c := c) (z := z) hT hL hW hU hG hN hX hS q.1 (Or.inr (Or.inr (Or.inr (Or.inr (Or.inr ⟨rfl, rfl, hzb.1, hzb.2.1, q.2⟩)))))
      have w9 : gZ ν1 9 c = gZ μ 333 (40 + c) := by rw [gZ_row (g2 9 (by decide))]; exact hcd.1
      refine ⟨z, z, pZ ν1 9 c z, pZ ν2 333 (40 + c) z, ?_, ?_, rfl, k3⟩
      · rw [if_pos q, if_neg (by decide), if_neg (by omega), if_pos (by omega), g1, ob_s, ldA_ok (by omega) (by omega) (by omega), ob_s, w9, wr_id (a := gZ μ 333 (40 + c) + n) (by omega) (by omega), wr_id (a := 999) (by decide) (by decide), hz, stA_ok (by omega) (by omega) (by omega), ob_s, ldA_ok (by omega) (by omega) (by omega), ob_s, gZ_pZ_s, wr_id (by omega) (by omega)]
      · have hle : fX9_least N 999 (gZ μ 333 (40 + c) + n) ν2 = some z := by
          unfold fX9_least
          rw [wr_id (a := gZ μ 333 (40 + c) + n) (by omega) (by omega), wr_id (a := 999) (by decide) (by decide)]
          by_cases y : gZ μ 333 (40 + c) + n ≤ 999
          · rw [if_pos y]; congr 1; omega
          · rw [if_neg y]; congr 1; omega
        rw [p_isColour N c _ (by rw [g3]; omega) hc, g3, e5, if_pos q, ob_s, if_neg (by decide), if_pos q2, if_neg (by decide), k1, ob_s, ldA_ok (by omega) (by omega) (by omega), ob_s, k2 _ (by omega) (by omega), hle, ob_s, stA_ok (by omega) (by omega) (by omega), ob_s, ldA_ok (by omega) (by omega) (by omega), ob_s, gZ_pZ_s, wr_id (by omega) (by omega)]
    · refine ⟨-1000000002, -1000000002, μ, μ, ?_, ?_, rfl, hI⟩
      · rw [if_pos q, if_neg (by decide)]
        by_cases q3 : n < 1
        · rw [if_pos q3]
        · rw [if_neg q3, if_neg (by omega)]
      · rw [p_isColour N c μ (by omega) hc, e5, if_pos q, ob_s, if_neg (by decide), if_neg q2, if_pos (by decide)]
  · refine ⟨-1000000001, -1000000001, μ, μ, ?_, ?_, rfl, hI⟩
    · rw [if_neg q, if_pos (by decide)]
    · rw [p_isColour N c μ (by omega) hc, e5, if_neg q, ob_s, if_pos (by decide)]
