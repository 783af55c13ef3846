/-! one number of a state changes alike on both sides -/
theorem WRf.set {K C : Int} {X X' : Nat → Int → Int} {p : Int} {v v' : Int → Int} {J : Nat} {F c z : Int} (hK : 0 ≤ K ∧ K ≤ 8) (hC : 0 ≤ C ∧ C ≤ 8) (h : WRf K C X p v) (hc : 0 ≤ c) (hJ : (J = 2 ∧ F = 0 ∧ 0 ≤ z ∧ z ≤ 3 ∧ c < C) ∨ (J = 3 ∧ F = 8 ∧ -99 ≤ z ∧ z ≤ 99 ∧ c < C) ∨ (J = 4 ∧ F = 16 ∧ -1 ≤ z ∧ z < K ∧ c < C) ∨ (J = 5 ∧ F = 24 ∧ -1 ≤ z ∧ z ≤ 1 ∧ c < C) ∨ (J = 1 ∧ F = 32 ∧ 0 ≤ z ∧ z ≤ 1 ∧ c < C) ∨ (J = 6 ∧ F = 40 ∧ 0 ≤ z ∧ z ≤ 999 ∧ c < K)) (hX : ∀ j i, 1 ≤ j → j ≤ 8 → j ≠ 7 → 0 ≤ i → i < 192 → (j ≠ 8 → i < 8) → X' j i = if j = J ∧ i = c then z else X j i) (hv : ∀ k, 0 ≤ k → k < 242 → v' k = if k = F + c then z else v k) : WRf K C X' p v' := by
  obtain ⟨h1, h2, h3, h4, h5⟩ := h
  have hb : v 49 ≤ 24 ∧ 0 ≤ v 49 := by
    rw [h4.2.2.2]
    by_cases q : p < 24
    · rw [if_pos q]; omega
    · rw [if_neg q]; omega
  have hJ8 : J ≠ 8 ∧ F + c < 48 := by omega
  refine ⟨fun d a b => ?_, fun k a b => ?_, fun k a b => ?_, ?_, fun i d a b a2 b2 => ?_⟩
  · have := h1 d a b
    rw [hX 2 d (by decide) (by decide) (by decide) a (by omega) (fun _ => by omega), hX 3 d (by decide) (by decide) (by decide) a (by omega) (fun _ => by omega), hX 4 d (by decide) (by decide) (by decide) a (by omega) (fun _ => by omega), hX 5 d (by decide) (by decide) (by decide) a (by omega) (fun _ => by omega), hX 1 d (by decide) (by decide) (by decide) a (by omega) (fun _ => by omega), hv d (by omega) (by omega), hv (8 + d) (by omega) (by omega), hv (16 + d) (by omega) (by omega), hv (24 + d) (by omega) (by omega), hv (32 + d) (by omega) (by omega)]
    by_cases e : d = c
    · subst e
      rcases hJ with ⟨rfl, rfl, q⟩ | ⟨rfl, rfl, q⟩ | ⟨rfl, rfl, q⟩ | ⟨rfl, rfl, q⟩ | ⟨rfl, rfl, q⟩ | ⟨rfl, rfl, q⟩ <;> simp (disch := omega) only [and_self, true_and, and_true, ↓reduceIte, if_pos, if_neg] <;> omega
    · rcases hJ with ⟨rfl, rfl, q⟩ | ⟨rfl, rfl, q⟩ | ⟨rfl, rfl, q⟩ | ⟨rfl, rfl, q⟩ | ⟨rfl, rfl, q⟩ | ⟨rfl, rfl, q⟩ <;> simp (disch := omega) only [and_self, true_and, and_true, ↓reduceIte, if_pos, if_neg] <;> omega
  · have := h2 k a b
    rw [hX 6 k (by decide) (by decide) (by decide) a (by omega) (fun _ => by omega), hv (40 + k) (by omega) (by omega)]
    by_cases e : k = c
    · subst e
      rcases hJ with ⟨rfl, rfl, q⟩ | ⟨rfl, rfl, q⟩ | ⟨rfl, rfl, q⟩ | ⟨rfl, rfl, q⟩ | ⟨rfl, rfl, q⟩ | ⟨rfl, rfl, q⟩ <;> simp (disch := omega) only [and_self, true_and, and_true, ↓reduceIte, if_pos, if_neg] <;> omega
    · rcases hJ with ⟨rfl, rfl, q⟩ | ⟨rfl, rfl, q⟩ | ⟨rfl, rfl, q⟩ | ⟨rfl, rfl, q⟩ | ⟨rfl, rfl, q⟩ | ⟨rfl, rfl, q⟩ <;> simp (disch := omega) only [and_self, true_and, and_true, ↓reduceIte, if_pos, if_neg] <;> omega
  · rw [hv (40 + k) (by omega) (by omega), if_neg (by omega)]
    exact h3 k a b
  · rw [hv 48 (by decide) (by decide), hv 49 (by decide) (by decide), if_neg (by omega), if_neg (by omega)]
    exact h4
  · rw [hv 49 (by decide) (by decide), if_neg (by omega)] at b ⊢
    have m1 := Int.emod_nonneg (p - 1 - i) (show (24 : Int) ≠ 0 by decide)
    have m2 := Int.emod_lt_of_pos (p - 1 - i) (show (0 : Int) < 24 by decide)
    rw [hX 8 _ (by decide) (by decide) (by decide) (by omega) (by omega) (fun q => absurd rfl q), hv _ (by omega) (by omega), if_neg (by omega), if_neg (by omega)]
    exact h5 i d a b a2 b2
theorem okp_flip (N : Nat) (hNB : NB N) : ok_flip N Inv := by
  intro μ c hc hI
  obtain ⟨t, u, hT, hL, hW, hU, hG, hN, hX, hS⟩ := id hI
  have ht := hT.r
  obtain ⟨⟨e5, a5, b5⟩, ⟨e6, a6, b6⟩, -⟩ := id hL
  unfold fX8_flip fX9_flip
  simp only [hT.t, gd_p hT.kt, p_hasCard N t c μ hc, ob_s]
  by_cases q : 0 ≤ c ∧ c < gI μ t 6
  · obtain ⟨ν1, g1, g2, g3⟩ := rem_both N hNB hT hL hW hU
    have hcd := hW.cd q.1 q.2
    have w4 : gZ ν1 4 c = gZ μ 333 (32 + c) := by rw [gZ_row (g2 4 (by decide))]; exact hcd.2.2.2.2.2.2.2.2.2.2.2.2.1
    generalize hz : 1 - gZ μ 333 (32 + c) = z at *
    have hzb : 0 ≤ z ∧ z ≤ 1 := by omega
    obtain ⟨ν2, k1, k2, k3, k4, k5⟩ := g3 (pZ ν1 4 c z) (fun r hr => row_pZ (by omega))
    have rr : ∀ r, (r < 21 ∨ r = 22 ∨ 292 < r) → r ≠ 4 → r ≠ 332 → r ≠ 333 → (pZ ν2 333 (32 + c) z) r = μ r := fun r h a b d => by
      rw [row_pZ d, k2 r b d, row_pZ a, g2 r h]
    refine ⟨z, z, pZ ν1 4 c z, pZ ν2 333 (32 + c) z, ?_, ?_, rfl, t, u, hT.fr ?_ ?_, hL.fr (fun r hr => rr r (by omega) (by omega) (by omega) (by omega)) ?_ ?_ ?_, ?_, ?_, hG.fr hL (fun r hr => rr r (by omega) (by omega) (by omega) (by omega)) (fun k a b => ?_), hN.fr (fun r hr => rr r (by omega) (by omega) (by omega) (by omega)) ?_ ?_, hX.fr (fun r hr => rr r (by omega) (by omega) (by omega) (by omega)) ?_ ?_, ?_⟩
    · rw [if_pos q, if_neg (by decide), g1, ob_s, ldA_ok (by omega) (by omega) (by omega), ob_s, w4, hz, stA_ok (by omega) (by omega) (by omega), ob_s, ldA_ok (by omega) (by omega) (by omega), ob_s, gZ_pZ_s, wr_id (by omega) (by omega)]
    · rw [p_isCard N c _ (by rw [gI_pZ_a (by decide), gI_row (g2 332 (by decide))]; omega) hc, gI_pZ_a (by decide), gI_row (g2 332 (by decide)), e6, if_pos q, ob_s, if_neg (by decide), k1, ob_s, ldA_ok (by omega) (by omega) (by omega), ob_s, k4 _ (by omega) (by omega), hz, stA_ok (by omega) (by omega) (by omega), ob_s, ldA_ok (by omega) (by omega) (by omega), ob_s, gZ_pZ_s, wr_id (by omega) (by omega)]
    · rw [gI_row (rr 0 (by decide) (by decide) (by decide) (by decide))]
    · rw [gI_row (rr 0 (by decide) (by decide) (by decide) (by decide))]
    · rw [gI_pZ_a (by decide), k3 _ (by decide)]
    · rw [gI_pZ_a (by decide), k3 _ (by decide)]
    · rw [gI_pZ_a (by decide), k3 _ (by decide)]
    · have et := gI_row (rr t (by omega) (by omega) (by omega) (by omega))
      unfold WR
      rw [et, et, gI_row (rr 3 (by decide) (by decide) (by decide) (by decide))]
      refine WRf.set ⟨a5, b5⟩ ⟨a6, b6⟩ hW q.1 (Or.inr (Or.inr (Or.inr (Or.inr (Or.inl ⟨rfl, rfl, hzb.1, hzb.2, q.2⟩))))) (fun j i a b d e f g => ?_) (fun k a b => ?_)
      · by_cases j1 : j = 1
        · subst j1
          rw [gZ_pZ_a (by decide), gZ_row (k2 4 (by decide) (by decide)), gZ_pZ q.1 e, wr_id (by omega) (by omega), gZ_row (g2 4 (by decide))]
          by_cases ic : i = c
          · rw [if_pos ic, if_pos ⟨rfl, ic⟩]
          · rw [if_neg ic, if_neg (fun y => ic y.2)]
        · rw [if_neg (fun y => j1 y.1)]
          exact gZ_row (rr (3 + j) (by omega) (by omega) (by omega) (by omega)) i
      · rw [Int.zero_add, gZ_pZ (by omega) (by omega), wr_id (by omega) (by omega), k4 _ (by omega) (by omega)]
    · exact k5 _ (fun r a b => row_pZ b) (fun k a b => gZ_pZ_n (by omega) (by omega) (by omega))
    · rw [gZ_pZ_n (by omega) (by omega) (by omega), k4 _ (by omega) (by omega)]
    · rw [gI_pZ_a (by decide), k3 _ (by decide)]
    · rw [gI_pZ_a (by decide), k3 _ (by decide)]
    · rw [gI_pZ_a (by decide), k3 _ (by decide)]
    · rw [gI_pZ_a (by decide), k3 _ (by decide)]
    · rw [gI_row (rr 0 (by decide) (by decide) (by decide) (by decide)), gZ_pZ_n (by omega) (by omega) (by omega), k4 _ (by omega) (by omega)]
      exact hS
  · refine ⟨-1000000001, -1000000001, μ, μ, ?_, ?_, rfl, hI⟩
    · rw [if_neg q, if_pos (by decide)]
    · rw [p_isCard N c μ (by omega) hc, e6, if_neg q, ob_s, if_pos (by decide)]
