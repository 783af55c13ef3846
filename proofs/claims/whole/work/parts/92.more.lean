/-! write, plain, repeat, ahead -/
theorem okp_write (N : Nat) : ok_write N Inv := by
  intro μ c k hc hk hI
  obtain ⟨t, u, hT, hL, hW, hU, hG, hN, hX, hS⟩ := id hI
  have ht := hT.r
  obtain ⟨⟨e5, a5, b5⟩, ⟨e6, a6, b6⟩, -⟩ := id hL
  obtain ⟨⟨n1, n2, n3⟩, ⟨m1, m2, m3⟩, n4, m4⟩ := id hN
  unfold fX8_write fX9_write fX3_addEntry
  simp only [hT.t, gd_p hT.kt, p_hasCard N t c μ hc, p_hasColour N t k μ hk, ob_s, wr_id hk.1 hk.2, wr_gI]
  by_cases q1 : 0 ≤ c ∧ c < gI μ t 6
  · by_cases q2 : k = -1 ∨ (0 ≤ k ∧ k < gI μ t 5)
    · by_cases q4 : gI μ 293 6 = 20
      · refine ⟨-1000000004, -1000000004, μ, μ, ?_, ?_, rfl, hI⟩
        · by_cases q3 : k = -1
          · simp (disch := first | omega | decide) only [if_pos, if_neg, gd_p, ob_s, bP_s, ldA_ok, stA_ok, wr_id]
          · simp (disch := first | omega | decide) only [if_pos, if_neg, gd_p, ob_s, bP_s, ldA_ok, stA_ok, wr_id]
        · rw [p_isCard N c μ (by omega) hc, p_isColour N k μ (by omega) hk, e5, e6]
          by_cases q3 : k = -1
          · simp (disch := first | omega | decide) only [if_pos, if_neg, gd_p, ob_s, bP_s, ldA_ok, stA_ok, wr_id]
          · simp (disch := first | omega | decide) only [if_pos, if_neg, gd_p, ob_s, bP_s, ldA_ok, stA_ok, wr_id]
      · refine ⟨gI μ 293 6 + 1, gI μ 293 6 + 1, pI (pZ (pZ μ 297 (gI μ 293 6) c) 298 (gI μ 293 6) k) 293 6 (gI μ 293 6 + 1), pI (pZ (pZ (pI (pZ (pZ μ 297 (gI μ 293 6) c) 298 (gI μ 293 6) k) 293 6 (gI μ 293 6 + 1)) 344 (gI μ 293 6) c) 345 (gI μ 293 6) k) 332 26 (gI μ 293 6 + 1), ?_, ?_, rfl, t, u, hT.fr ?_ ?_, hL.fr (fun r hr => ?_) ?_ ?_ ?_, hW.fr hL (fun r hr => ?_) (fun k _ _ => ?_), hU.fr hL (fun r hr => ?_) ?_ (fun k _ _ => ?_), hG.fr hL (fun r hr => ?_) (fun k _ _ => ?_), ?_, hX.fr (fun r hr => ?_) ?_ ?_, ?_⟩
        · by_cases q3 : k = -1
          · simp (disch := first | omega | decide) only [if_pos, if_neg, gd_p, ob_s, bP_s, ldA_ok, stA_ok, wr_id, gI_pZ_a, gI_pI_s]
          · simp (disch := first | omega | decide) only [if_pos, if_neg, gd_p, ob_s, bP_s, ldA_ok, stA_ok, wr_id, gI_pZ_a, gI_pI_s]
        · rw [p_isCard N c _ (by simp (disch := first | omega | decide) only [gI_pI_a, gI_pZ_a, gZ_pZ_a, gZ_pI_a]; omega) hc, p_isColour N k _ (by simp (disch := first | omega | decide) only [gI_pI_a, gI_pZ_a, gZ_pZ_a, gZ_pI_a]; omega) hk]
          simp (disch := first | omega | decide) only [gI_pI_a, gI_pZ_a, e5, e6]
          by_cases q3 : k = -1
          · simp (disch := first | omega | decide) only [if_pos, if_neg, gd_p, ob_s, bP_s, ldA_ok, stA_ok, wr_id, gI_pI_a, gI_pZ_a, gI_pI_s, ← m1]
          · simp (disch := first | omega | decide) only [if_pos, if_neg, gd_p, ob_s, bP_s, ldA_ok, stA_ok, wr_id, gI_pI_a, gI_pZ_a, gI_pI_s, ← m1]
        all_goals try (simp (disch := first | omega | decide) only [row_pI, row_pZ, gI_pI_a, gI_pZ_a, gI_pI_k, gZ_pI_a, gZ_pZ_a, gZ_pZ_n]; done)
        · unfold NotesR
          simp (disch := first | omega | decide) only [gI_pI_a, gI_pZ_a, gI_pI_k, gZ_pI_a, gZ_pZ_a, gI_pI_s, gZ_pZ_s, wr_id, gI_pI_k]
          refine ⟨⟨n1, n2, n3⟩, ⟨trivial, by omega, by omega⟩, n4, fun i h0 h1 => ?_⟩
          by_cases q5 : i = gI μ 293 6
          · subst q5
            simp (disch := first | omega | decide) only [gI_pI_a, gI_pZ_a, gI_pI_k, gZ_pI_a, gZ_pZ_a, gI_pI_s, gZ_pZ_s, wr_id]
            exact ⟨trivial, q1.1, q1.2, trivial⟩
          · simp (disch := first | omega | decide) only [gZ_pI_a, gZ_pZ_a, gZ_pZ_n]
            exact m4 i h0 (by omega)
        · simp (disch := first | omega | decide) only [gI_pI_a, gI_pZ_a, gZ_pZ_a, gZ_pI_a]
          exact hS
    · refine ⟨-1000000001, -1000000001, μ, μ, ?_, ?_, rfl, hI⟩
      · simp (disch := first | omega | decide) only [if_pos, if_neg, gd_p, ob_s, bP_s, ldA_ok, stA_ok, wr_id]
      · rw [p_isCard N c μ (by omega) hc, p_isColour N k μ (by omega) hk, e5, e6]
        simp (disch := first | omega | decide) only [if_pos, if_neg, gd_p, ob_s, bP_s, ldA_ok, stA_ok, wr_id]
  · refine ⟨-1000000001, -1000000001, μ, μ, ?_, ?_, rfl, hI⟩
    · simp (disch := first | omega | decide) only [if_pos, if_neg, gd_p, ob_s, bP_s, ldA_ok, stA_ok, wr_id]
    · rw [p_isCard N c μ (by omega) hc, e6]
      simp (disch := first | omega | decide) only [if_pos, if_neg, gd_p, ob_s, bP_s, ldA_ok, stA_ok, wr_id]
theorem plain_ok (N : Nat) (a z : Int) (h0 : 0 ≤ a) (h1 : a ≤ 60) : ∀ (n : Nat) (x i : Int), 0 ≤ i → i ≤ a → a - i < n → ∃ r, fX9_plain_l34 N a z n x i = some r := by
  intro n
  induction n with
  | zero => intro x i q0 q1 q2; omega
  | succ n ih =>
    intro x i q0 q1 q2
    rw [fX9_plain_l34, wr_id (by omega) (by omega), wr_id (by omega) (by omega)]
    by_cases q : a ≤ i
    · rw [if_pos q]; exact ⟨_, rfl⟩
    · rw [if_neg q]
      exact ih _ _ (by omega) (by omega) (by omega)
theorem okp_plain (N : Nat) (hNB : NB N) : ok_plain N Inv := by
  intro μ a z ha hz hI
  unfold NB at hNB
  unfold fX8_plain fX9_plain
  rw [wr_id ha.1 ha.2, wr_id hz.1 hz.2, p_in N a 0 60 μ (by omega) (by omega) (by omega), p_in N z 0 100 μ (by omega) (by omega) (by omega)]
  by_cases q1 : 0 ≤ a ∧ a ≤ 60
  · by_cases q2 : 0 ≤ z ∧ z ≤ 100
    · obtain ⟨r, hr⟩ := plain_ok N a z q1.1 q1.2 N 1000000000 0 (by omega) (by omega) (by omega)
      simp (disch := first | omega | decide) only [if_pos, if_neg, gd_p, ob_s, bP_s, ldA_ok, stA_ok, wr_id, plain_l, hr]
      exact ⟨_, _, rfl, rfl, rfl, hI⟩
    · refine ⟨-1000000002, -1000000002, ?_, ?_, rfl, hI⟩
      · by_cases q3 : z < 0
        · simp (disch := first | omega | decide) only [if_pos, if_neg, gd_p, ob_s, bP_s, ldA_ok, stA_ok, wr_id]
        · simp (disch := first | omega | decide) only [if_pos, if_neg, gd_p, ob_s, bP_s, ldA_ok, stA_ok, wr_id]
      · simp (disch := first | omega | decide) only [if_pos, if_neg, gd_p, ob_s, bP_s, ldA_ok, stA_ok, wr_id]
  · refine ⟨-1000000002, -1000000002, ?_, ?_, rfl, hI⟩
    · by_cases q3 : a < 0
      · simp (disch := first | omega | decide) only [if_pos, if_neg, gd_p, ob_s, bP_s, ldA_ok, stA_ok, wr_id]
      · simp (disch := first | omega | decide) only [if_pos, if_neg, gd_p, ob_s, bP_s, ldA_ok, stA_ok, wr_id]
    · simp (disch := first | omega | decide) only [if_pos, if_neg, gd_p, ob_s, bP_s, ldA_ok, stA_ok, wr_id]
theorem okp_ahead (N : Nat) : ok_ahead N Inv := by
  intro μ c n w hc hn hw hI
  obtain ⟨t, u, hT, hL, hW, hU, hG, hN, hX, hS⟩ := id hI
  have ht := hT.r
  obtain ⟨⟨e5, a5, b5⟩, ⟨e6, a6, b6⟩, -⟩ := id hL
  obtain ⟨⟨n1, n2, n3⟩, ⟨m1, m2, m3⟩, n4, m4⟩ := id hN
  unfold fX8_ahead fX9_ahead fX8_ahead_j68 fX9_ahead_j67
  rw [hT.t, gd_p hT.kt, p_hasCard N t c μ hc, p_isCard N c μ (by omega) hc, e6, wr_id hn.1 hn.2, wr_id hw.1 hw.2, p_in N n 1 99 μ (by omega) (by omega) (by omega), p_in N w 0 1 μ (by omega) (by omega) (by omega)]
  by_cases q1 : 0 ≤ c ∧ c < gI μ t 6
  · by_cases q2 : 1 ≤ n ∧ n ≤ 99
    · have hcd := hW.cd q1.1 q1.2
      by_cases q3 : w = 0
      · have h1 := (r_col N hL (gZ μ 333 c + n - 1) q1.1 q1.2).1
        have h2 := p_colourOf N (gZ μ 333 c + n - 1) μ q1.1 (show c < 16 by omega)
        simp (disch := first | omega | decide) only [if_pos, if_neg, gd_p, ob_s, bP_s, ldA_ok, stA_ok, wr_id, hcd.1, h1, h2]
        exact ⟨_, _, rfl, rfl, rfl, hI⟩
      · by_cases q4 : w = 1
        · have h1 := (r_col N hL (gZ μ 333 c - n) q1.1 q1.2).1
          have h2 := p_colourOf N (gZ μ 333 c - n + 400) μ q1.1 (show c < 16 by omega)
          have h3 : (gZ μ 333 c - n + 400) % 4 = (gZ μ 333 c - n) % 4 := by omega
          rw [h3] at h2
          simp (disch := first | omega | decide) only [if_pos, if_neg, gd_p, ob_s, bP_s, ldA_ok, stA_ok, wr_id, hcd.1, h1, h2]
          exact ⟨_, _, rfl, rfl, rfl, hI⟩
        · refine ⟨-1000000002, -1000000002, ?_, ?_, rfl, hI⟩
          · by_cases q5 : w < 0
            · simp (disch := first | omega | decide) only [if_pos, if_neg, gd_p, ob_s, bP_s, ldA_ok, stA_ok, wr_id]
            · simp (disch := first | omega | decide) only [if_pos, if_neg, gd_p, ob_s, bP_s, ldA_ok, stA_ok, wr_id]
          · simp (disch := first | omega | decide) only [if_pos, if_neg, gd_p, ob_s, bP_s, ldA_ok, stA_ok, wr_id]
    · refine ⟨-1000000002, -1000000002, ?_, ?_, rfl, hI⟩
      · by_cases q5 : n < 1
        · simp (disch := first | omega | decide) only [if_pos, if_neg, gd_p, ob_s, bP_s, ldA_ok, stA_ok, wr_id]
        · simp (disch := first | omega | decide) only [if_pos, if_neg, gd_p, ob_s, bP_s, ldA_ok, stA_ok, wr_id]
      · simp (disch := first | omega | decide) only [if_pos, if_neg, gd_p, ob_s, bP_s, ldA_ok, stA_ok, wr_id]
  · refine ⟨-1000000001, -1000000001, ?_, ?_, rfl, hI⟩
    · simp (disch := first | omega | decide) only [if_pos, if_neg, gd_p, ob_s, bP_s, ldA_ok, stA_ok, wr_id]
    · simp (disch := first | omega | decide) only [if_pos, if_neg, gd_p, ob_s, bP_s, ldA_ok, stA_ok, wr_id]
