/-! what was seen, the book, the text -/
theorem okp_tear (N : Nat) : ok_tear N Inv := by
  intro μ hI
  obtain ⟨t, u, hT, hL, hW, hU, hG, hN, hX, hS⟩ := id hI
  have ht := hT.r
  unfold fX8_tear fX9_tear fX3_forget
  simp only [ob_s]
  refine ⟨_, _, _, _, rfl, rfl, ?_, t, u, hT.fr ?_ ?_, hL.fr (fun r hr => ?_) ?_ ?_ ?_, hW.fr hL (fun r hr => ?_) (fun k _ _ => ?_), hU.fr hL (fun r hr => ?_) ?_ (fun k _ _ => ?_), hG.fr hL (fun r hr => ?_) (fun k _ _ => ?_), ?_, hX.fr (fun r hr => ?_) ?_ ?_, ?_⟩
  · simp (disch := first | omega | decide) only [gI_pI_a]
    rw [hN.1.1, hN.2.1.1]
  all_goals try (simp (disch := first | omega | decide) only [row_pI, row_pZ, gI_pI_a, gI_pZ_a, gI_pI_k, gZ_pI_a, gZ_pZ_a, gZ_pZ_n]; done)
  · unfold NotesR
    simp (disch := first | omega | decide) only [gI_pI_a, gI_pZ_a, gI_pI_k, gZ_pI_a, gZ_pZ_a, gI_pI_s, gZ_pZ_s, wr_id]
    exact ⟨⟨trivial, by decide, by decide⟩, ⟨trivial, by decide, by decide⟩, fun i _ _ => by omega, fun i _ _ => by omega⟩
  · simp (disch := first | omega | decide) only [gI_pI_a, gZ_pI_a]
    exact hS
theorem okp_feed (N : Nat) : ok_feed N Inv := by
  intro μ v hv hI
  obtain ⟨t, u, hT, hL, hW, hU, hG, hN, hX, hS⟩ := id hI
  have ht := hT.r
  obtain ⟨⟨x1, x2, x3⟩, x4, x5⟩ := id hX
  have hin : ∀ μ' : Mm, fX9_in N v 0 255 μ' = some (if 0 ≤ v ∧ v ≤ 255 then 1 else 0) := fun μ' => p_in N v 0 255 μ' (by omega) (by omega) (by omega)
  unfold fX8_feed fX9_feed fX4_append
  simp only [wr_id hv.1 hv.2, hin, ob_s, wr_gI]
  by_cases q : 0 ≤ v ∧ v ≤ 255
  · by_cases q2 : gI μ 1 1 = 240
    · refine ⟨-1000000004, -1000000004, μ, μ, ?_, ?_, rfl, hI⟩
      · simp (disch := first | omega | decide) only [if_pos, if_neg, gd_p, ob_s, bP_s, ldA_ok, stA_ok, wr_id]
      · rw [if_pos q, if_neg (by decide), if_pos (by omega)]
    · refine ⟨gI μ 1 1 + 1, gI μ 1 1 + 1, pI (pZ μ 2 (gI μ 1 1) v) 1 1 (gI μ 1 1 + 1), pI (pZ (pI (pZ μ 2 (gI μ 1 1) v) 1 1 (gI μ 1 1 + 1)) 339 (gI μ 1 1) v) 332 13 (gI μ 1 1 + 1), ?_, ?_, rfl, t, u, hT.fr ?_ ?_, hL.fr (fun r hr => ?_) ?_ ?_ ?_, hW.fr hL (fun r hr => ?_) (fun k _ _ => ?_), hU.fr hL (fun r hr => ?_) ?_ (fun k _ _ => ?_), hG.fr hL (fun r hr => ?_) (fun k _ _ => ?_), hN.fr (fun r hr => ?_) ?_ ?_, ?_, ?_⟩
      · simp (disch := first | omega | decide) only [if_pos, if_neg, gd_p, ob_s, bP_s, ldA_ok, stA_ok, wr_id, gI_pZ_a, gI_pI_s]
      · rw [if_pos q, if_neg (by decide)]
        simp (disch := first | omega | decide) only [if_pos, if_neg, gd_p, ob_s, bP_s, ldA_ok, stA_ok, wr_id, gI_pI_a, gI_pZ_a, gI_pI_s, ← x1]
      all_goals try (simp (disch := first | omega | decide) only [row_pI, row_pZ, gI_pI_a, gI_pZ_a, gI_pI_k, gZ_pI_a, gZ_pZ_a, gZ_pZ_n]; done)
      · unfold TextR
        simp (disch := first | omega | decide) only [gI_pI_a, gI_pZ_a, gI_pI_k, gZ_pI_a, gZ_pZ_a, gI_pI_s, gZ_pZ_s, wr_id]
        refine ⟨⟨trivial, by omega, by omega⟩, fun i h0 h1 => ?_, x5⟩
        by_cases q3 : i = gI μ 1 1
        · subst q3
          simp (disch := first | omega | decide) only [gI_pI_a, gI_pZ_a, gI_pI_k, gZ_pI_a, gZ_pZ_a, gI_pI_s, gZ_pZ_s, wr_id]
          exact ⟨trivial, q.1, q.2⟩
        · simp (disch := first | omega | decide) only [gZ_pI_a, gZ_pZ_a, gZ_pZ_n]
          exact x4 i h0 (by omega)
      · simp (disch := first | omega | decide) only [gI_pI_a, gI_pZ_a, gZ_pZ_a, gZ_pI_a]
        exact hS
  · refine ⟨-1000000002, -1000000002, μ, μ, ?_, ?_, rfl, hI⟩
    · by_cases q2 : v < 0
      · rw [if_pos q2]
      · rw [if_neg q2, if_neg (by omega)]
    · rw [if_neg q, if_pos (by decide)]
