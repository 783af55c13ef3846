/-! see, write, judge -/
theorem okp_see (N : Nat) : ok_see N Inv := by
  intro μ c n k hc hn hk hI
  obtain ⟨t, u, hT, hL, hW, hU, hG, hN, hX, hS⟩ := id hI
  have ht := hT.r
  obtain ⟨⟨e5, a5, b5⟩, ⟨e6, a6, b6⟩, -⟩ := id hL
  obtain ⟨⟨n1, n2, n3⟩, ⟨m1, m2, m3⟩, n4, m4⟩ := id hN
  have hx : ∀ q : Prop, ∀ _ : Decidable q, True := fun _ _ => trivial
  unfold fX8_see fX9_see fX3_addSeen
  simp only [hT.t, gd_p hT.kt, p_hasCard N t c μ hc, p_hasColour N t k μ hk, ob_s, wr_id hn.1 hn.2, wr_gI]
  have hin : ∀ μ' : Mm, fX9_in N n 1 99 μ' = some (if 1 ≤ n ∧ n ≤ 99 then 1 else 0) := fun μ' => p_in N n 1 99 μ' (by omega) (by omega) (by omega)
  simp only [hin, ob_s]
  by_cases q1 : 0 ≤ c ∧ c < gI μ t 6
  · by_cases q2 : 0 ≤ k ∧ k < gI μ t 5
    · by_cases q3 : 1 ≤ n ∧ n ≤ 99
      · by_cases q4 : gI μ 293 5 = 8
        · refine ⟨-1000000004, -1000000004, μ, μ, ?_, ?_, rfl, hI⟩
          · simp (disch := first | omega | decide) only [if_pos, if_neg, gd_p, ob_s, bP_s, ldA_ok, stA_ok, wr_id]
          · rw [p_isCard N c μ (by omega) hc, p_isColour N k μ (by omega) hk, e5, e6]
            simp (disch := first | omega | decide) only [if_pos, if_neg, gd_p, ob_s, bP_s, ldA_ok, stA_ok, wr_id]
        · refine ⟨gI μ 293 5 + 1, gI μ 293 5 + 1, pI (pZ (pZ (pZ μ 294 (gI μ 293 5) c) 295 (gI μ 293 5) n) 296 (gI μ 293 5) k) 293 5 (gI μ 293 5 + 1), pI (pZ (pZ (pZ (pI (pZ (pZ (pZ μ 294 (gI μ 293 5) c) 295 (gI μ 293 5) n) 296 (gI μ 293 5) k) 293 5 (gI μ 293 5 + 1)) 341 (gI μ 293 5) c) 342 (gI μ 293 5) n) 343 (gI μ 293 5) k) 332 23 (gI μ 293 5 + 1), ?_, ?_, rfl, t, u, hT.fr ?_ ?_, hL.fr (fun r hr => ?_) ?_ ?_ ?_, hW.fr hL (fun r hr => ?_) (fun k _ _ => ?_), hU.fr hL (fun r hr => ?_) ?_ (fun k _ _ => ?_), hG.fr hL (fun r hr => ?_) (fun k _ _ => ?_), ?_, hX.fr (fun r hr => ?_) ?_ ?_, ?_⟩
          · simp (disch := first | omega | decide) only [if_pos, if_neg, gd_p, ob_s, bP_s, ldA_ok, stA_ok, wr_id, gI_pZ_a, gI_pI_s]
          · rw [p_isCard N c _ (by simp (disch := first | omega | decide) only [gI_pI_a, gI_pZ_a, gZ_pZ_a, gZ_pI_a]; omega) hc, p_isColour N k _ (by simp (disch := first | omega | decide) only [gI_pI_a, gI_pZ_a, gZ_pZ_a, gZ_pI_a]; omega) hk]
            simp (disch := first | omega | decide) only [gI_pI_a, gI_pZ_a, e5, e6]
            simp (disch := first | omega | decide) only [if_pos, if_neg, gd_p, ob_s, bP_s, ldA_ok, stA_ok, wr_id, gI_pI_a, gI_pZ_a, gI_pI_s, ← n1]
          all_goals try (simp (disch := first | omega | decide) only [row_pI, row_pZ, gI_pI_a, gI_pZ_a, gI_pI_k, gZ_pI_a, gZ_pZ_a, gZ_pZ_n]; done)
          · unfold NotesR
            simp (disch := first | omega | decide) only [gI_pI_a, gI_pZ_a, gI_pI_k, gZ_pI_a, gZ_pZ_a, gI_pI_s, gZ_pZ_s, wr_id, gI_pI_k]
            refine ⟨⟨trivial, by omega, by omega⟩, ⟨m1, m2, m3⟩, fun i h0 h1 => ?_, m4⟩
            by_cases q5 : i = gI μ 293 5
            · subst q5
              simp (disch := first | omega | decide) only [gI_pI_a, gI_pZ_a, gI_pI_k, gZ_pI_a, gZ_pZ_a, gI_pI_s, gZ_pZ_s, wr_id]
              exact ⟨trivial, q1.1, q1.2, trivial, q3.1, q3.2, trivial⟩
            · simp (disch := first | omega | decide) only [gZ_pI_a, gZ_pZ_a, gZ_pZ_n]
              exact n4 i h0 (by omega)
          · simp (disch := first | omega | decide) only [gI_pI_a, gI_pZ_a, gZ_pZ_a, gZ_pI_a]
            exact hS
      · refine ⟨-1000000002, -1000000002, μ, μ, ?_, ?_, rfl, hI⟩
        · rw [if_pos q1, if_pos q2, if_neg (by decide), if_neg (by decide)]
          by_cases q5 : n < 1
          · rw [if_pos q5]
          · rw [if_neg q5, if_neg (by omega)]
        · rw [p_isCard N c μ (by omega) hc, p_isColour N k μ (by omega) hk, e5, e6]
          simp (disch := first | omega | decide) only [if_pos, if_neg, ob_s]
    · refine ⟨-1000000001, -1000000001, μ, μ, ?_, ?_, rfl, hI⟩
      · simp (disch := first | omega | decide) only [if_pos, if_neg, ob_s]
      · rw [p_isCard N c μ (by omega) hc, p_isColour N k μ (by omega) hk, e5, e6]
        simp (disch := first | omega | decide) only [if_pos, if_neg, ob_s]
  · refine ⟨-1000000001, -1000000001, μ, μ, ?_, ?_, rfl, hI⟩
    · simp (disch := first | omega | decide) only [if_pos, if_neg, ob_s]
    · rw [p_isCard N c μ (by omega) hc, e6]
      simp (disch := first | omega | decide) only [if_pos, if_neg, ob_s]
theorem judge_l (N : Nat) {μ : Mm} {t : Nat} (hL : LoomR μ t) (hW : WR μ t 3 0) (hN : NotesR μ t) : ∀ (n : Nat) (i : Int), 0 ≤ i → i ≤ gI μ 293 6 → gI μ 293 6 - i < n → ∃ r, fX3_findWrong_l2 N 3 μ n i = some r ∧ fX9_judge_l2 N μ n i = some r := by
  obtain ⟨⟨n1, n2, n3⟩, ⟨m1, m2, m3⟩, n4, m4⟩ := id hN
  obtain ⟨⟨e5, a5, b5⟩, ⟨e6, a6, b6⟩, -⟩ := id hL
  intro n
  induction n with
  | zero => intro i h0 h1 h2; omega
  | succ n ih =>
    intro i h0 h1 h2
    rw [fX3_findWrong_l2, fX9_judge_l2]
    simp only [wr_gI, ← m1, wr_id (show -2147483648 ≤ i by omega) (show i < 2147483648 by omega)]
    by_cases q : i = gI μ 293 6
    · rw [if_pos (by omega), if_pos (by omega)]
      exact ⟨_, rfl, rfl⟩
    · have hm := m4 i h0 (by omega)
      have hcd := hW.cd hm.2.1 hm.2.2.1
      rw [if_neg (by omega), if_neg (by omega), if_neg (by omega)]
      rw [ldA_ok (by omega) (by omega) (by omega), ob_s, andI_7, ldA_ok (by omega) (by omega) (by omega), ob_s, ldA_ok (by omega) (by omega) (by omega), ob_s]
      rw [ldA_ok (by omega) (by omega) (by omega), ob_s, ldA_ok (by omega) (by omega) (by omega), ob_s, ldA_ok (by omega) (by omega) (by omega), ob_s]
      rw [hm.1, hm.2.2.2, show gZ μ 344 i % 8 = gZ μ 344 i by omega, hcd.2.2.2.2.2.2.1]
      by_cases q2 : wr (gZ μ 333 (16 + gZ μ 344 i)) = wr (gZ μ 345 i)
      · rw [if_pos q2, if_pos q2]
        exact ih (i + 1) (by omega) (by omega) (by omega)
      · rw [if_neg q2, if_neg q2]
        exact ⟨_, rfl, rfl⟩
theorem okp_judge (N : Nat) (hNB : NB N) : ok_judge N Inv := by
  intro μ hI
  obtain ⟨t, u, hT, hL, hW, hU, hG, hN, hX, hS⟩ := id hI
  have ht := hT.r
  obtain ⟨⟨e5, a5, b5⟩, ⟨e6, a6, b6⟩, -⟩ := id hL
  obtain ⟨⟨n1, n2, n3⟩, ⟨m1, m2, m3⟩, n4, m4⟩ := id hN
  unfold NB at hNB
  obtain ⟨r, h1, h2⟩ := judge_l N hL hW hN N 0 (by omega) (by omega) (by omega)
  unfold fX8_judge fX9_judge fX3_findWrong
  rw [h1, h2]
  exact ⟨_, _, rfl, rfl, rfl, hI⟩
