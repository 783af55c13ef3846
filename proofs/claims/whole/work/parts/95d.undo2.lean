/-! undo, keep, goBack -/
theorem WRf.bd {K C : Int} {X : Nat → Int → Int} {p : Int} {v : Int → Int} (h : WRf K C X p v) : 0 ≤ p ∧ p ≤ 9030 ∧ p = v 48 := ⟨h.2.2.2.1.2.1, h.2.2.2.1.2.2.1, h.2.2.2.1.1⟩
theorem okp_undo (N : Nat) (hNB : NB N) : ok_undo N Inv := by
  intro μ n hn hI
  obtain ⟨t, u, hT, hL, hW, hU, hG, hN, hX, hS⟩ := id hI
  have ht := hT.r
  obtain ⟨⟨u1, u2⟩, ⟨u3, u4, u5⟩, u6⟩ := id hU
  have hin : ∀ μ' : Mm, fX9_in N n 1 30 μ' = some (if 1 ≤ n ∧ n ≤ 30 then 1 else 0) := fun μ' => p_in N n 1 30 μ' (by omega) (by omega) (by omega)
  unfold fX8_undo fX9_undo fX1_takeBack
  simp only [wr_id hn.1 hn.2, hin, ob_s, wr_gI]
  by_cases q : 1 ≤ n ∧ n ≤ 30
  · have m0 : 0 ≤ (gI μ 21 1 - n) % 30 ∧ (gI μ 21 1 - n) % 30 < 30 := by omega
    rw [p_floorMod30 N μ (by omega) (by omega), ob_s, p_weaveAt N μ m0.1 m0.2, ob_s, if_neg (by omega), if_pos (by omega)]
    by_cases q2 : n ≤ gI μ 21 2
    · generalize hB : 23 + 9 * ((gI μ 21 1 - n) % 30).toNat = B
      have hk : kd B = 5 := by rw [← hB]; exact kd_d m0.1 m0.2
      obtain ⟨ν, h1, h2, h3, h4, h5, h6⟩ := p_become N (a := 3) (b := B) μ (by omega)
      have hw := u6 (gI μ 21 2 - n).toNat (by omega)
      have ej : (((gI μ 21 2 - n).toNat : Nat) : Int) = gI μ 21 2 - n := by omega
      rw [ej, show (gI μ 21 1 - gI μ 21 2 + (gI μ 21 2 - n)) % 30 = (gI μ 21 1 - n) % 30 by omega, hB] at hw
      have e1 : gI ν 21 2 = gI μ 21 2 := gI_row (h2 21 (by decide)) 2
      -- the class' memory, the reference's
      have rx : ∀ r, (r < 3 ∨ 11 < r ∨ r = 10) → r ≠ 21 → (pI (pI ν 21 1 ((gI μ 21 1 - n) % 30)) 21 2 (gI μ 21 2 - n)) r = μ r := fun r a b => by rw [row_pI b, row_pI b, h2 r (by omega)]
      generalize hμ1 : pI (pI ν 21 1 ((gI μ 21 1 - n) % 30)) 21 2 (gI μ 21 2 - n) = μ1 at rx
      have c18 : gI μ1 332 18 = gI μ 21 2 := by rw [gI_row (rx 332 (by decide) (by decide)), u3]
      obtain ⟨ν2, f1, f2, f3⟩ := p_copy N hNB (x := 972 + 243 * (gI μ 21 2 - n)) (y := 0) (pI μ1 332 18 (gI μ 21 2 - n)) (by omega) (by omega) (by omega)
      have r333 : μ1 333 = μ 333 := rx 333 (by decide) (by decide)
      have v2 : ∀ k : Int, 0 ≤ k → gZ ν2 333 k = if k < 243 then gZ μ 333 (972 + 243 * (gI μ 21 2 - n) + k) else gZ μ 333 k := fun k a => by
        rw [f3 k a]
        by_cases y : k < 243
        · rw [if_pos (by omega), if_pos y, gZ_pI_a (by decide), gZ_row r333]
          congr 1
          omega
        · rw [if_neg (by omega), if_neg y, gZ_pI_a (by decide), gZ_row r333]
      have hsd : gZ (pI μ1 332 18 (gI μ 21 2 - n)) 333 242 = gZ μ 333 242 := by rw [gZ_pI_a (by decide), gZ_row r333]
      have rr : ∀ r, (r < 3 ∨ 11 < r ∨ r = 10) → r ≠ 21 → r ≠ 332 → r ≠ 333 → (pZ ν2 333 242 (gZ μ 333 242)) r = μ r := fun r a b c d => by rw [row_pZ d, f2 r d, row_pI c, rx r a b]
      have i21 : ∀ k, gI (pZ ν2 333 242 (gZ μ 333 242)) 21 k = gI μ1 21 k := fun k => by rw [gI_pZ_a (by decide), gI_row (f2 21 (by decide)), gI_pI_a (by decide)]
      have i332 : ∀ k, k ≠ 18 → gI (pZ ν2 333 242 (gZ μ 333 242)) 332 k = gI μ 332 k := fun k hk => by rw [gI_pZ_a (by decide), gI_row (f2 332 (by decide)), gI_pI_k hk, gI_row (rx 332 (by decide) (by decide))]
      have w48 : gZ μ 333 (972 + 243 * (gI μ 21 2 - n) + 48) = gI μ B 8 := (WRf.bd hw).2.2.symm
      refine ⟨gI μ B 8, gI μ B 8, μ1, pZ ν2 333 242 (gZ μ 333 242), ?_, ?_, rfl, t, u, hT.fr ?_ ?_, hL.fr (fun r hr => rr r (by omega) (by omega) (by omega) (by omega)) (i332 2 (by decide)) (i332 6 (by decide)) (i332 9 (by decide)), ?_, ?_, hG.fr hL (fun r hr => rr r (by omega) (by omega) (by omega) (by omega)) (fun k a b => ?_), hN.fr (fun r hr => rr r (by omega) (by omega) (by omega) (by omega)) (i332 _ (by decide)) (i332 _ (by decide)), hX.fr (fun r hr => rr r (by omega) (by omega) (by omega) (by omega)) (i332 _ (by decide)) (i332 _ (by decide)), ?_⟩
      · rw [if_neg (by omega), if_neg (by omega), Int.toNat_natCast, gd_p hk, h1]
        simp only [ob_s, bP_s]
        rw [if_neg (by decide), gI_pI_k (by decide), e1, hμ1, ← hμ1, gI_pI_a (by decide), gI_pI_a (by decide), h4]
      · rw [if_pos q, if_neg (by decide), if_pos (by rw [c18]; exact q2), ldA_ok (by decide) (by decide) (by decide), ob_s, gI_pI_s, c18, wr_id (a := gI μ 21 2 - n) (by omega) (by omega), hsd, f1, ob_s, stA_ok (by decide) (by decide) (by decide), ob_s, ldA_ok (by decide) (by decide) (by decide), ob_s, gZ_pZ_n (by decide) (by decide) (by decide), v2 48 (by decide), if_pos (by decide), w48]
      · rw [gI_row (rr 0 (by decide) (by decide) (by decide) (by decide))]
      · rw [gI_row (rr 0 (by decide) (by decide) (by decide) (by decide))]
      · have et := rr t (by omega) (by omega) (by omega) (by omega)
        have r3 : ∀ j, 0 ≤ j → j ≤ 8 → (pZ ν2 333 242 (gZ μ 333 242)) (3 + j) = ν (3 + j) := fun j a b => by
          rw [row_pZ (by omega), f2 _ (by omega), row_pI (by omega), ← hμ1, row_pI (by omega), row_pI (by omega)]
        refine hw.mv hL (gI_row et 5) (gI_row et 6) ?_ (fun j i a b c d e f => ?_) (fun k a b => ?_)
        · rw [gI_row (r3 0 (by decide) (by decide)), h4]
        · rw [gZ_row (r3 j (by omega) b)]
          by_cases y : j = 8
          · subst y; exact h6 i d e
          · exact h5 j i a (by omega) d (f y)
        · rw [Int.zero_add, gZ_pZ_n (by omega) (by omega) (by omega), v2 k a, if_pos (by omega)]
      · have n1 : gI μ1 21 1 = (gI μ 21 1 - n) % 30 := by rw [← hμ1, gI_pI_k (by decide), gI_pI_s, wr_id (by omega) (by omega)]
        have n2 : gI μ1 21 2 = gI μ 21 2 - n := by rw [← hμ1, gI_pI_s, wr_id (by omega) (by omega)]
        have n3 : gI (pZ ν2 333 242 (gZ μ 333 242)) 332 18 = gI μ 21 2 - n := by rw [gI_pZ_a (by decide), gI_row (f2 332 (by decide)), gI_pI_s, wr_id (by omega) (by omega)]
        unfold UndoR
        rw [i21, i21, n1, n2, n3]
        refine ⟨m0, ⟨rfl, by omega, by omega⟩, fun j hj => ?_⟩
        have hj2 := u6 j (by omega)
        rw [show ((gI μ 21 1 - n) % 30 - (gI μ 21 2 - n) + (j : Int)) % 30 = (gI μ 21 1 - gI μ 21 2 + j) % 30 by omega]
        refine hj2.fr hL (fun r hr => rr r (by omega) (by omega) (by omega) (by omega)) (fun k a b => ?_)
        rw [gZ_pZ_n (by omega) (by omega) (by omega), v2 _ (by omega), if_neg (by omega)]
      · rw [gZ_pZ_n (by omega) (by omega) (by omega), v2 _ (by omega), if_neg (by omega)]
      · rw [gI_row (rr 0 (by decide) (by decide) (by decide) (by decide)), gZ_pZ_s, wr_gZ]
        exact hS
    · refine ⟨-1000000003, -1000000003, μ, μ, ?_, ?_, rfl, hI⟩
      · rw [if_pos (by omega), bP_s, if_pos (by decide)]
      · rw [if_pos q, if_neg (by decide), if_neg (by omega)]
  · refine ⟨-1000000002, -1000000002, μ, μ, ?_, ?_, rfl, hI⟩
    · by_cases q2 : n < 1
      · rw [if_pos q2]
      · rw [if_neg q2, if_neg (by omega)]
    · rw [if_neg q, if_pos (by decide)]
