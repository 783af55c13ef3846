/-! goBack -/
theorem okp_goBack (N : Nat) (hNB : NB N) : ok_goBack N Inv := by
  intro μ y hy hI
  obtain ⟨t, u, hT, hL, hW, hU, hG, hN, hX, hS⟩ := id hI
  have ht := hT.r
  have hin : ∀ μ' : Mm, fX9_in N y 0 1 μ' = some (if 0 ≤ y ∧ y ≤ 1 then 1 else 0) := fun μ' => p_in N y 0 1 μ' (by omega) (by omega) (by omega)
  unfold fX8_goBack fX9_goBack fX1_forget
  simp only [wr_id hy.1 hy.2, hin, ob_s]
  by_cases q : 0 ≤ y ∧ y ≤ 1
  · obtain ⟨i, rfl⟩ : ∃ i : Nat, y = i := ⟨y.toNat, by omega⟩
    have hi : i < 2 := by omega
    have hk := kd_im hi
    have hg := hG i hi
    by_cases q2 : gZ μ 334 (i : Int) = 0
    · refine ⟨-1000000003, -1000000003, μ, μ, ?_, ?_, rfl, hI⟩
      · rw [p_imageAt N μ hi, ob_s, if_neg (by omega), Int.toNat_natCast, gd_p hk.1, wr_gI, if_pos (by omega)]
      · rw [if_pos q, if_neg (by decide), ldA_ok (by omega) (by omega) (by omega), ob_s, wr_gZ, if_pos q2]
    · obtain ⟨g1, g2⟩ := hg
      rcases g2 with g2 | ⟨g2, g3, g4, g5⟩
      · exact absurd g2 q2
      obtain ⟨ν, h1, h2, h3, h4, h5, h6⟩ := p_become N (a := 3) (b := 312 + 10 * i + 1) μ (by omega)
      have s1 : gI ν (312 + 10 * i) 1 = gI μ (312 + 10 * i) 1 := gI_row (h2 _ (by omega)) 1
      generalize hd : gI μ (312 + 10 * i) 1 = dv at *
      have hdr : -2147483648 ≤ dv ∧ dv < 2147483648 := by rw [← hd]; exact ⟨gI_lo _ _ _, gI_hi _ _ _⟩
      generalize hμ1 : pI (pI ν 0 8 dv) 21 2 0 = μ1
      have rx : ∀ r, (r < 3 ∨ 11 < r ∨ r = 10) → r ≠ 0 → r ≠ 21 → μ1 r = μ r := fun r a b c => by rw [← hμ1, row_pI c, row_pI b, h2 r (by omega)]
      have r333 : μ1 333 = μ 333 := rx 333 (by decide) (by decide) (by decide)
      obtain ⟨ν2, f1, f2, f3⟩ := p_copy N hNB (x := 486 + 243 * (i : Int)) (y := 0) μ1 (by omega) (by omega) (by omega)
      generalize hμ2 : pI ν2 332 18 0 = μ2
      have rr : ∀ r, (r < 3 ∨ 11 < r ∨ r = 10) → r ≠ 0 → r ≠ 21 → r ≠ 332 → r ≠ 333 → μ2 r = μ r := fun r a b c d e => by rw [← hμ2, row_pI d, f2 r e, rx r a b c]
      have i332 : ∀ k, k ≠ 18 → gI μ2 332 k = gI μ 332 k := fun k hk => by rw [← hμ2, gI_pI_k hk, gI_row (f2 332 (by decide)), gI_row (rx 332 (by decide) (by decide) (by decide))]
      have v2 : ∀ k : Int, 0 ≤ k → gZ μ2 333 k = if k < 243 then gZ μ 333 (486 + 243 * (i : Int) + k) else gZ μ 333 k := fun k a => by
        rw [← hμ2, gZ_pI_a (by decide), f3 k a]
        by_cases yy : k < 243
        · rw [if_pos (by omega), if_pos yy, gZ_row r333]; congr 1; omega
        · rw [if_neg (by omega), if_neg yy, gZ_row r333]
      have e0 : ∀ k, gI μ2 0 k = gI (pI ν 0 8 dv) 0 k := fun k => by rw [← hμ2, gI_pI_a (by decide), gI_row (f2 0 (by decide)), ← hμ1, gI_pI_a (by decide)]
      have e21 : ∀ k, gI μ2 21 k = gI μ1 21 k := fun k => by rw [← hμ2, gI_pI_a (by decide), gI_row (f2 21 (by decide))]
      refine ⟨1, 1, μ1, μ2, ?_, ?_, rfl, t, u, hT.fr ?_ ?_, hL.fr (fun r hr => rr r (by omega) (by omega) (by omega) (by omega) (by omega)) (i332 2 (by decide)) (i332 6 (by decide)) (i332 9 (by decide)), ?_, ?_, hG.fr hL (fun r hr => rr r (by omega) (by omega) (by omega) (by omega) (by omega)) (fun k a b => ?_), hN.fr (fun r hr => rr r (by omega) (by omega) (by omega) (by omega) (by omega)) (i332 _ (by decide)) (i332 _ (by decide)), hX.fr (fun r hr => rr r (by omega) (by omega) (by omega) (by omega) (by omega)) (i332 _ (by decide)) (i332 _ (by decide)), ?_⟩
      · rw [p_imageAt N μ hi, ob_s, if_neg (by omega), Int.toNat_natCast, gd_p hk.1, wr_gI, if_neg (by omega), gd_p hk.2, h1]
        simp only [ob_s]
        rw [s1, gd_p hdr, hμ1]
      · rw [if_pos q, if_neg (by decide), ldA_ok (by omega) (by omega) (by omega), ob_s, wr_gZ, gZ_row (rx 334 (by decide) (by decide) (by decide)), if_neg q2, f1, ob_s, hμ2]
      · rw [e0, gI_pI_k (by decide), gI_row (h2 0 (by decide))]
      · rw [e0, gI_pI_k (by decide), gI_row (h2 0 (by decide))]
      · have et := rr t (by omega) (by omega) (by omega) (by omega) (by omega)
        have r3 : ∀ j, 0 ≤ j → j ≤ 8 → μ2 (3 + j) = ν (3 + j) := fun j a b => by
          rw [← hμ2, row_pI (by omega), f2 _ (by omega), ← hμ1, row_pI (by omega), row_pI (by omega)]
        refine g3.mv hL (gI_row et 5) (gI_row et 6) ?_ (fun j x a b c d e f => ?_) (fun x a b => ?_)
        · rw [gI_row (r3 0 (by decide) (by decide)), h4]
          congr 1
          omega
        · rw [gZ_row (r3 j (by omega) b), show 313 + 10 * i + j = 312 + 10 * i + 1 + j by omega]
          by_cases y8 : j = 8
          · subst y8; exact h6 x d e
          · exact h5 j x a (by omega) d (f y8)
        · rw [Int.zero_add, v2 x a, if_pos (by omega)]
      · obtain ⟨⟨u1, u2⟩, -, -⟩ := hU
        have n1 : gI μ1 21 1 = gI μ 21 1 := by rw [← hμ1, gI_pI_k (by decide), gI_pI_a (by decide), gI_row (h2 21 (by decide))]
        have n2 : gI μ1 21 2 = 0 := by rw [← hμ1, gI_pI_s]; rfl
        have n3 : gI μ2 332 18 = 0 := by rw [← hμ2, gI_pI_s]; rfl
        unfold UndoR
        rw [e21, e21, n1, n2, n3]
        exact ⟨⟨u1, u2⟩, ⟨rfl, by decide, by decide⟩, fun j hj => absurd hj (by omega)⟩
      · rw [v2 k (by omega), if_neg (by omega)]
      · rw [e0, gI_pI_s, wr_id hdr.1 hdr.2, v2 242 (by decide), if_pos (by decide), g4]
        exact ⟨rfl, by omega⟩
  · refine ⟨-1000000001, -1000000001, μ, μ, ?_, ?_, rfl, hI⟩
    · rw [p_imageNo N μ hy q, ob_s, if_pos (by decide)]
    · rw [if_neg q, if_pos (by decide)]
