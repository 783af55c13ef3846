/-! keep, goBack -/
theorem p_imageAt (N : Nat) {i : Nat} (μ : Mm) (h : i < 2) : fX8_imageAt N i μ = some ((312 + 10 * i : Nat) : Int) := by
  unfold fX8_imageAt
  rw [wr_id (by omega) (by omega), if_neg (by omega), if_neg (by omega), ckI_ok (by omega) (by omega) (by omega), ob_s, Int.toNat_natCast]
  rfl
theorem p_imageNo (N : Nat) {i : Int} (μ : Mm) (hi : -2147483648 ≤ i ∧ i < 2147483648) (h : ¬ (0 ≤ i ∧ i ≤ 1)) : fX8_imageAt N i μ = some (-1) := by
  unfold fX8_imageAt
  rw [wr_id hi.1 hi.2]
  by_cases q : i < 0
  · rw [if_pos q]
  · rw [if_neg q, if_pos (by omega)]
theorem kd_im {i : Nat} (h : i < 2) : kd (312 + 10 * i) = 1 ∧ kd (312 + 10 * i + 1) = 5 := by
  rcases (show i = 0 ∨ i = 1 by omega) with rfl | rfl <;> decide +kernel
theorem okp_keep (N : Nat) (hNB : NB N) : ok_keep N Inv := by
  intro μ y hy hI
  obtain ⟨t, u, hT, hL, hW, hU, hG, hN, hX, hS⟩ := id hI
  have ht := hT.r
  have hin : ∀ μ' : Mm, fX9_in N y 0 1 μ' = some (if 0 ≤ y ∧ y ≤ 1 then 1 else 0) := fun μ' => p_in N y 0 1 μ' (by omega) (by omega) (by omega)
  unfold fX8_keep fX9_keep fX1_forget
  simp only [wr_id hy.1 hy.2, hin, ob_s]
  by_cases q : 0 ≤ y ∧ y ≤ 1
  · obtain ⟨i, rfl⟩ : ∃ i : Nat, y = i := ⟨y.toNat, by omega⟩
    have hi : i < 2 := by omega
    have hk := kd_im hi
    obtain ⟨ν, h1, h2, h3, h4, h5, h6⟩ := p_become N (a := 312 + 10 * i + 1) (b := 3) μ (by omega)
    have s0 : gI ν 0 8 = gI μ 0 8 := gI_row (h2 0 (by omega)) 8
    generalize hμ1 : pI (pI (pI ν (312 + 10 * i) 1 (gI μ 0 8)) (312 + 10 * i) 2 1) 21 2 0 = μ1
    have rx : ∀ r, (r < 312 + 10 * i ∨ 321 + 10 * i < r ∨ r = 320 + 10 * i) → r ≠ 21 → μ1 r = μ r := fun r a b => by rw [← hμ1, row_pI b, row_pI (by omega), row_pI (by omega), h2 r (by omega)]
    have r333 : μ1 333 = μ 333 := rx 333 (by omega) (by decide)
    obtain ⟨ν2, f1, f2, f3⟩ := p_copy N hNB (x := 0) (y := 486 + 243 * (i : Int)) μ1 (by omega) (by omega) (by omega)
    generalize hμ2 : pI (pZ ν2 334 (i : Int) 1) 332 18 0 = μ2
    have rr : ∀ r, (r < 312 + 10 * i ∨ 321 + 10 * i < r ∨ r = 320 + 10 * i) → r ≠ 21 → r ≠ 332 → r ≠ 333 → r ≠ 334 → μ2 r = μ r := fun r a b c d e => by rw [← hμ2, row_pI c, row_pZ e, f2 r d, rx r a b]
    have i332 : ∀ k, k ≠ 18 → gI μ2 332 k = gI μ 332 k := fun k hk => by rw [← hμ2, gI_pI_k hk, gI_pZ_a (by decide), gI_row (f2 332 (by decide)), gI_row (rx 332 (by omega) (by decide))]
    have v2 : ∀ k : Int, 0 ≤ k → gZ μ2 333 k = if 486 + 243 * (i : Int) ≤ k ∧ k < 486 + 243 * (i : Int) + 243 then gZ μ 333 (k - (486 + 243 * (i : Int))) else gZ μ 333 k := fun k a => by
      rw [← hμ2, gZ_pI_a (by decide), gZ_pZ_a (by decide), f3 k a]
      by_cases yy : 486 + 243 * (i : Int) ≤ k ∧ k < 486 + 243 * (i : Int) + 243
      · rw [if_pos yy, if_pos yy, gZ_row r333]; congr 1; omega
      · rw [if_neg yy, if_neg yy, gZ_row r333]
    have z2 : ∀ k : Nat, gZ μ2 334 (k : Int) = if k = i then 1 else gZ μ 334 k := fun k => by
      rw [← hμ2, gZ_pI_a (by decide), gZ_pZ (by omega) (by omega), gZ_row (f2 334 (by decide)), gZ_row (rx 334 (by omega) (by decide)), wr_id (by decide) (by decide)]
      by_cases yy : k = i
      · rw [if_pos (by omega), if_pos yy]
      · rw [if_neg (by omega), if_neg yy]
    have im : ∀ r, 22 ≤ r → r ≤ 331 → μ2 r = μ1 r := fun r a b => by rw [← hμ2, row_pI (by omega), row_pZ (by omega), f2 r (by omega)]
    refine ⟨1, 1, μ1, μ2, ?_, ?_, rfl, t, u, hT.fr ?_ ?_, hL.fr (fun r hr => rr r (by omega) (by omega) (by omega) (by omega) (by omega)) (i332 2 (by decide)) (i332 6 (by decide)) (i332 9 (by decide)), hW.fr hL (fun r hr => rr r (by omega) (by omega) (by omega) (by omega) (by omega)) (fun k a b => ?_), ?_, ?_, hN.fr (fun r hr => rr r (by omega) (by omega) (by omega) (by omega) (by omega)) (i332 _ (by decide)) (i332 _ (by decide)), hX.fr (fun r hr => rr r (by omega) (by omega) (by omega) (by omega) (by omega)) (i332 _ (by decide)) (i332 _ (by decide)), ?_⟩
    · rw [p_imageAt N μ hi, ob_s, if_neg (by omega), Int.toNat_natCast, gd_p hk.1, gd_p hk.2, h1]
      simp only [ob_s]
      rw [s0, gd_p ⟨gI_lo _ _ _, gI_hi _ _ _⟩, hμ1]
    · rw [if_pos q, if_neg (by decide), f1, ob_s, stA_ok (by omega) (by omega) (by omega), ob_s, hμ2]
    · rw [gI_row (rr 0 (by omega) (by decide) (by decide) (by decide) (by decide))]
    · rw [gI_row (rr 0 (by omega) (by decide) (by decide) (by decide) (by decide))]
    · rw [Int.zero_add, v2 k a, if_neg (by omega)]
    · obtain ⟨⟨u1, u2⟩, -, -⟩ := hU
      have e21 : ∀ k, gI μ2 21 k = gI μ1 21 k := fun k => by rw [← hμ2, gI_pI_a (by decide), gI_pZ_a (by decide), gI_row (f2 21 (by decide))]
      have n1 : gI μ1 21 1 = gI μ 21 1 := by rw [← hμ1, gI_pI_k (by decide), gI_pI_a (by omega), gI_pI_a (by omega), gI_row (h2 21 (by omega))]
      have n2 : gI μ1 21 2 = 0 := by rw [← hμ1, gI_pI_s]; rfl
      have n3 : gI μ2 332 18 = 0 := by rw [← hμ2, gI_pI_s]; rfl
      unfold UndoR
      rw [e21, e21, n1, n2, n3]
      exact ⟨⟨u1, u2⟩, ⟨rfl, by decide, by decide⟩, fun j hj => absurd hj (by omega)⟩
    · intro k hkk
      rw [z2]
      by_cases yy : k = i
      · subst yy
        rw [if_pos rfl, gI_row (im (312 + 10 * k) (by omega) (by omega)), gI_row (im (312 + 10 * k) (by omega) (by omega))]
        have a1 : gI μ1 (312 + 10 * k) 2 = 1 := by rw [← hμ1, gI_pI_a (by omega), gI_pI_s]; rfl
        have a2 : gI μ1 (312 + 10 * k) 1 = gI μ 0 8 := by rw [← hμ1, gI_pI_a (by omega), gI_pI_k (by decide), gI_pI_s, wr_gI]
        rw [a1, a2]
        refine ⟨rfl, Or.inr ⟨rfl, ?_, ?_, hS.2⟩⟩
        · have et := rr t (by omega) (by omega) (by omega) (by omega) (by omega)
          have rw3 : ∀ j, 0 ≤ j → j ≤ 8 → μ2 (313 + 10 * k + j) = ν (312 + 10 * k + 1 + j) := fun j a b => by
            rw [im _ (by omega) (by omega), ← hμ1, row_pI (by omega), row_pI (by omega), row_pI (by omega)]
            congr 1
            omega
          refine hW.mv hL (gI_row et 5) (gI_row et 6) ?_ (fun j x a b c d e f => ?_) (fun x a b => ?_)
          · have h := rw3 0 (by decide) (by decide)
            simp only [Nat.add_zero] at h
            have e0 : gI μ2 (313 + 10 * k) 8 = gI ν (312 + 10 * k + 1) 8 := by
              unfold gI
              rw [h]
            exact e0.trans h4
          · have ez := rw3 j (by omega) b
            unfold gZ gI
            rw [ez]
            by_cases y8 : j = 8
            · subst y8; exact h6 x d e
            · exact h5 j x a (by omega) d (f y8)
          · rw [v2 _ (by omega), if_pos (by omega), Int.zero_add]
            congr 1
            omega
        · rw [v2 _ (by omega), if_pos (by omega), hS.1]
          congr 1
          omega
      · have hg := hG k hkk
        rw [if_neg yy, gI_row (rr (312 + 10 * k) (by omega) (by omega) (by omega) (by omega) (by omega)), gI_row (rr (312 + 10 * k) (by omega) (by omega) (by omega) (by omega) (by omega)), v2 _ (by omega), if_neg (by omega)]
        refine ⟨hg.1, hg.2.imp id (fun z => ⟨z.1, z.2.1.fr hL (fun r hr => rr r (by omega) (by omega) (by omega) (by omega) (by omega)) (fun x a b => ?_), z.2.2⟩)⟩
        rw [v2 _ (by omega), if_neg (by omega)]
    · rw [gI_row (rr 0 (by omega) (by decide) (by decide) (by decide) (by decide)), v2 242 (by decide), if_neg (by omega)]
      exact hS
  · refine ⟨-1000000001, -1000000001, μ, μ, ?_, ?_, rfl, hI⟩
    · rw [p_imageNo N μ hy q, ob_s, if_pos (by decide)]
    · rw [if_neg q, if_pos (by decide)]
