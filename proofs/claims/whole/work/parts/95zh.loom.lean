/-! loom as a whole -/
theorem LoomR.fr2 {μ ν : Mm} {t : Nat} (h : LoomR μ t) (hr : ∀ r, t ≤ r → r ≤ t + 4 → ν r = μ r) (h5 : ∀ i, 0 ≤ i → i < 32 → gZ ν 335 i = gZ μ 335 i) (h7 : ∀ i, 0 ≤ i → i < 4 → gZ ν 337 i = gZ μ 337 i) (f2 : gI ν 332 2 = gI μ 332 2) (f6 : gI ν 332 6 = gI μ 332 6) (f9 : gI ν 332 9 = gI μ 332 9) : LoomR ν t := by
  have e0 := gI_row (hr t (by omega) (by omega))
  have e1 := gZ_row (hr (t + 1) (by omega) (by omega))
  have e3 := gZ_row (hr (t + 3) (by omega) (by omega))
  have e4 := gZ_row (hr (t + 4) (by omega) (by omega))
  obtain ⟨a1, a2, a3, a4, a5, a6, a7, a8⟩ := h
  unfold LoomR
  simp only [e0, e1, e3, e4, f2, f6, f9]
  refine ⟨a1, a2, a3, a4, fun j j0 j1 => ?_, fun k k0 k1 => ?_, fun c hc => ?_, a8⟩
  · rw [h5 j j0 (by omega)]; exact a5 j j0 j1
  · rw [h7 k k0 (by omega)]; exact a6 k k0 k1
  · refine (a7 c hc).imp (fun z => ⟨z.1, fun k k0 k1 => ?_⟩) (fun z => ⟨z.1, z.2.1, fun k k0 k1 => ?_⟩)
    · rw [h7 k k0 (by omega)]; exact z.2 k k0 k1
    · rw [h7 k k0 (by omega)]; exact z.2.2 k k0 k1
theorem m_l32 (N : Nat) {μ : Mm} : ∀ (n : Nat) (i : Int) (ν : Mm), 0 ≤ i → i ≤ 8 → 8 - i < n → (∀ r, r ≠ 338 → ν r = μ r) → (∀ k, 0 ≤ k → k < i → gZ ν 338 k = 500) → ∃ ν1, fX9_loom_l32 N n i ν = fX9_loom_k53 N ν1 ∧ (∀ r, r ≠ 338 → ν1 r = μ r) ∧ (∀ k, 0 ≤ k → k < 8 → gZ ν1 338 k = 500) := by
  intro n
  induction n with
  | zero => intro i ν h0 h1 h2; omega
  | succ n ih =>
    intro i ν h0 h1 h2 hr hv
    rw [fX9_loom_l32, wr_id (a := i) (by omega) (by omega)]
    by_cases q : 8 ≤ i
    · rw [if_pos q]; exact ⟨ν, rfl, hr, fun k a b => hv k a (by omega)⟩
    · rw [if_neg q, stA_ok h0 (by omega) (by omega), ob_s]
      refine ih (i + 1) _ (by omega) (by omega) (by omega) (fun r h => by rw [row_pZ h]; exact hr r h) (fun k k0 k1 => ?_)
      rw [gZ_pZ h0 k0]
      by_cases z : k = i
      · rw [if_pos z]; decide
      · rw [if_neg z]; exact hv k k0 (by omega)
/-- the reference as its reading begins -/
theorem m_beg (N : Nat) (hNB : NB N) (μ : Mm) : ∃ ν, fX9_loom N μ = fX9_loom_l53 N N ν ∧ (∀ r, r ≠ 332 → r ≠ 338 → ν r = μ r) ∧ (gI ν 332 14 = 0 ∧ gI ν 332 16 = 0 ∧ gI ν 332 17 = -1 ∧ gI ν 332 3 = 0 ∧ gI ν 332 7 = 0 ∧ gI ν 332 10 = 0) ∧ (∀ k, k ≠ 14 → k ≠ 16 → k ≠ 17 → k ≠ 3 → k ≠ 7 → k ≠ 10 → gI ν 332 k = gI μ 332 k) ∧ (∀ k, 0 ≤ k → k < 8 → gZ ν 338 k = 500) := by
  have hN2 : 300 ≤ N := hNB
  unfold fX9_loom
  simp only [ob_s]
  obtain ⟨ν, a1, a2, a3⟩ := m_l32 N (μ := pI (pI (pI (pI (pI (pI μ 332 14 0) 332 16 0) 332 17 (-1)) 332 3 0) 332 7 0) 332 10 0) N 0 _ (by decide) (by decide) (by omega) (fun _ _ => rfl) (fun k _ _ => by omega)
  have e := fun k => gI_row (a2 332 (by decide)) k
  refine ⟨ν, by rw [a1]; rfl, fun r h h8 => by rw [a2 r h8, row_pI h, row_pI h, row_pI h, row_pI h, row_pI h, row_pI h], ⟨?_, ?_, ?_, ?_, ?_, ?_⟩, fun k h14 h16 h17 h3 h7 h10 => by rw [e, gI_pI_k h10, gI_pI_k h7, gI_pI_k h3, gI_pI_k h17, gI_pI_k h16, gI_pI_k h14], a3⟩
  · rw [e, gI_pI_k (by decide), gI_pI_k (by decide), gI_pI_k (by decide), gI_pI_k (by decide), gI_pI_k (by decide), gI_pI_s]; decide
  · rw [e, gI_pI_k (by decide), gI_pI_k (by decide), gI_pI_k (by decide), gI_pI_k (by decide), gI_pI_s]; decide
  · rw [e, gI_pI_k (by decide), gI_pI_k (by decide), gI_pI_k (by decide), gI_pI_s]; decide
  · rw [e, gI_pI_k (by decide), gI_pI_k (by decide), gI_pI_s]; decide
  · rw [e, gI_pI_k (by decide), gI_pI_s]; decide
  · rw [e, gI_pI_s]; decide
/-- the class as its reading begins -/
theorem x_beg (N : Nat) (hNB : NB N) (μ : Mm) {u : Nat} (hu : 12 < u) : ∃ ν, fX4_readInto N u μ = Option.bind (fX4_skipBlanks N ν) (fun μ10 => fX4_readInto_l25 N u N 0 μ10) ∧ (∀ r, r ≠ 1 → r ≠ u → r ≠ u + 3 → r ≠ u + 5 → ν r = μ r) ∧ (gI ν 1 2 = 0 ∧ gI ν 1 4 = 0 ∧ gI ν 1 5 = -1 ∧ gI ν 1 1 = gI μ 1 1) ∧ (gI ν u 5 = 0 ∧ gI ν u 6 = 0 ∧ gI ν u 7 = 0 ∧ gI ν u 8 = 0) ∧ (∀ i, 0 ≤ i → i < 8 → gZ ν (u + 3) i = -1 ∧ gZ ν (u + 5) i = 500) := by
  unfold fX4_readInto fX5_clear
  simp only [ob_s]
  obtain ⟨μ1, a1, a2, a3⟩ := x_fill N hNB (μ := pI (pI (pI (pI (pI (pI (pI μ 1 2 0) 1 4 0) 1 5 (-1)) u 5 0) u 6 0) u 7 0) u 8 0) (a := u + 3) (y := -1) (by decide)
  rw [a1, ob_s]
  obtain ⟨μ2, b1, b2, b3⟩ := x_fill N hNB (μ := μ1) (a := u + 5) (y := 500) (by decide)
  rw [b1, ob_s]
  have r1 : ∀ k, gI μ2 1 k = gI (pI (pI (pI μ 1 2 0) 1 4 0) 1 5 (-1)) 1 k := fun k => by rw [gI_row (b2 1 (by omega)), gI_row (a2 1 (by omega)), gI_pI_a (by omega), gI_pI_a (by omega), gI_pI_a (by omega), gI_pI_a (by omega)]
  have ru : ∀ k, gI μ2 u k = gI (pI (pI (pI (pI (pI (pI (pI μ 1 2 0) 1 4 0) 1 5 (-1)) u 5 0) u 6 0) u 7 0) u 8 0) u k := fun k => by rw [gI_row (b2 u (by omega)), gI_row (a2 u (by omega))]
  refine ⟨μ2, rfl, fun r h1 h2 h3 h5 => by rw [b2 r h5, a2 r h3, row_pI h2, row_pI h2, row_pI h2, row_pI h2, row_pI h1, row_pI h1, row_pI h1], ⟨?_, ?_, ?_, ?_⟩, ⟨?_, ?_, ?_, ?_⟩, fun i i0 i1 => ⟨by rw [gZ_row (b2 _ (by omega))]; exact a3 i i0 i1, b3 i i0 i1⟩⟩
  · rw [r1, gI_pI_k (by decide), gI_pI_k (by decide), gI_pI_s]; decide
  · rw [r1, gI_pI_k (by decide), gI_pI_s]; decide
  · rw [r1, gI_pI_s]; decide
  · rw [r1, gI_pI_k (by decide), gI_pI_k (by decide), gI_pI_k (by decide)]
  · rw [ru, gI_pI_k (by decide), gI_pI_k (by decide), gI_pI_k (by decide), gI_pI_s]; decide
  · rw [ru, gI_pI_k (by decide), gI_pI_k (by decide), gI_pI_s]; decide
  · rw [ru, gI_pI_k (by decide), gI_pI_s]; decide
  · rw [ru, gI_pI_s]; decide
theorem okp_loom (N : Nat) (hNB : NB N) : ok_loom N Inv := by
  intro μ hI
  obtain ⟨t, u, hT, hL, hW, hU, hG, hN, hX, hS⟩ := id hI
  have hN2 : 300 ≤ N := hNB
  have htu : (t = 300 ∧ u = 306) ∨ (t = 306 ∧ u = 300) := hT.2.2
  have w0 : wr (0 : Int) = 0 := by decide
  have w1 : ¬ wr (1 : Int) = 0 := by decide
  obtain ⟨⟨x1, x2, x3⟩, x4, x5⟩ := id hX
  obtain ⟨n, hn⟩ : ∃ n : Int, gI μ 1 1 = n := ⟨_, rfl⟩
  obtain ⟨f, hfe⟩ : ∃ f : Int → Int, f = fun i => gZ μ 2 i := ⟨_, rfl⟩
  have hf : FN f n := ⟨by omega, by omega, fun i i0 i1 => by rw [hfe]; have := x4 i i0 (by omega); show 0 ≤ gZ μ 2 i ∧ gZ μ 2 i ≤ 255; omega⟩
  obtain ⟨μX0, a1, a2, ⟨a3, a4, a5, a6⟩, ⟨a7, a8, a9, a10⟩, a11⟩ := x_beg N hNB μ (u := u) (by omega)
  have hTX0 : TX f n μX0 := ⟨by rw [a6, hn], fun i _ _ => by rw [gZ_row (a2 2 (by omega) (by omega) (by omega) (by omega)), hfe]⟩
  obtain ⟨νX0, b1, b2, b3, b4⟩ := x_skip N hNB hf hTX0 a3 (by decide) (by omega)
  have hs := sk_b (f := f) (n := n) (p := 0) (by omega)
  -- the reference's start is like the class'
  have hM0 : ∀ μ1 : Mm, (∀ r, 332 ≤ r → μ1 r = μ r) → ∃ ν, fX9_loom N μ1 = fX9_loom_l53 N N ν ∧ (∀ r, r ≠ 332 → r ≠ 338 → ν r = μ1 r) ∧ (∀ k, k ≠ 14 → k ≠ 16 → k ≠ 17 → k ≠ 3 → k ≠ 7 → k ≠ 10 → gI ν 332 k = gI μ 332 k) ∧ PS f n νX0 ν u (sk f n 0) 0 := by
    intro μ1 h1
    obtain ⟨ν, c1, c2, ⟨c3, c4, c5, c6, c7, c8⟩, c9, c10⟩ := m_beg N hNB μ1
    have k9 : ∀ k, k ≠ 14 → k ≠ 16 → k ≠ 17 → k ≠ 3 → k ≠ 7 → k ≠ 10 → gI ν 332 k = gI μ 332 k := fun k y1 y2 y3 y4 y5 y6 => by rw [c9 k y1 y2 y3 y4 y5 y6, gI_row (h1 332 (by decide))]
    refine ⟨ν, c1, c2, k9, hTX0.fr (b2 2 (by decide)) (b3 1 (by decide)), ⟨by rw [k9 13 (by decide) (by decide) (by decide) (by decide) (by decide) (by decide), ← x1, hn], fun i i0 i1 => ?_⟩, ⟨b4, c3, by decide, hs.1, hs.2.1⟩, ⟨by rw [b3 4 (by decide), a4], by rw [b3 5 (by decide), a5], c4, c5⟩, ?_⟩
    · rw [gZ_row (c2 339 (by decide) (by decide)), gZ_row (h1 339 (by decide)), ← (x4 i i0 (by omega)).1, hfe]
    · have e0 : ∀ k, gI νX0 u k = gI μX0 u k := fun k => gI_row (b2 u (by omega)) k
      unfold TD
      simp only [e0, a7, a8, a9, a10, c6, c7, c8]
      refine ⟨by decide, by decide, by decide, fun _ => ⟨trivial, trivial⟩, fun j j0 j1 => by omega, fun c h0 h2 => by omega, fun k k0 k1 => by omega, fun c hc => Or.inl ⟨by rw [gZ_row (b2 _ (by omega))]; exact (a11 c (by omega) (by omega)).1, fun k k0 k1 => by omega⟩, ⟨by decide, by decide, fun c hc => ?_⟩, fun k k0 k1 => ?_⟩
      · rw [gZ_row (b2 _ (by omega)), (a11 c (by omega) (by omega)).1]
        constructor
        · intro h; exact absurd h (by rw [show (0 : Int).toNat = 0 from rfl, Nat.zero_testBit]; decide)
        · intro h; exact absurd rfl h
      · rw [gZ_row (b2 _ (by omega)), (a11 k k0 k1).2, c10 k k0 k1]
        exact ⟨rfl, by decide, by decide⟩
  obtain ⟨ν00, -, -, -, hS0⟩ := hM0 μ (fun _ _ => rfl)
  obtain ⟨r, νX, l1, l2, l3⟩ := s_loop N hNB hf (u := u) (by omega) (by omega) n.toNat N N 0 0 νX0 ν00 (by omega) (by omega) (by omega) (by decide) (by decide) hS0
  have hrd : fX4_readInto N u μ = some (r, νX) := by rw [a1, b1, ob_s, l1]
  -- rows of the class behind the reading
  have rx : ∀ y, y ≠ 1 → (y < u ∨ u + 5 < y) → νX y = μ y := fun y h1 h2 => by rw [l2.1 y h1 h2, b2 y h1, a2 y h1 (by omega) (by omega) (by omega)]
  have rx1 : gI νX 1 1 = n := by rw [l2.2, b3 1 (by decide), a6, hn]
  unfold fX8_loom
  rw [hT.u, gd_p hT.ku, hrd, bP_s, ob_s]
  obtain ⟨νM00, -, -, lo0⟩ := l3 ν00 hS0
  rcases lo0 with ⟨rfl, f4, f5, -, -, -⟩ | ⟨rfl, hft0⟩
  · -- the text stands
    have t0 : gI (pI νX 1 1 0) 0 6 = t := by rw [gI_pI_a (by decide), gI_row (rx 0 (by decide) (by omega)), hT.1]
    have u0 : gI (pI νX 1 1 0) 0 7 = u := by rw [gI_pI_a (by decide), gI_row (rx 0 (by decide) (by omega)), hT.2.1]
    rw [if_neg w1, t0, u0, Int.toNat_natCast, Int.toNat_natCast, gd_p hT.kt, ob_s, gd_p hT.ku, ob_s]
    have v6 : gI (pI (pI (pI νX 1 1 0) 0 7 (t : Int)) 0 6 (u : Int)) 0 6 = u := by rw [gI_pI_s, wr_id (by omega) (by omega)]
    rw [v6, Int.toNat_natCast, gd_p hT.ku]
    obtain ⟨μ16, g1, g2, g3, g4⟩ := x_begin N hNB (μ := pI (pI (pI νX 1 1 0) 0 7 (t : Int)) 0 6 (u : Int)) (u := u) (by omega)
    rw [g1, ob_s]
    unfold fX1_forget fX3_forget
    rw [ob_s, ob_s, ob_s, ob_s, ob_s, x_forgI N hNB, ob_s]
    -- the class' last memory
    have y12 : ∀ y, y ≠ 0 → y ≠ 1 → (pI (pI (pI νX 1 1 0) 0 7 (t : Int)) 0 6 (u : Int)) y = νX y := fun y h0 h1 => by rw [row_pI h0, row_pI h0, row_pI h1]
    have yr : ∀ y, y ≠ 21 → y ≠ 293 → y ≠ 312 → y ≠ 322 → (pI (pI (pI (pI (pI μ16 21 2 0) 293 5 0) 293 6 0) 312 2 0) 322 2 0) y = μ16 y := fun y h1 h2 h3 h4 => by rw [row_pI h4, row_pI h3, row_pI h2, row_pI h2, row_pI h1]
    have y21 : ∀ k, k ≠ 2 → gI (pI (pI (pI (pI (pI μ16 21 2 0) 293 5 0) 293 6 0) 312 2 0) 322 2 0) 21 k = gI μ16 21 k := fun k hk => by rw [gI_pI_a (by decide), gI_pI_a (by decide), gI_pI_a (by decide), gI_pI_a (by decide), gI_pI_k hk]
    have y212 : gI (pI (pI (pI (pI (pI μ16 21 2 0) 293 5 0) 293 6 0) 312 2 0) 322 2 0) 21 2 = 0 := by rw [gI_pI_a (by decide), gI_pI_a (by decide), gI_pI_a (by decide), gI_pI_a (by decide), gI_pI_s]; decide
    have y295 : gI (pI (pI (pI (pI (pI μ16 21 2 0) 293 5 0) 293 6 0) 312 2 0) 322 2 0) 293 5 = 0 := by rw [gI_pI_a (by decide), gI_pI_a (by decide), gI_pI_k (by decide), gI_pI_s]; decide
    have y296 : gI (pI (pI (pI (pI (pI μ16 21 2 0) 293 5 0) 293 6 0) 312 2 0) 322 2 0) 293 6 = 0 := by rw [gI_pI_a (by decide), gI_pI_a (by decide), gI_pI_s]; decide
    have y312 : gI (pI (pI (pI (pI (pI μ16 21 2 0) 293 5 0) 293 6 0) 312 2 0) 322 2 0) 312 2 = 0 := by rw [gI_pI_a (by decide), gI_pI_s]; decide
    have y322 : gI (pI (pI (pI (pI (pI μ16 21 2 0) 293 5 0) 293 6 0) 312 2 0) 322 2 0) 322 2 = 0 := by rw [gI_pI_s]; decide
    generalize pI (pI (pI (pI (pI μ16 21 2 0) 293 5 0) 293 6 0) 312 2 0) 322 2 0 = μ22 at *
    have z0 : ∀ k, gI μ22 0 k = gI (pI (pI (pI νX 1 1 0) 0 7 (t : Int)) 0 6 (u : Int)) 0 k := fun k => by rw [gI_row (yr 0 (by decide) (by decide) (by decide) (by decide)), gI_row (g2 0 (by decide))]
    have z06 : gI μ22 0 6 = u := by rw [z0, v6]
    have z07 : gI μ22 0 7 = t := by rw [z0, gI_pI_k (by decide), gI_pI_s, wr_id (by omega) (by omega)]
    have z08 : gI μ22 0 8 = gI μ 0 8 := by rw [z0, gI_pI_k (by decide), gI_pI_k (by decide), gI_pI_a (by decide), gI_row (rx 0 (by decide) (by omega))]
    have zr : ∀ y, y ≠ 0 → y ≠ 1 → (y < 3 ∨ 9 < y) → y ≠ 21 → y ≠ 293 → y ≠ 312 → y ≠ 322 → μ22 y = νX y := fun y h0 h1 h3 h4 h5 h6 h7 => by rw [yr y h4 h5 h6 h7, g2 y h3, y12 y h0 h1]
    have zu : ∀ j : Nat, j ≤ 5 → μ22 (u + j) = νX (u + j) := fun j hj => zr _ (by omega) (by omega) (by omega) (by omega) (by omega) (by omega) (by omega)
    have zu0 : μ22 u = νX u := zu 0 (by decide)
    have z11 : gI μ22 1 1 = 0 := by rw [gI_row (yr 1 (by decide) (by decide) (by decide) (by decide)), gI_row (g2 1 (by decide)), gI_pI_a (by decide), gI_pI_a (by decide), gI_pI_s]; decide
    have z15 : gI μ22 1 5 = -1 := by rw [gI_row (yr 1 (by decide) (by decide) (by decide) (by decide)), gI_row (g2 1 (by decide)), gI_pI_a (by decide), gI_pI_a (by decide), gI_pI_k (by decide), f5]
    have zm : ∀ y, 332 ≤ y → μ22 y = μ y := fun y hy => by rw [zr y (by omega) (by omega) (by omega) (by omega) (by omega) (by omega) (by omega), rx y (by omega) (by omega)]
    rw [z06, Int.toNat_natCast, gd_p hT.ku]
    -- the reference
    obtain ⟨ν, m1, m2, m3, m4⟩ := hM0 μ22 zm
    obtain ⟨νM, k1, k2, k3⟩ := l3 ν m4
    obtain ⟨-, -, -, q16, q17, qD⟩ := k3.resolve_right (fun z => absurd z.1 (by decide))
    obtain ⟨D1, D2, D3, D4, D5, D6, D7, D8, D9, D10⟩ := id qD
    obtain ⟨μ21, s1, s2, ⟨s3, s4, s5, s6, s7, s8⟩, s9, s10, s11, s12, s13, s14, s15⟩ := m_taken N hNB (μ := pI νM 332 13 0) (K := gI νX u 5) (C := gI νX u 6) (P := gI νX u 7) (by rw [gI_pI_k (by decide), D1.1]) (by rw [gI_pI_k (by decide), D2.1]) (by rw [gI_pI_k (by decide), D3.1]) D1.2 D2.2 D3.2
    have hres : fX9_loom N μ22 = some (gI νX u 6, μ21) := by
      rw [m1, k1]
      unfold fX9_loom_k117
      rw [ob_s, wr_gI, gI_pI_k (by decide), q16, if_pos (by decide), s1, ob_s, s4]
    -- rows of the last memory
    have er : ∀ y, y < 332 → μ21 y = μ22 y := fun y hy => by rw [s2 y (Or.inl hy), row_pI (by omega), k2.1 y (by omega) (by omega) (by omega) (by omega) (by omega), m2 y (by omega) (by omega)]
    have em : ∀ y, 338 < y → μ21 y = μ y := fun y hy => by rw [s2 y (Or.inr (by omega)), row_pI (by omega), k2.1 y (by omega) (by omega) (by omega) (by omega) (by omega), m2 y (by omega) (by omega), zm y (by omega)]
    have e333 : ∀ k, 242 ≤ k → gZ μ21 333 k = gZ μ 333 k := fun k hk => by rw [s10 k hk, gZ_pI_a (by decide), gZ_row (k2.1 333 (by decide) (by decide) (by decide) (by decide) (by decide)), gZ_row (m2 333 (by decide) (by decide)), gZ_row (zm 333 (by decide))]
    have eu : ∀ k, gI μ21 u k = gI νX u k := fun k => by rw [gI_row (er u (by omega)), gI_row zu0]
    have ez : ∀ j : Nat, j ≤ 5 → ∀ i, gZ μ21 (u + j) i = gZ νX (u + j) i := fun j hj i => by rw [gZ_row (er _ (by omega)), gZ_row (zu j hj)]
    have e13 : gI μ21 332 13 = 0 := by rw [s9 13 (by decide) (by decide) (by decide) (by decide) (by decide) (by decide), gI_pI_s]; decide
    have e17 : gI μ21 332 17 = -1 := by rw [s9 17 (by decide) (by decide) (by decide) (by decide) (by decide) (by decide), gI_pI_k (by decide), q17]
    have c6u : gI μ22 u 6 = gI νX u 6 := gI_row zu0 6
    refine ⟨gI μ22 u 6, gI νX u 6, μ22, μ21, rfl, hres, by rw [c6u], u, t, ⟨by rw [gI_row (er 0 (by decide)), z06], by rw [gI_row (er 0 (by decide)), z07], by omega⟩, ?_, ?_, ?_, ?_, ?_, ?_, ?_⟩
    · unfold LoomR
      simp only [eu, s3, s4, s5, ez 1 (by decide), ez 3 (by decide), ez 4 (by decide)]
      refine ⟨⟨trivial, D1.2⟩, ⟨trivial, D2.2⟩, ⟨trivial, D3.2⟩, D4, fun j j0 j1 => ?_, fun k k0 k1 => ?_, fun c hc => ?_, ⟨D9.1, D9.2.1, fun c hc => D9.2.2 c (by omega)⟩⟩
      · have h := D5 j j0 j1
        rw [s12 j j0 (by omega), gZ_pI_a (by decide), ← h.1]
        exact ⟨rfl, h.2⟩
      · have h := D7 k k0 k1
        rw [s13 k k0 k1, gZ_pI_a (by decide), ← h.1]
        exact ⟨rfl, h.2⟩
      · refine (D8 c (by omega)).imp (fun z => ⟨z.1, fun k k0 k1 => ?_⟩) (fun z => ⟨z.1, z.2.1, fun k k0 k1 => ?_⟩)
        · rw [s13 k k0 k1, gZ_pI_a (by decide), ← (D7 k k0 k1).1]; exact z.2 k k0 k1
        · rw [s13 k k0 k1, gZ_pI_a (by decide), ← (D7 k k0 k1).1]; exact z.2.2 k k0 k1
    · -- the state
      have w3 : gI μ21 3 8 = 0 := by rw [gI_row (er 3 (by decide)), gI_row (yr 3 (by decide) (by decide) (by decide) (by decide)), g3]
      have w4 : ∀ (y : Nat) (i : Int), 4 ≤ y → y ≤ 9 → gZ μ21 y i = gZ μ16 y i := fun y i h0 h1 => by rw [gZ_row (er y (by omega)), gZ_row (yr y (by omega) (by omega) (by omega) (by omega))]
      have v12 : ∀ (j : Nat) (i : Int), j ≤ 5 → gZ (pI (pI (pI νX 1 1 0) 0 7 (t : Int)) 0 6 (u : Int)) (u + j) i = gZ νX (u + j) i := fun j i hj => gZ_row (y12 _ (by omega) (by omega)) i
      unfold WR
      rw [eu, eu, w3]
      refine ⟨fun c c0 c1 => ?_, fun k k0 k1 => ?_, fun k k0 k1 => ?_, ?_, fun i c i0 i1 c0 c1 => ?_⟩
      · have hg := g4 c c0 (by omega)
        have h6 := D6 c c0 c1
        show gZ μ21 5 c = gZ μ21 333 (0 + c) ∧ 0 ≤ gZ μ21 333 (0 + c) ∧ gZ μ21 333 (0 + c) ≤ 3 ∧ gZ μ21 6 c = gZ μ21 333 (0 + (8 + c)) ∧ -99 ≤ gZ μ21 333 (0 + (8 + c)) ∧ gZ μ21 333 (0 + (8 + c)) ≤ 99 ∧ gZ μ21 7 c = gZ μ21 333 (0 + (16 + c)) ∧ -1 ≤ gZ μ21 333 (0 + (16 + c)) ∧ gZ μ21 333 (0 + (16 + c)) < gI νX u 5 ∧ gZ μ21 8 c = gZ μ21 333 (0 + (24 + c)) ∧ -1 ≤ gZ μ21 333 (0 + (24 + c)) ∧ gZ μ21 333 (0 + (24 + c)) ≤ 1 ∧ gZ μ21 4 c = gZ μ21 333 (0 + (32 + c)) ∧ 0 ≤ gZ μ21 333 (0 + (32 + c)) ∧ gZ μ21 333 (0 + (32 + c)) ≤ 1
        rw [w4 5 c (by decide) (by decide), w4 6 c (by decide) (by decide), w4 7 c (by decide) (by decide), w4 8 c (by decide) (by decide), w4 4 c (by decide) (by decide), hg.2.2.1, hg.2.2.2.1, hg.2.2.2.2.1, hg.2.2.2.2.2, hg.1, v12 2 c (by decide)]
        have e0 : gZ μ21 333 (0 + c) = 0 := by rw [s11 _ (by omega) (by omega), if_neg (by omega), if_neg (by omega), if_neg (by omega), if_neg (by omega)]
        have e8 : gZ μ21 333 (0 + (8 + c)) = 0 := by rw [s11 _ (by omega) (by omega), if_neg (by omega), if_neg (by omega), if_neg (by omega), if_neg (by omega)]
        have e16 : gZ μ21 333 (0 + (16 + c)) = -1 := by rw [s11 _ (by omega) (by omega), if_neg (by omega), if_pos (by omega)]
        have e24 : gZ μ21 333 (0 + (24 + c)) = -1 := by rw [s11 _ (by omega) (by omega), if_neg (by omega), if_neg (by omega), if_pos (by omega)]
        have e32 : gZ μ21 333 (0 + (32 + c)) = gZ νX (u + 2) c := by rw [s11 _ (by omega) (by omega), if_neg (by omega), if_neg (by omega), if_neg (by omega), if_pos (by omega), if_pos (by omega), gZ_pI_a (by decide), show 8 + (0 + (32 + c) - 32) = 8 + c by omega, h6.1]
        rw [e0, e8, e16, e24, e32]
        exact ⟨rfl, by decide, by decide, rfl, by decide, by decide, rfl, by decide, by have := D1.2; have := D4; omega, rfl, by decide, by decide, rfl, h6.2.1, h6.2.2⟩
      · have hg := g4 k k0 (by omega)
        have h10 := D10 k k0 (by omega)
        show gZ μ21 9 k = gZ μ21 333 (0 + (40 + k)) ∧ 0 ≤ gZ μ21 333 (0 + (40 + k)) ∧ gZ μ21 333 (0 + (40 + k)) ≤ 999
        have e40 : gZ μ21 333 (0 + (40 + k)) = gZ νX (u + 5) k := by rw [s11 _ (by omega) (by omega), if_pos (by omega), if_pos (by omega), gZ_pI_a (by decide), show 0 + (40 + k) - 40 = k by omega, h10.1]
        rw [w4 9 k (by decide) (by decide), hg.2.1, v12 5 k (by decide), e40]
        exact ⟨rfl, h10.2⟩
      · show gZ μ21 333 (0 + (40 + k)) = 0
        rw [s11 _ (by omega) (by omega), if_pos (by omega), if_neg (by omega)]
      · have e48 : gZ μ21 333 (0 + 48) = 0 := by rw [s11 _ (by decide) (by decide), if_neg (by decide), if_neg (by decide), if_neg (by decide), if_neg (by decide)]
        have e49 : gZ μ21 333 (0 + 49) = 0 := by rw [s11 _ (by decide) (by decide), if_neg (by decide), if_neg (by decide), if_neg (by decide), if_neg (by decide)]
        exact ⟨e48.symm, by decide, by decide, by show gZ μ21 333 (0 + 49) = _; rw [e49]; rfl⟩
      · have e49 : gZ μ21 333 (0 + 49) = 0 := by rw [s11 _ (by decide) (by decide), if_neg (by decide), if_neg (by decide), if_neg (by decide), if_neg (by decide)]
        have i1' : i < gZ μ21 333 (0 + 49) := i1
        rw [e49] at i1'
        omega
    · have e1 : gI μ21 21 1 = gI μ 21 1 := by rw [gI_row (er 21 (by decide)), y21 1 (by decide), gI_row (g2 21 (by decide)), gI_row (y12 21 (by decide) (by decide)), gI_row (rx 21 (by decide) (by omega))]
      have e2 : gI μ21 21 2 = 0 := by rw [gI_row (er 21 (by decide)), y212]
      unfold UndoR
      rw [e1, e2, s8]
      exact ⟨hU.1, by decide, fun j hj => by omega⟩
    · intro i hi
      rcases (show i = 0 ∨ i = 1 by omega) with rfl | rfl
      · have h1 : gZ μ21 334 ((0 : Nat) : Int) = 0 := s14
        have h2 : gI μ21 (312 + 10 * 0) 2 = 0 := by rw [gI_row (er 312 (by decide))]; exact y312
        rw [h1, h2]
        exact ⟨rfl, Or.inl rfl⟩
      · have h1 : gZ μ21 334 ((1 : Nat) : Int) = 0 := s15
        have h2 : gI μ21 (312 + 10 * 1) 2 = 0 := by rw [gI_row (er 322 (by decide))]; exact y322
        rw [h1, h2]
        exact ⟨rfl, Or.inl rfl⟩
    · unfold NotesR
      rw [gI_row (er 293 (by decide)), gI_row (er 293 (by decide)), y295, y296, s6, s7]
      exact ⟨⟨rfl, by decide, by decide⟩, ⟨rfl, by decide, by decide⟩, fun i i0 i1 => by omega, fun i i0 i1 => by omega⟩
    · unfold TextR
      rw [gI_row (er 1 (by decide)), gI_row (er 1 (by decide)), z11, z15, e13, e17]
      exact ⟨⟨rfl, by decide, by decide⟩, fun i i0 i1 => by omega, rfl⟩
    · rw [gI_row (er 0 (by decide)), z08, e333 242 (by decide)]
      exact hS
  · -- a fault
    obtain ⟨F, w, v1, v2, v3, v4, -, -⟩ := hft0
    have z4 : gI (pI νX 1 1 0) 1 4 = F := by rw [gI_pI_k (by decide), v3]
    have zm : ∀ y, 332 ≤ y → (pI νX 1 1 0) y = μ y := fun y hy => by rw [row_pI (by omega), rx y (by omega) (by omega)]
    obtain ⟨ν, m1, m2, m3, m4⟩ := hM0 (pI νX 1 1 0) zm
    obtain ⟨νM, k1, k2, k3⟩ := l3 ν m4
    obtain ⟨-, F2, w2, q1, q2, q3, q4, q5, q6⟩ := k3.resolve_left (fun z => absurd z.1 (by decide))
    have hF : F2 = F := by omega
    have hres : fX9_loom N (pI νX 1 1 0) = some (-10 - F, pI νM 332 13 0) := by
      rw [m1, k1]
      unfold fX9_loom_k117
      rw [ob_s, wr_gI, gI_pI_k (by decide), q5, if_neg (by omega), hF]
    have ht := hT.r
    have er : ∀ y, y < 332 → y ≠ 1 → (y < u ∨ u + 5 < y) → (pI νM 332 13 0) y = μ y := fun y h0 h1 h2 => by rw [row_pI (by omega), k2.1 y (by omega) (by omega) (by omega) (by omega) (by omega), m2 y (by omega) (by omega), row_pI h1, rx y h1 h2]
    have e1 : ∀ k, gI (pI νM 332 13 0) 1 k = gI (pI νX 1 1 0) 1 k := fun k => by rw [gI_pI_a (by decide), gI_row (k2.1 1 (by decide) (by decide) (by decide) (by decide) (by decide)), gI_row (m2 1 (by decide) (by decide))]
    have em : ∀ y, (y = 333 ∨ y = 334 ∨ 338 < y) → (pI νM 332 13 0) y = μ y := fun y h => by rw [row_pI (by omega), k2.1 y (by omega) (by omega) (by omega) (by omega) (by omega), m2 y (by omega) (by omega), zm y (by omega)]
    have e332 : ∀ k, k ≠ 3 → k ≠ 7 → k ≠ 10 → k ≠ 13 → k ≠ 14 → k ≠ 15 → k ≠ 16 → k ≠ 17 → gI (pI νM 332 13 0) 332 k = gI μ 332 k := fun k h3 h7 h10 h13 h14 h15 h16 h17 => by rw [gI_pI_k h13, k2.2.1 k h3 h7 h10 h14 h15 h16 h17, m3 k h14 h16 h17 h3 h7 h10]
    have e335 : ∀ i, 0 ≤ i → i < 32 → gZ (pI νM 332 13 0) 335 i = gZ μ 335 i := fun i i0 i1 => by rw [gZ_pI_a (by decide), k2.2.2.1 i i0 i1, gZ_row (m2 335 (by decide) (by decide)), gZ_row (zm 335 (by decide))]
    have e337 : ∀ i, 0 ≤ i → i < 4 → gZ (pI νM 332 13 0) 337 i = gZ μ 337 i := fun i i0 i1 => by rw [gZ_pI_a (by decide), k2.2.2.2 i i0 i1, gZ_row (m2 337 (by decide) (by decide)), gZ_row (zm 337 (by decide))]
    have e13 : gI (pI νM 332 13 0) 332 13 = 0 := by rw [gI_pI_s]; decide
    have e17 : gI (pI νM 332 13 0) 332 17 = w2 := by rw [gI_pI_k (by decide), q6]
    rw [if_pos w0, z4]
    generalize pI νM 332 13 0 = μ2 at *
    refine ⟨-10 - F, -10 - F, pI νX 1 1 0, μ2, rfl, hres, rfl, t, u, hT.fr (gI_row (er 0 (by decide) (by decide) (by omega)) 6) (gI_row (er 0 (by decide) (by decide) (by omega)) 7), hL.fr2 (fun y h0 h1 => er y (by omega) (by omega) (by omega)) e335 e337 (e332 2 (by decide) (by decide) (by decide) (by decide) (by decide) (by decide) (by decide) (by decide)) (e332 6 (by decide) (by decide) (by decide) (by decide) (by decide) (by decide) (by decide) (by decide)) (e332 9 (by decide) (by decide) (by decide) (by decide) (by decide) (by decide) (by decide) (by decide)), hW.fr hL (fun y h => er y (by omega) (by omega) (by omega)) (fun k _ _ => gZ_row (em 333 (by omega)) _), hU.fr hL (fun y h => er y (by omega) (by omega) (by omega)) (e332 18 (by decide) (by decide) (by decide) (by decide) (by decide) (by decide) (by decide) (by decide)) (fun k _ _ => gZ_row (em 333 (by omega)) k), hG.fr hL (fun y h => ?_) (fun k _ _ => gZ_row (em 333 (by omega)) k), hN.fr (fun y h => ?_) (e332 23 (by decide) (by decide) (by decide) (by decide) (by decide) (by decide) (by decide) (by decide)) (e332 26 (by decide) (by decide) (by decide) (by decide) (by decide) (by decide) (by decide) (by decide)), ?_, ?_⟩
    · by_cases z : y = 334
      · exact em y (by omega)
      · exact er y (by omega) (by omega) (by omega)
    · by_cases z : 338 < y
      · exact em y (by omega)
      · exact er y (by omega) (by omega) (by omega)
    · have f1 : gI μ2 1 1 = 0 := by rw [e1, gI_pI_s]; decide
      have f5 : gI μ2 1 5 = w2 := by rw [e1, gI_pI_k (by decide), q4]
      unfold TextR
      rw [f1, f5, e13, e17]
      exact ⟨⟨rfl, by decide, by decide⟩, fun i i0 i1 => by omega, rfl⟩
    · rw [gI_row (er 0 (by decide) (by decide) (by omega)), gZ_row (em 333 (by omega))]
      exact hS
