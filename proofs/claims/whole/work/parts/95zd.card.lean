/-! a card of the text -/
/-- the reference goes on behind a fault: nothing but cells ahead -/
theorem m_cardF (N : Nat) {w7 : Int} (h7 : 0 ≤ w7 ∧ w7 ≤ 7) : ∀ (j fl : Nat) (h : Int) (μ : Mm), 0 ≤ h → h + j = 4 → j < fl → 0 < gI μ 332 16 → gI μ 332 7 = w7 → ∃ ν, fX9_takeCard_l25 N fl h μ = some ν ∧ FM μ ν ∧ gI ν 332 16 = gI μ 332 16 ∧ gI ν 332 17 = gI μ 332 17 := by
  intro j
  induction j with
  | zero =>
    intro fl h μ h0 hj hfl hF hw
    obtain ⟨g, rfl⟩ : ∃ g, fl = g + 1 := ⟨fl - 1, by omega⟩
    rw [fX9_takeCard_l25, wr_id (a := h) (by omega) (by omega), if_pos (by omega)]
    unfold fX9_takeCard_k63
    rw [m_takeF N hF, bP_s, hw, stA_ok (by omega) (by omega) (by omega), ob_s, ob_s]
    refine ⟨_, rfl, ⟨fun r a1 _ a3 _ _ => by rw [row_pI a1, row_pZ a3], fun k _ b2 _ _ _ _ _ => by rw [gI_pI_k b2, gI_pZ_a (by decide)], fun i _ _ => by rw [gZ_pI_a (by decide), gZ_pZ_a (by decide)], fun i _ _ => by rw [gZ_pI_a (by decide), gZ_pZ_a (by decide)]⟩, by rw [gI_pI_k (by decide), gI_pZ_a (by decide)], by rw [gI_pI_k (by decide), gI_pZ_a (by decide)]⟩
  | succ j ih =>
    intro fl h μ h0 hj hfl hF hw
    obtain ⟨g, rfl⟩ : ∃ g, fl = g + 1 := ⟨fl - 1, by omega⟩
    rw [fX9_takeCard_l25, wr_id (a := h) (by omega) (by omega), if_neg (by omega), m_takeF N hF, bP_s, hw, stA_ok (by omega) (by omega) (by omega), ob_s]
    obtain ⟨ν, g1, g2, g3, g4⟩ := ih g (h + 1) (pZ μ 335 (32 + 4 * w7 + h) 0) (by omega) (by omega) (by omega) (by rw [gI_pZ_a (by decide)]; exact hF) (by rw [gI_pZ_a (by decide)]; exact hw)
    have hm : FM μ (pZ μ 335 (32 + 4 * w7 + h) 0) := ⟨fun r _ a2 _ _ _ => row_pZ a2, fun k _ _ _ _ _ _ _ => gI_pZ_a (by decide), fun i i0 i1 => gZ_pZ_n (by omega) i0 (by omega), fun i _ _ => gZ_pZ_a (by decide)⟩
    exact ⟨ν, g1, hm.t g2, by rw [g3, gI_pZ_a (by decide)], by rw [g4, gI_pZ_a (by decide)]⟩
theorem s_cl (N : Nat) (hNB : NB N) {f : Int → Int} {n : Int} (hf : FN f n) {u : Nat} (hu : 5 < u) (hu2 : u + 5 < 332) {K C : Int} (hK : 0 < K ∧ K ≤ 8) (hC : 0 ≤ C ∧ C < 8) : ∀ (j fl : Nat) (h p : Int) (μX μ0 : Mm), 0 ≤ h → h + j = 4 → j < fl → PS f n μX μ0 u p p → gI μX u 5 = K → gI μX u 6 = C → ∃ νX, fX4_readCard_l2 N u fl h μX = some νX ∧ FX μX νX u ∧ ∀ μM, PS f n μX μM u p p → (∀ i, 0 ≤ i → i < h → gZ μX (u + 1) (4 * C + i) = gZ μM 335 (32 + (4 * C + i)) ∧ 0 ≤ gZ μX (u + 1) (4 * C + i) ∧ gZ μX (u + 1) (4 * C + i) < K) → ∃ νM, fX9_takeCard_l25 N fl h μM = some νM ∧ FM μM νM ∧ ((∃ p', p ≤ p' ∧ PS f n νX νM u p' p') ∨ FT νX νM) := by
  have hn := hf.2.1
  intro j
  induction j with
  | zero =>
    intro fl h p μX μ0 h0 hj hfl hS0 eK eC
    obtain ⟨g, rfl⟩ : ∃ g, fl = g + 1 := ⟨fl - 1, by omega⟩
    obtain ⟨hTX, -, ⟨hp, -, p0, -, p1⟩, ⟨hF4, hF5, -, -⟩, hTD0⟩ := id hS0
    have hb := rd_b hf p0 p1
    have hPn : rdP f n p ≤ n := (sk_b p1).2.1
    obtain ⟨r, ν1, a1, a2, a3, a4⟩ := x_read N hNB (lo := 0) (hi := 1) hf hTX hp p0 p1 (by decide) (by decide)
    have c6 : gI ν1 u 6 = C := by rw [gI_row (a2 u (by omega)), eC]
    rw [fX4_readCard_l2, wr_id (a := h) (by omega) (by omega), if_pos (by omega)]
    unfold fX4_readCard_k41
    rw [a1, bP_s]
    rcases a4 with ⟨b1, b2, b3, b4, b5, b6, b7, b8, b9, b10⟩ | ⟨b1, b2, b3, b4⟩
    · rw [wr_id (a := r) (by omega) (by omega), if_neg (by omega)]
      unfold fX5_addCard
      rw [c6, wr_id (a := C) (by omega) (by omega), if_neg (by omega), stA_ok hC.1 (by omega) (by omega), ob_s, ob_s, ob_s]
      have e6 : gI (pZ ν1 (u + 2) C r) u 6 = C := by rw [gI_pZ_a (by omega), c6]
      rw [e6]
      refine ⟨_, rfl, ⟨fun x h1 h2 => by rw [row_pI (by omega), row_pZ (by omega), a2 x h1], by rw [gI_pI_a (by omega), gI_pZ_a (by omega), a3]⟩, fun μM hS hpart => ?_⟩
      obtain ⟨-, hTM, ⟨-, hq, -, -, -⟩, ⟨-, -, g4, g5⟩, hTD⟩ := id hS
      obtain ⟨t1, t2, t3, t4, t5, t6, t7, t8, t9, t10⟩ := id hTD
      rw [eC] at t2 t5 t6 t7
      rw [eK] at t5
      have m7 : gI μM 332 7 = C := t2.1.symm
      obtain ⟨v, νM, c1, c2, c3, c4, c5⟩ := m_take N hNB (lo := 0) (hi := 1) hf hTM hq p0 p1 (by decide) (by decide) g4
      obtain ⟨-, d2, d3, d4, d5⟩ := c5.resolve_right (fun z => by omega)
      have hv : v = r := by rw [d2, b2]
      have n7 : gI νM 332 7 = C := by rw [c3 7 (by decide) (by decide) (by decide) (by decide), m7]
      rw [fX9_takeCard_l25, wr_id (a := h) (by omega) (by omega), if_pos (by omega)]
      unfold fX9_takeCard_k63
      rw [c1, bP_s, m7, hv, stA_ok (by omega) (by omega) (by omega), ob_s, ob_s, gI_pZ_a (by decide), n7]
      refine ⟨_, rfl, ⟨fun x a1 _ a3 _ _ => by rw [row_pI a1, row_pZ a3, c2 x a1], fun k _ b2 _ x4 x5 x6 x7 => by rw [gI_pI_k b2, gI_pZ_a (by decide), c3 k x4 x5 x6 x7], fun i _ _ => by rw [gZ_pI_a (by decide), gZ_pZ_a (by decide), gZ_row (c2 335 (by decide))], fun i _ _ => by rw [gZ_pI_a (by decide), gZ_pZ_a (by decide), gZ_row (c2 337 (by decide))]⟩, Or.inl ⟨rdE f n p, by omega, hTX.fr (by rw [row_pI (by omega), row_pZ (by omega), a2 2 (by decide)]) (by rw [gI_pI_a (by omega), gI_pZ_a (by omega), a3]), hTM.fr (by rw [row_pI (by decide), row_pZ (by decide), c2 339 (by decide)]) (by rw [gI_pI_k (by decide), gI_pZ_a (by decide), c3 13 (by decide) (by decide) (by decide) (by decide)]), ⟨by rw [gI_pI_a (by omega), gI_pZ_a (by omega), b7], by rw [gI_pI_k (by decide), gI_pZ_a (by decide), d3], by omega, Int.le_refl _, hb.2.2.1⟩, ⟨by rw [gI_pI_a (by omega), gI_pZ_a (by omega), b9, hF4], by rw [gI_pI_a (by omega), gI_pZ_a (by omega), b10, hF5], by rw [gI_pI_k (by decide), gI_pZ_a (by decide), d4], by rw [gI_pI_k (by decide), gI_pZ_a (by decide), d5, g5]⟩, ?_⟩⟩
      have x6 : gI (pI (pZ ν1 (u + 2) C r) u 6 (C + 1)) u 6 = C + 1 := by rw [gI_pI_s, wr_id (by omega) (by omega)]
      have xk : ∀ k, k ≠ 6 → gI (pI (pZ ν1 (u + 2) C r) u 6 (C + 1)) u k = gI μX u k := fun k hk => by rw [gI_pI_k hk, gI_pZ_a (by omega), gI_row (a2 u (by omega))]
      have xz : ∀ j : Nat, 1 ≤ j → j ≤ 5 → j ≠ 2 → ∀ i, gZ (pI (pZ ν1 (u + 2) C r) u 6 (C + 1)) (u + j) i = gZ μX (u + j) i := fun j j0 j1 j2 i => by rw [gZ_pI_a (by omega), gZ_pZ_a (by omega), gZ_row (a2 _ (by omega))]
      have m7' : gI (pI (pZ νM 336 (8 + C) r) 332 7 (C + 1)) 332 7 = C + 1 := by rw [gI_pI_s, wr_id (by omega) (by omega)]
      have mk : ∀ k, k ≠ 7 → k ≠ 14 → k ≠ 15 → k ≠ 16 → k ≠ 17 → gI (pI (pZ νM 336 (8 + C) r) 332 7 (C + 1)) 332 k = gI μM 332 k := fun k h7 h4 h5 h6 h8 => by rw [gI_pI_k h7, gI_pZ_a (by decide), c3 k h4 h5 h6 h8]
      have mz : ∀ y : Nat, y ≠ 332 → y ≠ 336 → ∀ i, gZ (pI (pZ νM 336 (8 + C) r) 332 7 (C + 1)) y i = gZ μM y i := fun y hy h6 i => by rw [gZ_pI_a hy, gZ_pZ_a h6, gZ_row (c2 y hy)]
      unfold TD
      simp only [x6, xk 5 (by decide), xk 7 (by decide), xk 8 (by decide), xz 1 (by decide) (by decide) (by decide), xz 3 (by decide) (by decide) (by decide), xz 4 (by decide) (by decide) (by decide), xz 5 (by decide) (by decide) (by decide), m7', mk 3 (by decide) (by decide) (by decide) (by decide) (by decide), mk 10 (by decide) (by decide) (by decide) (by decide) (by decide), mz 335 (by decide) (by decide), mz 337 (by decide) (by decide), mz 338 (by decide) (by decide), eK]
      rw [eK] at t1 t4
      refine ⟨t1, ⟨trivial, by omega, by omega⟩, t3, fun hz => by omega, fun i i0 i1 => ?_, fun c c0 c1 => ?_, fun k k0 k1 => ⟨(t7 k k0 k1).1, (t7 k k0 k1).2.1, (t7 k k0 k1).2.2.1, fun c hc => (t7 k k0 k1).2.2.2 c (by omega)⟩, t8, t9, t10⟩
      · by_cases z : i < 4 * C
        · exact t5 i i0 z
        · have := hpart (i - 4 * C) (by omega) (by omega)
          rw [show 4 * C + (i - 4 * C) = i by omega] at this
          exact this
      · rw [gZ_pI_a (by omega), gZ_pI_a (by decide), gZ_pZ hC.1 c0, gZ_pZ (by omega) (by omega), wr_id (a := r) (by omega) (by omega)]
        by_cases z : c = C
        · rw [if_pos z, if_pos (by omega)]; exact ⟨rfl, b3, b6⟩
        · rw [if_neg z, if_neg (by omega), gZ_row (a2 _ (by omega)), gZ_row (c2 336 (by decide))]
          exact t6 c c0 (by omega)
    · rw [b2, if_pos (by decide)]
      refine ⟨_, rfl, FX.o a2 a3, fun μM hS hpart => ?_⟩
      obtain ⟨-, hTM, ⟨-, hq, -, -, -⟩, ⟨-, -, g4, g5⟩, hTD⟩ := id hS
      have m7 : gI μM 332 7 = C := by rw [← hTD.2.1.1, eC]
      obtain ⟨v, νM, c1, c2, c3, c4, c5⟩ := m_take N hNB (lo := 0) (hi := 1) hf hTM hq p0 p1 (by decide) (by decide) g4
      obtain ⟨-, d2, d3, d4⟩ := c5.resolve_left (fun z => by omega)
      rw [fX9_takeCard_l25, wr_id (a := h) (by omega) (by omega), if_pos (by omega)]
      unfold fX9_takeCard_k63
      rw [c1, bP_s, m7, stA_ok (by omega) (by omega) (by omega), ob_s, ob_s]
      refine ⟨_, rfl, ⟨fun x a1 _ a3 _ _ => by rw [row_pI a1, row_pZ a3, c2 x a1], fun k _ b2 _ x4 x5 x6 x7 => by rw [gI_pI_k b2, gI_pZ_a (by decide), c3 k x4 x5 x6 x7], fun i _ _ => by rw [gZ_pI_a (by decide), gZ_pZ_a (by decide), gZ_row (c2 335 (by decide))], fun i _ _ => by rw [gZ_pI_a (by decide), gZ_pZ_a (by decide), gZ_row (c2 337 (by decide))]⟩, Or.inr ⟨rdF f n p 0 1, rdP f n p, by omega, by omega, b3, b4, by rw [gI_pI_k (by decide), gI_pZ_a (by decide), d3], by rw [gI_pI_k (by decide), gI_pZ_a (by decide), d4]⟩⟩
  | succ j ih =>
    intro fl h p μX μ0 h0 hj hfl hS0 eK eC
    obtain ⟨g, rfl⟩ : ∃ g, fl = g + 1 := ⟨fl - 1, by omega⟩
    obtain ⟨hTX, -, ⟨hp, -, p0, -, p1⟩, ⟨hF4, hF5, -, -⟩, hTD0⟩ := id hS0
    have hb := rd_b hf p0 p1
    have hPn : rdP f n p ≤ n := (sk_b p1).2.1
    obtain ⟨r, ν1, a1, a2, a3, a4⟩ := x_read N hNB (lo := 0) (hi := K - 1) hf hTX hp p0 p1 (by decide) (by omega)
    have c6 : gI ν1 u 6 = C := by rw [gI_row (a2 u (by omega)), eC]
    rw [fX4_readCard_l2, wr_id (a := h) (by omega) (by omega), if_neg (by omega), eK, a1, bP_s]
    rcases a4 with ⟨b1, b2, b3, b4, b5, b6, b7, b8, b9, b10⟩ | ⟨b1, b2, b3, b4⟩
    · have hth : fX5_threadHole N u C h r ν1 = some (pZ ν1 (u + 1) (4 * C + h) r) := by
        unfold fX5_threadHole fX5_indexOf
        rw [andI_3, andI_7, ob_s, show C % 8 * 4 + h % 4 = 4 * C + h by omega, stA_ok (by omega) (by omega) (by omega), ob_s]
      -- the memories one hole further
      have nx : ∀ μM, PS f n μX μM u p p → (∀ i, 0 ≤ i → i < h → gZ μX (u + 1) (4 * C + i) = gZ μM 335 (32 + (4 * C + i)) ∧ 0 ≤ gZ μX (u + 1) (4 * C + i) ∧ gZ μX (u + 1) (4 * C + i) < K) → ∃ νM, fX9_takeCard_l25 N (g + 1) h μM = fX9_takeCard_l25 N g (h + 1) νM ∧ FM μM νM ∧ PS f n (pZ ν1 (u + 1) (4 * C + h) r) νM u (rdE f n p) (rdE f n p) ∧ (∀ i, 0 ≤ i → i < h + 1 → gZ (pZ ν1 (u + 1) (4 * C + h) r) (u + 1) (4 * C + i) = gZ νM 335 (32 + (4 * C + i)) ∧ 0 ≤ gZ (pZ ν1 (u + 1) (4 * C + h) r) (u + 1) (4 * C + i) ∧ gZ (pZ ν1 (u + 1) (4 * C + h) r) (u + 1) (4 * C + i) < K) := by
        intro μM hS hpart
        obtain ⟨-, hTM, ⟨-, hq, -, -, -⟩, ⟨-, -, g4, g5⟩, hTD⟩ := id hS
        have m3 : gI μM 332 3 = K := by rw [← hTD.1.1, eK]
        have m7 : gI μM 332 7 = C := by rw [← hTD.2.1.1, eC]
        obtain ⟨v, νM, c1, c2, c3, c4, c5⟩ := m_take N hNB (lo := 0) (hi := K - 1) hf hTM hq p0 p1 (by decide) (by omega) g4
        obtain ⟨-, d2, d3, d4, d5⟩ := c5.resolve_right (fun z => by omega)
        have hv : v = r := by rw [d2, b2]
        rw [fX9_takeCard_l25, wr_id (a := h) (by omega) (by omega), if_neg (by omega), m3, c1, bP_s, m7, hv, stA_ok (by omega) (by omega) (by omega), ob_s]
        refine ⟨_, rfl, ⟨fun x a1 a2' _ _ _ => by rw [row_pZ a2', c2 x a1], fun k _ _ _ x4 x5 x6 x7 => by rw [gI_pZ_a (by decide), c3 k x4 x5 x6 x7], fun i i0 i1 => by rw [gZ_pZ_n (by omega) i0 (by omega), gZ_row (c2 335 (by decide))], fun i _ _ => by rw [gZ_pZ_a (by decide), gZ_row (c2 337 (by decide))]⟩, ⟨hTX.fr (by rw [row_pZ (by omega), a2 2 (by decide)]) (by rw [gI_pZ_a (by omega), a3]), hTM.fr (by rw [row_pZ (by decide), c2 339 (by decide)]) (by rw [gI_pZ_a (by decide), c3 13 (by decide) (by decide) (by decide) (by decide)]), ⟨by rw [gI_pZ_a (by omega), b7], by rw [gI_pZ_a (by decide), d3], by omega, Int.le_refl _, hb.2.2.1⟩, ⟨by rw [gI_pZ_a (by omega), b9, hF4], by rw [gI_pZ_a (by omega), b10, hF5], by rw [gI_pZ_a (by decide), d4], by rw [gI_pZ_a (by decide), d5, g5]⟩, ?_⟩, fun i i0 i1 => ?_⟩
        · refine hTD.fr (fun x x0 x1 x2 => by rw [row_pZ x2, a2 x (by omega)]) (fun i i0 i1 => ?_) (fun x x0 x1 => by rw [row_pZ (by omega), c2 x (by omega)]) (fun i i0 i1 => ?_) (by rw [gI_pZ_a (by decide), c3 3 (by decide) (by decide) (by decide) (by decide)]) (by rw [gI_pZ_a (by decide), c3 7 (by decide) (by decide) (by decide) (by decide)]) (by rw [gI_pZ_a (by decide), c3 10 (by decide) (by decide) (by decide) (by decide)])
          · rw [eC] at i1
            rw [gZ_pZ_n (by omega) i0 (by omega), gZ_row (a2 _ (by omega))]
          · rw [eC] at i1
            rw [gZ_pZ_n (by omega) (by omega) (by omega), gZ_row (c2 335 (by decide))]
        · rw [gZ_pZ (by omega) (by omega), gZ_pZ (by omega) (by omega), wr_id (a := r) (by omega) (by omega)]
          by_cases z : i = h
          · rw [if_pos (by omega), if_pos (by omega)]; exact ⟨rfl, b3, by omega⟩
          · rw [if_neg (by omega), if_neg (by omega), gZ_row (a2 _ (by omega)), gZ_row (c2 335 (by decide))]
            exact hpart i i0 (by omega)
      rw [wr_id (a := r) (by omega) (by omega), if_neg (by omega), c6, hth, ob_s]
      -- some memory of the reference, for the class' way alone
      have hw : ∃ μ0', PS f n (pZ ν1 (u + 1) (4 * C + h) r) μ0' u (rdE f n p) (rdE f n p) := by
        obtain ⟨-, hTM, ⟨-, hq, -, -, -⟩, ⟨-, -, g4, g5⟩, hTD⟩ := id hS0
        obtain ⟨v, νM, c1, c2, c3, c4, c5⟩ := m_take N hNB (lo := 0) (hi := K - 1) hf hTM hq p0 p1 (by decide) (by omega) g4
        obtain ⟨-, d2, d3, d4, d5⟩ := c5.resolve_right (fun z => by omega)
        refine ⟨νM, hTX.fr (by rw [row_pZ (by omega), a2 2 (by decide)]) (by rw [gI_pZ_a (by omega), a3]), hTM.fr (c2 339 (by decide)) (c3 13 (by decide) (by decide) (by decide) (by decide)), ⟨by rw [gI_pZ_a (by omega), b7], d3, by omega, Int.le_refl _, hb.2.2.1⟩, ⟨by rw [gI_pZ_a (by omega), b9, hF4], by rw [gI_pZ_a (by omega), b10, hF5], d4, by rw [d5, g5]⟩, ?_⟩
        refine hTD.fr (fun x x0 x1 x2 => by rw [row_pZ x2, a2 x (by omega)]) (fun i i0 i1 => ?_) (fun x x0 x1 => c2 x (by omega)) (fun i i0 i1 => gZ_row (c2 335 (by decide)) _) (c3 3 (by decide) (by decide) (by decide) (by decide)) (c3 7 (by decide) (by decide) (by decide) (by decide)) (c3 10 (by decide) (by decide) (by decide) (by decide))
        rw [eC] at i1
        rw [gZ_pZ_n (by omega) i0 (by omega), gZ_row (a2 _ (by omega))]
      obtain ⟨μ0', hS0'⟩ := hw
      obtain ⟨νX, i1, i2, i3⟩ := ih g (h + 1) (rdE f n p) (pZ ν1 (u + 1) (4 * C + h) r) μ0' (by omega) (by omega) (by omega) hS0' (by rw [gI_pZ_a (by omega), gI_row (a2 u (by omega)), eK]) (by rw [gI_pZ_a (by omega), c6])
      have hx1 : FX μX (pZ ν1 (u + 1) (4 * C + h) r) u := ⟨fun x h1 h2 => by rw [row_pZ (by omega), a2 x h1], by rw [gI_pZ_a (by omega), a3]⟩
      refine ⟨νX, i1, hx1.t i2, fun μM hS hpart => ?_⟩
      obtain ⟨νM1, n1, n2, n3, n4⟩ := nx μM hS hpart
      obtain ⟨νM, o1, o2, o3⟩ := i3 νM1 n3 n4
      refine ⟨νM, by rw [n1, o1], n2.t o2, o3.imp (fun ⟨p', z1, z2⟩ => ⟨p', by omega, z2⟩) id⟩
    · rw [b2, if_pos (by decide)]
      refine ⟨_, rfl, FX.o a2 a3, fun μM hS hpart => ?_⟩
      obtain ⟨-, hTM, ⟨-, hq, -, -, -⟩, ⟨-, -, g4, g5⟩, hTD⟩ := id hS
      have m3 : gI μM 332 3 = K := by rw [← hTD.1.1, eK]
      have m7 : gI μM 332 7 = C := by rw [← hTD.2.1.1, eC]
      obtain ⟨v, νM, c1, c2, c3, c4, c5⟩ := m_take N hNB (lo := 0) (hi := K - 1) hf hTM hq p0 p1 (by decide) (by omega) g4
      obtain ⟨-, d2, d3, d4⟩ := c5.resolve_left (fun z => by omega)
      rw [fX9_takeCard_l25, wr_id (a := h) (by omega) (by omega), if_neg (by omega), m3, c1, bP_s, m7, stA_ok (by omega) (by omega) (by omega), ob_s]
      obtain ⟨ν, q1, q2, q3, q4⟩ := m_cardF N (w7 := C) (by omega) j g (h + 1) (pZ νM 335 (32 + 4 * C + h) v) (by omega) (by omega) (by omega) (by rw [gI_pZ_a (by decide), d3]; omega) (by rw [gI_pZ_a (by decide), c3 7 (by decide) (by decide) (by decide) (by decide), m7])
      have hm : FM μM (pZ νM 335 (32 + 4 * C + h) v) := ⟨fun x a1 a2' _ _ _ => by rw [row_pZ a2', c2 x a1], fun k _ _ _ x4 x5 x6 x7 => by rw [gI_pZ_a (by decide), c3 k x4 x5 x6 x7], fun i i0 i1 => by rw [gZ_pZ_n (by omega) i0 (by omega), gZ_row (c2 335 (by decide))], fun i _ _ => by rw [gZ_pZ_a (by decide), gZ_row (c2 337 (by decide))]⟩
      exact ⟨ν, q1, hm.t q2, Or.inr ⟨rdF f n p 0 (K - 1), rdP f n p, by omega, by omega, b3, b4, by rw [q3, gI_pZ_a (by decide), d3], by rw [q4, gI_pZ_a (by decide), d4]⟩⟩
theorem s_card (N : Nat) (hNB : NB N) {f : Int → Int} {n p : Int} (hf : FN f n) {μX μ0 : Mm} {u : Nat} (hu : 5 < u) (hu2 : u + 5 < 332) (hS0 : PS f n μX μ0 u p p) (hc : 0 < gI μX u 5) (hC : gI μX u 6 < 8) : ∃ νX, fX4_readCard N u μX = some νX ∧ FX μX νX u ∧ ∀ μM, PS f n μX μM u p p → ∀ w, ∃ νM, fX9_takeCard N w μM = some νM ∧ FM μM νM ∧ ((∃ p', p ≤ p' ∧ PS f n νX νM u p' p') ∨ FT νX νM) := by
  have hN2 : 300 ≤ N := hNB
  have hTD0 := hS0.2.2.2.2
  have w1 : ¬ wr (1 : Int) = 0 := by decide
  obtain ⟨νX, i1, i2, i3⟩ := s_cl N hNB hf hu hu2 (K := gI μX u 5) (C := gI μX u 6) ⟨hc, hTD0.1.2.2⟩ ⟨hTD0.2.1.2.1, hC⟩ 4 N 0 p μX μ0 (by decide) (by decide) (by omega) hS0 rfl rfl
  refine ⟨νX, i1, i2, fun μM hS w => ?_⟩
  obtain ⟨νM, o1, o2, o3⟩ := i3 μM hS (fun i a b => by omega)
  refine ⟨νM, ?_, o2, o3⟩
  have h7 := hS.2.2.2.2.2.1.1
  have h16 := hS.2.2.2.1.2.2.1
  unfold fX9_takeCard fX9_takeCard_j15
  rw [wr_gI, if_neg (by omega), p_want1 N w1, h16, if_pos rfl, bP_s, if_neg w1]
  exact o1
