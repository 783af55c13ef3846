/-! what the text told so far, both sides; colours, cards, yarn -/
def TD (μX μM : Mm) (u : Nat) : Prop :=
  (gI μX u 5 = gI μM 332 3 ∧ 0 ≤ gI μX u 5 ∧ gI μX u 5 ≤ 8) ∧ (gI μX u 6 = gI μM 332 7 ∧ 0 ≤ gI μX u 6 ∧ gI μX u 6 ≤ 8) ∧ (gI μX u 7 = gI μM 332 10 ∧ 0 ≤ gI μX u 7 ∧ gI μX u 7 ≤ 4) ∧
  (gI μX u 5 = 0 → gI μX u 6 = 0 ∧ gI μX u 7 = 0) ∧
  (∀ j : Int, 0 ≤ j → j < 4 * gI μX u 6 → gZ μX (u + 1) j = gZ μM 335 (32 + j) ∧ 0 ≤ gZ μX (u + 1) j ∧ gZ μX (u + 1) j < gI μX u 5) ∧
  (∀ c : Int, 0 ≤ c → c < gI μX u 6 → gZ μX (u + 2) c = gZ μM 336 (8 + c) ∧ 0 ≤ gZ μX (u + 2) c ∧ gZ μX (u + 2) c ≤ 1) ∧
  (∀ k : Int, 0 ≤ k → k < gI μX u 7 → gZ μX (u + 4) k = gZ μM 337 (4 + k) ∧ 0 < gZ μX (u + 4) k ∧ gZ μX (u + 4) k < 256 ∧ ∀ c : Nat, gI μX u 6 ≤ (c : Int) → (gZ μX (u + 4) k).toNat.testBit c = false) ∧
  (∀ c : Nat, c < 8 → (gZ μX (u + 3) c = -1 ∧ ∀ k : Int, 0 ≤ k → k < gI μX u 7 → (gZ μX (u + 4) k).toNat.testBit c = false) ∨ (0 ≤ gZ μX (u + 3) c ∧ gZ μX (u + 3) c < gI μX u 7 ∧ ∀ k : Int, 0 ≤ k → k < gI μX u 7 → ((gZ μX (u + 4) k).toNat.testBit c = true ↔ k = gZ μX (u + 3) c))) ∧
  (0 ≤ gI μX u 8 ∧ gI μX u 8 < 256 ∧ ∀ c : Nat, c < 8 → ((gI μX u 8).toNat.testBit c = true ↔ ¬ gZ μX (u + 3) c = -1)) ∧
  (∀ k : Int, 0 ≤ k → k < 8 → gZ μX (u + 5) k = gZ μM 338 k ∧ 0 ≤ gZ μX (u + 5) k ∧ gZ μX (u + 5) k ≤ 999)
theorem TD.fr {μX νX μM νM : Mm} {u : Nat} (h : TD μX μM u) (hx : ∀ r, u ≤ r → r ≤ u + 5 → r ≠ u + 1 → νX r = μX r) (h1 : ∀ j, 0 ≤ j → j < 4 * gI μX u 6 → gZ νX (u + 1) j = gZ μX (u + 1) j) (hm : ∀ r, 336 ≤ r → r ≤ 338 → νM r = μM r) (h5 : ∀ j, 0 ≤ j → j < 4 * gI μX u 6 → gZ νM 335 (32 + j) = gZ μM 335 (32 + j)) (f3 : gI νM 332 3 = gI μM 332 3) (f7 : gI νM 332 7 = gI μM 332 7) (f10 : gI νM 332 10 = gI μM 332 10) : TD νX νM u := by
  have e0 := gI_row (hx u (by omega) (by omega) (by omega))
  have e2 := gZ_row (hx (u + 2) (by omega) (by omega) (by omega))
  have e3 := gZ_row (hx (u + 3) (by omega) (by omega) (by omega))
  have e4 := gZ_row (hx (u + 4) (by omega) (by omega) (by omega))
  have e5 := gZ_row (hx (u + 5) (by omega) (by omega) (by omega))
  have m6 := gZ_row (hm 336 (by decide) (by decide))
  have m7 := gZ_row (hm 337 (by decide) (by decide))
  have m8 := gZ_row (hm 338 (by decide) (by decide))
  obtain ⟨a1, a2, a3, a4, a5, a6, a7, a8, a9, a10⟩ := h
  unfold TD
  simp only [e0, e2, e3, e4, e5, m6, m7, m8, f3, f7, f10]
  refine ⟨a1, a2, a3, a4, fun j j0 j1 => ?_, a6, a7, a8, a9, a10⟩
  rw [h1 j j0 j1, h5 j j0 j1]
  exact a5 j j0 j1
def PS (f : Int → Int) (n : Int) (μX μM : Mm) (u : Nat) (p q : Int) : Prop := TX f n μX ∧ TM f n μM ∧ (gI μX 1 2 = p ∧ gI μM 332 14 = q ∧ 0 ≤ q ∧ q ≤ p ∧ p ≤ n) ∧ (gI μX 1 4 = 0 ∧ gI μX 1 5 = -1 ∧ gI μM 332 16 = 0 ∧ gI μM 332 17 = -1) ∧ TD μX μM u
def FT (νX νM : Mm) : Prop := ∃ F q, (1 ≤ F ∧ F ≤ 4) ∧ (-1 ≤ q ∧ q ≤ 240) ∧ gI νX 1 4 = F ∧ gI νX 1 5 = q ∧ gI νM 332 16 = F ∧ gI νM 332 17 = q
def FX (μX νX : Mm) (u : Nat) : Prop := (∀ r, r ≠ 1 → (r < u ∨ u + 5 < r) → νX r = μX r) ∧ gI νX 1 1 = gI μX 1 1
def FM (μM νM : Mm) : Prop := (∀ r, r ≠ 332 → r ≠ 335 → r ≠ 336 → r ≠ 337 → r ≠ 338 → νM r = μM r) ∧ (∀ k, k ≠ 3 → k ≠ 7 → k ≠ 10 → k ≠ 14 → k ≠ 15 → k ≠ 16 → k ≠ 17 → gI νM 332 k = gI μM 332 k) ∧ (∀ i, 0 ≤ i → i < 32 → gZ νM 335 i = gZ μM 335 i) ∧ (∀ i, 0 ≤ i → i < 4 → gZ νM 337 i = gZ μM 337 i)
theorem FX.t {a b c : Mm} {u : Nat} (h : FX a b u) (h2 : FX b c u) : FX a c u := ⟨fun r x y => by rw [h2.1 r x y, h.1 r x y], by rw [h2.2, h.2]⟩
theorem FM.t {a b c : Mm} (h : FM a b) (h2 : FM b c) : FM a c := ⟨fun r x1 x2 x3 x4 x5 => by rw [h2.1 r x1 x2 x3 x4 x5, h.1 r x1 x2 x3 x4 x5], fun k x1 x2 x3 x4 x5 x6 x7 => by rw [h2.2.1 k x1 x2 x3 x4 x5 x6 x7, h.2.1 k x1 x2 x3 x4 x5 x6 x7], fun i a b => by rw [h2.2.2.1 i a b, h.2.2.1 i a b], fun i a b => by rw [h2.2.2.2 i a b, h.2.2.2 i a b]⟩
theorem FX.r (a : Mm) (u : Nat) : FX a a u := ⟨fun _ _ _ => rfl, rfl⟩
theorem FM.r (a : Mm) : FM a a := ⟨fun _ _ _ _ _ _ => rfl, fun _ _ _ _ _ _ _ _ => rfl, fun _ _ _ => rfl, fun _ _ _ => rfl⟩
/-- row 1 alone has changed, the length not -/
theorem FX.o {a b : Mm} {u : Nat} (h : ∀ x, x ≠ 1 → b x = a x) (h1 : gI b 1 1 = gI a 1 1) : FX a b u := ⟨fun r x _ => h r x, h1⟩
theorem FM.o {a b : Mm} (h : ∀ x, x ≠ 332 → b x = a x) (h1 : ∀ k, k ≠ 14 → k ≠ 15 → k ≠ 16 → k ≠ 17 → gI b 332 k = gI a 332 k) : FM a b := ⟨fun r x1 _ _ _ _ => h r x1, fun k _ _ _ x4 x5 x6 x7 => h1 k x4 x5 x6 x7, fun i _ _ => gZ_row (h 335 (by decide)) i, fun i _ _ => gZ_row (h 337 (by decide)) i⟩
theorem TX.fr {f : Int → Int} {n : Int} {a b : Mm} (h : TX f n a) (h2 : b 2 = a 2) (h1 : gI b 1 1 = gI a 1 1) : TX f n b := ⟨by rw [h1]; exact h.1, fun i x y => by rw [gZ_row h2]; exact h.2 i x y⟩
theorem TM.fr {f : Int → Int} {n : Int} {a b : Mm} (h : TM f n a) (h2 : b 339 = a 339) (h1 : gI b 332 13 = gI a 332 13) : TM f n b := ⟨by rw [h1]; exact h.1, fun i x y => by rw [gZ_row h2]; exact h.2 i x y⟩
/-- what a reading leaves alone of what was told -/
theorem TD.o {μX νX μM νM : Mm} {u : Nat} (hu : 5 < u) (h : TD μX μM u) (hx : ∀ x, x ≠ 1 → νX x = μX x) (hm : ∀ x, x ≠ 332 → νM x = μM x) (h1 : ∀ k, k ≠ 14 → k ≠ 15 → k ≠ 16 → k ≠ 17 → gI νM 332 k = gI μM 332 k) : TD νX νM u :=
  h.fr (fun r a b _ => hx r (by omega)) (fun j _ _ => gZ_row (hx _ (by omega)) j) (fun r a b => hm r (by omega)) (fun j _ _ => gZ_row (hm 335 (by decide)) _) (h1 3 (by decide) (by decide) (by decide) (by decide)) (h1 7 (by decide) (by decide) (by decide) (by decide)) (h1 10 (by decide) (by decide) (by decide) (by decide))
theorem s_col (N : Nat) (hNB : NB N) {f : Int → Int} {n p : Int} (hf : FN f n) {μX μ0 : Mm} {u : Nat} (hu : 5 < u) (hS0 : PS f n μX μ0 u p p) (hc : gI μX u 5 = 0) : ∃ νX, fX4_readColours N u μX = some νX ∧ FX μX νX u ∧ ∀ μM, PS f n μX μM u p p → ∀ w, ∃ νM, fX9_takeColours N w μM = some νM ∧ FM μM νM ∧ ((∃ p', p ≤ p' ∧ PS f n νX νM u p' p') ∨ FT νX νM) := by
  obtain ⟨hTX, -, ⟨hp, -, h0, -, h1⟩, ⟨hF4, hF5, -, -⟩, -⟩ := id hS0
  have hn := hf.2.1
  have hb := rd_b hf h0 h1
  have hPn : rdP f n p ≤ n := (sk_b h1).2.1
  obtain ⟨r, ν1, a1, a2, a3, a4⟩ := x_read N hNB (lo := 1) (hi := 8) hf hTX hp h0 h1 (by decide) (by decide)
  have w1 : ¬ wr (1 : Int) = 0 := by decide
  unfold fX4_readColours
  rw [a1, bP_s]
  rcases a4 with ⟨b1, b2, b3, b4, b5, b6, b7, b8, b9, b10⟩ | ⟨b1, b2, b3, b4⟩
  · rw [wr_id (a := r) (by omega) (by omega), if_neg (by omega), ob_s]
    refine ⟨_, rfl, ⟨fun x h1 h2 => by rw [row_pI (by omega), a2 x h1], by rw [gI_pI_a (by omega), a3]⟩, fun μM hS w => ?_⟩
    obtain ⟨-, hTM, ⟨-, hq, -, -, -⟩, ⟨-, -, g4, g5⟩, hTD⟩ := id hS
    obtain ⟨v, νM, c1, c2, c3, c4, c5⟩ := m_take N hNB (lo := 1) (hi := 8) hf hTM hq h0 h1 (by decide) (by decide) g4
    obtain ⟨-, d2, d3, d4, d5⟩ := c5.resolve_right (fun z => by omega)
    obtain ⟨t1, t2, t3, t4, t5, t6, t7, t8, t9, t10⟩ := id hTD
    unfold fX9_takeColours fX9_takeColours_j13
    rw [wr_gI, ← t1.1, hc, if_pos rfl, p_want1 N w1, g4, if_pos rfl, bP_s, if_neg w1, c1, bP_s, ob_s]
    have hv : v = r := by rw [d2, b2]
    rw [hv]
    refine ⟨_, rfl, ⟨fun x h1 _ _ _ _ => by rw [row_pI h1, c2 x h1], fun k h3 _ _ x4 x5 x6 x7 => by rw [gI_pI_k h3, c3 k x4 x5 x6 x7], fun i _ _ => by rw [gZ_pI_a (by decide), gZ_row (c2 335 (by decide))], fun i _ _ => by rw [gZ_pI_a (by decide), gZ_row (c2 337 (by decide))]⟩, Or.inl ⟨rdE f n p, by omega, hTX.fr (by rw [row_pI (by omega), a2 2 (by decide)]) (by rw [gI_pI_a (by omega), a3]), hTM.fr (by rw [row_pI (by decide), c2 339 (by decide)]) (by rw [gI_pI_k (by decide), c3 13 (by decide) (by decide) (by decide) (by decide)]), ⟨by rw [gI_pI_a (by omega), b7], by rw [gI_pI_k (by decide), d3], by omega, Int.le_refl _, hb.2.2.1⟩, ⟨by rw [gI_pI_a (by omega), b9, hF4], by rw [gI_pI_a (by omega), b10, hF5], by rw [gI_pI_k (by decide), d4], by rw [gI_pI_k (by decide), d5, g5]⟩, ?_⟩⟩
    -- what was told
    have x5 : gI (pI ν1 u 5 r) u 5 = r := by rw [gI_pI_s, wr_id (by omega) (by omega)]
    have xk : ∀ k, k ≠ 5 → gI (pI ν1 u 5 r) u k = gI μX u k := fun k hk => by rw [gI_pI_k hk, gI_row (a2 u (by omega))]
    have xz : ∀ j : Nat, 1 ≤ j → j ≤ 5 → ∀ i, gZ (pI ν1 u 5 r) (u + j) i = gZ μX (u + j) i := fun j j0 j1 i => by rw [gZ_pI_a (by omega), gZ_row (a2 _ (by omega))]
    have m3 : gI (pI νM 332 3 r) 332 3 = r := by rw [gI_pI_s, wr_id (by omega) (by omega)]
    have mk : ∀ k, k ≠ 3 → k ≠ 14 → k ≠ 15 → k ≠ 16 → k ≠ 17 → gI (pI νM 332 3 r) 332 k = gI μM 332 k := fun k h3 h4 h5 h6 h7 => by rw [gI_pI_k h3, c3 k h4 h5 h6 h7]
    have mz : ∀ y : Nat, y ≠ 332 → ∀ i, gZ (pI νM 332 3 r) y i = gZ μM y i := fun y hy i => by rw [gZ_pI_a hy, gZ_row (c2 y hy)]
    obtain ⟨z6, z7⟩ := t4 hc
    unfold TD
    rw [x5, xk 6 (by decide), xk 7 (by decide), xk 8 (by decide), m3, mk 7 (by decide) (by decide) (by decide) (by decide) (by decide), mk 10 (by decide) (by decide) (by decide) (by decide) (by decide)]
    simp only [xz 1 (by decide) (by decide), xz 2 (by decide) (by decide), xz 3 (by decide) (by decide), xz 4 (by decide) (by decide), xz 5 (by decide) (by decide), mz 335 (by decide), mz 336 (by decide), mz 337 (by decide), mz 338 (by decide)]
    exact ⟨⟨trivial, by omega, by omega⟩, t2, t3, fun h => by omega, fun j j0 j1 => by omega, t6, t7, t8, t9, t10⟩
  · rw [b2, if_pos (by decide)]
    refine ⟨_, rfl, FX.o a2 a3, fun μM hS w => ?_⟩
    obtain ⟨-, hTM, ⟨-, hq, -, -, -⟩, ⟨-, -, g4, g5⟩, hTD⟩ := id hS
    obtain ⟨v, νM, c1, c2, c3, c4, c5⟩ := m_take N hNB (lo := 1) (hi := 8) hf hTM hq h0 h1 (by decide) (by decide) g4
    obtain ⟨-, d2, d3, d4⟩ := c5.resolve_left (fun z => by omega)
    unfold fX9_takeColours fX9_takeColours_j13
    rw [wr_gI, ← hTD.1.1, hc, if_pos rfl, p_want1 N w1, g4, if_pos rfl, bP_s, if_neg w1, c1, bP_s, ob_s]
    refine ⟨_, rfl, ⟨fun x h1 _ _ _ _ => by rw [row_pI h1, c2 x h1], fun k h3 _ _ x4 x5 x6 x7 => by rw [gI_pI_k h3, c3 k x4 x5 x6 x7], fun i _ _ => by rw [gZ_pI_a (by decide), gZ_row (c2 335 (by decide))], fun i _ _ => by rw [gZ_pI_a (by decide), gZ_row (c2 337 (by decide))]⟩, Or.inr ⟨rdF f n p 1 8, rdP f n p, by omega, by omega, b3, b4, by rw [gI_pI_k (by decide), d3], by rw [gI_pI_k (by decide), d4]⟩⟩
/-! yarn -/
theorem s_yarn (N : Nat) (hNB : NB N) {f : Int → Int} {n p : Int} (hf : FN f n) {μX μ0 : Mm} {u : Nat} (hu : 5 < u) (hS0 : PS f n μX μ0 u p p) (hc : 0 < gI μX u 5) : ∃ νX, fX4_readYarn N u μX = some νX ∧ FX μX νX u ∧ ∀ μM, PS f n μX μM u p p → ∃ νM, fX9_takeYarn N μM = some νM ∧ FM μM νM ∧ ((∃ p', p ≤ p' ∧ PS f n νX νM u p' p') ∨ FT νX νM) := by
  obtain ⟨hTX, -, ⟨hp, -, h0, -, h1⟩, ⟨hF4, hF5, -, -⟩, hTD0⟩ := id hS0
  have hK := hTD0.1.2.2
  have hn := hf.2.1
  have hb := rd_b hf h0 h1
  have hPn : rdP f n p ≤ n := (sk_b h1).2.1
  obtain ⟨r, ν1, a1, a2, a3, a4⟩ := x_read N hNB (lo := 0) (hi := gI μX u 5 - 1) hf hTX hp h0 h1 (by decide) (by omega)
  unfold fX4_readYarn
  rw [a1, bP_s]
  rcases a4 with ⟨b1, b2, b3, b4, b5, b6, b7, b8, b9, b10⟩ | ⟨b1, b2, b3, b4⟩
  · have hp2 : 0 ≤ rdE f n p := by omega
    have hTX1 : TX f n ν1 := hTX.fr (a2 2 (by decide)) a3
    obtain ⟨r2, ν2, e1, e2, e3, e4⟩ := x_read N hNB (lo := 0) (hi := 999) hf hTX1 b7 hp2 hb.2.2.1 (by decide) (by decide)
    have hb2 := rd_b hf hp2 hb.2.2.1
    have hPn2 : rdP f n (rdE f n p) ≤ n := (sk_b hb.2.2.1).2.1
    rw [wr_id (a := r) (by omega) (by omega), if_neg (by omega), e1, bP_s]
    rcases e4 with ⟨k1, k2, k3, k4, k5, k6, k7, k8, k9, k10⟩ | ⟨k1, k2, k3, k4⟩
    · rw [wr_id (a := r2) (by omega) (by omega), if_neg (by omega), if_neg (by omega), stA_ok b3 (by omega) (by omega), ob_s]
      refine ⟨_, rfl, ⟨fun x h1 h2 => by rw [row_pZ (by omega), e2 x h1, a2 x h1], by rw [gI_pZ_a (by omega), e3, a3]⟩, fun μM hS => ?_⟩
      obtain ⟨-, hTM, ⟨-, hq, -, -, -⟩, ⟨-, -, g4, g5⟩, hTD⟩ := id hS
      obtain ⟨t1, t2, t3, t4, t5, t6, t7, t8, t9, t10⟩ := id hTD
      obtain ⟨v, νM, c1, c2, c3, c4, c5⟩ := m_take N hNB (lo := 0) (hi := gI μX u 5 - 1) hf hTM hq h0 h1 (by decide) (by omega) g4
      obtain ⟨-, d2, d3, d4, d5⟩ := c5.resolve_right (fun z => by omega)
      have hTM1 : TM f n νM := hTM.fr (c2 339 (by decide)) (c3 13 (by decide) (by decide) (by decide) (by decide))
      obtain ⟨v2, νM2, c1', c2', c3', c4', c5'⟩ := m_take N hNB (lo := 0) (hi := 999) hf hTM1 d3 hp2 hb.2.2.1 (by decide) (by decide) d4
      obtain ⟨-, d2', d3', d4', d5'⟩ := c5'.resolve_right (fun z => by omega)
      have hv : v = r := by rw [d2, b2]
      have hv2 : v2 = r2 := by rw [d2', k2]
      unfold fX9_takeYarn
      rw [← t1.1, c1, bP_s, c1', bP_s, wr_gI, d4', if_pos rfl, hv, hv2, stA_ok b3 (by omega) (by omega), ob_s]
      refine ⟨_, rfl, ⟨fun x h1 _ _ _ h5 => by rw [row_pZ h5, c2' x h1, c2 x h1], fun k _ _ _ x4 x5 x6 x7 => by rw [gI_pZ_a (by decide), c3' k x4 x5 x6 x7, c3 k x4 x5 x6 x7], fun i _ _ => by rw [gZ_pZ_a (by decide), gZ_row (c2' 335 (by decide)), gZ_row (c2 335 (by decide))], fun i _ _ => by rw [gZ_pZ_a (by decide), gZ_row (c2' 337 (by decide)), gZ_row (c2 337 (by decide))]⟩, Or.inl ⟨rdE f n (rdE f n p), by omega, hTX1.fr (by rw [row_pZ (by omega), e2 2 (by decide)]) (by rw [gI_pZ_a (by omega), e3]), hTM1.fr (by rw [row_pZ (by decide), c2' 339 (by decide)]) (by rw [gI_pZ_a (by decide), c3' 13 (by decide) (by decide) (by decide) (by decide)]), ⟨by rw [gI_pZ_a (by omega), k7], by rw [gI_pZ_a (by decide), d3'], by omega, Int.le_refl _, hb2.2.2.1⟩, ⟨by rw [gI_pZ_a (by omega), k9, b9, hF4], by rw [gI_pZ_a (by omega), k10, b10, hF5], by rw [gI_pZ_a (by decide), d4'], by rw [gI_pZ_a (by decide), d5', d5, g5]⟩, ?_⟩⟩
      have xk : ∀ k, gI (pZ ν2 (u + 5) r r2) u k = gI μX u k := fun k => by rw [gI_pZ_a (by omega), gI_row (e2 u (by omega)), gI_row (a2 u (by omega))]
      have xz : ∀ j : Nat, 1 ≤ j → j ≤ 4 → ∀ i, gZ (pZ ν2 (u + 5) r r2) (u + j) i = gZ μX (u + j) i := fun j j0 j1 i => by rw [gZ_pZ_a (by omega), gZ_row (e2 _ (by omega)), gZ_row (a2 _ (by omega))]
      have mk : ∀ k, k ≠ 14 → k ≠ 15 → k ≠ 16 → k ≠ 17 → gI (pZ νM2 338 r r2) 332 k = gI μM 332 k := fun k h4 h5 h6 h7 => by rw [gI_pZ_a (by decide), c3' k h4 h5 h6 h7, c3 k h4 h5 h6 h7]
      have mz : ∀ y : Nat, y ≠ 332 → y ≠ 338 → ∀ i, gZ (pZ νM2 338 r r2) y i = gZ μM y i := fun y hy h8 i => by rw [gZ_pZ_a h8, gZ_row (c2' y hy), gZ_row (c2 y hy)]
      unfold TD
      simp only [xk, xz 1 (by decide) (by decide), xz 2 (by decide) (by decide), xz 3 (by decide) (by decide), xz 4 (by decide) (by decide), mz 335 (by decide) (by decide), mz 336 (by decide) (by decide), mz 337 (by decide) (by decide), mk 3 (by decide) (by decide) (by decide) (by decide), mk 7 (by decide) (by decide) (by decide) (by decide), mk 10 (by decide) (by decide) (by decide) (by decide)]
      refine ⟨t1, t2, t3, t4, t5, t6, t7, t8, t9, fun k y0 y1 => ?_⟩
      rw [gZ_pZ b3 y0, gZ_pZ b3 y0, wr_id (a := r2) (by omega) (by omega)]
      by_cases z : k = r
      · rw [if_pos z, if_pos z]; exact ⟨rfl, k3, k4⟩
      · rw [if_neg z, if_neg z, gZ_row (e2 _ (by omega)), gZ_row (a2 _ (by omega)), gZ_row (c2' 338 (by decide)), gZ_row (c2 338 (by decide))]
        exact t10 k y0 y1
    · rw [k2, if_pos (by decide)]
      refine ⟨_, rfl, FX.o (fun x h => by rw [e2 x h, a2 x h]) (by rw [e3, a3]), fun μM hS => ?_⟩
      obtain ⟨-, hTM, ⟨-, hq, -, -, -⟩, ⟨-, -, g4, g5⟩, hTD⟩ := id hS
      obtain ⟨v, νM, c1, c2, c3, c4, c5⟩ := m_take N hNB (lo := 0) (hi := gI μX u 5 - 1) hf hTM hq h0 h1 (by decide) (by omega) g4
      obtain ⟨-, d2, d3, d4, d5⟩ := c5.resolve_right (fun z => by omega)
      have hTM1 : TM f n νM := hTM.fr (c2 339 (by decide)) (c3 13 (by decide) (by decide) (by decide) (by decide))
      obtain ⟨v2, νM2, c1', c2', c3', c4', c5'⟩ := m_take N hNB (lo := 0) (hi := 999) hf hTM1 d3 hp2 hb.2.2.1 (by decide) (by decide) d4
      obtain ⟨-, d2', d3', d4'⟩ := c5'.resolve_left (fun z => by omega)
      unfold fX9_takeYarn
      rw [← hTD.1.1, c1, bP_s, c1', bP_s, wr_gI, d3', if_neg (by omega)]
      exact ⟨_, rfl, FM.o (fun x h => by rw [c2' x h, c2 x h]) (fun k h1 h2 h3 h4 => by rw [c3' k h1 h2 h3 h4, c3 k h1 h2 h3 h4]), Or.inr ⟨rdF f n (rdE f n p) 0 999, rdP f n (rdE f n p), by omega, by omega, k3, k4, d3', d4'⟩⟩
  · rw [b2, if_pos (by decide)]
    refine ⟨_, rfl, FX.o a2 a3, fun μM hS => ?_⟩
    obtain ⟨-, hTM, ⟨-, hq, -, -, -⟩, ⟨-, -, g4, g5⟩, hTD⟩ := id hS
    obtain ⟨v, νM, c1, c2, c3, c4, c5⟩ := m_take N hNB (lo := 0) (hi := gI μX u 5 - 1) hf hTM hq h0 h1 (by decide) (by omega) g4
    obtain ⟨-, d2, d3, d4⟩ := c5.resolve_left (fun z => by omega)
    unfold fX9_takeYarn
    rw [← hTD.1.1, c1, bP_s, m_takeF N (by omega), bP_s, wr_gI, d3, if_neg (by omega)]
    exact ⟨_, rfl, FM.o c2 c3, Or.inr ⟨rdF f n p 0 (gI μX u 5 - 1), rdP f n p, by omega, by omega, b3, b4, d3, d4⟩⟩
