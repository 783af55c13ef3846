/-! a pack of the text -/
theorem ap_l (N : Nat) {μ : Mm} {u : Nat} {C P : Int} {rn : Nat} (hr : rn < 256) (hC : 0 ≤ C ∧ C ≤ 8) (hP : 0 ≤ P ∧ P < 4) (eC : gI μ u 6 = C) (eP : gI μ u 7 = P) : ∀ (j fl : Nat) (c : Int) (ν : Mm), 0 ≤ c → c + j = C → j < fl → (∀ x, x ≠ u + 3 → ν x = μ x) → (∀ i, 0 ≤ i → gZ ν (u + 3) i = if i < c ∧ rn.testBit i.toNat = true then P else gZ μ (u + 3) i) → ∃ ν1, fX5_addPack_l11 N u rn fl c ν = fX5_addPack_k44 N u rn ν1 ∧ (∀ x, x ≠ u + 3 → ν1 x = μ x) ∧ (∀ i, 0 ≤ i → gZ ν1 (u + 3) i = if i < C ∧ rn.testBit i.toNat = true then P else gZ μ (u + 3) i) := by
  intro j
  induction j with
  | zero =>
    intro fl c ν c0 cj hfl hx hv
    obtain ⟨g, rfl⟩ : ∃ g, fl = g + 1 := ⟨fl - 1, by omega⟩
    rw [fX5_addPack_l11, gI_row (hx u (by omega)), eC, wr_id (a := C) (by omega) (by omega), wr_id (a := c) (by omega) (by omega), if_pos (by omega)]
    exact ⟨ν, rfl, hx, by rw [show C = c by omega]; exact hv⟩
  | succ j ih =>
    intro fl c ν c0 cj hfl hx hv
    obtain ⟨g, rfl⟩ : ∃ g, fl = g + 1 := ⟨fl - 1, by omega⟩
    obtain ⟨cn, rfl⟩ : ∃ cn : Nat, c = cn := ⟨c.toNat, by omega⟩
    rw [fX5_addPack_l11, gI_row (hx u (by omega)), gI_row (hx u (by omega)), eC, eP, wr_id (a := C) (by omega) (by omega), wr_id (a := (cn : Int)) (by omega) (by omega), if_neg (by omega), has_nat (by omega) (by omega)]
    cases hb : rn.testBit cn with
    | true =>
      rw [if_pos rfl, if_pos (by decide), stA_ok c0 (by omega) (by omega), ob_s]
      refine ih g ((cn : Int) + 1) _ (by omega) (by omega) (by omega) (fun x h => by rw [row_pZ h]; exact hx x h) (fun i i0 => ?_)
      rw [gZ_pZ c0 i0, wr_id (a := P) (by omega) (by omega)]
      by_cases z : i = cn
      · subst z
        rw [if_pos rfl, if_pos ⟨by omega, by rw [Int.toNat_natCast]; exact hb⟩]
      · rw [if_neg z, hv i i0]
        by_cases y : i < (cn : Int) ∧ rn.testBit i.toNat = true
        · rw [if_pos y, if_pos ⟨by omega, y.2⟩]
        · rw [if_neg y, if_neg (fun w => y ⟨by omega, w.2⟩)]
    | false =>
      rw [if_neg (show ¬ false = true by decide), if_neg (by decide)]
      refine ih g ((cn : Int) + 1) ν (by omega) (by omega) (by omega) hx (fun i i0 => ?_)
      rw [hv i i0]
      by_cases y : i < (cn : Int) ∧ rn.testBit i.toNat = true
      · rw [if_pos y, if_pos ⟨by omega, y.2⟩]
      · rw [if_neg y]
        by_cases z : i = cn
        · subst z
          rw [if_neg (fun w => by have := w.2; rw [Int.toNat_natCast, hb] at this; exact absurd this (by decide))]
        · rw [if_neg (fun w => y ⟨by omega, w.2⟩)]
theorem m_pkF (N : Nat) {v P : Int} (hP : 0 ≤ P ∧ P < 4) : ∀ (j fl : Nat) (k : Int) (μ : Mm), 0 ≤ k → k + j = P → j < fl → 0 < gI μ 332 16 → gI μ 332 10 = P → fX9_takePack_l67 N v fl k μ = fX9_takePack_k118 N v μ := by
  intro j
  induction j with
  | zero =>
    intro fl k μ k0 kj hfl hF hp
    obtain ⟨g, rfl⟩ : ∃ g, fl = g + 1 := ⟨fl - 1, by omega⟩
    rw [fX9_takePack_l67, hp, wr_id (a := P) (by omega) (by omega), wr_id (a := k) (by omega) (by omega), if_pos (by omega)]
  | succ j ih =>
    intro fl k μ k0 kj hfl hF hp
    obtain ⟨g, rfl⟩ : ∃ g, fl = g + 1 := ⟨fl - 1, by omega⟩
    rw [fX9_takePack_l67, hp, wr_id (a := P) (by omega) (by omega), wr_id (a := k) (by omega) (by omega), if_neg (by omega), wr_gI, if_pos hF]
    unfold fX9_takePack_j103
    rw [p_wantF N (by omega), bP_s]
    exact ih g (k + 1) μ (by omega) (by omega) (by omega) hF hp
theorem m_pk (N : Nat) {v P : Int} (hP : 0 ≤ P ∧ P < 4) : ∀ (j fl : Nat) (k : Int) (μ : Mm), 0 ≤ k → k + j = P → j < fl → gI μ 332 16 = 0 → gI μ 332 10 = P → ((∀ i, k ≤ i → i < P → wr (andI v (gZ μ 337 (4 + i))) = 0) → fX9_takePack_l67 N v fl k μ = fX9_takePack_k118 N v μ) ∧ ((∃ i, k ≤ i ∧ i < P ∧ ¬ wr (andI v (gZ μ 337 (4 + i))) = 0) → fX9_takePack_l67 N v fl k μ = fX9_takePack_k118 N v (pI (pI μ 332 16 4) 332 17 (gI μ 332 15))) := by
  intro j
  induction j with
  | zero =>
    intro fl k μ k0 kj hfl hF hp
    obtain ⟨g, rfl⟩ : ∃ g, fl = g + 1 := ⟨fl - 1, by omega⟩
    refine ⟨fun _ => ?_, fun ⟨i, i0, i1, _⟩ => by omega⟩
    rw [fX9_takePack_l67, hp, wr_id (a := P) (by omega) (by omega), wr_id (a := k) (by omega) (by omega), if_pos (by omega)]
  | succ j ih =>
    intro fl k μ k0 kj hfl hF hp
    obtain ⟨g, rfl⟩ : ∃ g, fl = g + 1 := ⟨fl - 1, by omega⟩
    have i1 := ih g (k + 1) μ (by omega) (by omega) (by omega) hF hp
    have w1 : ¬ wr (1 : Int) = 0 := by decide
    have w0 : wr (0 : Int) = 0 := by decide
    rw [fX9_takePack_l67, hp, wr_id (a := P) (by omega) (by omega), wr_id (a := k) (by omega) (by omega), if_neg (by omega), wr_gI, hF, if_neg (by decide), ldA_ok (by omega) (by omega) (by omega), ob_s]
    unfold fX9_takePack_j103
    by_cases z : wr (andI v (gZ μ 337 (4 + k))) = 0
    · rw [if_pos z, p_want1 N w1, hF, if_pos rfl, bP_s]
      refine ⟨fun h => i1.1 (fun i a b => h i (by omega) b), fun ⟨i, a, b, c⟩ => i1.2 ⟨i, ?_, b, c⟩⟩
      by_cases y : i = k
      · rw [y] at c; exact absurd z c
      · omega
    · rw [if_neg z, p_want0 N w0 hF (by decide), bP_s]
      refine ⟨fun h => absurd (h k (by omega) (by omega)) z, fun _ => ?_⟩
      exact m_pkF N hP j g (k + 1) _ (by omega) (by omega) (by omega) (by rw [gI_pI_k (by decide), gI_pI_s]; decide) (by rw [gI_pI_k (by decide), gI_pI_k (by decide), hp])
theorem bits8 {x c : Nat} (hx : x < 256) (hc : 8 ≤ c) : x.testBit c = false := Nat.testBit_lt_two_pow (Nat.lt_of_lt_of_le hx (show 2 ^ 8 ≤ 2 ^ c from Nat.pow_le_pow_right (by decide) hc))
theorem bit_nz {x c : Nat} (h : x.testBit c = true) : x ≠ 0 := fun e => by rw [e, Nat.zero_testBit] at h; exact absurd h (by decide)
/-- a set meets those told ahead, said in two ways -/
theorem meet {μX μM : Mm} {u rn : Nat} (hT : TD μX μM u) (hr : rn < 256) : rn &&& (gI μX u 8).toNat = 0 ↔ ∀ k : Int, 0 ≤ k → k < gI μX u 7 → rn &&& (gZ μX (u + 4) k).toNat = 0 := by
  obtain ⟨t1, t2, t3, t4, t5, t6, t7, t8, t9, t10⟩ := hT
  constructor
  · intro h k k0 k1
    have hk := t7 k k0 k1
    rcases Nat.eq_zero_or_pos (rn &&& (gZ μX (u + 4) k).toNat) with z | z
    · exact z
    · obtain ⟨c, c8, hc⟩ := bit_ex _ (Nat.lt_of_le_of_lt Nat.and_le_left hr) z
      rw [Nat.testBit_and, Bool.and_eq_true] at hc
      have h8 : ¬ gZ μX (u + 3) c = -1 := by
        rcases t8 c c8 with ⟨_, y⟩ | ⟨y, _⟩
        · rw [y k k0 k1] at hc; exact absurd hc.2 (by decide)
        · omega
      have := (t9.2.2 c c8).2 h8
      exact absurd h (bit_nz (c := c) (by rw [Nat.testBit_and, hc.1, this]; rfl))
  · intro h
    rcases Nat.eq_zero_or_pos (rn &&& (gI μX u 8).toNat) with z | z
    · exact z
    · obtain ⟨c, c8, hc⟩ := bit_ex _ (Nat.lt_of_le_of_lt Nat.and_le_left hr) z
      rw [Nat.testBit_and, Bool.and_eq_true] at hc
      have h8 := (t9.2.2 c c8).1 hc.2
      rcases t8 c c8 with ⟨y, _⟩ | ⟨y0, y1, y2⟩
      · exact absurd y h8
      · have hb := (y2 _ y0 y1).2 rfl
        exact absurd (h _ y0 y1) (bit_nz (c := c) (by rw [Nat.testBit_and, hc.1, hb]; rfl))
theorem rdF_hi {f : Int → Int} {n p lo hi hi2 : Int} (hh : hi ≤ hi2) : (rdF f n p lo hi = 0 → rdF f n p lo hi2 = 0) ∧ (rdF f n p lo hi = 1 → rdF f n p lo hi2 = 1) ∧ (rdF f n p lo hi = 2 → (rdF f n p lo hi2 = 2 ∨ (rdF f n p lo hi2 = 0 ∧ hi < rdV f n p))) := by
  unfold rdF
  by_cases q : 48 ≤ ltr f n (sk f n p) ∧ ltr f n (sk f n p) ≤ 57
  · rw [if_pos q, if_pos q]
    by_cases z : rdE f n p - sk f n p ≤ 3 ∧ lo ≤ rdV f n p ∧ rdV f n p ≤ hi
    · rw [if_pos z, if_pos (by omega)]
      exact ⟨fun _ => rfl, fun h => absurd h (by decide), fun h => absurd h (by decide)⟩
    · rw [if_neg z]
      refine ⟨fun h => absurd h (by decide), fun h => absurd h (by decide), fun _ => ?_⟩
      by_cases y : rdE f n p - sk f n p ≤ 3 ∧ lo ≤ rdV f n p ∧ rdV f n p ≤ hi2
      · rw [if_pos y]; exact Or.inr ⟨rfl, by omega⟩
      · rw [if_neg y]; exact Or.inl rfl
  · rw [if_neg q, if_neg q]
    exact ⟨fun h => absurd h (by decide), fun _ => rfl, fun h => absurd h (by decide)⟩
theorem k118_g (N : Nat) {v P : Int} {μ : Mm} (hP : 0 ≤ P ∧ P < 4) (hp : gI μ 332 10 = P) : fX9_takePack_k118 N v μ = some (pI (pZ μ 337 (4 + P) v) 332 10 (P + 1)) := by
  unfold fX9_takePack_k118
  rw [hp, stA_ok (by omega) (by omega) (by omega), ob_s, ob_s, gI_pZ_a (by decide), hp]
theorem k118_m {v P : Int} {μ μM : Mm} (hP : 0 ≤ P ∧ P < 4) (h1 : ∀ x, x ≠ 332 → μ x = μM x) (h2 : ∀ k, k ≠ 14 → k ≠ 15 → k ≠ 16 → k ≠ 17 → gI μ 332 k = gI μM 332 k) : FM μM (pI (pZ μ 337 (4 + P) v) 332 10 (P + 1)) := ⟨fun x a1 _ _ a4 _ => by rw [row_pI a1, row_pZ a4, h1 x a1], fun k _ _ b3 x4 x5 x6 x7 => by rw [gI_pI_k b3, gI_pZ_a (by decide), h2 k x4 x5 x6 x7], fun i _ _ => by rw [gZ_pI_a (by decide), gZ_pZ_a (by decide), gZ_row (h1 335 (by decide))], fun i i0 i1 => by rw [gZ_pI_a (by decide), gZ_pZ_n (by omega) i0 (by omega), gZ_row (h1 337 (by decide))]⟩
theorem s_pack (N : Nat) (hNB : NB N) {f : Int → Int} {n p : Int} (hf : FN f n) {μX μ0 : Mm} {u : Nat} (hu : 5 < u) (hu2 : u + 5 < 332) (hS0 : PS f n μX μ0 u p p) (hPk : gI μX u 7 < 4) : ∃ νX, fX4_readPack N u μX = some νX ∧ FX μX νX u ∧ ∀ μM, PS f n μX μM u p p → ∀ w, ∃ νM, fX9_takePack N w μM = some νM ∧ FM μM νM ∧ ((∃ p', p ≤ p' ∧ PS f n νX νM u p' p') ∨ FT νX νM) := by
  have hN2 : 300 ≤ N := hNB
  obtain ⟨hTX, -, ⟨hp, -, p0, -, p1⟩, ⟨hF4, hF5, -, -⟩, hTD0⟩ := id hS0
  have hn := hf.2.1
  have hb := rd_b hf p0 p1
  have hPn : rdP f n p ≤ n := (sk_b p1).2.1
  have w1 : ¬ wr (1 : Int) = 0 := by decide
  have w0 : wr (0 : Int) = 0 := by decide
  obtain ⟨C, hC⟩ : ∃ C : Nat, gI μX u 6 = C := ⟨(gI μX u 6).toNat, by have := hTD0.2.1.2.1; omega⟩
  have hC8 : C ≤ 8 := by have := hTD0.2.1.2.2; omega
  have h2C : (2 ^ C : Nat) ≤ 256 ∧ 1 ≤ (2 ^ C : Nat) := ⟨show 2 ^ C ≤ 2 ^ 8 from Nat.pow_le_pow_right (by decide) hC8, Nat.one_le_two_pow⟩
  have hP0 : 0 ≤ gI μX u 7 := hTD0.2.2.1.2.1
  obtain ⟨r, ν1, a1, a2, a3, a4⟩ := x_read N hNB (lo := 1) (hi := ((2 ^ C : Nat) : Int) - 1) hf hTX hp p0 p1 (by decide) (by omega)
  have hrel := rdF_hi (f := f) (n := n) (p := p) (lo := 1) (hi := ((2 ^ C : Nat) : Int) - 1) (hi2 := 255) (by omega)
  have c8 : gI ν1 u 8 = gI μX u 8 := gI_row (a2 u (by omega)) 8
  unfold fX4_readPack
  rw [hC, shl1 hC8, a1, bP_s]
  -- the reference up to its number
  have mod : ∀ μM, PS f n μX μM u p p → ∀ w, ∃ v νM, fX9_takePack N w μM = (if 0 < wr (gI νM 332 16) then (fX9_takePack_j55 N v νM 1) else (if wr (shlI 1 (gI νM 332 7)) ≤ wr v then (fX9_takePack_j55 N v νM 0) else (fX9_takePack_j55 N v νM 1))) ∧ (∀ x, x ≠ 332 → νM x = μM x) ∧ (∀ k, k ≠ 14 → k ≠ 15 → k ≠ 16 → k ≠ 17 → gI νM 332 k = gI μM 332 k) ∧ gI νM 332 15 = rdP f n p ∧ ((rdF f n p 1 255 = 0 ∧ v = rdV f n p ∧ gI νM 332 14 = rdE f n p ∧ gI νM 332 16 = 0 ∧ gI νM 332 17 = gI μM 332 17) ∨ ((rdF f n p 1 255 = 1 ∨ rdF f n p 1 255 = 2) ∧ v = 0 ∧ gI νM 332 16 = rdF f n p 1 255 ∧ gI νM 332 17 = rdP f n p)) := by
    intro μM hS w
    obtain ⟨-, hTM, ⟨-, hq, -, -, -⟩, ⟨-, -, g4, g5⟩, hTD⟩ := id hS
    obtain ⟨v, νM, c1, c2, c3, c4, c5⟩ := m_take N hNB (lo := 1) (hi := 255) hf hTM hq p0 p1 (by decide) (by decide) g4
    refine ⟨v, νM, ?_, c2, c3, c4, c5⟩
    unfold fX9_takePack fX9_takePack_j14
    rw [wr_gI, ← hTD.2.2.1.1, if_neg (by omega), p_want1 N w1, g4, if_pos rfl, bP_s, if_neg w1, c1, bP_s]
  rcases a4 with ⟨b1, b2, b3, b4, b5, b6, b7, b8, b9, b10⟩ | ⟨b1, b2, b3, b4⟩
  · obtain ⟨rn, hrn⟩ : ∃ rn : Nat, r = rn := ⟨r.toNat, by omega⟩
    obtain ⟨cp, hcp⟩ : ∃ cp : Nat, gI μX u 8 = cp := ⟨(gI μX u 8).toNat, by have := hTD0.2.2.2.2.2.2.2.2.1.1; omega⟩
    have hcp2 : cp < 256 := by have := hTD0.2.2.2.2.2.2.2.2.1.2.1; omega
    have hr256 : rn < 256 := by omega
    have hand : andI r (gI ν1 u 8) = ((rn &&& cp : Nat) : Int) := by rw [c8, hcp, hrn, andI_nat (by omega) (by omega)]
    have hlt : rn &&& cp < 256 := Nat.lt_of_le_of_lt Nat.and_le_left hr256
    rw [wr_id (a := r) (by omega) (by omega), if_neg (by omega), hand, wr_id (a := ((rn &&& cp : Nat) : Int)) (by omega) (by omega)]
    -- the reference's loop, in the class' words
    have mk : ∀ μM, PS f n μX μM u p p → ∀ w, ∃ νM, (∀ x, x ≠ 332 → νM x = μM x) ∧ (∀ k, k ≠ 14 → k ≠ 15 → k ≠ 16 → k ≠ 17 → gI νM 332 k = gI μM 332 k) ∧ gI νM 332 15 = rdP f n p ∧ gI νM 332 14 = rdE f n p ∧ gI νM 332 16 = 0 ∧ gI νM 332 17 = gI μM 332 17 ∧ (rn &&& cp = 0 → fX9_takePack N w μM = fX9_takePack_k118 N r νM) ∧ (¬ rn &&& cp = 0 → fX9_takePack N w μM = fX9_takePack_k118 N r (pI (pI νM 332 16 4) 332 17 (rdP f n p))) := by
      intro μM hS w
      obtain ⟨v, νM, c1, c2, c3, c4, c5⟩ := mod μM hS w
      obtain ⟨-, d2, d3, d4, d5⟩ := c5.resolve_right (fun z => by have := hrel.1 b1; omega)
      have hTD := hS.2.2.2.2
      have hv : v = r := by rw [d2, b2]
      have e7 : gI νM 332 7 = C := by rw [c3 7 (by decide) (by decide) (by decide) (by decide), ← hTD.2.1.1, hC]
      have e10 : gI νM 332 10 = gI μX u 7 := by rw [c3 10 (by decide) (by decide) (by decide) (by decide), ← hTD.2.2.1.1]
      have hm := meet hTD hr256
      rw [hcp, Int.toNat_natCast] at hm
      obtain ⟨q1, q2⟩ := m_pk N (v := r) (P := gI μX u 7) ⟨hP0, hPk⟩ (gI μX u 7).toNat N 0 νM (by decide) (by omega) (by omega) d4 e10
      have conv : ∀ i, 0 ≤ i → i < gI μX u 7 → (wr (andI r (gZ νM 337 (4 + i))) = 0 ↔ rn &&& (gZ μX (u + 4) i).toNat = 0) := by
        intro i i0 i1
        have t7 := hTD.2.2.2.2.2.2.1 i i0 i1
        obtain ⟨pk, hpk⟩ : ∃ pk : Nat, gZ μX (u + 4) i = pk := ⟨(gZ μX (u + 4) i).toNat, by omega⟩
        have hl : rn &&& pk < 256 := Nat.lt_of_le_of_lt Nat.and_le_left hr256
        rw [gZ_row (c2 337 (by decide)), ← t7.1, hpk, hrn, andI_nat (by omega) (by omega), Int.toNat_natCast, wr_id (by omega) (by omega)]
        omega
      refine ⟨νM, c2, c3, c4, d3, d4, d5, fun h => ?_, fun h => ?_⟩
      · rw [c1, wr_gI, d4, if_neg (by decide), e7, shl1 hC8, hv, wr_id (a := ((2 ^ C : Nat) : Int)) (by omega) (by omega), wr_id (a := r) (by omega) (by omega), if_neg (by omega)]
        unfold fX9_takePack_j55
        rw [p_want1 N w1, d4, if_pos rfl, bP_s]
        exact q1 (fun i i0 i1 => (conv i i0 i1).2 (hm.1 h i i0 i1))
      · rw [c1, wr_gI, d4, if_neg (by decide), e7, shl1 hC8, hv, wr_id (a := ((2 ^ C : Nat) : Int)) (by omega) (by omega), wr_id (a := r) (by omega) (by omega), if_neg (by omega)]
        unfold fX9_takePack_j55
        rw [p_want1 N w1, d4, if_pos rfl, bP_s, ← c4]
        refine q2 ?_
        rcases Classical.em (∃ i, 0 ≤ i ∧ i < gI μX u 7 ∧ ¬ wr (andI r (gZ νM 337 (4 + i))) = 0) with y | y
        · exact y
        · refine absurd (hm.2 (fun k k0 k1 => (conv k k0 k1).1 ?_)) h
          rcases Classical.em (wr (andI r (gZ νM 337 (4 + k))) = 0) with z | z
          · exact z
          · exact absurd ⟨k, k0, k1, z⟩ y
    by_cases q : rn &&& cp = 0
    · rw [if_pos (by omega)]
      unfold fX5_addPack
      have e7 : gI ν1 u 7 = gI μX u 7 := gI_row (a2 u (by omega)) 7
      have e6 : gI ν1 u 6 = (C : Int) := by rw [gI_row (a2 u (by omega)), hC]
      obtain ⟨ν2, l1, l2, l3⟩ := ap_l N (μ := ν1) (u := u) (C := (C : Int)) (P := gI μX u 7) (rn := rn) hr256 (by omega) ⟨hP0, hPk⟩ e6 e7 C N 0 ν1 (by decide) (by omega) (by omega) (fun _ _ => rfl) (fun i i0 => by rw [if_neg (fun z => by omega)])
      rw [e7, wr_gI, if_pos (by omega)]
      rw [hrn, l1]
      unfold fX5_addPack_k44
      have f7 : gI ν2 u 7 = gI μX u 7 := by rw [gI_row (l2 u (by omega)), e7]
      have f8 : gI ν2 u 8 = (cp : Int) := by rw [gI_row (l2 u (by omega)), c8, hcp]
      rw [f7, stA_ok hP0 (by omega) (by omega), ob_s, gI_pZ_a (by omega), f8, orI_nat (by omega) (by omega), ob_s, ob_s, gI_pI_k (by decide), gI_pZ_a (by omega), f7, ob_s]
      have hor : cp ||| rn < 256 := Nat.or_lt_two_pow (n := 8) hcp2 hr256
      have xr : ∀ x, x ≠ u → x ≠ u + 3 → x ≠ u + 4 → (pI (pI (pZ ν2 (u + 4) (gI μX u 7) rn) u 8 ((cp ||| rn : Nat) : Int)) u 7 (gI μX u 7 + 1)) x = ν1 x := fun x h0 h3 h4 => by rw [row_pI h0, row_pI h0, row_pZ h4, l2 x h3]
      have x7 : gI (pI (pI (pZ ν2 (u + 4) (gI μX u 7) rn) u 8 ((cp ||| rn : Nat) : Int)) u 7 (gI μX u 7 + 1)) u 7 = gI μX u 7 + 1 := by rw [gI_pI_s, wr_id (by omega) (by omega)]
      have x8 : gI (pI (pI (pZ ν2 (u + 4) (gI μX u 7) rn) u 8 ((cp ||| rn : Nat) : Int)) u 7 (gI μX u 7 + 1)) u 8 = ((cp ||| rn : Nat) : Int) := by rw [gI_pI_k (by decide), gI_pI_s, wr_id (by omega) (by omega)]
      have xk : ∀ k, k ≠ 7 → k ≠ 8 → gI (pI (pI (pZ ν2 (u + 4) (gI μX u 7) rn) u 8 ((cp ||| rn : Nat) : Int)) u 7 (gI μX u 7 + 1)) u k = gI μX u k := fun k h7 h8 => by rw [gI_pI_k h7, gI_pI_k h8, gI_pZ_a (by omega), gI_row (l2 u (by omega)), gI_row (a2 u (by omega))]
      have xz : ∀ j : Nat, 1 ≤ j → j ≤ 5 → j ≠ 3 → j ≠ 4 → ∀ i, gZ (pI (pI (pZ ν2 (u + 4) (gI μX u 7) rn) u 8 ((cp ||| rn : Nat) : Int)) u 7 (gI μX u 7 + 1)) (u + j) i = gZ μX (u + j) i := fun j j0 j1 j3 j4 i => by rw [gZ_row (xr _ (by omega) (by omega) (by omega)), gZ_row (a2 _ (by omega))]
      have x3 : ∀ i, 0 ≤ i → gZ (pI (pI (pZ ν2 (u + 4) (gI μX u 7) rn) u 8 ((cp ||| rn : Nat) : Int)) u 7 (gI μX u 7 + 1)) (u + 3) i = if i < (C : Int) ∧ rn.testBit i.toNat = true then gI μX u 7 else gZ μX (u + 3) i := fun i i0 => by rw [gZ_pI_a (by omega), gZ_pI_a (by omega), gZ_pZ_a (by omega), l3 i i0, gZ_row (a2 _ (by omega))]
      have x4 : ∀ i, 0 ≤ i → gZ (pI (pI (pZ ν2 (u + 4) (gI μX u 7) rn) u 8 ((cp ||| rn : Nat) : Int)) u 7 (gI μX u 7 + 1)) (u + 4) i = if i = gI μX u 7 then (rn : Int) else gZ μX (u + 4) i := fun i i0 => by rw [gZ_pI_a (by omega), gZ_pI_a (by omega), gZ_pZ hP0 i0, wr_id (by omega) (by omega), gZ_row (l2 _ (by omega)), gZ_row (a2 _ (by omega))]
      generalize pI (pI (pZ ν2 (u + 4) (gI μX u 7) rn) u 8 ((cp ||| rn : Nat) : Int)) u 7 (gI μX u 7 + 1) = νX at xr x7 x8 xk xz x3 x4
      refine ⟨νX, rfl, ⟨fun x h1 h2 => by rw [xr x (by omega) (by omega) (by omega), a2 x h1], by rw [gI_row (xr 1 (by omega) (by omega) (by omega)), a3]⟩, fun μM hS w => ?_⟩
      obtain ⟨νM, c2, c3, c4, d3, d4, d5, d6, -⟩ := mk μM hS w
      obtain ⟨-, hTM, ⟨-, hq, -, -, -⟩, ⟨-, -, g4, g5⟩, hTD⟩ := id hS
      have e10 : gI νM 332 10 = gI μX u 7 := by rw [c3 10 (by decide) (by decide) (by decide) (by decide), ← hTD.2.2.1.1]
      rw [d6 q, k118_g N ⟨hP0, hPk⟩ e10]
      refine ⟨_, rfl, k118_m ⟨hP0, hPk⟩ c2 c3, Or.inl ⟨rdE f n p, by omega, hTX.fr (by rw [xr 2 (by omega) (by omega) (by omega), a2 2 (by decide)]) (by rw [gI_row (xr 1 (by omega) (by omega) (by omega)), a3]), hTM.fr (by rw [row_pI (by decide), row_pZ (by decide), c2 339 (by decide)]) (by rw [gI_pI_k (by decide), gI_pZ_a (by decide), c3 13 (by decide) (by decide) (by decide) (by decide)]), ⟨by rw [gI_row (xr 1 (by omega) (by omega) (by omega)), b7], by rw [gI_pI_k (by decide), gI_pZ_a (by decide), d3], by omega, Int.le_refl _, hb.2.2.1⟩, ⟨by rw [gI_row (xr 1 (by omega) (by omega) (by omega)), b9, hF4], by rw [gI_row (xr 1 (by omega) (by omega) (by omega)), b10, hF5], by rw [gI_pI_k (by decide), gI_pZ_a (by decide), d4], by rw [gI_pI_k (by decide), gI_pZ_a (by decide), d5, g5]⟩, ?_⟩⟩
      obtain ⟨t1, t2, t3, t4, t5, t6, t7, t8, t9, t10⟩ := id hTD
      have m10 : gI (pI (pZ νM 337 (4 + gI μX u 7) r) 332 10 (gI μX u 7 + 1)) 332 10 = gI μX u 7 + 1 := by rw [gI_pI_s, wr_id (by omega) (by omega)]
      have mk2 : ∀ k, k ≠ 10 → k ≠ 14 → k ≠ 15 → k ≠ 16 → k ≠ 17 → gI (pI (pZ νM 337 (4 + gI μX u 7) r) 332 10 (gI μX u 7 + 1)) 332 k = gI μM 332 k := fun k h7 h4 h5 h6 h8 => by rw [gI_pI_k h7, gI_pZ_a (by decide), c3 k h4 h5 h6 h8]
      have mz : ∀ y : Nat, y ≠ 332 → y ≠ 337 → ∀ i, gZ (pI (pZ νM 337 (4 + gI μX u 7) r) 332 10 (gI μX u 7 + 1)) y i = gZ μM y i := fun y hy h6 i => by rw [gZ_pI_a hy, gZ_pZ_a h6, gZ_row (c2 y hy)]
      have hrC : ∀ c : Nat, C ≤ c → rn.testBit c = false := fun c hc => Nat.testBit_lt_two_pow (Nat.lt_of_lt_of_le (show rn < 2 ^ C by omega) (Nat.pow_le_pow_right (by decide) hc))
      have rc : ∀ c : Nat, rn.testBit c = true → c < C := fun c h => by
        rcases Nat.lt_or_ge c C with z | z
        · exact z
        · rw [hrC c z] at h; exact absurd h (by decide)
      have cpb : ∀ c : Nat, rn.testBit c = true → cp.testBit c = false := fun c h => by
        cases hb2 : cp.testBit c with
        | false => rfl
        | true => exact absurd q (bit_nz (c := c) (by rw [Nat.testBit_and, h, hb2]; rfl))
      unfold TD
      simp only [x7, x8, xk 5 (by decide) (by decide), xk 6 (by decide) (by decide), xz 1 (by decide) (by decide) (by decide) (by decide), xz 2 (by decide) (by decide) (by decide) (by decide), xz 5 (by decide) (by decide) (by decide) (by decide), m10, mk2 3 (by decide) (by decide) (by decide) (by decide) (by decide), mk2 7 (by decide) (by decide) (by decide) (by decide) (by decide), mz 335 (by decide) (by decide), mz 336 (by decide) (by decide), mz 338 (by decide) (by decide)]
      rw [hcp, Int.toNat_natCast] at t9
      refine ⟨t1, t2, ⟨trivial, by omega, by omega⟩, fun hz => ?_, t5, t6, fun k k0 k1 => ?_, fun c hc => ?_, ⟨by omega, by omega, fun c hc => ?_⟩, t10⟩
      · have hc0 := (t4 hz).1
        have : rn = 0 := by
          have h0 : C = 0 := by omega
          rw [h0] at b6
          have : ((2 ^ 0 : Nat) : Int) = 1 := rfl
          omega
        omega
      · rw [x4 k k0, gZ_pI_a (by decide), gZ_pZ (by omega) (by omega), wr_id (a := r) (by omega) (by omega)]
        by_cases z : k = gI μX u 7
        · rw [if_pos z, if_pos (by omega)]
          exact ⟨hrn.symm, by omega, by omega, fun c hc => by rw [Int.toNat_natCast]; exact hrC c (by omega)⟩
        · rw [if_neg z, if_neg (by omega), gZ_row (c2 337 (by decide))]
          exact t7 k k0 (by omega)
      · rw [x3 c (by omega), Int.toNat_natCast]
        by_cases z : rn.testBit c = true
        · have hcC := rc c z
          have hno : gZ μX (u + 3) c = -1 := by
            rcases Classical.em (gZ μX (u + 3) c = -1) with y | y
            · exact y
            · have := (t9.2.2 c hc).2 y
              rw [cpb c z] at this; exact absurd this (by decide)
          rw [if_pos ⟨by omega, z⟩]
          refine Or.inr ⟨hP0, by omega, fun k k0 k1 => ?_⟩
          rw [x4 k k0]
          by_cases y : k = gI μX u 7
          · rw [if_pos y, Int.toNat_natCast]; exact ⟨fun _ => y, fun _ => z⟩
          · rw [if_neg y]
            rcases t8 c hc with ⟨_, v2⟩ | ⟨v1, _⟩
            · rw [v2 k k0 (by omega)]
              exact ⟨fun h => absurd h (by decide), fun h => absurd h y⟩
            · omega
        · rw [if_neg (fun y => z y.2)]
          have zf : rn.testBit c = false := by
            cases h : rn.testBit c with
            | false => rfl
            | true => exact absurd h z
          refine (t8 c hc).imp (fun ⟨v1, v2⟩ => ⟨v1, fun k k0 k1 => ?_⟩) (fun ⟨v0, v1, v2⟩ => ⟨v0, by omega, fun k k0 k1 => ?_⟩)
          · rw [x4 k k0]
            by_cases y : k = gI μX u 7
            · rw [if_pos y, Int.toNat_natCast]; exact zf
            · rw [if_neg y]; exact v2 k k0 (by omega)
          · rw [x4 k k0]
            by_cases y : k = gI μX u 7
            · rw [if_pos y, Int.toNat_natCast, zf]
              exact ⟨fun h => absurd h (by decide), fun h => by omega⟩
            · rw [if_neg y]; exact v2 k k0 (by omega)
      · rw [x3 c (by omega), Int.toNat_natCast, Int.toNat_natCast, Nat.testBit_or, Bool.or_eq_true, t9.2.2 c hc]
        by_cases z : rn.testBit c = true
        · have hcC := rc c z
          rw [if_pos ⟨by omega, z⟩]
          exact ⟨fun _ => by omega, fun _ => Or.inr z⟩
        · rw [if_neg (fun y => z y.2)]
          exact ⟨fun h => h.resolve_right z, fun h => Or.inl h⟩
    · rw [if_neg (by omega), b8, x_setF, ob_s]
      obtain ⟨g1, g2, g3, g4⟩ := setF_g (μ := ν1) (F := 4) (q := rdP f n p) (by omega) (by omega)
      refine ⟨_, rfl, FX.o (fun x h => by rw [g1 x h, a2 x h]) (by rw [g2 1 (by decide) (by decide), a3]), fun μM hS w => ?_⟩
      obtain ⟨νM, c2, c3, c4, d3, d4, d5, -, d7⟩ := mk μM hS w
      have hTD := hS.2.2.2.2
      have e10 : gI (pI (pI νM 332 16 4) 332 17 (rdP f n p)) 332 10 = gI μX u 7 := by rw [gI_pI_k (by decide), gI_pI_k (by decide), c3 10 (by decide) (by decide) (by decide) (by decide), ← hTD.2.2.1.1]
      rw [d7 q, k118_g N ⟨hP0, hPk⟩ e10]
      obtain ⟨k1, k2, k3, k4⟩ := mF_g (μ := νM) (F := 4) (q := rdP f n p) (by omega) (by omega)
      refine ⟨_, rfl, k118_m ⟨hP0, hPk⟩ (fun x h => by rw [k1 x h, c2 x h]) (fun k h1 h2 h3 h4 => by rw [k2 k h3 h4, c3 k h1 h2 h3 h4]), Or.inr ⟨4, rdP f n p, by omega, by omega, g3, g4, ?_, ?_⟩⟩
      · rw [gI_pI_k (by decide), gI_pZ_a (by decide), k3]
      · rw [gI_pI_k (by decide), gI_pZ_a (by decide), k4]
  · rw [b2, if_pos (by decide)]
    refine ⟨_, rfl, FX.o a2 a3, fun μM hS w => ?_⟩
    obtain ⟨v, νM, c1, c2, c3, c4, c5⟩ := mod μM hS w
    have hTD := hS.2.2.2.2
    have e7 : gI νM 332 7 = C := by rw [c3 7 (by decide) (by decide) (by decide) (by decide), ← hTD.2.1.1, hC]
    have e10 : gI νM 332 10 = gI μX u 7 := by rw [c3 10 (by decide) (by decide) (by decide) (by decide), ← hTD.2.2.1.1]
    rcases c5 with ⟨d1, d2, d3, d4, d5⟩ | ⟨d1, d2, d3, d4⟩
    · -- the number stands, but tells cards that were not told
      have hF2 : rdF f n p 1 (((2 ^ C : Nat) : Int) - 1) = 2 := b1.resolve_left (fun z => by have := hrel.2.1 z; omega)
      have hv := (hrel.2.2 hF2).resolve_left (fun z => by omega)
      have hvb : 0 ≤ rdV f n p ∧ rdV f n p ≤ 999 := by
        refine hb.2.2.2.2 ?_
        unfold rdF at d1
        by_cases q : 48 ≤ ltr f n (sk f n p) ∧ ltr f n (sk f n p) ≤ 57
        · rw [if_pos q] at d1
          by_cases z : rdE f n p - sk f n p ≤ 3 ∧ 1 ≤ rdV f n p ∧ rdV f n p ≤ 255
          · exact z.1
          · rw [if_neg z] at d1; exact absurd d1 (by decide)
        · rw [if_neg q] at d1; exact absurd d1 (by decide)
      rw [c1, wr_gI, d4, if_neg (by decide), e7, shl1 hC8, d2, wr_id (a := ((2 ^ C : Nat) : Int)) (by omega) (by omega), wr_id (a := rdV f n p) (by omega) (by omega), if_pos (by omega)]
      unfold fX9_takePack_j55
      rw [p_want0 N w0 d4 (by decide), bP_s, c4]
      obtain ⟨k1, k2, k3, k4⟩ := mF_g (μ := νM) (F := 2) (q := rdP f n p) (by omega) (by omega)
      have e10' : gI (pI (pI νM 332 16 2) 332 17 (rdP f n p)) 332 10 = gI μX u 7 := by rw [k2 10 (by decide) (by decide), e10]
      rw [m_pkF N ⟨hP0, hPk⟩ (gI μX u 7).toNat N 0 _ (by decide) (by omega) (by omega) (by rw [k3]; decide) e10', k118_g N ⟨hP0, hPk⟩ e10']
      refine ⟨_, rfl, k118_m ⟨hP0, hPk⟩ (fun x h => by rw [k1 x h, c2 x h]) (fun k h1 h2 h3 h4 => by rw [k2 k h3 h4, c3 k h1 h2 h3 h4]), Or.inr ⟨2, rdP f n p, by omega, by omega, by rw [b3, hF2], b4, ?_, ?_⟩⟩
      · rw [gI_pI_k (by decide), gI_pZ_a (by decide), k3]
      · rw [gI_pI_k (by decide), gI_pZ_a (by decide), k4]
    · have hFF : rdF f n p 1 (((2 ^ C : Nat) : Int) - 1) = rdF f n p 1 255 := by
        rcases b1 with z | z
        · rw [z, hrel.2.1 z]
        · rcases hrel.2.2 z with y | y
          · rw [z, y]
          · omega
      rw [c1, wr_gI, d3, if_pos (by omega)]
      unfold fX9_takePack_j55
      rw [p_wantF N (by omega), bP_s, m_pkF N ⟨hP0, hPk⟩ (gI μX u 7).toNat N 0 _ (by decide) (by omega) (by omega) (by omega) e10, k118_g N ⟨hP0, hPk⟩ e10]
      refine ⟨_, rfl, k118_m ⟨hP0, hPk⟩ c2 c3, Or.inr ⟨rdF f n p 1 255, rdP f n p, by omega, by omega, by rw [b3, hFF], b4, ?_, ?_⟩⟩
      · rw [gI_pI_k (by decide), gI_pZ_a (by decide), d3]
      · rw [gI_pI_k (by decide), gI_pZ_a (by decide), d4]
