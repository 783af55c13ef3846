/-! together, the rest -/
theorem Inv.side {μ ν : Mm} (hI : Inv μ) (hr : ∀ r, r ≠ 340 → r ≠ 333 → (r < 12 ∨ 20 < r) → ν r = μ r) (hv : ∀ k, 0 ≤ k → (k < 243 ∨ 486 ≤ k) → k < 8262 → gZ ν 333 k = gZ μ 333 k) : Inv ν := by
  obtain ⟨t, u, hT, hL, hW, hU, hG, hN, hX, hS⟩ := id hI
  have ht := hT.r
  have g0 := gI_row (hr 0 (by decide) (by decide) (by decide))
  have g332 := gI_row (hr 332 (by decide) (by decide) (by decide))
  refine ⟨t, u, hT.fr (g0 6) (g0 7), hL.fr (fun r h => hr r (by omega) (by omega) (by omega)) (g332 2) (g332 6) (g332 9), hW.fr hL (fun r h => hr r (by omega) (by omega) (by omega)) (fun k a b => hv _ (by omega) (by omega) (by omega)), hU.fr hL (fun r h => hr r (by omega) (by omega) (by omega)) (g332 18) (fun k a b => hv k (by omega) (by omega) b), hG.fr hL (fun r h => hr r (by omega) (by omega) (by omega)) (fun k a b => hv k (by omega) (by omega) (by omega)), hN.fr (fun r h => hr r (by omega) (by omega) (by omega)) (g332 23) (g332 26), hX.fr (fun r h => hr r (by omega) (by omega) (by omega)) (g332 13) (g332 17), ?_⟩
  rw [g0 8, hv 242 (by decide) (by decide) (by decide)]
  exact hS
theorem b_255 : ∀ i : Nat, i < 8 → Nat.testBit 4294967295 i = true := by decide +kernel
theorem andnot {s c : Nat} (hs : s < 2147483648) (hc : c < 2147483648) : ∃ d : Nat, andI (s : Int) (xorI (c : Int) (-1)) = d ∧ d < 2147483648 ∧ ∀ i, i < 8 → d.testBit i = (s.testBit i && !(c.testBit i)) := by
  have e1 : (Int32.ofInt (-1)).toBitVec.toNat = 4294967295 := by decide +kernel
  have e : (Int32.ofInt (s : Int) &&& (Int32.ofInt (c : Int) ^^^ Int32.ofInt (-1))).toBitVec.toNat = s &&& (c ^^^ 4294967295) := by
    rw [Int32.toBitVec_and, Int32.toBitVec_xor, BitVec.toNat_and, BitVec.toNat_xor, bv_nat hs, bv_nat hc, e1]
  refine ⟨s &&& (c ^^^ 4294967295), ?_, and_lt2 hs, fun i hi => ?_⟩
  · unfold andI xorI
    rw [Int32.ofInt_toInt, i_bv (by rw [e]; exact and_lt2 hs), e]
  · rw [Nat.testBit_and, Nat.testBit_xor, b_255 i hi]
    cases c.testBit i <;> rfl
theorem po_l (N : Nat) {μ : Mm} {t : Nat} (hL : LoomR μ t) {s : Nat} (hs : s < 256) : ∀ (j n : Nat) (k : Int) (a : Nat), 0 ≤ k → k + j = gI μ t 7 → j < n → a < 256 → ∃ r : Nat, fX9_packsOf_l4 N s μ n a k = some (r : Int) ∧ r < 256 ∧ ∀ i : Nat, (r.testBit i = true ↔ (a.testBit i = true ∨ (s.testBit i = true ∧ ∃ x : Int, k ≤ x ∧ x < gI μ t 7 ∧ (gZ μ 337 x).toNat.testBit i = true))) := by
  obtain ⟨-, ⟨e6, a6, b6⟩, ⟨e7, a7, b7⟩, -, -, hk, -⟩ := id hL
  intro j
  induction j with
  | zero =>
    intro n k a k0 k1 hn ha
    obtain ⟨m, rfl⟩ : ∃ m, n = m + 1 := ⟨n - 1, by omega⟩
    rw [fX9_packsOf_l4, e7, wr_gI, wr_id (a := k) (by omega) (by omega), if_pos (by omega)]
    refine ⟨a, rfl, ha, fun i => ⟨fun h => Or.inl h, fun h => h.resolve_right (fun ⟨_, x, x0, x1, _⟩ => by omega)⟩⟩
  | succ j ih =>
    intro n k a k0 k1 hn ha
    obtain ⟨m, rfl⟩ : ∃ m, n = m + 1 := ⟨n - 1, by omega⟩
    have hkk := hk k k0 (by omega)
    obtain ⟨p, hp⟩ : ∃ p : Nat, gZ μ 337 k = p := ⟨(gZ μ 337 k).toNat, by omega⟩
    have hp2 : p < 256 := by omega
    rw [fX9_packsOf_l4, e7, wr_gI, wr_id (a := k) (by omega) (by omega), if_neg (by omega), ldA_ok k0 (by omega) (by omega), ob_s, hp, andI_nat (by omega) (by omega), orI_nat (by omega) (by have : s &&& p ≤ s := Nat.and_le_left; omega)]
    have hsp : s &&& p < 256 := Nat.lt_of_le_of_lt Nat.and_le_left hs
    obtain ⟨r, r1, r2, r3⟩ := ih m (k + 1) (a ||| (s &&& p)) (by omega) (by omega) (by omega) (Nat.or_lt_two_pow (n := 8) ha hsp)
    refine ⟨r, r1, r2, fun i => ?_⟩
    rw [r3 i, Nat.testBit_or, Nat.testBit_and, Bool.or_eq_true, Bool.and_eq_true]
    constructor
    · rintro ((h | ⟨h1, h2⟩) | ⟨h1, x, x0, x1, x2⟩)
      · exact Or.inl h
      · exact Or.inr ⟨h1, k, by omega, by omega, by rw [hp, Int.toNat_natCast]; exact h2⟩
      · exact Or.inr ⟨h1, x, by omega, x1, x2⟩
    · rintro (h | ⟨h1, x, x0, x1, x2⟩)
      · exact Or.inl (Or.inl h)
      · by_cases z : x = k
        · rw [z, hp, Int.toNat_natCast] at x2
          exact Or.inl (Or.inr ⟨h1, x2⟩)
        · exact Or.inr ⟨h1, x, by omega, x1, x2⟩
def big (v : Int) : Int := if v = 99 then 1000 else v
theorem mxS_x (g : Int → Int) : ∀ (n : Nat) (i x : Int), x ≤ mxS g n i x := by
  intro n
  induction n with
  | zero => intro i x; exact Int.le_refl _
  | succ n ih =>
    intro i x
    show x ≤ mxS g n (i + 1) (if x < g i then g i else x)
    by_cases q : x < g i
    · rw [if_pos q]; exact Int.le_trans (by omega) (ih (i + 1) (g i))
    · rw [if_neg q]; exact ih (i + 1) x
theorem mxS_ge (g : Int → Int) : ∀ (n : Nat) (i x k : Int), i ≤ k → k < i + n → g k ≤ mxS g n i x := by
  intro n
  induction n with
  | zero => intro i x k h0 h1; omega
  | succ n ih =>
    intro i x k h0 h1
    show g k ≤ mxS g n (i + 1) (if x < g i then g i else x)
    by_cases z : k = i
    · subst z
      refine Int.le_trans ?_ (mxS_x g n (k + 1) _)
      by_cases q : x < g k
      · rw [if_pos q]; exact Int.le_refl _
      · rw [if_neg q]; omega
    · exact ih (i + 1) _ k (by omega) (by omega)
theorem mxS_big (g : Int → Int) (hg : ∀ k, 0 ≤ g k ∧ g k ≤ 99) : ∀ (n : Nat) (i x : Int), 0 ≤ x → x ≤ 99 → mxS (fun k => big (g k)) n i (big x) = big (mxS g n i x) := by
  intro n
  induction n with
  | zero => intro i x _ _; rfl
  | succ n ih =>
    intro i x h0 h1
    have h2 := hg i
    show mxS (fun k => big (g k)) n (i + 1) (if big x < big (g i) then big (g i) else big x) = big (mxS g n (i + 1) (if x < g i then g i else x))
    by_cases q : x < g i
    · rw [if_pos q, if_pos (by unfold big; by_cases z1 : x = 99 <;> by_cases z2 : g i = 99 <;> simp only [z1, z2, if_true, if_false, ↓reduceIte] <;> omega)]
      exact ih (i + 1) _ h2.1 h2.2
    · rw [if_neg q, if_neg (by unfold big; by_cases z1 : x = 99 <;> by_cases z2 : g i = 99 <;> simp only [z1, z2, if_true, if_false, ↓reduceIte] <;> omega)]
      exact ih (i + 1) _ h0 h1
def cfK (μ : Mm) (s : Nat) (k : Int) (p : Int) : Int := ((b5 μ (s &&& (gZ μ 337 p).toNat) k cfB : Nat) : Int)
def fgK (μ : Mm) (s : Nat) (k : Int) (m : Nat) (p : Int) : Int := ((b5 μ (s &&& (gZ μ 337 p).toNat) k (fgB m) : Nat) : Int)
theorem cfK_v (μ : Mm) (s : Nat) (k p : Int) : cfK μ s k p = 0 ∨ cfK μ s k p = 1 ∨ cfK μ s k p = 2 ∨ cfK μ s k p = 99 := by
  unfold cfK b5
  rcases cfB_v (shB μ (gI μ 332 6) (s &&& (gZ μ 337 p).toNat) k 0) (shB μ (gI μ 332 6) (s &&& (gZ μ 337 p).toNat) k 1) (shB μ (gI μ 332 6) (s &&& (gZ μ 337 p).toNat) k 2) (shB μ (gI μ 332 6) (s &&& (gZ μ 337 p).toNat) k 3) (shB μ (gI μ 332 6) (s &&& (gZ μ 337 p).toNat) k 4) with h | h | h | h <;> rw [h]
  · exact Or.inl rfl
  · exact Or.inr (Or.inl rfl)
  · exact Or.inr (Or.inr (Or.inl rfl))
  · exact Or.inr (Or.inr (Or.inr rfl))
theorem x_cfp (N : Nat) (hNB : NB N) {μ : Mm} {t : Nat} (hL : LoomR μ t) (hW : WR μ t 3 0) {s : Nat} (hs : s < 2147483648) (k : Int) : fX6_countForPack N 3 t s k μ = some (big ((b5 μ s k cfB : Nat) : Int)) := by
  have hN2 : 300 ≤ N := hNB
  obtain ⟨-, ⟨e6, a6, b6⟩, -⟩ := id hL
  have h4 := r_now N hNB hL hW hs k
  have h0 := r_ahd N hNB hL hW hs k (1 - 1) 0 (by decide) (by decide)
  have h3 := r_ahd N hNB hL hW hs k (-1) 3 (by decide) (by decide)
  have h1 := r_ahd N hNB hL hW hs k (2 - 1) 1 (by decide) (by decide)
  have h2 := r_ahd N hNB hL hW hs k (-2) 2 (by decide) (by decide)
  unfold fX6_countForPack b5
  rw [e6, h4, ob_s]
  generalize shB μ (gI μ t 6) s k 0 = b0 at *
  generalize shB μ (gI μ t 6) s k 1 = b1 at *
  generalize shB μ (gI μ t 6) s k 2 = b2 at *
  generalize shB μ (gI μ t 6) s k 3 = b3 at *
  generalize shB μ (gI μ t 6) s k 4 = b4 at *
  have key : ∀ m : Nat, fX6_countForPack_l15 N 3 t s k μ (m + 3) 1 = some (big ((cfB b0 b1 b2 b3 false : Nat) : Int)) := by
    intro m
    rw [fX6_countForPack_l15, if_neg (by decide), h0, ob_s]
    cases b0 with
    | true => rw [if_neg (by decide)]; rfl
    | false =>
      rw [if_pos (by decide), h3, ob_s]
      cases b3 with
      | true => rw [if_neg (by decide)]; rfl
      | false =>
        rw [if_pos (by decide), show (1 + 1 : Int) = 2 from rfl, fX6_countForPack_l15, if_neg (by decide), h1, ob_s]
        cases b1 with
        | true => rw [if_neg (by decide)]; rfl
        | false =>
          rw [if_pos (by decide), h2, ob_s]
          cases b2 with
          | true => rw [if_neg (by decide)]; rfl
          | false =>
            rw [if_pos (by decide), show (2 + 1 : Int) = 3 from rfl, fX6_countForPack_l15, if_pos (by decide)]
            rfl
  cases b4 with
  | true => rw [if_neg (by decide)]; rfl
  | false =>
    rw [if_pos (by decide)]
    have := key (N - 3)
    rw [show N - 3 + 3 = N by omega] at this
    exact this
theorem tg_cnt (N : Nat) (hNB : NB N) {μ : Mm} {t : Nat} (hL : LoomR μ t) (hW : WR μ t 3 0) {s : Nat} (hs : s < 256) (k : Int) : ∀ (j n : Nat) (p x : Int), 0 ≤ p → p + j = gI μ t 7 → j < n → 0 ≤ x → x ≤ 1000 → fX6_countTogether_l29 N 3 t s k μ n x p = fX6_countTogether_k72 N (mxS (fun p => big (cfK μ s k p)) j p x) := by
  obtain ⟨-, ⟨e6, a6, b6⟩, ⟨e7, a7, b7⟩, -, -, hk, -⟩ := id hL
  intro j
  induction j with
  | zero =>
    intro n p x p0 p1 hn x0 x1
    obtain ⟨m, rfl⟩ : ∃ m, n = m + 1 := ⟨n - 1, by omega⟩
    rw [fX6_countTogether_l29, wr_gI, wr_id (a := p) (by omega) (by omega), if_pos (by omega)]
    rfl
  | succ j ih =>
    intro n p x p0 p1 hn x0 x1
    obtain ⟨m, rfl⟩ : ∃ m, n = m + 1 := ⟨n - 1, by omega⟩
    have hkk := hk p p0 (by omega)
    have hsp : s &&& (gZ μ 337 p).toNat < 256 := Nat.lt_of_le_of_lt Nat.and_le_left hs
    have ea : andI (s : Int) (gZ μ 337 p) = ((s &&& (gZ μ 337 p).toNat : Nat) : Int) := by
      have := andI_nat (a := s) (b := (gZ μ 337 p).toNat) (by omega) (by omega)
      rw [show (((gZ μ 337 p).toNat : Nat) : Int) = gZ μ 337 p by omega] at this
      exact this
    have hv := cfK_v μ s k p
    have hb : 0 ≤ big (cfK μ s k p) ∧ big (cfK μ s k p) ≤ 1000 := by
      unfold big
      by_cases z : cfK μ s k p = 99
      · rw [if_pos z]; omega
      · rw [if_neg z]; omega
    rw [fX6_countTogether_l29, wr_gI, wr_id (a := p) (by omega) (by omega), if_neg (by omega), if_neg (by omega), ldA_ok p0 (by omega) (by omega), ob_s, hkk.1, ea, x_cfp N hNB hL hW (by omega) k, ob_s, show big ((b5 μ (s &&& (gZ μ 337 p).toNat) k cfB : Nat) : Int) = big (cfK μ s k p) from rfl, wr_id (a := x) (by omega) (by omega), wr_id (a := big (cfK μ s k p)) (by omega) (by omega)]
    show _ = fX6_countTogether_k72 N (mxS (fun p => big (cfK μ s k p)) j (p + 1) (if x < big (cfK μ s k p) then big (cfK μ s k p) else x))
    by_cases q : x < big (cfK μ s k p)
    · rw [if_pos q]
      exact ih m (p + 1) _ (by omega) (by omega) (by omega) hb.1 hb.2
    · rw [if_neg q]
      exact ih m (p + 1) x (by omega) (by omega) (by omega) x0 x1
theorem b5_row {μ ν : Mm} {s : Nat} {k : Int} (hr : ∀ y, y ≠ 340 → ν y = μ y) (f : Bool → Bool → Bool → Bool → Bool → Nat) : b5 ν s k f = b5 μ s k f := by
  unfold b5
  rw [gI_row (hr 332 (by decide)), shB_row (hr 333 (by decide)) (hr 335 (by decide)), shB_row (hr 333 (by decide)) (hr 335 (by decide)), shB_row (hr 333 (by decide)) (hr 335 (by decide)), shB_row (hr 333 (by decide)) (hr 335 (by decide)), shB_row (hr 333 (by decide)) (hr 335 (by decide))]
theorem tg_far (N : Nat) (hNB : NB N) {μ ν : Mm} {t : Nat} (hL : LoomR μ t) {s : Nat} (hs : s < 256) (k : Int) {p : Int} (p0 : 0 ≤ p) (p1 : p < gI μ t 7) (hr : ∀ y, y ≠ 340 → ν y = μ y) : ∃ ν1, ldA ν 337 8 p = some (gZ μ 337 p) ∧ fX9_layFar N (andI (s : Int) (gZ μ 337 p)) k ν = some ν1 ∧ (∀ y, y ≠ 340 → ν1 y = μ y) ∧ ∀ x : Nat, x < 20 → gZ ν1 340 x = ((b5 μ (s &&& (gZ μ 337 p).toNat) k (fun b0 b1 b2 b3 b4 => (farB b0 b1 b2 b3 b4).getD x 0) : Nat) : Int) ∧ b5 μ (s &&& (gZ μ 337 p).toNat) k (fun b0 b1 b2 b3 b4 => (farB b0 b1 b2 b3 b4).getD x 0) ≤ 99 := by
  obtain ⟨-, ⟨e6, a6, b6⟩, ⟨e7, a7, b7⟩, -, -, hk, -⟩ := id hL
  have hkk := hk p p0 p1
  have hsp : s &&& (gZ μ 337 p).toNat < 256 := Nat.lt_of_le_of_lt Nat.and_le_left hs
  have ea : andI (s : Int) (gZ μ 337 p) = ((s &&& (gZ μ 337 p).toNat : Nat) : Int) := by
    have := andI_nat (a := s) (b := (gZ μ 337 p).toNat) (by omega) (by omega)
    rw [show (((gZ μ 337 p).toNat : Nat) : Int) = gZ μ 337 p by omega] at this
    exact this
  have e332 : gI ν 332 6 = gI μ 332 6 := gI_row (hr 332 (by decide)) 6
  obtain ⟨ν1, r1, r2, r3⟩ := r_far N hNB (μ := ν) (by omega) (show s &&& (gZ μ 337 p).toNat < 2147483648 by omega) k
  refine ⟨ν1, ?_, by rw [ea]; exact r1, fun y hy => by rw [r2 y hy, hr y hy], fun x hx => ?_⟩
  · rw [ldA_ok p0 (by omega) (by omega), gZ_row (hr 337 (by decide))]
  · have := r3 x hx
    rw [b5_row hr] at this
    exact this
theorem far4_I (b0 b1 b2 b3 b4 : Bool) : (farB b0 b1 b2 b3 b4).getD 4 0 = cfB b0 b1 b2 b3 b4 := (far_ok b0 b1 b2 b3 b4).1
theorem tg_cm (N : Nat) (hNB : NB N) {μ : Mm} {t : Nat} (hL : LoomR μ t) {s : Nat} (hs : s < 256) (k w : Int) : ∀ (j n : Nat) (p x : Int) (ν : Mm), 0 ≤ p → p + j = gI μ t 7 → j < n → 0 ≤ x → x ≤ 99 → (∀ y, y ≠ 340 → ν y = μ y) → ∃ ν1, fX9_together_l78 N s k w n x p ν = fX9_together_k120 N s k w (mxS (cfK μ s k) j p x) ν1 ∧ ∀ y, y ≠ 340 → ν1 y = μ y := by
  obtain ⟨-, ⟨e6, a6, b6⟩, ⟨e7, a7, b7⟩, -, -, hk, -⟩ := id hL
  intro j
  induction j with
  | zero =>
    intro n p x ν p0 p1 hn x0 x1 hr
    obtain ⟨m, rfl⟩ : ∃ m, n = m + 1 := ⟨n - 1, by omega⟩
    rw [fX9_together_l78, gI_row (hr 332 (by decide)), e7, wr_gI, wr_id (a := p) (by omega) (by omega), if_pos (by omega)]
    exact ⟨ν, rfl, hr⟩
  | succ j ih =>
    intro n p x ν p0 p1 hn x0 x1 hr
    obtain ⟨m, rfl⟩ : ∃ m, n = m + 1 := ⟨n - 1, by omega⟩
    obtain ⟨ν1, r0, r1, r2, r3⟩ := tg_far N hNB hL hs k p0 (show p < gI μ t 7 by omega) hr
    have h5 : gZ ν1 340 4 = cfK μ s k p := by
      have h4 := (r3 4 (by decide)).1
      unfold cfK b5
      unfold b5 at h4
      simp only [far4_I] at h4
      exact h4
    have hv := cfK_v μ s k p
    rw [fX9_together_l78, gI_row (hr 332 (by decide)), e7, wr_gI, wr_id (a := p) (by omega) (by omega), if_neg (by omega), r0, ob_s, r1, ob_s, ldA_ok (by decide) (by decide) (by decide), ob_s, h5]
    unfold fX9_most
    rw [wr_id (a := x) (by omega) (by omega), wr_id (a := cfK μ s k p) (by omega) (by omega)]
    show ∃ ν1, _ = fX9_together_k120 N s k w (mxS (cfK μ s k) j (p + 1) (if x < cfK μ s k p then cfK μ s k p else x)) ν1 ∧ _
    by_cases q : x < cfK μ s k p
    · rw [if_pos q, if_pos (show x ≤ cfK μ s k p by omega), ob_s]
      exact ih m (p + 1) _ ν1 (by omega) (by omega) (by omega) (by omega) (by omega) r2
    · rw [if_neg q]
      by_cases q2 : x ≤ cfK μ s k p
      · rw [if_pos q2, ob_s, show cfK μ s k p = x by omega]
        exact ih m (p + 1) x ν1 (by omega) (by omega) (by omega) x0 x1 r2
      · rw [if_neg q2, ob_s]
        exact ih m (p + 1) x ν1 (by omega) (by omega) (by omega) x0 x1 r2
theorem tg_fx (N : Nat) (hNB : NB N) {μ : Mm} {t : Nat} (hL : LoomR μ t) (hW : WR μ t 3 0) {s : Nat} (hs : s < 256) (k : Int) {m : Nat} (hm : m = 1 ∨ m = 2) : ∀ (n : Nat) (p : Int) (j : Nat) (x : Int), -1 ≤ p → p < n → p + 1 + j = gI μ t 7 → x = mvS (fgK μ s k m) j (p + 1) → fX6_firstTogether_l15 N 3 t s k m μ (n + 1) x p = some (mvS (fgK μ s k m) (gI μ t 7).toNat 0) := by
  obtain ⟨-, ⟨e6, a6, b6⟩, ⟨e7, a7, b7⟩, -, -, hk, -⟩ := id hL
  intro n
  induction n with
  | zero =>
    intro p j x p0 p1 hj hx
    rw [fX6_firstTogether_l15, wr_id (a := p) (by omega) (by omega), if_pos (by omega), hx, show p + 1 = 0 by omega, show j = (gI μ t 7).toNat by omega]
  | succ n ih =>
    intro p j x p0 p1 hj hx
    rw [fX6_firstTogether_l15, wr_id (a := p) (by omega) (by omega)]
    by_cases q : p < 0
    · rw [if_pos q, hx, show p + 1 = 0 by omega, show j = (gI μ t 7).toNat by omega]
    · have hkk := hk p (by omega) (by omega)
      have hsp : s &&& (gZ μ 337 p).toNat < 256 := Nat.lt_of_le_of_lt Nat.and_le_left hs
      have ea : andI (s : Int) (gZ μ 337 p) = ((s &&& (gZ μ 337 p).toNat : Nat) : Int) := by
        have := andI_nat (a := s) (b := (gZ μ 337 p).toNat) (by omega) (by omega)
        rw [show (((gZ μ 337 p).toNat : Nat) : Int) = gZ μ 337 p by omega] at this
        exact this
      have hah := r_ahd N hNB hL hW (show s &&& (gZ μ 337 p).toNat < 2147483648 by omega) k ((m : Int) - 1) ((m : Int) - 1) (by omega) (by omega)
      rw [if_neg q, ldA_ok (by omega) (by omega) (by omega), ob_s, hkk.1, ea, x_cfp N hNB hL hW (by omega) k, ob_s, hah, ob_s]
      have go : ∀ z, z = fgK μ s k m p → fX6_firstTogether_j74 N x p (fX6_firstTogether_l15 N 3 t s k m μ (n + 1)) z = some (mvS (fgK μ s k m) (gI μ t 7).toNat 0) := by
        intro z hz
        unfold fX6_firstTogether_j74
        refine ih (p + (-1)) (j + 1) _ (by omega) (by omega) (by omega) ?_
        rw [hz, hx, show p + (-1) + 1 = p by omega]
        exact mvS_d (fgK μ s k m) j p
      replace go : ∀ z : Int, z = ((fgB m (shB μ (gI μ t 6) (s &&& (gZ μ 337 p).toNat) k 0) (shB μ (gI μ t 6) (s &&& (gZ μ 337 p).toNat) k 1) (shB μ (gI μ t 6) (s &&& (gZ μ 337 p).toNat) k 2) (shB μ (gI μ t 6) (s &&& (gZ μ 337 p).toNat) k 3) (shB μ (gI μ t 6) (s &&& (gZ μ 337 p).toNat) k 4) : Nat) : Int) → fX6_firstTogether_j74 N x p (fX6_firstTogether_l15 N 3 t s k m μ (n + 1)) z = some (mvS (fgK μ s k m) (gI μ t 7).toNat 0) := fun z hz => go z (by rw [hz]; unfold fgK b5; rw [e6])
      unfold b5
      rw [e6]
      have hcv := cfB_v (shB μ (gI μ t 6) (s &&& (gZ μ 337 p).toNat) k 0) (shB μ (gI μ t 6) (s &&& (gZ μ 337 p).toNat) k 1) (shB μ (gI μ t 6) (s &&& (gZ μ 337 p).toNat) k 2) (shB μ (gI μ t 6) (s &&& (gZ μ 337 p).toNat) k 3) (shB μ (gI μ t 6) (s &&& (gZ μ 337 p).toNat) k 4)
      unfold fgB at go
      have e0 : ((1 : Nat) : Int) - 1 = 0 := rfl
      have e1 : ((2 : Nat) : Int) - 1 = 1 := rfl
      rcases hm with rfl | rfl
      · rw [e0]
        rcases hcv with h | h | h | h
        · rw [h] at go ⊢
          rw [if_neg (by decide)]
          exact go 0 rfl
        · rw [h] at go ⊢
          rw [if_pos (by decide), if_neg (by decide)]
          cases hb : shB μ (gI μ t 6) (s &&& (gZ μ 337 p).toNat) k 0 with
          | false => rw [hb] at go; rw [if_pos (by decide)]; exact go 2 rfl
          | true => rw [hb] at go; rw [if_neg (by decide)]; exact go 1 rfl
        · rw [h] at go ⊢
          rw [if_neg (by decide)]
          exact go 0 rfl
        · rw [h] at go ⊢
          rw [if_neg (by decide)]
          exact go 0 rfl
      · rw [e1]
        rcases hcv with h | h | h | h
        · rw [h] at go ⊢
          rw [if_neg (by decide)]
          exact go 0 rfl
        · rw [h] at go ⊢
          rw [if_neg (by decide)]
          exact go 0 rfl
        · rw [h] at go ⊢
          rw [if_pos (by decide), if_neg (by decide)]
          cases hb : shB μ (gI μ t 6) (s &&& (gZ μ 337 p).toNat) k 1 with
          | false => rw [hb] at go; rw [if_pos (by decide)]; exact go 2 rfl
          | true => rw [hb] at go; rw [if_neg (by decide)]; exact go 1 rfl
        · rw [h] at go ⊢
          rw [if_neg (by decide)]
          exact go 0 rfl
theorem tg_f0 (N : Nat) (hNB : NB N) {μ : Mm} {t : Nat} (hL : LoomR μ t) (hW : WR μ t 3 0) {s : Nat} (hs : s < 256) (k : Int) : ∀ (n : Nat) (p : Int), -1 ≤ p → p < n → p < gI μ t 7 → fX6_firstTogether_l15 N 3 t s k 0 μ (n + 1) 0 p = some 0 := by
  obtain ⟨-, ⟨e6, a6, b6⟩, ⟨e7, a7, b7⟩, -, -, hk, -⟩ := id hL
  intro n
  induction n with
  | zero =>
    intro p p0 p1 p2
    rw [fX6_firstTogether_l15, wr_id (a := p) (by omega) (by omega), if_pos (by omega)]
  | succ n ih =>
    intro p p0 p1 p2
    rw [fX6_firstTogether_l15, wr_id (a := p) (by omega) (by omega)]
    by_cases q : p < 0
    · rw [if_pos q]
    · have hkk := hk p (by omega) (by omega)
      have hsp : s &&& (gZ μ 337 p).toNat < 256 := Nat.lt_of_le_of_lt Nat.and_le_left hs
      have ea : andI (s : Int) (gZ μ 337 p) = ((s &&& (gZ μ 337 p).toNat : Nat) : Int) := by
        have := andI_nat (a := s) (b := (gZ μ 337 p).toNat) (by omega) (by omega)
        rw [show (((gZ μ 337 p).toNat : Nat) : Int) = gZ μ 337 p by omega] at this
        exact this
      have go : fX6_firstTogether_j74 N 0 p (fX6_firstTogether_l15 N 3 t s k 0 μ (n + 1)) 0 = some 0 := by
        unfold fX6_firstTogether_j74
        exact ih (p + (-1)) (by omega) (by omega) (by omega)
      rw [if_neg q, ldA_ok (by omega) (by omega) (by omega), ob_s, hkk.1, ea, x_cfp N hNB hL hW (by omega) k, ob_s, if_pos (show wr (0 : Int) ≤ 0 by decide), go]
      by_cases z : wr (big ((b5 μ (s &&& (gZ μ 337 p).toNat) k cfB : Nat) : Int)) = wr 0
      · rw [if_pos z]
      · rw [if_neg z]
theorem p_farB (N : Nat) (h : Int) (μ : Mm) (h0 : h = 0 ∨ h = 1 ∨ h = 2) : fX9_farBehind N h μ = some (gZ μ 340 (if h = 0 then 4 else if h = 1 then 5 else 18)) := by
  unfold fX9_farBehind
  rcases h0 with rfl | rfl | rfl
  · rw [if_pos (by decide), ldA_ok (by decide) (by decide) (by decide), ob_s]; rfl
  · rw [if_neg (by decide), if_pos (by decide), ldA_ok (by decide) (by decide) (by decide), ob_s]; rfl
  · rw [if_neg (by decide), if_neg (by decide), ldA_ok (by decide) (by decide) (by decide), ob_s]; rfl
theorem tg_how (N : Nat) (hNB : NB N) {ν : Mm} {m : Nat} (hm : m = 1 ∨ m = 2) (b0 b1 b2 b3 b4 : Bool) (hc : cfB b0 b1 b2 b3 b4 ≤ m) (hf : ∀ x : Nat, x < 20 → gZ ν 340 x = (((farB b0 b1 b2 b3 b4).getD x 0 : Nat) : Int) ∧ (farB b0 b1 b2 b3 b4).getD x 0 ≤ 99) (x b p : Int) (rec : Int → Int → Int → Mm → Option (Int × Mm)) : fX9_together_l185 N m x b p rec ν N 0 = rec (x + b * ((fgB m b0 b1 b2 b3 b4 : Nat) : Int)) (b * 3) (p + 1) ν := by
  have hN2 : 300 ≤ N := hNB
  obtain ⟨f4, f5, f18⟩ : (gZ ν 340 4 = (((farB b0 b1 b2 b3 b4).getD 4 0 : Nat) : Int) ∧ (farB b0 b1 b2 b3 b4).getD 4 0 ≤ 99) ∧ (gZ ν 340 5 = (((farB b0 b1 b2 b3 b4).getD 5 0 : Nat) : Int) ∧ (farB b0 b1 b2 b3 b4).getD 5 0 ≤ 99) ∧ (gZ ν 340 18 = (((farB b0 b1 b2 b3 b4).getD 18 0 : Nat) : Int) ∧ (farB b0 b1 b2 b3 b4).getD 18 0 ≤ 99) := ⟨hf 4 (by decide), hf 5 (by decide), hf 18 (by decide)⟩
  obtain ⟨g1, g2, g3⟩ := (far_ok b0 b1 b2 b3 b4).2 m (by omega) (by omega) hc
  have e0 := p_farB N 0 ν (by decide)
  have e1 := p_farB N 1 ν (by decide)
  have e2 := p_farB N 2 ν (by decide)
  rw [show (if (0 : Int) = 0 then (4 : Int) else if (0 : Int) = 1 then 5 else 18) = 4 from rfl, f4.1] at e0
  rw [show (if (1 : Int) = 0 then (4 : Int) else if (1 : Int) = 1 then 5 else 18) = 5 from rfl, f5.1] at e1
  rw [show (if (2 : Int) = 0 then (4 : Int) else if (2 : Int) = 1 then 5 else 18) = 18 from rfl, f18.1] at e2
  have w4 := f4.2
  have w5 := f5.2
  have w18 := f18.2
  generalize (farB b0 b1 b2 b3 b4).getD 4 0 = a4 at *
  generalize (farB b0 b1 b2 b3 b4).getD 5 0 = a5 at *
  generalize (farB b0 b1 b2 b3 b4).getD 18 0 = a18 at *
  generalize fgB m b0 b1 b2 b3 b4 = g at *
  have key : ∀ f : Nat, fX9_together_l185 N m x b p rec ν (f + 3) 0 = rec (x + b * (g : Int)) (b * 3) (p + 1) ν := by
    intro f
    rw [fX9_together_l185, e0, ob_s, wr_id (a := (a4 : Int)) (by omega) (by omega), wr_id (a := (m : Int) - 1) (by omega) (by omega)]
    unfold fX9_together_k204
    by_cases q4 : a4 < m
    · rw [if_pos (by omega), g1 q4]; rfl
    · rw [if_neg (by omega), show (0 + 1 : Int) = 1 from rfl, fX9_together_l185, e1, ob_s, wr_id (a := (a5 : Int)) (by omega) (by omega), wr_id (a := (m : Int) - 1) (by omega) (by omega)]
      unfold fX9_together_k204
      by_cases q5 : a5 < m
      · rw [if_pos (by omega), g2 q4 q5]; rfl
      · have g4 := g3 q4 q5
        rw [if_neg (by omega), show (1 + 1 : Int) = 2 from rfl, fX9_together_l185, e2, ob_s, wr_id (a := (a18 : Int)) (by omega) (by omega), wr_id (a := (m : Int) - 1) (by omega) (by omega), if_pos (by omega), g4.2]
        rfl
  have := key (N - 3)
  rw [show N - 3 + 3 = N by omega] at this
  exact this
theorem tg_fm (N : Nat) (hNB : NB N) {μ : Mm} {t : Nat} (hL : LoomR μ t) {s : Nat} (hs : s < 256) (k : Int) {m : Nat} (hm : m = 1 ∨ m = 2) (hc : ∀ p, 0 ≤ p → p < gI μ t 7 → cfK μ s k p ≤ m) : ∀ (j n : Nat) (p x b : Int) (ν : Mm), 0 ≤ p → p + j = gI μ t 7 → j < n → (∀ y, y ≠ 340 → ν y = μ y) → ∃ ν1, fX9_together_l159 N s k m n x b p ν = some (x + b * mvS (fgK μ s k m) j p, ν1) ∧ ∀ y, y ≠ 340 → ν1 y = μ y := by
  obtain ⟨-, ⟨e6, a6, b6⟩, ⟨e7, a7, b7⟩, -, -, hk, -⟩ := id hL
  intro j
  induction j with
  | zero =>
    intro n p x b ν p0 p1 hn hr
    obtain ⟨f, rfl⟩ : ∃ f, n = f + 1 := ⟨n - 1, by omega⟩
    rw [fX9_together_l159, gI_row (hr 332 (by decide)), e7, wr_gI, wr_id (a := p) (by omega) (by omega), if_pos (by omega)]
    refine ⟨ν, ?_, hr⟩
    show _ = some (x + b * 0, ν)
    rw [Int.mul_zero, Int.add_zero]
  | succ j ih =>
    intro n p x b ν p0 p1 hn hr
    obtain ⟨f, rfl⟩ : ∃ f, n = f + 1 := ⟨n - 1, by omega⟩
    obtain ⟨ν1, r0, r1, r2, r3⟩ := tg_far N hNB hL hs k p0 (show p < gI μ t 7 by omega) hr
    have hcp := hc p p0 (by omega)
    unfold cfK b5 at hcp
    unfold b5 at r3
    rw [fX9_together_l159, gI_row (hr 332 (by decide)), e7, wr_gI, wr_id (a := p) (by omega) (by omega), if_neg (by omega), r0, ob_s, r1, ob_s, tg_how N hNB hm _ _ _ _ _ (by omega) r3, mvS_a]
    exact ih f (p + 1) _ _ ν1 (by omega) (by omega) (by omega) r2
theorem shB_bits {μ : Mm} {C : Int} (hC : 0 ≤ C ∧ C ≤ 8) {s r : Nat} (k on : Int) (h : ∀ c : Nat, (c : Int) < C → s.testBit c = r.testBit c) : shB μ C s k on = shB μ C r k on := by
  unfold shB
  refine alB_c _ _ (fun x x0 x1 => ?_)
  unfold pS
  rw [h x.toNat (by omega)]
theorem okp_together (N : Nat) (hNB : NB N) : ok_together N Inv := by
  intro μ y k w hy hk hw hI
  obtain ⟨t, u, hT, hL, hW, hU, hG, hN, hX, hS⟩ := id hI
  obtain ⟨⟨e5, a5, b5'⟩, ⟨e6, a6, b6⟩, ⟨e7, a7, b7⟩, -, -, hkk, hcc, hcp⟩ := id hL
  have hN2 : 300 ≤ N := hNB
  obtain ⟨C, hC⟩ : ∃ C : Nat, gI μ t 6 = C := ⟨(gI μ t 6).toNat, by omega⟩
  have hC8 : C ≤ 8 := by omega
  have h2C : (2 ^ C : Nat) ≤ 256 ∧ 1 ≤ (2 ^ C : Nat) := ⟨show 2 ^ C ≤ 2 ^ 8 from Nat.pow_le_pow_right (by decide) hC8, Nat.one_le_two_pow⟩
  unfold fX8_together fX9_together fX5_hasCards
  rw [hT.t, gd_p hT.kt, p_hasColour N t k μ hk, p_isColour N k μ (by omega) hk, e5, e6, hC, shl1 hC8, wr_id hy.1 hy.2, p_how N w μ hw, wr_id hw.1 hw.2, p_in N w 0 1 μ (by omega) (by omega) (by omega), wr_id (a := ((2 ^ C : Nat) : Int)) (by omega) (by omega), wr_id (a := ((2 ^ C : Nat) : Int) - 1) (by omega) (by omega), p_in N y 0 _ μ (by omega) (by omega) (by omega), p_isMade, p_isLoom]
  simp only [ob_s, e5]
  have e1 : (if y < 0 then (some 0 : Option Int) else if ((2 ^ C : Nat) : Int) ≤ y then some 0 else some 1) = some (if 0 ≤ y ∧ y ≤ ((2 ^ C : Nat) : Int) - 1 then 1 else 0) := by
    by_cases q : y < 0
    · rw [if_pos q, if_neg (by omega)]
    · rw [if_neg q]
      by_cases q2 : ((2 ^ C : Nat) : Int) ≤ y
      · rw [if_pos q2, if_neg (by omega)]
      · rw [if_neg q2, if_pos (by omega)]
  rw [e1, ob_s]
  by_cases q : 0 ≤ y ∧ y ≤ ((2 ^ C : Nat) : Int) - 1
  · rw [if_pos q, if_neg (show ¬ wr (1 : Int) = 0 by decide)]
    by_cases q2 : 0 ≤ k ∧ k < gI μ t 5
    · rw [if_pos q2, if_neg (show ¬ wr (1 : Int) = 0 by decide)]
      by_cases q3 : 0 ≤ w ∧ w ≤ 1
      · obtain ⟨s, rfl⟩ : ∃ s : Nat, y = s := ⟨y.toNat, by omega⟩
        have hs : s < 256 := by omega
        obtain ⟨cp, hcpe⟩ : ∃ cp : Nat, gI μ t 8 = cp := ⟨(gI μ t 8).toNat, by omega⟩
        obtain ⟨po, po1, po2, po3⟩ := po_l N hL hs (gI μ t 7).toNat N 0 0 (by omega) (by omega) (by omega) (by decide)
        obtain ⟨d1, d1a, d1b, d1c⟩ := andnot (s := s) (c := cp) (by omega) (by omega)
        obtain ⟨d2, d2a, d2b, d2c⟩ := andnot (s := s) (c := po) (by omega) (by omega)
        have hbits : ∀ c : Nat, (c : Int) < gI μ t 6 → d1.testBit c = d2.testBit c := by
          intro c hc
          rw [d1c c (by omega), d2c c (by omega)]
          cases hsb : s.testBit c with
          | false => rfl
          | true =>
            have h1 : cp.testBit c = true ↔ ¬ gZ μ (t + 3) c = -1 := by
              have := hcp.2.2 c hc
              rw [hcpe, Int.toNat_natCast] at this
              exact this
            have h2 : po.testBit c = true ↔ ¬ gZ μ (t + 3) c = -1 := by
              rw [po3 c, hsb]
              constructor
              · rintro (h | ⟨-, x, x0, x1, x2⟩)
                · exact absurd h (by rw [Nat.zero_testBit]; decide)
                · have := (r_bit hL (c := (c : Int)) (by omega) hc x0 x1).1 (by rw [Int.toNat_natCast]; exact x2)
                  omega
              · intro h
                have hp := r_pk hL (c := (c : Int)) (by omega) hc
                refine Or.inr ⟨rfl, gZ μ (t + 3) c, by omega, hp.2, ?_⟩
                have := (r_bit hL (c := (c : Int)) (by omega) hc (show 0 ≤ gZ μ (t + 3) c by omega) hp.2).2 rfl
                rw [Int.toNat_natCast] at this
                exact this
            cases h3 : cp.testBit c with
            | true => rw [h2.2 (h1.1 h3)]
            | false =>
              cases h4 : po.testBit c with
              | false => rfl
              | true => rw [h1.2 (h2.1 h4)] at h3; exact absurd h3 (by decide)
        have hsh := shB_bits (μ := μ) ⟨a6, b6⟩ k 4 hbits
        rw [if_pos q3, if_neg (show ¬ wr (1 : Int) = 0 by decide), if_pos (show 0 < gI μ t 5 by omega), if_neg (show ¬ wr (1 : Int) = 0 by decide)]
        unfold fX6_countTogether fX9_packsOf
        rw [show ((0 : Nat) : Int) = 0 from rfl] at po1
        rw [po1, ob_s, d2a, r_all N hNB (by omega) d2b k (by decide), ob_s, hcpe, d1a, r_now N hNB hL hW d1b k, ob_s, e6, hsh]
        unfold fX6_countTogether_j24
        cases hb : shB μ (gI μ t 6) d2 k 4 with
        | false =>
          rw [if_pos (show wr (bi false) = 0 by decide), if_pos (show wr (bi false) = 0 by decide), tg_cnt N hNB hL hW hs k (gI μ t 7).toNat N 0 1000 (by omega) (by omega) (by omega) (by decide) (by decide)]
          have hmx := mxS_b (fun p => big (cfK μ s k p)) (B := 1000) (gI μ t 7).toNat 0 1000 (by decide) (fun p _ _ => by
            have hv := cfK_v μ s k p
            show big (cfK μ s k p) ≤ 1000
            unfold big
            by_cases z : cfK μ s k p = 99
            · rw [if_pos z]; decide
            · rw [if_neg z]; omega)
          unfold fX6_countTogether_k72
          rw [show mxS (fun p => big (cfK μ s k p)) (gI μ t 7).toNat 0 1000 = 1000 by omega, if_pos (by decide), ob_s]
          refine ⟨-1, -1, μ, ?_, rfl, rfl, hI⟩
          by_cases z : w = 0
          · rw [if_pos z]
          · rw [if_neg z, if_pos (by decide)]
        | true =>
          obtain ⟨ν1, v1, v2⟩ := tg_cm N hNB hL hs k w (gI μ t 7).toNat N 0 0 μ (by omega) (by omega) (by omega) (by decide) (by decide) (fun _ _ => rfl)
          have hbig := mxS_big (cfK μ s k) (fun p => by have := cfK_v μ s k p; omega) (gI μ t 7).toNat 0 0 (by decide) (by decide)
          have hmb := mxS_b (cfK μ s k) (B := 99) (gI μ t 7).toNat 0 0 (by decide) (fun p _ _ => by have := cfK_v μ s k p; omega)
          have hge := fun p p0 p1 => mxS_ge (cfK μ s k) (gI μ t 7).toNat 0 0 p p0 p1
          have hmem : ∀ (n : Nat) (i x : Int), (x = 0 ∨ x = 1 ∨ x = 2 ∨ x = 99) → (mxS (cfK μ s k) n i x = 0 ∨ mxS (cfK μ s k) n i x = 1 ∨ mxS (cfK μ s k) n i x = 2 ∨ mxS (cfK μ s k) n i x = 99) := by
            intro n
            induction n with
            | zero => intro i x hx; exact hx
            | succ n ih =>
              intro i x hx
              refine ih (i + 1) _ ?_
              by_cases z : x < cfK μ s k i
              · rw [if_pos z]; exact cfK_v μ s k i
              · rw [if_neg z]; exact hx
          have hmem := hmem (gI μ t 7).toNat 0 0 (Or.inl rfl)
          rw [show big 0 = 0 from rfl] at hbig
          rw [if_neg (show ¬ wr (bi true) = 0 by decide), if_neg (show ¬ wr (bi true) = 0 by decide), tg_cnt N hNB hL hW hs k (gI μ t 7).toNat N 0 0 (by omega) (by omega) (by omega) (by decide) (by decide), v1, hbig]
          generalize hM : mxS (cfK μ s k) (gI μ t 7).toNat 0 0 = M at *
          have hIν : Inv ν1 := hI.side (fun r h _ _ => v2 r h) (fun k _ _ _ => gZ_row (v2 333 (by decide)) k)
          unfold fX6_countTogether_k72 fX9_together_k120 big
          by_cases m99 : M = 99
          · rw [m99]
            refine ⟨-1, -1, ν1, ?_, rfl, rfl, hIν⟩
            simp only [↓reduceIte]
            rw [if_pos (show wr 1000 = 1000 by decide), ob_s]
            by_cases z : w = 0
            · rw [if_pos z]
            · rw [if_neg z, if_pos (by decide)]
          · rw [if_neg m99, wr_id (a := M) (by omega) (by omega), if_neg (show ¬ M = 1000 by omega), ob_s, if_neg (show ¬ 99 ≤ M by omega), if_pos (show M < 99 by omega), wr_id hw.1 hw.2]
            by_cases z : w = 0
            · rw [if_pos z, if_pos z]
              refine ⟨M, M, ν1, rfl, ?_, rfl, hIν⟩
              by_cases z2 : M = 0
              · rw [if_pos z2]; simp only [if_neg (show ¬ wr (1 : Int) = 0 by decide)]
              · rw [if_neg z2]; simp only [if_neg (show ¬ wr (1 : Int) = 0 by decide)]
            · rw [if_neg z, if_neg z, wr_id (a := M) (by omega) (by omega), if_neg (show ¬ M = -1 by omega)]
              unfold fX6_firstTogether
              have e4 : (if wr 4 < wr (gI μ t 7) then (4 : Int) else gI μ t 7) = gI μ t 7 := by
                rw [wr_gI, if_neg (by rw [wr_id (by decide) (by decide)]; omega)]
              rw [e4]
              obtain ⟨f, rfl⟩ : ∃ f, N = f + 1 := ⟨N - 1, by omega⟩
              by_cases m0 : M = 0
              · rw [if_pos m0, m0, tg_f0 (f + 1) hNB hL hW hs k f (gI μ t 7 - 1) (by omega) (by omega) (by omega), ob_s]
                exact ⟨0, 0, ν1, rfl, rfl, rfl, hIν⟩
              · obtain ⟨m, rfl⟩ : ∃ m : Nat, M = m := ⟨M.toNat, by omega⟩
                obtain ⟨ν2, u1, u2⟩ := tg_fm (f + 1) hNB hL hs k (m := m) (by omega) (fun p p0 p1 => hge p p0 (by omega)) (gI μ t 7).toNat (f + 1) 0 0 1 ν1 (by omega) (by omega) (by omega) v2
                rw [if_neg m0, tg_fx (f + 1) hNB hL hW hs k (m := m) (by omega) f (gI μ t 7 - 1) 0 0 (by omega) (by omega) (by omega) rfl, ob_s, u1, Int.zero_add, Int.one_mul]
                exact ⟨_, _, ν2, rfl, rfl, rfl, hI.side (fun r h _ _ => u2 r h) (fun k _ _ _ => gZ_row (u2 333 (by decide)) k)⟩
      · rw [if_neg q3, if_pos (show wr (0 : Int) = 0 by decide), if_pos (show wr (0 : Int) = 0 by decide)]
        exact ⟨_, _, _, rfl, rfl, rfl, hI⟩
    · rw [if_neg q2, if_pos (show wr (0 : Int) = 0 by decide), if_pos (show wr (0 : Int) = 0 by decide)]
      exact ⟨_, _, _, rfl, rfl, rfl, hI⟩
  · rw [if_neg q, if_pos (show wr (0 : Int) = 0 by decide), if_pos (show wr (0 : Int) = 0 by decide)]
    exact ⟨_, _, _, rfl, rfl, rfl, hI⟩
