/-! THE TEXT: blanks, numbers, on both sides -/
def FN (f : Int → Int) (n : Int) : Prop := 0 ≤ n ∧ n ≤ 240 ∧ ∀ i, 0 ≤ i → i < n → 0 ≤ f i ∧ f i ≤ 255
def TX (f : Int → Int) (n : Int) (μ : Mm) : Prop := gI μ 1 1 = n ∧ ∀ i, 0 ≤ i → i < n → gZ μ 2 i = f i
def TM (f : Int → Int) (n : Int) (μ : Mm) : Prop := gI μ 332 13 = n ∧ ∀ i, 0 ≤ i → i < n → gZ μ 339 i = f i
def ltr (f : Int → Int) (n p : Int) : Int := if p < n then f p else -1
theorem ltr_b {f : Int → Int} {n p : Int} (hf : FN f n) (h0 : 0 ≤ p) : -1 ≤ ltr f n p ∧ ltr f n p ≤ 255 := by
  unfold ltr
  by_cases q : p < n
  · rw [if_pos q]; have := hf.2.2 p h0 q; omega
  · rw [if_neg q]; omega
theorem x_ltr (N : Nat) {f : Int → Int} {n p : Int} (hf : FN f n) {μ : Mm} (hT : TX f n μ) (hp : gI μ 1 2 = p) (h0 : 0 ≤ p) (h1 : p ≤ n) : fX4_letterHere N μ = some (ltr f n p) := by
  unfold fX4_letterHere ltr
  have hn := hf.2.1
  rw [hp, hT.1, wr_id (a := p) (by omega) (by omega), wr_id (a := n) (by omega) (by omega), if_neg (by omega)]
  by_cases q : p < n
  · rw [if_neg (show ¬ n ≤ p by omega), if_neg (show ¬ 240 ≤ p by omega), ldA_ok h0 (by omega) (by omega), ob_s, hT.2 p h0 q, if_pos q]
  · rw [if_pos (show n ≤ p by omega), if_neg q]
def skp (f : Int → Int) (n : Int) : Nat → Int → Int
  | 0, p => p
  | j + 1, p => if f p = 32 then skp f n j (p + 1) else p
def sk (f : Int → Int) (n p : Int) : Int := skp f n (n - p).toNat p
theorem skp_b {f : Int → Int} {n : Int} : ∀ (j : Nat) (p : Int), p + j = n → p ≤ skp f n j p ∧ skp f n j p ≤ n ∧ (skp f n j p < n → f (skp f n j p) ≠ 32) := by
  intro j
  induction j with
  | zero => intro p hp; exact ⟨Int.le_refl _, by show p ≤ n; omega, fun h => by have : p < n := h; omega⟩
  | succ j ih =>
    intro p hp
    show p ≤ (if f p = 32 then skp f n j (p + 1) else p) ∧ (if f p = 32 then skp f n j (p + 1) else p) ≤ n ∧ ((if f p = 32 then skp f n j (p + 1) else p) < n → f (if f p = 32 then skp f n j (p + 1) else p) ≠ 32)
    by_cases q : f p = 32
    · rw [if_pos q]
      have := ih (p + 1) (by omega)
      exact ⟨by omega, this.2.1, this.2.2⟩
    · rw [if_neg q]
      exact ⟨Int.le_refl _, by omega, fun _ => q⟩
theorem sk_b {f : Int → Int} {n p : Int} (h : p ≤ n) : p ≤ sk f n p ∧ sk f n p ≤ n ∧ (sk f n p < n → f (sk f n p) ≠ 32) := skp_b _ _ (by omega)
theorem sk_i {f : Int → Int} {n p : Int} (h : p ≤ n) (h2 : p < n → f p ≠ 32) : sk f n p = p := by
  unfold sk
  cases hj : (n - p).toNat with
  | zero => rfl
  | succ j =>
    show (if f p = 32 then skp f n j (p + 1) else p) = p
    rw [if_neg (h2 (by omega))]
theorem x_sk (N : Nat) {f : Int → Int} {n : Int} (hf : FN f n) : ∀ (j fl : Nat) (p : Int) (μ : Mm), p + j = n → 0 ≤ p → j < fl → TX f n μ → gI μ 1 2 = p → ∃ ν, fX4_skipBlanks_l0 N fl μ = some ν ∧ (∀ r, r ≠ 1 → ν r = μ r) ∧ (∀ k, k ≠ 2 → gI ν 1 k = gI μ 1 k) ∧ gI ν 1 2 = skp f n j p := by
  have hn := hf.2.1
  intro j
  induction j with
  | zero =>
    intro fl p μ hp h0 hfl hT hpl
    obtain ⟨g, rfl⟩ : ∃ g, fl = g + 1 := ⟨fl - 1, by omega⟩
    rw [fX4_skipBlanks_l0, hT.1, hpl, wr_id (a := p) (by omega) (by omega), wr_id (a := n) (by omega) (by omega), if_pos (by omega)]
    exact ⟨μ, rfl, fun _ _ => rfl, fun _ _ => rfl, hpl⟩
  | succ j ih =>
    intro fl p μ hp h0 hfl hT hpl
    obtain ⟨g, rfl⟩ : ∃ g, fl = g + 1 := ⟨fl - 1, by omega⟩
    have hfp := hf.2.2 p h0 (by omega)
    rw [fX4_skipBlanks_l0, hT.1, x_ltr N hf hT hpl h0 (by omega), ob_s, hpl, wr_id (a := p) (by omega) (by omega), wr_id (a := n) (by omega) (by omega), if_neg (by omega), ob_s]
    have el : ltr f n p = f p := if_pos (by omega)
    rw [el, wr_id (a := f p) (by omega) (by omega)]
    show ∃ ν, _ ∧ _ ∧ _ ∧ gI ν 1 2 = if f p = 32 then skp f n j (p + 1) else p
    by_cases q : f p = 32
    · rw [if_pos q, if_pos q]
      obtain ⟨ν, g1, g2, g3, g4⟩ := ih g (p + 1) (pI μ 1 2 (p + 1)) (by omega) (by omega) (by omega) ⟨by rw [gI_pI_k (by decide)]; exact hT.1, fun i a b => by rw [gZ_pI_a (by decide)]; exact hT.2 i a b⟩ (by rw [gI_pI_s, wr_id (by omega) (by omega)])
      exact ⟨ν, g1, fun r hr => by rw [g2 r hr, row_pI hr], fun k hk => by rw [g3 k hk, gI_pI_k hk], g4⟩
    · rw [if_neg q, if_neg q]
      exact ⟨μ, rfl, fun _ _ => rfl, fun _ _ => rfl, hpl⟩
theorem x_skip (N : Nat) (hNB : NB N) {f : Int → Int} {n p : Int} (hf : FN f n) {μ : Mm} (hT : TX f n μ) (hpl : gI μ 1 2 = p) (h0 : 0 ≤ p) (h1 : p ≤ n) : ∃ ν, fX4_skipBlanks N μ = some ν ∧ (∀ r, r ≠ 1 → ν r = μ r) ∧ (∀ k, k ≠ 2 → gI ν 1 k = gI μ 1 k) ∧ gI ν 1 2 = sk f n p := by
  have hN2 : 300 ≤ N := hNB
  have hn := hf.2.1
  exact x_sk N hf (n - p).toNat N p μ (by omega) h0 (by omega) hT hpl
theorem m_sk (N : Nat) {f : Int → Int} {n : Int} (hf : FN f n) : ∀ (j fl : Nat) (p : Int) (μ : Mm), p + j = n → 0 ≤ p → j < fl → TM f n μ → gI μ 332 14 = p → ∃ ν, fX9_here_l0 N fl μ = some (ltr f n (skp f n j p), ν) ∧ (∀ r, r ≠ 332 → ν r = μ r) ∧ (∀ k, k ≠ 14 → gI ν 332 k = gI μ 332 k) ∧ gI ν 332 14 = skp f n j p := by
  have hn := hf.2.1
  intro j
  induction j with
  | zero =>
    intro fl p μ hp h0 hfl hT hpl
    obtain ⟨g, rfl⟩ : ∃ g, fl = g + 1 := ⟨fl - 1, by omega⟩
    have el : ltr f n p = -1 := if_neg (by omega)
    rw [fX9_here_l0, hT.1, hpl, wr_id (a := p) (by omega) (by omega), wr_id (a := n) (by omega) (by omega), if_pos (by omega)]
    unfold fX9_here_k38
    rw [hT.1, hpl, wr_id (a := p) (by omega) (by omega), wr_id (a := n) (by omega) (by omega), if_pos (by omega)]
    refine ⟨μ, ?_, fun _ _ => rfl, fun _ _ => rfl, hpl⟩
    show _ = some (ltr f n p, μ)
    rw [el]
  | succ j ih =>
    intro fl p μ hp h0 hfl hT hpl
    obtain ⟨g, rfl⟩ : ∃ g, fl = g + 1 := ⟨fl - 1, by omega⟩
    have hfp := hf.2.2 p h0 (by omega)
    rw [fX9_here_l0, hT.1, hpl, wr_id (a := p) (by omega) (by omega), wr_id (a := n) (by omega) (by omega), if_neg (by omega), ldA_ok h0 (by omega) (by omega), ob_s, hT.2 p h0 (by omega), wr_id (a := f p) (by omega) (by omega)]
    show ∃ ν, _ = some (ltr f n (if f p = 32 then skp f n j (p + 1) else p), ν) ∧ _ ∧ _ ∧ gI ν 332 14 = if f p = 32 then skp f n j (p + 1) else p
    by_cases q : f p = 32
    · rw [if_pos q, if_pos q, ob_s]
      obtain ⟨ν, g1, g2, g3, g4⟩ := ih g (p + 1) (pI μ 332 14 (p + 1)) (by omega) (by omega) (by omega) ⟨by rw [gI_pI_k (by decide)]; exact hT.1, fun i a b => by rw [gZ_pI_a (by decide)]; exact hT.2 i a b⟩ (by rw [gI_pI_s, wr_id (by omega) (by omega)])
      exact ⟨ν, g1, fun r hr => by rw [g2 r hr, row_pI hr], fun k hk => by rw [g3 k hk, gI_pI_k hk], g4⟩
    · have el : ltr f n p = f p := if_pos (by omega)
      rw [if_neg q, if_neg q]
      unfold fX9_here_k38
      rw [hT.1, hpl, wr_id (a := p) (by omega) (by omega), wr_id (a := n) (by omega) (by omega), if_neg (by omega), ldA_ok h0 (by omega) (by omega), ob_s, hT.2 p h0 (by omega), el]
      exact ⟨μ, rfl, fun _ _ => rfl, fun _ _ => rfl, hpl⟩
theorem m_here (N : Nat) (hNB : NB N) {f : Int → Int} {n p : Int} (hf : FN f n) {μ : Mm} (hT : TM f n μ) (hpl : gI μ 332 14 = p) (h0 : 0 ≤ p) (h1 : p ≤ n) : ∃ ν, fX9_here N μ = some (ltr f n (sk f n p), ν) ∧ (∀ r, r ≠ 332 → ν r = μ r) ∧ (∀ k, k ≠ 14 → gI ν 332 k = gI μ 332 k) ∧ gI ν 332 14 = sk f n p := by
  have hN2 : 300 ≤ N := hNB
  have hn := hf.2.1
  exact m_sk N hf (n - p).toNat N p μ (by omega) h0 (by omega) hT hpl
/-! numbers -/
def isD (c : Int) : Prop := 48 ≤ c ∧ c ≤ 57
theorem x_fgr (N : Nat) {c : Int} (hc : -1 ≤ c ∧ c ≤ 255) (μ : Mm) : fX4_isFigure N c μ = some (if 48 ≤ c ∧ c ≤ 57 then 1 else 0) := by
  unfold fX4_isFigure
  rw [wr_id (a := c) (by omega) (by omega)]
  by_cases q1 : c < 48
  · rw [if_pos q1, if_neg (by omega)]
  · rw [if_neg q1]
    by_cases q2 : 57 < c
    · rw [if_pos q2, if_neg (by omega)]
    · rw [if_neg q2, if_pos (by omega)]
def dgp (f : Int → Int) (n : Int) : Nat → Int → Int
  | 0, p => p
  | j + 1, p => if 48 ≤ f p ∧ f p ≤ 57 then dgp f n j (p + 1) else p
def dg (f : Int → Int) (n p : Int) : Int := dgp f n (n - p).toNat p
def vlN (f : Int → Int) (p : Int) : Nat → Int
  | 0 => 0
  | k + 1 => vlN f p k * 10 + f (p + k) - 48
theorem dgp_b {f : Int → Int} {n : Int} : ∀ (j : Nat) (p : Int), p + j = n → p ≤ dgp f n j p ∧ dgp f n j p ≤ n ∧ ∀ i, p ≤ i → i < dgp f n j p → 48 ≤ f i ∧ f i ≤ 57 := by
  intro j
  induction j with
  | zero => intro p hp; exact ⟨Int.le_refl _, by show p ≤ n; omega, fun i a b => by have : i < p := b; omega⟩
  | succ j ih =>
    intro p hp
    show p ≤ (if 48 ≤ f p ∧ f p ≤ 57 then dgp f n j (p + 1) else p) ∧ (if 48 ≤ f p ∧ f p ≤ 57 then dgp f n j (p + 1) else p) ≤ n ∧ ∀ i, p ≤ i → i < (if 48 ≤ f p ∧ f p ≤ 57 then dgp f n j (p + 1) else p) → 48 ≤ f i ∧ f i ≤ 57
    by_cases q : 48 ≤ f p ∧ f p ≤ 57
    · rw [if_pos q]
      have h := ih (p + 1) (by omega)
      refine ⟨by omega, h.2.1, fun i a b => ?_⟩
      by_cases z : i = p
      · rw [z]; exact q
      · exact h.2.2 i (by omega) b
    · rw [if_neg q]
      exact ⟨Int.le_refl _, by omega, fun i a b => by omega⟩
theorem vlN_b {f : Int → Int} {p : Int} : ∀ k : Nat, k ≤ 3 → (∀ i, p ≤ i → i < p + k → 48 ≤ f i ∧ f i ≤ 57) → 0 ≤ vlN f p k ∧ vlN f p k ≤ 999 := by
  intro k hk h
  have h0 : ∀ j : Nat, j < k → 48 ≤ f (p + j) ∧ f (p + j) ≤ 57 := fun j hj => h _ (by omega) (by omega)
  rcases (show k = 0 ∨ k = 1 ∨ k = 2 ∨ k = 3 by omega) with rfl | rfl | rfl | rfl
  · exact ⟨Int.le_refl _, by show (0 : Int) ≤ 999; decide⟩
  · have a := h0 0 (by decide)
    show 0 ≤ 0 * 10 + f (p + ((0 : Nat) : Int)) - 48 ∧ 0 * 10 + f (p + ((0 : Nat) : Int)) - 48 ≤ 999
    omega
  · have a := h0 0 (by decide)
    have b := h0 1 (by decide)
    show 0 ≤ (0 * 10 + f (p + ((0 : Nat) : Int)) - 48) * 10 + f (p + ((1 : Nat) : Int)) - 48 ∧ (0 * 10 + f (p + ((0 : Nat) : Int)) - 48) * 10 + f (p + ((1 : Nat) : Int)) - 48 ≤ 999
    omega
  · have a := h0 0 (by decide)
    have b := h0 1 (by decide)
    have c := h0 2 (by decide)
    show 0 ≤ ((0 * 10 + f (p + ((0 : Nat) : Int)) - 48) * 10 + f (p + ((1 : Nat) : Int)) - 48) * 10 + f (p + ((2 : Nat) : Int)) - 48 ∧ ((0 * 10 + f (p + ((0 : Nat) : Int)) - 48) * 10 + f (p + ((1 : Nat) : Int)) - 48) * 10 + f (p + ((2 : Nat) : Int)) - 48 ≤ 999
    omega
/-- the class' loop over the figures: q0 the place of the first -/
theorem x_dg (N : Nat) {f : Int → Int} {n lo hi : Int} (hf : FN f n) {q0 : Int} (hq : 0 ≤ q0) : ∀ (j fl k : Nat) (p : Int) (μ : Mm), p + j = n → p = q0 + k → j < fl → TX f n μ → gI μ 1 2 = p → gI μ 1 3 = q0 → ∃ ν, fX4_readNumber_l35 N lo hi fl (vlN f q0 (if k ≤ 3 then k else 3)) μ = fX4_readNumber_k95 N lo hi (vlN f q0 (if dgp f n j p - q0 ≤ 3 then (dgp f n j p - q0).toNat else 3)) ν ∧ (∀ r, r ≠ 1 → ν r = μ r) ∧ (∀ k, k ≠ 2 → gI ν 1 k = gI μ 1 k) ∧ gI ν 1 2 = dgp f n j p := by
  have hn := hf.2.1
  intro j
  induction j with
  | zero =>
    intro fl k p μ hp hk hfl hT hpl hq0
    obtain ⟨g, rfl⟩ : ∃ g, fl = g + 1 := ⟨fl - 1, by omega⟩
    rw [fX4_readNumber_l35, hT.1, hpl, wr_id (a := p) (by omega) (by omega), wr_id (a := n) (by omega) (by omega), if_pos (by omega)]
    refine ⟨μ, ?_, fun _ _ => rfl, fun _ _ => rfl, hpl⟩
    show _ = fX4_readNumber_k95 N lo hi (vlN f q0 (if p - q0 ≤ 3 then (p - q0).toNat else 3)) μ
    have : (if k ≤ 3 then k else 3) = (if p - q0 ≤ 3 then (p - q0).toNat else 3) := by
      by_cases z : k ≤ 3
      · rw [if_pos z, if_pos (by omega)]; omega
      · rw [if_neg z, if_neg (by omega)]
    rw [this]
  | succ j ih =>
    intro fl k p μ hp hk hfl hT hpl hq0
    obtain ⟨g, rfl⟩ : ∃ g, fl = g + 1 := ⟨fl - 1, by omega⟩
    have h0 : 0 ≤ p := by omega
    have el : ltr f n p = f p := if_pos (by omega)
    have hfp := hf.2.2 p h0 (by omega)
    have hl := x_ltr N hf hT hpl h0 (by omega)
    rw [el] at hl
    rw [fX4_readNumber_l35, hT.1, hpl, hq0, wr_id (a := p) (by omega) (by omega), wr_id (a := n) (by omega) (by omega), if_neg (by omega), hl, ob_s, x_fgr N (by omega) μ, ob_s]
    show ∃ ν, _ = fX4_readNumber_k95 N lo hi (vlN f q0 (if (if 48 ≤ f p ∧ f p ≤ 57 then dgp f n j (p + 1) else p) - q0 ≤ 3 then ((if 48 ≤ f p ∧ f p ≤ 57 then dgp f n j (p + 1) else p) - q0).toNat else 3)) ν ∧ _ ∧ _ ∧ gI ν 1 2 = if 48 ≤ f p ∧ f p ≤ 57 then dgp f n j (p + 1) else p
    by_cases z : 48 ≤ f p ∧ f p ≤ 57
    · simp only [if_pos z]
      rw [if_neg (show ¬ wr (1 : Int) = 0 by decide)]
      have go := ih g (k + 1) (p + 1) (pI μ 1 2 (p + 1)) (by omega) (by omega) (by omega) ⟨by rw [gI_pI_k (by decide)]; exact hT.1, fun i a b => by rw [gZ_pI_a (by decide)]; exact hT.2 i a b⟩ (by rw [gI_pI_s, wr_id (by omega) (by omega)]) (by rw [gI_pI_k (by decide)]; exact hq0)
      have fin : ∃ ν, fX4_readNumber_j82 N μ (fX4_readNumber_l35 N lo hi g) (vlN f q0 (if k + 1 ≤ 3 then k + 1 else 3)) = fX4_readNumber_k95 N lo hi (vlN f q0 (if dgp f n j (p + 1) - q0 ≤ 3 then (dgp f n j (p + 1) - q0).toNat else 3)) ν ∧ (∀ r, r ≠ 1 → ν r = μ r) ∧ (∀ k, k ≠ 2 → gI ν 1 k = gI μ 1 k) ∧ gI ν 1 2 = dgp f n j (p + 1) := by
        obtain ⟨ν, g1, g2, g3, g4⟩ := go
        refine ⟨ν, ?_, fun r hr => by rw [g2 r hr, row_pI hr], fun k hk => by rw [g3 k hk, gI_pI_k hk], g4⟩
        unfold fX4_readNumber_j82
        rw [ob_s, hpl]
        exact g1
      by_cases y : 3 ≤ p - q0
      · rw [wr_id (a := p - q0) (by omega) (by omega), if_pos y]
        have e : (if k ≤ 3 then k else 3) = (if k + 1 ≤ 3 then k + 1 else 3) := by
          rw [if_neg (show ¬ k + 1 ≤ 3 by omega)]
          by_cases w : k ≤ 3
          · rw [if_pos w]; omega
          · rw [if_neg w]
        rw [e]
        exact fin
      · rw [wr_id (a := p - q0) (by omega) (by omega), if_neg y]
        have e : vlN f q0 (if k ≤ 3 then k else 3) * 10 + f p - 48 = vlN f q0 (if k + 1 ≤ 3 then k + 1 else 3) := by
          rw [if_pos (show k ≤ 3 by omega), if_pos (show k + 1 ≤ 3 by omega), hk]
          rfl
        rw [ob_s, e]
        exact fin
    · simp only [if_neg z]
      rw [if_pos (show wr (0 : Int) = 0 by decide)]
      refine ⟨μ, ?_, fun _ _ => rfl, fun _ _ => rfl, hpl⟩
      have : (if k ≤ 3 then k else 3) = (if p - q0 ≤ 3 then (p - q0).toNat else 3) := by
        by_cases w : k ≤ 3
        · rw [if_pos w, if_pos (by omega)]; omega
        · rw [if_neg w, if_neg (by omega)]
      rw [this]
/-- the reference's loop over the figures -/
theorem m_dg (N : Nat) {f : Int → Int} {n : Int} (hf : FN f n) {q0 : Int} (hq : 0 ≤ q0) : ∀ (j fl k : Nat) (p v : Int) (μ : Mm), p + j = n → p = q0 + k → j < fl → TM f n μ → gI μ 332 14 = p → (∀ i, q0 ≤ i → i < p → 48 ≤ f i ∧ f i ≤ 57) → (k ≤ 3 → v = vlN f q0 k) → ∃ ν v2, fX9_takeNumber_l49 N fl v μ = fX9_takeNumber_k123 N v2 ν ∧ (∀ r, r ≠ 332 → ν r = μ r) ∧ (∀ k, k ≠ 14 → gI ν 332 k = gI μ 332 k) ∧ gI ν 332 14 = dgp f n j p ∧ (dgp f n j p - q0 ≤ 3 → v2 = vlN f q0 (dgp f n j p - q0).toNat) := by
  have hn := hf.2.1
  intro j
  induction j with
  | zero =>
    intro fl k p v μ hp hk hfl hT hpl hd hv
    obtain ⟨g, rfl⟩ : ∃ g, fl = g + 1 := ⟨fl - 1, by omega⟩
    rw [fX9_takeNumber_l49, hT.1, hpl, wr_id (a := p) (by omega) (by omega), wr_id (a := n) (by omega) (by omega), if_pos (by omega)]
    refine ⟨μ, v, rfl, fun _ _ => rfl, fun _ _ => rfl, hpl, fun h => ?_⟩
    have h' : p - q0 ≤ 3 := h
    show v = vlN f q0 (p - q0).toNat
    rw [hv (by omega), show (p - q0).toNat = k by omega]
  | succ j ih =>
    intro fl k p v μ hp hk hfl hT hpl hd hv
    obtain ⟨g, rfl⟩ : ∃ g, fl = g + 1 := ⟨fl - 1, by omega⟩
    have h0 : 0 ≤ p := by omega
    have hfp := hf.2.2 p h0 (by omega)
    rw [fX9_takeNumber_l49, hT.1, hpl, wr_id (a := p) (by omega) (by omega), wr_id (a := n) (by omega) (by omega), if_neg (by omega), ldA_ok h0 (by omega) (by omega), ob_s, hT.2 p h0 (by omega), wr_id (a := f p) (by omega) (by omega), p_in N (f p) 48 57 μ (by omega) (by omega) (by omega), ob_s]
    show ∃ ν v2, _ ∧ _ ∧ _ ∧ gI ν 332 14 = (if 48 ≤ f p ∧ f p ≤ 57 then dgp f n j (p + 1) else p) ∧ ((if 48 ≤ f p ∧ f p ≤ 57 then dgp f n j (p + 1) else p) - q0 ≤ 3 → v2 = vlN f q0 ((if 48 ≤ f p ∧ f p ≤ 57 then dgp f n j (p + 1) else p) - q0).toNat)
    by_cases z : 48 ≤ f p ∧ f p ≤ 57
    · simp only [if_pos z]
      rw [if_neg (show ¬ wr (1 : Int) = 0 by decide)]
      have fin : ∀ v', (k + 1 ≤ 3 → v' = vlN f q0 (k + 1)) → ∃ ν v2, fX9_takeNumber_j109 N μ (fX9_takeNumber_l49 N g) v' = fX9_takeNumber_k123 N v2 ν ∧ (∀ r, r ≠ 332 → ν r = μ r) ∧ (∀ k, k ≠ 14 → gI ν 332 k = gI μ 332 k) ∧ gI ν 332 14 = dgp f n j (p + 1) ∧ (dgp f n j (p + 1) - q0 ≤ 3 → v2 = vlN f q0 (dgp f n j (p + 1) - q0).toNat) := by
        intro v' hv'
        obtain ⟨ν, v2, g1, g2, g3, g4, g5⟩ := ih g (k + 1) (p + 1) v' (pI μ 332 14 (p + 1)) (by omega) (by omega) (by omega) ⟨by rw [gI_pI_k (by decide)]; exact hT.1, fun i a b => by rw [gZ_pI_a (by decide)]; exact hT.2 i a b⟩ (by rw [gI_pI_s, wr_id (by omega) (by omega)]) (fun i a b => by
          by_cases w : i = p
          · rw [w]; exact z
          · exact hd i a (by omega)) hv'
        refine ⟨ν, v2, ?_, fun r hr => by rw [g2 r hr, row_pI hr], fun k hk => by rw [g3 k hk, gI_pI_k hk], g4, g5⟩
        unfold fX9_takeNumber_j109
        rw [ob_s, hpl]
        exact g1
      by_cases y : wr v ≤ 99999
      · rw [if_pos y, ob_s]
        refine fin _ (fun h3 => ?_)
        rw [hv (by omega), hk]
        show _ = vlN f q0 k * 10 + f (q0 + k) - 48
        rw [Int.mul_comm]
      · rw [if_neg y]
        refine fin _ (fun h3 => ?_)
        have hb := vlN_b (f := f) (p := q0) k (by omega) (fun i a b => hd i a (by omega))
        rw [hv (by omega), wr_id (by omega) (by omega)] at y
        omega
    · simp only [if_neg z]
      rw [if_pos (show wr (0 : Int) = 0 by decide)]
      refine ⟨μ, v, rfl, fun _ _ => rfl, fun _ _ => rfl, hpl, fun h => ?_⟩
      rw [hv (by omega), show (p - q0).toNat = k by omega]
/-- what reading a number at p gives: the fault, its place, the value, the place behind -/
def rdP (f : Int → Int) (n p : Int) : Int := sk f n p
def rdE (f : Int → Int) (n p : Int) : Int := dg f n (sk f n p)
def rdV (f : Int → Int) (n p : Int) : Int := vlN f (sk f n p) (rdE f n p - sk f n p).toNat
def rdF (f : Int → Int) (n p lo hi : Int) : Int := if 48 ≤ ltr f n (sk f n p) ∧ ltr f n (sk f n p) ≤ 57 then (if rdE f n p - sk f n p ≤ 3 ∧ lo ≤ rdV f n p ∧ rdV f n p ≤ hi then 0 else 2) else 1
theorem rd_b {f : Int → Int} {n p : Int} (hf : FN f n) (h0 : 0 ≤ p) (h1 : p ≤ n) : p ≤ rdP f n p ∧ rdP f n p ≤ rdE f n p ∧ rdE f n p ≤ n ∧ (48 ≤ ltr f n (sk f n p) ∧ ltr f n (sk f n p) ≤ 57 → sk f n p < n ∧ rdP f n p < rdE f n p) ∧ (rdE f n p - sk f n p ≤ 3 → 0 ≤ rdV f n p ∧ rdV f n p ≤ 999) := by
  have hs := sk_b (f := f) h1
  have hd := dgp_b (f := f) (n := n) (n - sk f n p).toNat (sk f n p) (by omega)
  have hd' : sk f n p ≤ rdE f n p ∧ rdE f n p ≤ n ∧ ∀ i, sk f n p ≤ i → i < rdE f n p → 48 ≤ f i ∧ f i ≤ 57 := hd
  refine ⟨hs.1, hd'.1, hd'.2.1, fun h => ?_, fun h => ?_⟩
  · have hlt : sk f n p < n := by
      rcases Int.lt_or_le (sk f n p) n with q | q
      · exact q
      · have : ltr f n (sk f n p) = -1 := if_neg (by omega)
        omega
    refine ⟨hlt, ?_⟩
    have el : ltr f n (sk f n p) = f (sk f n p) := if_pos hlt
    rw [el] at h
    show sk f n p < dgp f n (n - sk f n p).toNat (sk f n p)
    cases hj : (n - sk f n p).toNat with
    | zero => omega
    | succ j =>
      show sk f n p < if 48 ≤ f (sk f n p) ∧ f (sk f n p) ≤ 57 then dgp f n j (sk f n p + 1) else sk f n p
      rw [if_pos h]
      have := dgp_b (f := f) (n := n) j (sk f n p + 1) (by omega)
      omega
  · exact vlN_b _ (by omega) (fun i a b => hd'.2.2 i a (by omega))
