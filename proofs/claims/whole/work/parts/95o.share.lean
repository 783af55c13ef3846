/-! share -/
def ctS (G : Int → Int) (k : Int) : Nat → Int → Int
  | 0, _ => 0
  | n + 1, i => (if wr (G i) = k then 1 else 0) + ctS G k n (i + 1)
theorem ctS_add (G : Int → Int) (k : Int) : ∀ (a b : Nat) (i : Int), ctS G k (a + b) i = ctS G k a i + ctS G k b (i + a) := by
  intro a
  induction a with
  | zero => intro b i; rw [Nat.zero_add]; show _ = 0 + ctS G k b (i + 0); rw [Int.zero_add, Int.add_zero]
  | succ a ih =>
    intro b i
    rw [show a + 1 + b = (a + b) + 1 by omega]
    show (if wr (G i) = k then 1 else 0) + ctS G k (a + b) (i + 1) = ((if wr (G i) = k then 1 else 0) + ctS G k a (i + 1)) + ctS G k b (i + ((a + 1 : Nat) : Int))
    rw [ih b (i + 1), show i + ((a + 1 : Nat) : Int) = i + 1 + (a : Int) by omega]
    exact (Int.add_assoc _ _ _).symm
theorem ctS_b (G : Int → Int) (k : Int) : ∀ (a : Nat) (i : Int), 0 ≤ ctS G k a i ∧ ctS G k a i ≤ a := by
  intro a
  induction a with
  | zero => intro i; exact ⟨Int.le_refl _, Int.le_refl _⟩
  | succ a ih =>
    intro i
    have := ih (i + 1)
    show 0 ≤ (if wr (G i) = k then 1 else 0) + ctS G k a (i + 1) ∧ (if wr (G i) = k then 1 else 0) + ctS G k a (i + 1) ≤ _
    by_cases q : wr (G i) = k
    · rw [if_pos q]; omega
    · rw [if_neg q]; omega
theorem shr_x (N : Nat) {μ : Mm} {t : Nat} (hL : LoomR μ t) (x k : Int) : ∀ (j n : Nat) (i a : Int), 0 ≤ i → i + j = 4 * gI μ t 6 → j < n → fX5_shareOf_l14 N t x k μ n a i = fX5_shareOf_k45 N t x μ (a + ctS (fun i => gZ μ 335 i) (wr k) j i) := by
  obtain ⟨-, ⟨e6, a6, b6⟩, -, -, hh, -⟩ := id hL
  intro j
  induction j with
  | zero =>
    intro n i a h0 h1 hn
    obtain ⟨m, rfl⟩ : ∃ m, n = m + 1 := ⟨n - 1, by omega⟩
    rw [fX5_shareOf_l14, wr_id (a := gI μ t 6 * 4) (by omega) (by omega), wr_id (a := i) (by omega) (by omega), if_pos (by omega)]
    show _ = fX5_shareOf_k45 N t x μ (a + 0)
    rw [Int.add_zero]
  | succ j ih =>
    intro n i a h0 h1 hn
    obtain ⟨m, rfl⟩ : ∃ m, n = m + 1 := ⟨n - 1, by omega⟩
    have hi := hh i h0 (by omega)
    rw [fX5_shareOf_l14, wr_id (a := gI μ t 6 * 4) (by omega) (by omega), wr_id (a := i) (by omega) (by omega), if_neg (by omega), ldA_ok h0 (by omega) (by omega), ob_s, hi.1]
    show _ = fX5_shareOf_k45 N t x μ (a + ((if wr (gZ μ 335 i) = wr k then 1 else 0) + ctS (fun i => gZ μ 335 i) (wr k) j (i + 1)))
    by_cases q : wr (gZ μ 335 i) = wr k
    · rw [if_pos q, if_pos q, ← Int.add_assoc]
      exact ih m (i + 1) (a + 1) (by omega) (by omega) (by omega)
    · rw [if_neg q, if_neg q, Int.zero_add]
      exact ih m (i + 1) a (by omega) (by omega) (by omega)
theorem shr_mi (N : Nat) {μ : Mm} {c : Int} (c0 : 0 ≤ c) (c1 : c < 8) (k : Int) (rec : Int → Int → Option Int) : ∀ (j n : Nat) (h a : Int), 0 ≤ h → h + j = 4 → j < n → fX9_shareOf_l17 N k μ c rec n a h = rec (a + ctS (fun i => gZ μ 335 i) (wr k) j (4 * c + h)) (c + 1) := by
  intro j
  induction j with
  | zero =>
    intro n h a h0 h1 hn
    obtain ⟨m, rfl⟩ : ∃ m, n = m + 1 := ⟨n - 1, by omega⟩
    rw [fX9_shareOf_l17, wr_id (a := h) (by omega) (by omega), if_pos (by omega)]
    show _ = rec (a + 0) (c + 1)
    rw [Int.add_zero]
  | succ j ih =>
    intro n h a h0 h1 hn
    obtain ⟨m, rfl⟩ : ∃ m, n = m + 1 := ⟨n - 1, by omega⟩
    rw [fX9_shareOf_l17, wr_id (a := h) (by omega) (by omega), if_neg (by omega), p_colourOf N h μ c0 (by omega), ob_s, show h % 4 = h by omega]
    show _ = rec (a + ((if wr (gZ μ 335 (4 * c + h)) = wr k then 1 else 0) + ctS (fun i => gZ μ 335 i) (wr k) j (4 * c + h + 1))) (c + 1)
    unfold fX9_shareOf_j41 fX9_one
    by_cases q : wr (gZ μ 335 (4 * c + h)) = wr k
    · rw [if_pos q, if_pos q, if_neg (by decide), ob_s, ← Int.add_assoc, show 4 * c + h + 1 = 4 * c + (h + 1) by omega]
      exact ih m (h + 1) (a + 1) (by omega) (by omega) (by omega)
    · rw [if_neg q, if_neg q, if_pos (by decide), ob_s, Int.zero_add, Int.add_zero, show 4 * c + h + 1 = 4 * c + (h + 1) by omega]
      exact ih m (h + 1) a (by omega) (by omega) (by omega)
theorem shr_m (N : Nat) (hNB : NB N) {μ : Mm} (hC : 0 ≤ gI μ 332 6 ∧ gI μ 332 6 ≤ 8) (x k : Int) : ∀ (j n : Nat) (c a : Int), 0 ≤ c → c + j = gI μ 332 6 → j < n → fX9_shareOf_l5 N x k μ n a c = fX9_shareOf_k58 N x μ (a + ctS (fun i => gZ μ 335 i) (wr k) (4 * j) (4 * c)) := by
  have hN2 : 300 ≤ N := hNB
  intro j
  induction j with
  | zero =>
    intro n c a h0 h1 hn
    obtain ⟨m, rfl⟩ : ∃ m, n = m + 1 := ⟨n - 1, by omega⟩
    rw [fX9_shareOf_l5, wr_gI, wr_id (a := c) (by omega) (by omega), if_pos (by omega)]
    show _ = fX9_shareOf_k58 N x μ (a + 0)
    rw [Int.add_zero]
  | succ j ih =>
    intro n c a h0 h1 hn
    obtain ⟨m, rfl⟩ : ∃ m, n = m + 1 := ⟨n - 1, by omega⟩
    rw [fX9_shareOf_l5, wr_gI, wr_id (a := c) (by omega) (by omega), if_neg (by omega), shr_mi N h0 (by omega) k _ 4 N 0 a (by omega) (by omega) (by omega), ih m (c + 1) _ (by omega) (by omega) (by omega), show 4 * (j + 1) = 4 + 4 * j by omega, ctS_add, Int.add_zero, Int.add_assoc, show 4 * (c + 1) = 4 * c + ((4 : Nat) : Int) by omega]
theorem r_share (N : Nat) (hNB : NB N) {μ : Mm} {t : Nat} (hL : LoomR μ t) (x k : Int) (hx : 0 ≤ x ∧ x ≤ 999) : ∃ r, fX5_shareOf N t x k μ = some r ∧ fX9_shareOf N x k μ = some r := by
  obtain ⟨-, ⟨e6, a6, b6⟩, -⟩ := id hL
  have hN2 : 300 ≤ N := hNB
  obtain ⟨C, hC⟩ : ∃ C : Nat, gI μ t 6 = C := ⟨(gI μ t 6).toNat, by omega⟩
  unfold fX5_shareOf fX9_shareOf
  rw [shr_m N hNB (μ := μ) (by omega) x k C N 0 0 (by omega) (by omega) (by omega)]
  unfold fX9_shareOf_k58
  rw [wr_gI, wr_gI, e6]
  by_cases q : gI μ t 6 = 0
  · rw [if_pos q, if_pos q]
    exact ⟨0, rfl, rfl⟩
  · rw [if_neg q, if_neg q, shr_x N hL x k (4 * C) N 0 0 (by omega) (by omega) (by omega)]
    unfold fX5_shareOf_k45
    rw [gd_p (by rw [wr_id (by omega) (by omega)]; omega), gd_p (by rw [wr_id (by omega) (by omega)]; omega), show gI μ t 6 * 4 = 4 * gI μ t 6 by omega, show (4 * (0 : Int)) = 0 from rfl]
    exact ⟨_, rfl, rfl⟩
theorem left_l (N : Nat) (hNB : NB N) {μ : Mm} {t : Nat} (hL : LoomR μ t) (x : Int) (hx : 0 ≤ x ∧ x ≤ 999) (k : Int) : ∀ (j n : Nat) (i a : Int), 0 ≤ i → i + j = gI μ t 5 → j < n → ∃ r, fX5_countLeftOver_l4 N t x μ n a i = some r ∧ fX9_share_l36 N x k μ n a i = fX9_share_k61 N x k μ r ∧ fX9_share_l36_27 N x k μ n a i = fX9_share_k61_22 N x k μ r := by
  obtain ⟨⟨e5, a5, b5⟩, ⟨e6, a6, b6⟩, -⟩ := id hL
  intro j
  induction j with
  | zero =>
    intro n i a h0 h1 hn
    obtain ⟨m, rfl⟩ : ∃ m, n = m + 1 := ⟨n - 1, by omega⟩
    refine ⟨a, ?_, ?_, ?_⟩
    · rw [fX5_countLeftOver_l4, wr_gI, wr_id (a := i) (by omega) (by omega), if_pos (by omega)]
    · rw [fX9_share_l36, e5, wr_gI, wr_id (a := i) (by omega) (by omega), if_pos (by omega)]
    · rw [fX9_share_l36_27, e5, wr_gI, wr_id (a := i) (by omega) (by omega), if_pos (by omega)]
  | succ j ih =>
    intro n i a h0 h1 hn
    obtain ⟨m, rfl⟩ : ∃ m, n = m + 1 := ⟨n - 1, by omega⟩
    obtain ⟨s, s1, s2⟩ := r_share N hNB hL x i hx
    obtain ⟨r, r1, r2, r3⟩ := ih m (i + 1) (a - s) (by omega) (by omega) (by omega)
    refine ⟨r, ?_, ?_, ?_⟩
    · rw [fX5_countLeftOver_l4, wr_gI, wr_id (a := i) (by omega) (by omega), if_neg (by omega), s1, ob_s]; exact r1
    · rw [fX9_share_l36, e5, wr_gI, wr_id (a := i) (by omega) (by omega), if_neg (by omega), s2, ob_s]; exact r2
    · rw [fX9_share_l36_27, e5, wr_gI, wr_id (a := i) (by omega) (by omega), if_neg (by omega), s2, ob_s]; exact r3
theorem okp_share (N : Nat) (hNB : NB N) : ok_share N Inv := by
  intro μ x k hx hk hI
  obtain ⟨t, u, hT, hL, hW, hU, hG, hN, hX, hS⟩ := id hI
  obtain ⟨⟨e5, a5, b5⟩, ⟨e6, a6, b6⟩, ⟨e7, a7, b7⟩, -⟩ := id hL
  have hN2 : 300 ≤ N := hNB
  have w1 : ¬ wr (1 : Int) = 0 := by decide
  have w0 : wr (0 : Int) = 0 := by decide
  unfold fX8_share fX9_share
  simp only [hT.t, gd_p hT.kt, p_hasColour N t k μ hk, p_isColour N k μ (by omega) hk, wr_id hx.1 hx.2, wr_id hk.1 hk.2, p_in N x 0 999 μ (by omega) (by omega) (by omega), ob_s, e5]
  by_cases qx : 0 ≤ x ∧ x ≤ 999
  · obtain ⟨r, r1, r2, r3⟩ := left_l N hNB hL x qx k (gI μ t 5).toNat N 0 x (by omega) (by omega) (by omega)
    simp only [if_pos qx, if_neg (show ¬ x < 0 by omega), if_pos qx.2]
    unfold fX5_countLeftOver
    by_cases q : k = -1
    · simp only [if_pos q, if_neg w1, r1, r2, ob_s]
      unfold fX9_share_k61
      rw [wr_id hk.1 hk.2, if_pos q]
      exact ⟨_, _, rfl, rfl, rfl, hI⟩
    · simp only [if_neg q, if_neg w1]
      by_cases q2 : 0 ≤ k ∧ k < gI μ t 5
      · obtain ⟨s, s1, s2⟩ := r_share N hNB hL x k qx
        simp only [if_pos q2, if_neg w1, r3, s1, ob_s]
        unfold fX9_share_k61_22
        rw [wr_id hk.1 hk.2, if_neg q, s2, ob_s]
        exact ⟨_, _, rfl, rfl, rfl, hI⟩
      · simp only [if_neg q2, if_pos w0]
        exact ⟨_, _, rfl, rfl, rfl, hI⟩
  · simp only [if_neg qx, if_pos w0]
    by_cases q : k = -1
    · simp only [if_pos q]
      by_cases q3 : x < 0
      · simp only [if_pos q3]; exact ⟨_, _, rfl, rfl, rfl, hI⟩
      · simp only [if_neg q3, if_neg (show ¬ x ≤ 999 by omega)]; exact ⟨_, _, rfl, rfl, rfl, hI⟩
    · simp only [if_neg q]
      by_cases q2 : 0 ≤ k ∧ k < gI μ t 5
      · simp only [if_pos q2, if_neg w1]
        by_cases q3 : x < 0
        · simp only [if_pos q3]; exact ⟨_, _, rfl, rfl, rfl, hI⟩
        · simp only [if_neg q3, if_neg (show ¬ x ≤ 999 by omega)]; exact ⟨_, _, rfl, rfl, rfl, hI⟩
      · simp only [if_neg q2, if_pos w0]
        exact ⟨_, _, rfl, rfl, rfl, hI⟩
