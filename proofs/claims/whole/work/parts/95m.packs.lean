/-! untwist, home: pack by pack -/
theorem bit_ex : ∀ s : Nat, s < 256 → 0 < s → ∃ c, c < 8 ∧ s.testBit c = true := by decide +kernel
theorem r_bit {μ : Mm} {t : Nat} (hL : LoomR μ t) {c k : Int} (c0 : 0 ≤ c) (c1 : c < gI μ t 6) (k0 : 0 ≤ k) (k1 : k < gI μ t 7) : (gZ μ 337 k).toNat.testBit c.toNat = true ↔ gZ μ (t + 3) c = k := by
  obtain ⟨-, ⟨e6, a6, b6⟩, ⟨e7, a7, b7⟩, -, -, hk, hc, -⟩ := hL
  obtain ⟨cn, rfl⟩ : ∃ a : Nat, c = a := ⟨c.toNat, by omega⟩
  rw [Int.toNat_natCast]
  rcases hc cn c1 with ⟨q1, q2⟩ | ⟨q1, q2, q3⟩
  · rw [q2 k k0 k1, q1]
    constructor
    · intro h; exact absurd h (by decide)
    · intro h; omega
  · rw [q3 k k0 k1]
    exact ⟨fun h => h.symm, fun h => h.symm⟩
theorem r_pk {μ : Mm} {t : Nat} (hL : LoomR μ t) {c : Int} (c0 : 0 ≤ c) (c1 : c < gI μ t 6) : -1 ≤ gZ μ (t + 3) c ∧ gZ μ (t + 3) c < gI μ t 7 := by
  obtain ⟨-, ⟨e6, a6, b6⟩, ⟨e7, a7, b7⟩, -, -, hk, hc, -⟩ := hL
  obtain ⟨cn, rfl⟩ : ∃ a : Nat, c = a := ⟨c.toNat, by omega⟩
  rcases hc cn c1 with ⟨q1, q2⟩ | ⟨q1, q2, q3⟩ <;> omega
theorem fc_ex {μ : Mm} {t : Nat} (hL : LoomR μ t) {k : Int} (k0 : 0 ≤ k) (k1 : k < gI μ t 7) : ∃ x : Int, 0 ≤ x ∧ x < gI μ t 6 ∧ gZ μ (t + 3) x = k := by
  obtain ⟨-, ⟨e6, a6, b6⟩, ⟨e7, a7, b7⟩, -, -, hk, hc, -⟩ := id hL
  have h1 := hk k k0 k1
  obtain ⟨c, c8, hb⟩ := bit_ex (gZ μ 337 k).toNat (by omega) (by omega)
  have hcC : (c : Int) < gI μ t 6 := by
    rcases Int.lt_or_le (c : Int) (gI μ t 6) with q | q
    · exact q
    · rw [h1.2.2.2 c q] at hb; exact absurd hb (by decide)
  exact ⟨c, by omega, hcC, (r_bit hL (by omega) hcC k0 k1).1 (by rw [Int.toNat_natCast]; exact hb)⟩
theorem x_inPack (N : Nat) {μ : Mm} {t : Nat} {c k : Int} (c0 : 0 ≤ c) (c1 : c < 8) : fX5_isInPack N t c k μ = some (if gZ μ (t + 3) c = wr k then 1 else 0) := by
  unfold fX5_isInPack
  rw [andI_7, show c % 8 = c by omega, ldA_ok c0 (by omega) (by omega), ob_s, wr_gZ]
  by_cases q : gZ μ (t + 3) c = wr k
  · rw [if_pos q, if_pos q]
  · rw [if_neg q, if_neg q]
theorem fc_l (N : Nat) {μ : Mm} {t : Nat} (hL : LoomR μ t) {k : Int} (k0 : 0 ≤ k) (k1 : k < gI μ t 7) : ∀ (n : Nat) (c : Int), 0 ≤ c → gI μ t 6 - c < n → (∃ x : Int, c ≤ x ∧ x < gI μ t 6 ∧ gZ μ (t + 3) x = k) → ∃ f, fX6_firstCardOf_l2 N t k μ n c = some f ∧ fX9_firstOf_l2 N k μ n c = some f ∧ 0 ≤ f ∧ f < gI μ t 6 ∧ gZ μ (t + 3) f = k := by
  obtain ⟨-, ⟨e6, a6, b6⟩, ⟨e7, a7, b7⟩, -, -, hk, hc, -⟩ := id hL
  have h1 := hk k k0 k1
  intro n
  induction n with
  | zero => intro c c0 c1 ⟨x, x0, x1, x2⟩; omega
  | succ n ih =>
    intro c c0 c1 ⟨x, x0, x1, x2⟩
    have hb := r_bit hL c0 (show c < gI μ t 6 by omega) k0 k1
    rw [fX6_firstCardOf_l2, fX9_firstOf_l2, wr_gI, wr_id (a := c) (by omega) (by omega), if_neg (by omega), x_inPack N c0 (by omega), ob_s, ldA_ok k0 (by omega) (by omega), ob_s, p_hasZ N μ (by omega) (by omega) c0 (by omega), ob_s, wr_id (a := k) (by omega) (by omega)]
    by_cases q : gZ μ (t + 3) c = k
    · rw [if_pos q, if_pos (hb.2 q), if_neg (by decide), if_neg (by decide)]
      exact ⟨c, rfl, rfl, c0, by omega, q⟩
    · rw [if_neg q, if_neg (fun z => q (hb.1 z)), if_pos (by decide), if_pos (by decide)]
      refine ih (c + 1) (by omega) (by omega) ⟨x, ?_, x1, x2⟩
      rcases Int.lt_or_le c x with z | z
      · omega
      · exact absurd (show gZ μ (t + 3) c = k by rw [show c = x by omega]; exact x2) q
theorem r_fc (N : Nat) (hNB : NB N) {μ : Mm} {t : Nat} (hL : LoomR μ t) : ∃ F : Int → Int, ∀ k, 0 ≤ k → k < gI μ t 7 → fX6_firstCardOf N t k μ = some (F k) ∧ fX9_firstOf N k μ = some (F k) ∧ 0 ≤ F k ∧ F k < gI μ t 6 ∧ gZ μ (t + 3) (F k) = k := by
  obtain ⟨-, ⟨e6, a6, b6⟩, -⟩ := id hL
  have hN2 : 300 ≤ N := hNB
  have h : ∀ k : Int, ∃ f : Int, 0 ≤ k → k < gI μ t 7 → fX6_firstCardOf N t k μ = some f ∧ fX9_firstOf N k μ = some f ∧ 0 ≤ f ∧ f < gI μ t 6 ∧ gZ μ (t + 3) f = k := by
    intro k
    by_cases q : 0 ≤ k ∧ k < gI μ t 7
    · obtain ⟨f, hf⟩ := fc_l N hL q.1 q.2 N 0 (by omega) (by omega) (fc_ex hL q.1 q.2)
      exact ⟨f, fun _ _ => hf⟩
    · exact ⟨0, fun a b => absurd ⟨a, b⟩ q⟩
  exact ⟨fun k => Classical.choose (h k), fun k => Classical.choose_spec (h k)⟩
/-- figures to the base 3, from the i-th pack on -/
def mvS (f : Int → Int) : Nat → Int → Int
  | 0, _ => 0
  | n + 1, i => f i + 3 * mvS f n (i + 1)
/-- the greatest of x and n values from the i-th on -/
def mxS (g : Int → Int) : Nat → Int → Int → Int
  | 0, _, x => x
  | n + 1, i, x => mxS g n (i + 1) (if x < g i then g i else x)
theorem mvS_d (f : Int → Int) (n : Nat) (k : Int) : mvS f n (k + 1) * 3 + f k = mvS f (n + 1) k := by
  show _ = f k + 3 * mvS f n (k + 1)
  omega
theorem mvS_a (f : Int → Int) (n : Nat) (k x b : Int) : x + b * mvS f (n + 1) k = (x + b * f k) + (b * 3) * mvS f n (k + 1) := by
  show x + b * (f k + 3 * mvS f n (k + 1)) = _
  rw [Int.mul_add, Int.mul_assoc, Int.add_assoc]
theorem mxS_b (g : Int → Int) {B : Int} : ∀ (n : Nat) (i x : Int), x ≤ B → (∀ k, i ≤ k → k < i + n → g k ≤ B) → x ≤ mxS g n i x ∧ mxS g n i x ≤ B := by
  intro n
  induction n with
  | zero => intro i x hx _; exact ⟨Int.le_refl _, hx⟩
  | succ n ih =>
    intro i x hx hg
    have h1 := hg i (by omega) (by omega)
    show x ≤ mxS g n (i + 1) (if x < g i then g i else x) ∧ mxS g n (i + 1) (if x < g i then g i else x) ≤ B
    by_cases q : x < g i
    · rw [if_pos q]
      have := ih (i + 1) (g i) h1 (fun k a b => hg k (by omega) (by omega))
      omega
    · rw [if_neg q]
      exact ih (i + 1) x hx (fun k a b => hg k (by omega) (by omega))
def twP (μ : Mm) (F : Int → Int) (k : Int) : Int := gZ μ 333 (8 + F k)
def stP (μ : Mm) (F : Int → Int) (k : Int) : Int := gZ μ 333 (F k)
def sgM (v : Int) : Int := if v ≤ 0 then (if 0 ≤ v then 0 else 1) else 2
def abM (v : Int) : Int := if 0 ≤ v then v else -v
def hmM (v : Int) : Int := if v = 0 then 0 else if v = 1 then 2 else 1
def hmC (v : Int) : Int := if v = 3 then 1 else v
theorem x_twistOf (N : Nat) {μ : Mm} {t : Nat} (hL : LoomR μ t) (hW : WR μ t 3 0) {F : Int → Int} (hF : ∀ k, 0 ≤ k → k < gI μ t 7 → fX6_firstCardOf N t k μ = some (F k) ∧ fX9_firstOf N k μ = some (F k) ∧ 0 ≤ F k ∧ F k < gI μ t 6 ∧ gZ μ (t + 3) (F k) = k) {k : Int} (k0 : 0 ≤ k) (k1 : k < gI μ t 7) : fX6_twistOf N 3 t k μ = some (twP μ F k) ∧ -99 ≤ twP μ F k ∧ twP μ F k ≤ 99 := by
  obtain ⟨-, ⟨e6, a6, b6⟩, -⟩ := id hL
  obtain ⟨h1, h2, h3, h4, h5⟩ := hF k k0 k1
  have hcd := hW.cd h3 h4
  unfold fX6_twistOf
  rw [h1, ob_s, andI_7, show F k % 8 = F k by omega, ldA_ok h3 (by omega) (by omega), ob_s, show (3 + 3 : Nat) = 6 from rfl, hcd.2.2.2.1]
  exact ⟨rfl, hcd.2.2.2.2.1, hcd.2.2.2.2.2.1⟩
theorem x_standOf (N : Nat) {μ : Mm} {t : Nat} (hL : LoomR μ t) (hW : WR μ t 3 0) {F : Int → Int} (hF : ∀ k, 0 ≤ k → k < gI μ t 7 → fX6_firstCardOf N t k μ = some (F k) ∧ fX9_firstOf N k μ = some (F k) ∧ 0 ≤ F k ∧ F k < gI μ t 6 ∧ gZ μ (t + 3) (F k) = k) {k : Int} (k0 : 0 ≤ k) (k1 : k < gI μ t 7) : fX6_standOf N 3 t k μ = some (stP μ F k) ∧ 0 ≤ stP μ F k ∧ stP μ F k ≤ 3 := by
  obtain ⟨-, ⟨e6, a6, b6⟩, -⟩ := id hL
  obtain ⟨h1, h2, h3, h4, h5⟩ := hF k k0 k1
  have hcd := hW.cd h3 h4
  unfold fX6_standOf
  rw [h1, ob_s, andI_7, show F k % 8 = F k by omega, ldA_ok h3 (by omega) (by omega), ob_s, show (3 + 2 : Nat) = 5 from rfl, hcd.1]
  exact ⟨rfl, hcd.2.1, hcd.2.2.1⟩
theorem unt_c (N : Nat) {μ : Mm} {t : Nat} (hL : LoomR μ t) (hW : WR μ t 3 0) {F : Int → Int} (hF : ∀ k, 0 ≤ k → k < gI μ t 7 → fX6_firstCardOf N t k μ = some (F k) ∧ fX9_firstOf N k μ = some (F k) ∧ 0 ≤ F k ∧ F k < gI μ t 6 ∧ gZ μ (t + 3) (F k) = k) : ∀ (j n : Nat) (k x : Int), 0 ≤ k → k + j = gI μ t 7 → j < n → 0 ≤ x → x ≤ 99 → fX6_countUntwist_l4 N 3 t μ n x k = some (mxS (fun k => abM (twP μ F k)) j k x) := by
  obtain ⟨-, ⟨e6, a6, b6⟩, ⟨e7, a7, b7⟩, -⟩ := id hL
  intro j
  induction j with
  | zero =>
    intro n k x k0 k1 hn x0 x1
    obtain ⟨m, rfl⟩ : ∃ m, n = m + 1 := ⟨n - 1, by omega⟩
    rw [fX6_countUntwist_l4, wr_gI, wr_id (a := k) (by omega) (by omega), if_pos (by omega)]
    rfl
  | succ j ih =>
    intro n k x k0 k1 hn x0 x1
    obtain ⟨m, rfl⟩ : ∃ m, n = m + 1 := ⟨n - 1, by omega⟩
    have h1 := x_twistOf N hL hW hF k0 (show k < gI μ t 7 by omega)
    have ea : (if 0 ≤ wr (twP μ F k) then twP μ F k else 0 - twP μ F k) = abM (twP μ F k) := by
      unfold abM
      rw [wr_id (by omega) (by omega)]
      by_cases q : 0 ≤ twP μ F k
      · rw [if_pos q, if_pos q]
      · rw [if_neg q, if_neg q]; omega
    have hb : 0 ≤ abM (twP μ F k) ∧ abM (twP μ F k) ≤ 99 := by
      unfold abM
      by_cases q : 0 ≤ twP μ F k
      · rw [if_pos q]; omega
      · rw [if_neg q]; omega
    rw [fX6_countUntwist_l4, wr_gI, wr_id (a := k) (by omega) (by omega), if_neg (by omega), h1.1, ob_s, ea, wr_id (a := x) (by omega) (by omega), wr_id (a := abM (twP μ F k)) (by omega) (by omega)]
    show _ = some (mxS (fun k => abM (twP μ F k)) j (k + 1) (if x < abM (twP μ F k) then abM (twP μ F k) else x))
    by_cases q : x < abM (twP μ F k)
    · rw [if_pos q]
      exact ih m (k + 1) _ (by omega) (by omega) (by omega) hb.1 hb.2
    · rw [if_neg q]
      exact ih m (k + 1) x (by omega) (by omega) (by omega) x0 x1
theorem unt_f (N : Nat) {μ : Mm} {t : Nat} (hL : LoomR μ t) (hW : WR μ t 3 0) {F : Int → Int} (hF : ∀ k, 0 ≤ k → k < gI μ t 7 → fX6_firstCardOf N t k μ = some (F k) ∧ fX9_firstOf N k μ = some (F k) ∧ 0 ≤ F k ∧ F k < gI μ t 6 ∧ gZ μ (t + 3) (F k) = k) : ∀ (n : Nat) (k : Int) (j : Nat) (x : Int), -1 ≤ k → k < n → k + 1 + j = gI μ t 7 → x = mvS (fun k => sgM (twP μ F k)) j (k + 1) → fX6_firstUntwist_l9 N 3 t μ (n + 1) x k = some (mvS (fun k => sgM (twP μ F k)) (gI μ t 7).toNat 0) := by
  obtain ⟨-, ⟨e6, a6, b6⟩, ⟨e7, a7, b7⟩, -⟩ := id hL
  intro n
  induction n with
  | zero =>
    intro k j x k0 k1 hj hx
    rw [fX6_firstUntwist_l9, wr_id (a := k) (by omega) (by omega), if_pos (by omega), hx, show k + 1 = 0 by omega, show j = (gI μ t 7).toNat by omega]
  | succ n ih =>
    intro k j x k0 k1 hj hx
    rw [fX6_firstUntwist_l9, wr_id (a := k) (by omega) (by omega)]
    by_cases q : k < 0
    · rw [if_pos q, hx, show k + 1 = 0 by omega, show j = (gI μ t 7).toNat by omega]
    · have h1 := x_twistOf N hL hW hF (show 0 ≤ k by omega) (show k < gI μ t 7 by omega)
      rw [if_neg q, h1.1, ob_s, wr_id (a := twP μ F k) (by omega) (by omega)]
      unfold fX6_firstUntwist_j40
      have go : ∀ z, z = sgM (twP μ F k) → fX6_firstUntwist_l9 N 3 t μ (n + 1) (x * 3 + z) (k + (-1)) = some (mvS (fun k => sgM (twP μ F k)) (gI μ t 7).toNat 0) := by
        intro z hz
        refine ih (k + (-1)) (j + 1) _ (by omega) (by omega) (by omega) ?_
        rw [hz, hx, show k + (-1) + 1 = k by omega]
        exact mvS_d (fun k => sgM (twP μ F k)) j k
      unfold sgM at go
      by_cases z : twP μ F k = 0
      · rw [if_pos z]; exact go 0 (by rw [z]; rfl)
      · rw [if_neg z]
        by_cases y : twP μ F k ≤ 0
        · rw [if_pos y]; exact go 1 (by rw [if_pos y, if_neg (by omega)])
        · rw [if_neg y]; exact go 2 (by rw [if_neg y])
theorem unt_m (N : Nat) {μ : Mm} {t : Nat} (hL : LoomR μ t) (hW : WR μ t 3 0) {F : Int → Int} (hF : ∀ k, 0 ≤ k → k < gI μ t 7 → fX6_firstCardOf N t k μ = some (F k) ∧ fX9_firstOf N k μ = some (F k) ∧ 0 ≤ F k ∧ F k < gI μ t 6 ∧ gZ μ (t + 3) (F k) = k) (w : Int) : ∀ (j n : Nat) (k x y b : Int), 0 ≤ k → k + j = gI μ t 7 → j < n → 0 ≤ x → x ≤ 99 → fX9_untwist_l33 N w μ n x y b k = fX9_untwist_k105 N w (mxS (fun k => abM (twP μ F k)) j k x) (y + b * mvS (fun k => sgM (twP μ F k)) j k) := by
  obtain ⟨-, ⟨e6, a6, b6⟩, ⟨e7, a7, b7⟩, -⟩ := id hL
  intro j
  induction j with
  | zero =>
    intro n k x y b k0 k1 hn x0 x1
    obtain ⟨m, rfl⟩ : ∃ m, n = m + 1 := ⟨n - 1, by omega⟩
    rw [fX9_untwist_l33, e7, wr_gI, wr_id (a := k) (by omega) (by omega), if_pos (by omega)]
    show _ = fX9_untwist_k105 N w x (y + b * 0)
    rw [Int.mul_zero, Int.add_zero]
  | succ j ih =>
    intro n k x y b k0 k1 hn x0 x1
    obtain ⟨m, rfl⟩ : ∃ m, n = m + 1 := ⟨n - 1, by omega⟩
    obtain ⟨h1, h2, h3, h4, h5⟩ := hF k k0 (show k < gI μ t 7 by omega)
    have hb := (x_twistOf N hL hW hF k0 (show k < gI μ t 7 by omega)).2
    have hab : 0 ≤ abM (twP μ F k) ∧ abM (twP μ F k) ≤ 99 := by
      unfold abM
      by_cases q : 0 ≤ twP μ F k
      · rw [if_pos q]; omega
      · rw [if_neg q]; omega
    have es : fX9_size N (twP μ F k) μ = some (abM (twP μ F k)) := by
      unfold fX9_size abM
      rw [wr_id (a := twP μ F k) (by omega) (by omega)]
      by_cases q : 0 ≤ twP μ F k
      · rw [if_pos q, if_pos q]
      · rw [if_neg q, if_neg q]
    have em : fX9_most N x (abM (twP μ F k)) μ = some (if x < abM (twP μ F k) then abM (twP μ F k) else x) := by
      unfold fX9_most
      rw [wr_id (a := x) (by omega) (by omega), wr_id (a := abM (twP μ F k)) (by omega) (by omega)]
      by_cases q : x < abM (twP μ F k)
      · rw [if_pos q, if_pos (by omega)]
      · rw [if_neg q]
        by_cases q2 : x ≤ abM (twP μ F k)
        · rw [if_pos q2]; congr 1; omega
        · rw [if_neg q2]
    have hx : 0 ≤ (if x < abM (twP μ F k) then abM (twP μ F k) else x) ∧ (if x < abM (twP μ F k) then abM (twP μ F k) else x) ≤ 99 := by
      by_cases q : x < abM (twP μ F k)
      · rw [if_pos q]; exact hab
      · rw [if_neg q]; exact ⟨x0, x1⟩
    rw [fX9_untwist_l33, e7, wr_gI, wr_id (a := k) (by omega) (by omega), if_neg (by omega), h2, ob_s, ldA_ok (by omega) (by omega) (by omega), ob_s, show gZ μ 333 (8 + F k) = twP μ F k from rfl, es, ob_s, em, ob_s, wr_id (a := twP μ F k) (by omega) (by omega), mvS_a]
    unfold fX9_untwist_j90
    have go := fun z => ih m (k + 1) _ (y + b * z) (b * 3) (by omega) (by omega) (by omega) hx.1 hx.2
    show _ = fX9_untwist_k105 N w (mxS (fun k => abM (twP μ F k)) j (k + 1) (if x < abM (twP μ F k) then abM (twP μ F k) else x)) _
    have es : ∀ z, z = sgM (twP μ F k) → fX9_untwist_l33 N w μ m (if x < abM (twP μ F k) then abM (twP μ F k) else x) (y + b * z) (b * 3) (k + 1) = fX9_untwist_k105 N w (mxS (fun k => abM (twP μ F k)) j (k + 1) (if x < abM (twP μ F k) then abM (twP μ F k) else x)) (y + b * sgM (twP μ F k) + b * 3 * mvS (fun k => sgM (twP μ F k)) j (k + 1)) := fun z hz => by
      rw [← hz]; exact go z
    unfold sgM at es
    unfold sgM
    by_cases q : twP μ F k ≤ 0
    · rw [if_pos q]
      by_cases q2 : 0 ≤ twP μ F k
      · rw [if_pos q2]
        exact es 0 (by rw [if_pos q, if_pos q2])
      · rw [if_neg q2]
        exact es 1 (by rw [if_pos q, if_neg q2])
    · rw [if_neg q]
      exact es 2 (by rw [if_neg q])
theorem p_how (N : Nat) (w : Int) (μ : Mm) (hw : -2147483648 ≤ w ∧ w < 2147483648) : fX8_isHowOrMoves N w μ = some (if 0 ≤ w ∧ w ≤ 1 then 1 else 0) := by
  unfold fX8_isHowOrMoves
  rw [wr_id hw.1 hw.2]
  by_cases q : w = 0
  · rw [if_pos q, if_pos (by omega)]
  · rw [if_neg q]
    by_cases q2 : w = 1
    · rw [if_pos q2, if_pos (by omega)]
    · rw [if_neg q2, if_neg (by omega)]
theorem okp_untwist (N : Nat) (hNB : NB N) : ok_untwist N Inv := by
  intro μ w hw hI
  obtain ⟨t, u, hT, hL, hW, hU, hG, hN, hX, hS⟩ := id hI
  obtain ⟨⟨e5, a5, b5⟩, ⟨e6, a6, b6⟩, ⟨e7, a7, b7⟩, -⟩ := id hL
  have hN2 : 300 ≤ N := hNB
  obtain ⟨F, hF⟩ := r_fc N hNB hL
  unfold fX8_untwist fX9_untwist
  rw [p_how N w μ hw, wr_id hw.1 hw.2, p_in N w 0 1 μ (by omega) (by omega) (by omega), ob_s, ob_s]
  by_cases q : 0 ≤ w ∧ w ≤ 1
  · rw [if_pos q, if_neg (show ¬ wr (1 : Int) = 0 by decide), if_neg (show ¬ wr (1 : Int) = 0 by decide), hT.t, gd_p hT.kt, p_isMade, p_isLoom, ob_s, ob_s, e5]
    by_cases q2 : 0 < gI μ t 5
    · rw [if_pos q2, if_neg (show ¬ wr (1 : Int) = 0 by decide), if_neg (show ¬ wr (1 : Int) = 0 by decide), unt_m N hL hW hF w (gI μ t 7).toNat N 0 0 0 1 (by omega) (by omega) (by omega) (by omega) (by omega)]
      unfold fX9_untwist_k105
      rw [wr_id hw.1 hw.2, Int.zero_add, Int.one_mul]
      by_cases q3 : w = 0
      · rw [if_pos q3, if_pos q3]
        unfold fX6_countUntwist
        rw [unt_c N hL hW hF (gI μ t 7).toNat N 0 0 (by omega) (by omega) (by omega) (by omega) (by omega), ob_s]
        exact ⟨_, _, rfl, rfl, rfl, hI⟩
      · rw [if_neg q3, if_neg q3]
        unfold fX6_firstUntwist
        obtain ⟨m, rfl⟩ : ∃ m, N = m + 1 := ⟨N - 1, by omega⟩
        rw [unt_f (m + 1) hL hW hF m (gI μ t 7 - 1) 0 0 (by omega) (by omega) (by omega) rfl, ob_s]
        exact ⟨_, _, rfl, rfl, rfl, hI⟩
    · rw [if_neg q2, if_pos (show wr (0 : Int) = 0 by decide), if_pos (show wr (0 : Int) = 0 by decide)]
      exact ⟨_, _, rfl, rfl, rfl, hI⟩
  · rw [if_neg q, if_pos (show wr (0 : Int) = 0 by decide), if_pos (show wr (0 : Int) = 0 by decide)]
    exact ⟨_, _, rfl, rfl, rfl, hI⟩
