/-! home -/
def FcP (N : Nat) (μ : Mm) (t : Nat) (F : Int → Int) : Prop := ∀ k, 0 ≤ k → k < gI μ t 7 → fX6_firstCardOf N t k μ = some (F k) ∧ fX9_firstOf N k μ = some (F k) ∧ 0 ≤ F k ∧ F k < gI μ t 6 ∧ gZ μ (t + 3) (F k) = k
def alkP (μ : Mm) (t : Nat) (F : Int → Int) (k : Int) : Prop := ∀ c, 0 ≤ c → c < gI μ t 6 → gZ μ (t + 3) c = k → gZ μ 333 c = stP μ F k
theorem hom_a (N : Nat) {μ : Mm} {t : Nat} (hL : LoomR μ t) (hW : WR μ t 3 0) {F : Int → Int} (hF : FcP N μ t F) : ∀ (n : Nat) (c : Int), 0 ≤ c → c ≤ gI μ t 6 → gI μ t 6 - c < n → ∃ r, fX6_packsStandAlike_l2 N 3 t μ n c = some r ∧ ((r = 1 ∧ ∀ x, c ≤ x → x < gI μ t 6 → 0 ≤ gZ μ (t + 3) x → gZ μ 333 x = stP μ F (gZ μ (t + 3) x)) ∨ (r = 0 ∧ ∃ x, c ≤ x ∧ x < gI μ t 6 ∧ 0 ≤ gZ μ (t + 3) x ∧ ¬ gZ μ 333 x = stP μ F (gZ μ (t + 3) x))) := by
  obtain ⟨-, ⟨e6, a6, b6⟩, ⟨e7, a7, b7⟩, -⟩ := id hL
  intro n
  induction n with
  | zero => intro c h0 h1 h2; omega
  | succ n ih =>
    intro c h0 h1 h2
    rw [fX6_packsStandAlike_l2, wr_gI, wr_id (a := c) (by omega) (by omega)]
    by_cases q : gI μ t 6 ≤ c
    · rw [if_pos q]
      exact ⟨1, rfl, Or.inl ⟨rfl, fun x x0 x1 => by omega⟩⟩
    · have hp := r_pk hL h0 (show c < gI μ t 6 by omega)
      rw [if_neg q, if_neg (by omega), ldA_ok h0 (by omega) (by omega), ob_s, wr_gZ]
      by_cases z : gZ μ (t + 3) c = -1
      · rw [if_pos z]
        obtain ⟨r, r1, r2⟩ := ih (c + 1) (by omega) (by omega) (by omega)
        refine ⟨r, r1, r2.imp (fun y => ⟨y.1, fun x x0 x1 x2 => ?_⟩) (fun ⟨y, x, x0, x1⟩ => ⟨y, x, by omega, x1⟩)⟩
        by_cases w : x = c
        · subst w; omega
        · exact y.2 x (by omega) x1 x2
      · have hs := (x_standOf N hL hW hF (show 0 ≤ gZ μ (t + 3) c by omega) hp.2).1
        have hcd := hW.cd h0 (show c < gI μ t 6 by omega)
        rw [if_neg z, ldA_ok h0 (by omega) (by omega), ob_s, hs, ob_s, show (3 + 2 : Nat) = 5 from rfl, hcd.1, wr_gZ]
        unfold stP
        rw [wr_gZ]
        by_cases y : gZ μ 333 c = gZ μ 333 (F (gZ μ (t + 3) c))
        · rw [if_pos y]
          obtain ⟨r, r1, r2⟩ := ih (c + 1) (by omega) (by omega) (by omega)
          refine ⟨r, r1, r2.imp (fun y2 => ⟨y2.1, fun x x0 x1 x2 => ?_⟩) (fun ⟨y2, x, x0, x1⟩ => ⟨y2, x, by omega, x1⟩)⟩
          by_cases w : x = c
          · rw [w]; exact y
          · exact y2.2 x (by omega) x1 x2
        · rw [if_neg y]
          exact ⟨0, rfl, Or.inr ⟨rfl, c, by omega, by omega, by omega, y⟩⟩
theorem hom_b (N : Nat) {μ : Mm} {t : Nat} (hL : LoomR μ t) (hW : WR μ t 3 0) {F : Int → Int} (hF : FcP N μ t F) {k : Int} (k0 : 0 ≤ k) (k1 : k < gI μ t 7) : ∀ (n : Nat) (c f : Int), 0 ≤ c → c ≤ gI μ t 6 → gI μ t 6 - c < n → (f = 0 ∨ f = 1) → ∃ r, fX9_standsAlike_l4 N k μ n f c = some r ∧ (r = 0 ∨ r = 1) ∧ (r = 1 ↔ (f = 1 ∧ ∀ x, c ≤ x → x < gI μ t 6 → gZ μ (t + 3) x = k → gZ μ 333 x = stP μ F k)) := by
  obtain ⟨-, ⟨e6, a6, b6⟩, ⟨e7, a7, b7⟩, -, -, hk, -⟩ := id hL
  have hkk := hk k k0 k1
  obtain ⟨h1, h2, h3, h4, h5⟩ := hF k k0 k1
  intro n
  induction n with
  | zero => intro c f q0 q1 q2; omega
  | succ n ih =>
    intro c f q0 q1 q2 q3
    rw [fX9_standsAlike_l4, e6, wr_gI, wr_id (a := c) (by omega) (by omega)]
    by_cases q : gI μ t 6 ≤ c
    · rw [if_pos q, gd_p q3]
      exact ⟨f, rfl, q3, fun z => ⟨z, fun x x0 x1 => by omega⟩, fun z => z.1⟩
    · rw [if_neg q]
      have hb := r_bit hL q0 (show c < gI μ t 6 by omega) k0 k1
      have stop : (∀ x, x = c → gZ μ (t + 3) x = k → gZ μ 333 x = stP μ F k) → ∀ r : Int, (r = 1 ↔ (1 = (1 : Int) ∧ ∀ x, c + 1 ≤ x → x < gI μ t 6 → gZ μ (t + 3) x = k → gZ μ 333 x = stP μ F k)) → (r = 1 ↔ (1 = (1 : Int) ∧ ∀ x, c ≤ x → x < gI μ t 6 → gZ μ (t + 3) x = k → gZ μ 333 x = stP μ F k)) := by
        intro hc r hr
        rw [hr]
        refine ⟨fun z => ⟨rfl, fun x x0 x1 x2 => ?_⟩, fun z => ⟨rfl, fun x x0 x1 x2 => z.2 x (by omega) x1 x2⟩⟩
        by_cases w : x = c
        · exact hc x w x2
        · exact z.2 x (by omega) x1 x2
      rcases q3 with rfl | rfl
      · rw [if_pos (by decide)]
        obtain ⟨r, r1, r2, r3⟩ := ih (c + 1) 0 (by omega) (by omega) (by omega) (Or.inl rfl)
        exact ⟨r, r1, r2, fun z => absurd (r3.1 z).1 (by decide), fun z => absurd z.1 (by decide)⟩
      · rw [if_neg (by decide), ldA_ok k0 (by omega) (by omega), ob_s, p_hasZ N μ (by omega) (by omega) q0 (by omega), ob_s]
        by_cases z : gZ μ (t + 3) c = k
        · rw [if_pos (hb.2 z), if_neg (by decide), ldA_ok q0 (by omega) (by omega), ob_s, h2, ob_s, ldA_ok h3 (by omega) (by omega), ob_s, wr_gZ, wr_gZ]
          by_cases y : gZ μ 333 c = gZ μ 333 (F k)
          · rw [if_pos y]
            obtain ⟨r, r1, r2, r3⟩ := ih (c + 1) 1 (by omega) (by omega) (by omega) (Or.inr rfl)
            exact ⟨r, r1, r2, stop (fun x x0 _ => by rw [x0]; exact y) r r3⟩
          · rw [if_neg y]
            obtain ⟨r, r1, r2, r3⟩ := ih (c + 1) 0 (by omega) (by omega) (by omega) (Or.inl rfl)
            exact ⟨r, r1, r2, fun w => absurd (r3.1 w).1 (by decide), fun w => absurd (w.2 c (by omega) (by omega) z) y⟩
        · rw [if_neg (fun w => z (hb.1 w)), if_pos (by decide)]
          obtain ⟨r, r1, r2, r3⟩ := ih (c + 1) 1 (by omega) (by omega) (by omega) (Or.inr rfl)
          exact ⟨r, r1, r2, stop (fun x x0 x1 => by rw [x0] at x1; exact absurd x1 z) r r3⟩
theorem r_alkP (N : Nat) (hNB : NB N) {μ : Mm} {t : Nat} (hL : LoomR μ t) (hW : WR μ t 3 0) {F : Int → Int} (hF : FcP N μ t F) {k : Int} (k0 : 0 ≤ k) (k1 : k < gI μ t 7) : ∃ r, fX9_standsAlike N k μ = some r ∧ (r = 0 ∨ r = 1) ∧ (r = 1 ↔ alkP μ t F k) := by
  obtain ⟨-, ⟨e6, a6, b6⟩, -⟩ := id hL
  have hN2 : 300 ≤ N := hNB
  obtain ⟨r, r1, r2, r3⟩ := hom_b N hL hW hF k0 k1 N 0 1 (by omega) (by omega) (by omega) (Or.inr rfl)
  exact ⟨r, r1, r2, r3.trans ⟨fun z => z.2, fun z => ⟨rfl, z⟩⟩⟩
theorem hom_c (N : Nat) {μ : Mm} {t : Nat} (hL : LoomR μ t) (hW : WR μ t 3 0) {F : Int → Int} (hF : FcP N μ t F) : ∀ (j n : Nat) (k x : Int), 0 ≤ k → k + j = gI μ t 7 → j < n → 0 ≤ x → x ≤ 3 → fX6_countHome_l4 N 3 t μ n x k = some (mxS (fun k => hmC (stP μ F k)) j k x) := by
  obtain ⟨-, ⟨e6, a6, b6⟩, ⟨e7, a7, b7⟩, -⟩ := id hL
  intro j
  induction j with
  | zero =>
    intro n k x k0 k1 hn x0 x1
    obtain ⟨m, rfl⟩ : ∃ m, n = m + 1 := ⟨n - 1, by omega⟩
    rw [fX6_countHome_l4, wr_gI, wr_id (a := k) (by omega) (by omega), if_pos (by omega)]
    rfl
  | succ j ih =>
    intro n k x k0 k1 hn x0 x1
    obtain ⟨m, rfl⟩ : ∃ m, n = m + 1 := ⟨n - 1, by omega⟩
    have h1 := x_standOf N hL hW hF k0 (show k < gI μ t 7 by omega)
    have ea : (if wr (4 - stP μ F k) < wr (stP μ F k) then 4 - stP μ F k else stP μ F k) = hmC (stP μ F k) := by
      unfold hmC
      rw [wr_id (by omega) (by omega), wr_id (a := stP μ F k) (by omega) (by omega)]
      by_cases q : stP μ F k = 3
      · rw [if_pos q, if_pos (by omega), q]; rfl
      · rw [if_neg q, if_neg (by omega)]
    have hb : 0 ≤ hmC (stP μ F k) ∧ hmC (stP μ F k) ≤ 3 := by
      unfold hmC
      by_cases q : stP μ F k = 3
      · rw [if_pos q]; omega
      · rw [if_neg q]; omega
    rw [fX6_countHome_l4, wr_gI, wr_id (a := k) (by omega) (by omega), if_neg (by omega), h1.1, ob_s, ea, wr_id (a := x) (by omega) (by omega), wr_id (a := hmC (stP μ F k)) (by omega) (by omega)]
    show _ = some (mxS (fun k => hmC (stP μ F k)) j (k + 1) (if x < hmC (stP μ F k) then hmC (stP μ F k) else x))
    by_cases q : x < hmC (stP μ F k)
    · rw [if_pos q]
      exact ih m (k + 1) _ (by omega) (by omega) (by omega) hb.1 hb.2
    · rw [if_neg q]
      exact ih m (k + 1) x (by omega) (by omega) (by omega) x0 x1
theorem hom_f (N : Nat) {μ : Mm} {t : Nat} (hL : LoomR μ t) (hW : WR μ t 3 0) {F : Int → Int} (hF : FcP N μ t F) : ∀ (n : Nat) (k : Int) (j : Nat) (x : Int), -1 ≤ k → k < n → k + 1 + j = gI μ t 7 → x = mvS (fun k => hmM (stP μ F k)) j (k + 1) → fX6_firstHome_l9 N 3 t μ (n + 1) x k = some (mvS (fun k => hmM (stP μ F k)) (gI μ t 7).toNat 0) := by
  obtain ⟨-, ⟨e6, a6, b6⟩, ⟨e7, a7, b7⟩, -⟩ := id hL
  intro n
  induction n with
  | zero =>
    intro k j x k0 k1 hj hx
    rw [fX6_firstHome_l9, wr_id (a := k) (by omega) (by omega), if_pos (by omega), hx, show k + 1 = 0 by omega, show j = (gI μ t 7).toNat by omega]
  | succ n ih =>
    intro k j x k0 k1 hj hx
    rw [fX6_firstHome_l9, wr_id (a := k) (by omega) (by omega)]
    by_cases q : k < 0
    · rw [if_pos q, hx, show k + 1 = 0 by omega, show j = (gI μ t 7).toNat by omega]
    · have h1 := x_standOf N hL hW hF (show 0 ≤ k by omega) (show k < gI μ t 7 by omega)
      rw [if_neg q, h1.1, ob_s, wr_id (a := stP μ F k) (by omega) (by omega)]
      unfold fX6_firstHome_j41
      have go : ∀ z, z = hmM (stP μ F k) → fX6_firstHome_l9 N 3 t μ (n + 1) (x * 3 + z) (k + (-1)) = some (mvS (fun k => hmM (stP μ F k)) (gI μ t 7).toNat 0) := by
        intro z hz
        refine ih (k + (-1)) (j + 1) _ (by omega) (by omega) (by omega) ?_
        rw [hz, hx, show k + (-1) + 1 = k by omega]
        exact mvS_d (fun k => hmM (stP μ F k)) j k
      unfold hmM at go
      by_cases z : stP μ F k = 0
      · rw [if_pos z]; exact go 0 (by rw [if_pos z])
      · rw [if_neg z]
        by_cases y : stP μ F k = 1
        · rw [if_pos y]; exact go 2 (by rw [if_neg z, if_pos y])
        · rw [if_neg y]; exact go 1 (by rw [if_neg z, if_neg y])
theorem hom_m (N : Nat) (hNB : NB N) {μ : Mm} {t : Nat} (hL : LoomR μ t) (hW : WR μ t 3 0) {F : Int → Int} (hF : FcP N μ t F) (w : Int) : ∀ (j n : Nat) (k x y b : Int), 0 ≤ k → k + j = gI μ t 7 → j < n → 0 ≤ x → x ≤ 3 → ((∀ a, k ≤ a → a < gI μ t 7 → alkP μ t F a) → fX9_home_l33 N w μ n x y b k = fX9_home_k121 N w (mxS (fun k => hmC (stP μ F k)) j k x) (y + b * mvS (fun k => hmM (stP μ F k)) j k)) ∧ ((¬ ∀ a, k ≤ a → a < gI μ t 7 → alkP μ t F a) → fX9_home_l33 N w μ n x y b k = some (-1)) := by
  obtain ⟨-, ⟨e6, a6, b6⟩, ⟨e7, a7, b7⟩, -⟩ := id hL
  intro j
  induction j with
  | zero =>
    intro n k x y b k0 k1 hn x0 x1
    obtain ⟨m, rfl⟩ : ∃ m, n = m + 1 := ⟨n - 1, by omega⟩
    refine ⟨fun _ => ?_, fun h => absurd (fun a a0 a1 => by omega) h⟩
    rw [fX9_home_l33, e7, wr_gI, wr_id (a := k) (by omega) (by omega), if_pos (by omega)]
    show _ = fX9_home_k121 N w x (y + b * 0)
    rw [Int.mul_zero, Int.add_zero]
  | succ j ih =>
    intro n k x y b k0 k1 hn x0 x1
    obtain ⟨m, rfl⟩ : ∃ m, n = m + 1 := ⟨n - 1, by omega⟩
    obtain ⟨h1, h2, h3, h4, h5⟩ := hF k k0 (show k < gI μ t 7 by omega)
    have hb := (x_standOf N hL hW hF k0 (show k < gI μ t 7 by omega)).2
    obtain ⟨r, r1, r2, r3⟩ := r_alkP N hNB hL hW hF k0 (show k < gI μ t 7 by omega)
    have hab : 0 ≤ hmC (stP μ F k) ∧ hmC (stP μ F k) ≤ 3 := by
      unfold hmC
      by_cases q : stP μ F k = 3
      · rw [if_pos q]; omega
      · rw [if_neg q]; omega
    have em : fX9_most N x (hmC (stP μ F k)) μ = some (if x < hmC (stP μ F k) then hmC (stP μ F k) else x) := by
      unfold fX9_most
      rw [wr_id (a := x) (by omega) (by omega), wr_id (a := hmC (stP μ F k)) (by omega) (by omega)]
      by_cases q : x < hmC (stP μ F k)
      · rw [if_pos q, if_pos (by omega)]
      · rw [if_neg q]
        by_cases q2 : x ≤ hmC (stP μ F k)
        · rw [if_pos q2]; congr 1; omega
        · rw [if_neg q2]
    have hx : 0 ≤ (if x < hmC (stP μ F k) then hmC (stP μ F k) else x) ∧ (if x < hmC (stP μ F k) then hmC (stP μ F k) else x) ≤ 3 := by
      by_cases q : x < hmC (stP μ F k)
      · rw [if_pos q]; exact hab
      · rw [if_neg q]; exact ⟨x0, x1⟩
    rw [fX9_home_l33, e7, wr_gI, wr_id (a := k) (by omega) (by omega), if_neg (by omega), r1, ob_s]
    by_cases qa : alkP μ t F k
    · rw [r3.2 qa, if_neg (by decide), h2, ob_s, ldA_ok (by omega) (by omega) (by omega), ob_s, show gZ μ 333 (F k) = stP μ F k from rfl, wr_id (a := stP μ F k) (by omega) (by omega), mvS_a]
      have split : (∀ a, k ≤ a → a < gI μ t 7 → alkP μ t F a) ↔ (∀ a, k + 1 ≤ a → a < gI μ t 7 → alkP μ t F a) := by
        refine ⟨fun z a a0 a1 => z a (by omega) a1, fun z a a0 a1 => ?_⟩
        by_cases v : a = k
        · rw [v]; exact qa
        · exact z a (by omega) a1
      have go : ∀ z, z = hmM (stP μ F k) → ((∀ a, k ≤ a → a < gI μ t 7 → alkP μ t F a) → fX9_home_l33 N w μ m (if x < hmC (stP μ F k) then hmC (stP μ F k) else x) (y + b * z) (b * 3) (k + 1) = fX9_home_k121 N w (mxS (fun k => hmC (stP μ F k)) j (k + 1) (if x < hmC (stP μ F k) then hmC (stP μ F k) else x)) (y + b * hmM (stP μ F k) + b * 3 * mvS (fun k => hmM (stP μ F k)) j (k + 1))) ∧ ((¬ ∀ a, k ≤ a → a < gI μ t 7 → alkP μ t F a) → fX9_home_l33 N w μ m (if x < hmC (stP μ F k) then hmC (stP μ F k) else x) (y + b * z) (b * 3) (k + 1) = some (-1)) := fun z hz => by
        rw [split, ← hz]
        exact ih m (k + 1) _ (y + b * z) (b * 3) (by omega) (by omega) (by omega) hx.1 hx.2
      have step : ∀ e, e = hmC (stP μ F k) → ((∀ a, k ≤ a → a < gI μ t 7 → alkP μ t F a) → fX9_home_j79 N μ x y b k (fX9_home_l33 N w μ m) (stP μ F k) e = fX9_home_k121 N w (mxS (fun k => hmC (stP μ F k)) (j + 1) k x) (y + b * hmM (stP μ F k) + b * 3 * mvS (fun k => hmM (stP μ F k)) j (k + 1))) ∧ ((¬ ∀ a, k ≤ a → a < gI μ t 7 → alkP μ t F a) → fX9_home_j79 N μ x y b k (fX9_home_l33 N w μ m) (stP μ F k) e = some (-1)) := by
        intro e he
        unfold fX9_home_j79 fX9_home_j106
        rw [he, em, ob_s, wr_id (a := stP μ F k) (by omega) (by omega)]
        by_cases z : stP μ F k = 0
        · rw [if_pos z]; exact go 0 (by unfold hmM; rw [if_pos z])
        · rw [if_neg z]
          by_cases v : stP μ F k = 1
          · rw [if_pos v]; exact go 2 (by unfold hmM; rw [if_neg z, if_pos v])
          · rw [if_neg v]; exact go 1 (by unfold hmM; rw [if_neg z, if_neg v])
      by_cases z : stP μ F k = 3
      · rw [if_pos z]; exact step 1 (by unfold hmC; rw [if_pos z])
      · rw [if_neg z]; exact step (stP μ F k) (by unfold hmC; rw [if_neg z])
    · have : r = 0 := r2.resolve_right (fun z => qa (r3.1 z))
      rw [this, if_pos (by decide)]
      exact ⟨fun z => absurd (z k (by omega) (by omega)) qa, fun _ => rfl⟩
theorem okp_home (N : Nat) (hNB : NB N) : ok_home N Inv := by
  intro μ w hw hI
  obtain ⟨t, u, hT, hL, hW, hU, hG, hN, hX, hS⟩ := id hI
  obtain ⟨⟨e5, a5, b5⟩, ⟨e6, a6, b6⟩, ⟨e7, a7, b7⟩, -⟩ := id hL
  have hN2 : 300 ≤ N := hNB
  obtain ⟨F, hF⟩ := r_fc N hNB hL
  unfold fX8_home fX9_home
  rw [p_how N w μ hw, wr_id hw.1 hw.2, p_in N w 0 1 μ (by omega) (by omega) (by omega), ob_s, ob_s]
  by_cases q : 0 ≤ w ∧ w ≤ 1
  · rw [if_pos q, if_neg (show ¬ wr (1 : Int) = 0 by decide), if_neg (show ¬ wr (1 : Int) = 0 by decide), hT.t, gd_p hT.kt, p_isMade, p_isLoom, ob_s, ob_s, e5]
    by_cases q2 : 0 < gI μ t 5
    · rw [if_pos q2, if_neg (show ¬ wr (1 : Int) = 0 by decide), if_neg (show ¬ wr (1 : Int) = 0 by decide)]
      obtain ⟨g1, g2⟩ := hom_m N hNB hL hW hF w (gI μ t 7).toNat N 0 0 0 1 (by omega) (by omega) (by omega) (by omega) (by omega)
      obtain ⟨r, r1, r2⟩ := hom_a N hL hW hF N 0 (by omega) (by omega) (by omega)
      unfold fX6_packsStandAlike
      rw [r1, ob_s]
      rcases r2 with ⟨rfl, r2⟩ | ⟨rfl, x, x0, x1, x2, x3⟩
      · rw [g1 (fun a a0 a1 c c0 c1 c2 => by rw [r2 c c0 c1 (by omega), c2]), if_neg (show ¬ wr (1 : Int) = 0 by decide)]
        unfold fX9_home_k121
        rw [wr_id hw.1 hw.2, Int.zero_add, Int.one_mul]
        by_cases q3 : w = 0
        · rw [if_pos q3, if_pos q3]
          unfold fX6_countHome
          rw [hom_c N hL hW hF (gI μ t 7).toNat N 0 0 (by omega) (by omega) (by omega) (by omega) (by omega), ob_s]
          exact ⟨_, _, rfl, rfl, rfl, hI⟩
        · rw [if_neg q3, if_neg q3]
          unfold fX6_firstHome
          obtain ⟨m, rfl⟩ : ∃ m, N = m + 1 := ⟨N - 1, by omega⟩
          rw [hom_f (m + 1) hL hW hF m (gI μ t 7 - 1) 0 0 (by omega) (by omega) (by omega) rfl, ob_s]
          exact ⟨_, _, rfl, rfl, rfl, hI⟩
      · rw [g2 (fun h => x3 (h (gZ μ (t + 3) x) x2 (r_pk hL x0 x1).2 x x0 x1 rfl)), if_pos (show wr (0 : Int) = 0 by decide)]
        exact ⟨_, _, rfl, rfl, rfl, hI⟩
    · rw [if_neg q2, if_pos (show wr (0 : Int) = 0 by decide), if_pos (show wr (0 : Int) = 0 by decide)]
      exact ⟨_, _, rfl, rfl, rfl, hI⟩
  · rw [if_neg q, if_pos (show wr (0 : Int) = 0 by decide), if_pos (show wr (0 : Int) = 0 by decide)]
    exact ⟨_, _, rfl, rfl, rfl, hI⟩
