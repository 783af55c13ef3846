/-! cards that showed the same -/
theorem areAlike_0 (N : Nat) {μ : Mm} {t : Nat} (hW : WR μ t 3 0) {c d : Int} : ∀ (n : Nat) (i : Int), 0 ≤ i → i ≤ gZ μ 333 49 → gZ μ 333 49 - i < n → fX9_areAlike_l5 N c d μ n 0 i = some 0 := by
  obtain ⟨hr, hb0, hb1⟩ := r_rows N hW
  intro n
  induction n with
  | zero => intro i h0 h1 h2; omega
  | succ n ih =>
    intro i h0 h1 h2
    rw [fX9_areAlike_l5, ldA_ok (by decide) (by decide) (by decide), ob_s, wr_gZ, wr_id (a := i) (by omega) (by omega)]
    by_cases q : gZ μ 333 49 ≤ i
    · rw [if_pos q]; rfl
    · rw [if_neg q, if_pos (by decide)]
      exact ih (i + 1) (by omega) (by omega) (by omega)
theorem areAlike_l (N : Nat) {μ : Mm} {t : Nat} (hL : LoomR μ t) (hW : WR μ t 3 0) {c d : Int} (c0 : 0 ≤ c) (c1 : c < gI μ t 6) (d0 : 0 ≤ d) (d1 : d < gI μ t 6) : ∀ (n : Nat) (i : Int), 0 ≤ i → i ≤ gZ μ 333 49 → gZ μ 333 49 - i < n → ∃ r, fX0_showedSame_l2 N 3 c d μ n i = some r ∧ fX9_areAlike_l5 N c d μ n 1 i = some r ∧ (r = 0 ∨ r = 1) := by
  obtain ⟨-, ⟨e6, a6, b6⟩, -⟩ := id hL
  obtain ⟨hr, hb0, hb1⟩ := r_rows N hW
  intro n
  induction n with
  | zero => intro i h0 h1 h2; omega
  | succ n ih =>
    intro i h0 h1 h2
    rw [fX0_showedSame_l2, fX9_areAlike_l5, hr, ob_s, ldA_ok (by decide) (by decide) (by decide), ob_s, wr_gZ, wr_id (a := i) (by omega) (by omega)]
    by_cases q : gZ μ 333 49 ≤ i
    · rw [if_pos q, if_pos q]
      exact ⟨1, rfl, rfl, Or.inr rfl⟩
    · rw [if_neg q, if_neg q, if_neg (by decide), r_showedAt N hL hW h0 (by omega) c0 c1, ob_s, r_showedAt N hL hW h0 (by omega) d0 d1, ob_s, p_was N μ hb1 h0 (by omega) c0 (by omega), ob_s, p_was N μ hb1 h0 (by omega) d0 (by omega), ob_s]
      by_cases y : wr (gZ μ 333 (50 + 8 * (gZ μ 333 49 - 1 - i) + c)) = wr (gZ μ 333 (50 + 8 * (gZ μ 333 49 - 1 - i) + d))
      · rw [if_pos y, if_pos y]
        exact ih (i + 1) (by omega) (by omega) (by omega)
      · rw [if_neg y, if_neg y]
        exact ⟨0, rfl, areAlike_0 N hW n (i + 1) (by omega) (by omega) (by omega), Or.inl rfl⟩
theorem r_alike (N : Nat) (hNB : NB N) {μ : Mm} {t : Nat} (hL : LoomR μ t) (hW : WR μ t 3 0) {c d : Int} (c0 : 0 ≤ c) (c1 : c < gI μ t 6) (d0 : 0 ≤ d) (d1 : d < gI μ t 6) : ∃ r, fX0_showedSame N 3 c d μ = some r ∧ fX9_areAlike N c d μ = some r ∧ (r = 0 ∨ r = 1) := by
  obtain ⟨hr, hb0, hb1⟩ := r_rows N hW
  have hN2 : 300 ≤ N := hNB
  exact areAlike_l N hL hW c0 c1 d0 d1 N 0 (by omega) (by omega) (by omega)
theorem alk_f_in (N : Nat) (hNB : NB N) {μ : Mm} {t : Nat} (hL : LoomR μ t) (hW : WR μ t 3 0) {y c f : Int} (hy : -2147483648 ≤ y ∧ y < 2147483648) (c0 : 0 ≤ c) (c1 : c < gI μ t 6) (rm : Int → Int → Int → Option Int) (hrm : ∀ a, y < a → a ≤ 8 * c + 8 → rm a f (c + 1) = some f) : ∀ (n : Nat) (d x : Int), 0 ≤ d → d ≤ gI μ t 6 → gI μ t 6 - d < n → y < x → 0 ≤ x → x ≤ 8 * c + d → fX9_alike_l22 N y μ c rm n x f d = some f := by
  obtain ⟨-, ⟨e6, a6, b6⟩, -⟩ := id hL
  intro n
  induction n with
  | zero => intro d x h0 h1 h2; omega
  | succ n ih =>
    intro d x h0 h1 h2 h3 h4 h5
    rw [fX9_alike_l22, e6, wr_gI, wr_id (a := d) (by omega) (by omega)]
    by_cases q : gI μ t 6 ≤ d
    · rw [if_pos q]
      exact hrm x h3 (by omega)
    · rw [if_neg q]
      obtain ⟨r, r1, r2, r3⟩ := r_alike N hNB hL hW c0 c1 h0 (show d < gI μ t 6 by omega)
      rw [r2, ob_s]
      by_cases q2 : wr r = 0
      · rw [if_pos q2]
        exact ih (d + 1) x (by omega) (by omega) (by omega) h3 h4 (by omega)
      · rw [if_neg q2, if_neg (by rw [wr_id (a := x) (by omega) (by omega), wr_id hy.1 hy.2]; omega)]
        exact ih (d + 1) (x + 1) (by omega) (by omega) (by omega) (by omega) (by omega) (by omega)
theorem alk_f_out (N : Nat) (hNB : NB N) {μ : Mm} {t : Nat} (hL : LoomR μ t) (hW : WR μ t 3 0) {y f : Int} (hy : 0 ≤ y ∧ y < 2147483648) : ∀ (n : Nat) (c x : Int), 0 ≤ c → c ≤ gI μ t 6 → gI μ t 6 - c < n → y < x → x ≤ 8 * c → fX9_alike_l7 N y μ n x f c = some f := by
  obtain ⟨-, ⟨e6, a6, b6⟩, -⟩ := id hL
  have hN2 : 300 ≤ N := hNB
  intro n
  induction n with
  | zero => intro c x h0 h1 h2; omega
  | succ n ih =>
    intro c x h0 h1 h2 h3 h4
    rw [fX9_alike_l7, e6, wr_gI, wr_id (a := c) (by omega) (by omega)]
    by_cases q : gI μ t 6 ≤ c
    · rw [if_pos q]
      unfold fX9_alike_k75
      rw [if_neg (by rw [wr_id (by omega) hy.2]; omega)]
    · rw [if_neg q]
      exact alk_f_in N hNB hL hW (by omega) h0 (by omega) (fX9_alike_l7 N y μ n) (fun a x1 x2 => ih (c + 1) a (by omega) (by omega) (by omega) x1 (by omega)) N (c + 1) x (by omega) (by omega) (by omega) h3 (by omega) (by omega)
theorem alk_in (N : Nat) (hNB : NB N) {μ : Mm} {t : Nat} (hL : LoomR μ t) (hW : WR μ t 3 0) {y c : Int} (hy : -2147483648 ≤ y ∧ y < 2147483648) (c0 : 0 ≤ c) (c1 : c < gI μ t 6) (rx : Int → Int → Option Int) (rm : Int → Int → Int → Option Int) (hrm : ∀ a f, 0 ≤ y → y < a → a ≤ 8 * c + 8 → rm a f (c + 1) = some f) (hr : ∀ a, 0 ≤ a → a ≤ 8 * c + 8 → (y < 0 ∨ a ≤ y) → ∃ r, rx a (c + 1) = some r ∧ rm a (-1) (c + 1) = some r) : ∀ (n : Nat) (d x : Int), 0 ≤ d → d ≤ gI μ t 6 → gI μ t 6 - d < n → 0 ≤ x → x ≤ 8 * c + d → (y < 0 ∨ x ≤ y) → ∃ r, fX0_findAlike_l17 N 3 (gI μ t 6) y μ c rx n x d = some r ∧ fX9_alike_l22 N y μ c rm n x (-1) d = some r := by
  obtain ⟨-, ⟨e6, a6, b6⟩, -⟩ := id hL
  intro n
  induction n with
  | zero => intro d x h0 h1 h2; omega
  | succ n ih =>
    intro d x h0 h1 h2 h3 h4 h5
    rw [fX0_findAlike_l17, fX9_alike_l22, e6, wr_gI, wr_id (a := d) (by omega) (by omega)]
    by_cases q : gI μ t 6 ≤ d
    · rw [if_pos q, if_pos q]
      exact hr x h3 (by omega) h5
    · rw [if_neg q, if_neg q]
      obtain ⟨r, r1, r2, r3⟩ := r_alike N hNB hL hW c0 c1 h0 (show d < gI μ t 6 by omega)
      rw [r1, r2, ob_s, ob_s, wr_id (a := x) (by omega) (by omega), wr_id hy.1 hy.2]
      by_cases q2 : wr r = 0
      · rw [if_pos q2, if_pos q2]
        exact ih (d + 1) x (by omega) (by omega) (by omega) h3 (by omega) h5
      · rw [if_neg q2, if_neg q2]
        by_cases q3 : x = y
        · rw [if_pos q3, if_pos q3]
          exact ⟨_, rfl, alk_f_in N hNB hL hW hy c0 c1 rm (fun a z1 z2 => hrm a _ (by omega) z1 z2) n (d + 1) (x + 1) (by omega) (by omega) (by omega) (by omega) (by omega) (by omega)⟩
        · rw [if_neg q3, if_neg q3]
          exact ih (d + 1) (x + 1) (by omega) (by omega) (by omega) (by omega) (by omega) (by omega)
theorem alk_out (N : Nat) (hNB : NB N) {μ : Mm} {t : Nat} (hL : LoomR μ t) (hW : WR μ t 3 0) {y : Int} (hy : -2147483648 ≤ y ∧ y < 2147483648) : ∀ (n : Nat) (c x : Int), 0 ≤ c → c ≤ gI μ t 6 → gI μ t 6 - c < n → 0 ≤ x → x ≤ 8 * c → (y < 0 ∨ x ≤ y) → ∃ r, fX0_findAlike_l5 N 3 (gI μ t 6) y μ n x c = some r ∧ fX9_alike_l7 N y μ n x (-1) c = some r := by
  obtain ⟨-, ⟨e6, a6, b6⟩, -⟩ := id hL
  have hN2 : 300 ≤ N := hNB
  intro n
  induction n with
  | zero => intro c x h0 h1 h2; omega
  | succ n ih =>
    intro c x h0 h1 h2 h3 h4 h5
    rw [fX0_findAlike_l5, fX9_alike_l7, e6, wr_gI, wr_id (a := c) (by omega) (by omega)]
    by_cases q : gI μ t 6 ≤ c
    · rw [if_pos q, if_pos q]
      unfold fX0_findAlike_k63 fX9_alike_k75
      by_cases z : wr y = -1
      · rw [if_pos z]; exact ⟨_, rfl, rfl⟩
      · rw [if_neg z]; exact ⟨_, rfl, rfl⟩
    · rw [if_neg q, if_neg q]
      exact alk_in N hNB hL hW hy h0 (by omega) (fX0_findAlike_l5 N 3 (gI μ t 6) y μ n) (fX9_alike_l7 N y μ n) (fun a f z0 z1 z2 => alk_f_out N hNB hL hW ⟨z0, hy.2⟩ n (c + 1) a (by omega) (by omega) (by omega) z1 (by omega)) (fun a z1 z2 z3 => ih (c + 1) a (by omega) (by omega) (by omega) z1 (by omega) z3) N (c + 1) x (by omega) (by omega) (by omega) h3 (by omega) h5
theorem okp_alike (N : Nat) (hNB : NB N) : ok_alike N Inv := by
  intro μ y hy hI
  obtain ⟨t, u, hT, hL, hW, hU, hG, hN, hX, hS⟩ := id hI
  have hN2 : 300 ≤ N := hNB
  obtain ⟨-, ⟨e6, a6, b6⟩, -⟩ := id hL
  obtain ⟨r, r1, r2⟩ := alk_out N hNB hL hW hy N 0 0 (by omega) (by omega) (by omega) (by omega) (by omega) (by omega)
  unfold fX8_alike fX9_alike fX0_findAlike
  rw [hT.t, gd_p hT.kt, r1, r2, ob_s]
  exact ⟨_, _, rfl, rfl, rfl, hI⟩
