/-! repeat -/
def sameC (μ : Mm) (y c : Int) : Prop := ∀ h : Int, 0 ≤ h → h < 4 → gZ μ 335 (4 * c + h) = gZ μ 335 (4 * c + (h + y) % 4)
theorem same_in (N : Nat) {μ : Mm} {t : Nat} (hL : LoomR μ t) {y c : Int} (hy : 0 ≤ y ∧ y ≤ 2) (c0 : 0 ≤ c) (c1 : c < gI μ t 6) (rec : Int → Option Int) (P : Int → Prop) (hr : ∃ r, rec (c + 1) = some r ∧ P r) (h0 : (¬ sameC μ y c) → P 0) : ∀ (n : Nat) (h : Int), 0 ≤ h → h ≤ 4 → 4 - h < n → (∀ x : Int, 0 ≤ x → x < h → gZ μ 335 (4 * c + x) = gZ μ 335 (4 * c + (x + y) % 4)) → ∃ r, fX5_isSameAfter_l12 N t y μ c rec n h = some r ∧ (P r ∨ (sameC μ y c ∧ P r)) := by
  intro n
  induction n with
  | zero => intro h a b d; omega
  | succ n ih =>
    intro h a b d e
    rw [fX5_isSameAfter_l12, wr_id (a := h) (by omega) (by omega)]
    by_cases q : 4 ≤ h
    · rw [if_pos q]
      obtain ⟨r, r1, r2⟩ := hr
      exact ⟨r, r1, Or.inl r2⟩
    · rw [if_neg q, (r_col N hL h c0 c1).1, ob_s, (r_col N hL (h + y) c0 c1).1, ob_s, wr_gZ, wr_gZ, show h % 4 = h by omega]
      by_cases z : gZ μ 335 (4 * c + h) = gZ μ 335 (4 * c + (h + y) % 4)
      · rw [if_pos z]
        refine ih (h + 1) (by omega) (by omega) (by omega) (fun x x0 x1 => ?_)
        by_cases w : x = h
        · rw [w]; exact z
        · exact e x x0 (by omega)
      · rw [if_neg z]
        exact ⟨0, rfl, Or.inl (h0 (fun s => z (s h a (by omega))))⟩
theorem same_out (N : Nat) (hNB : NB N) {μ : Mm} {t : Nat} (hL : LoomR μ t) {y : Int} (hy : 0 ≤ y ∧ y ≤ 2) : ∀ (n : Nat) (c : Int), 0 ≤ c → c ≤ gI μ t 6 → gI μ t 6 - c < n → (∀ x, 0 ≤ x → x < c → sameC μ y x) → ∃ r, fX5_isSameAfter_l2 N t y μ n c = some r ∧ ((r = 1 ∧ ∀ x, 0 ≤ x → x < gI μ t 6 → sameC μ y x) ∨ (r = 0 ∧ ¬ ∀ x, 0 ≤ x → x < gI μ t 6 → sameC μ y x)) := by
  obtain ⟨-, ⟨e6, a6, b6⟩, -⟩ := id hL
  have hN2 : 300 ≤ N := hNB
  intro n
  induction n with
  | zero => intro c a b d; omega
  | succ n ih =>
    intro c a b d e
    rw [fX5_isSameAfter_l2, wr_gI, wr_id (a := c) (by omega) (by omega)]
    by_cases q : gI μ t 6 ≤ c
    · rw [if_pos q]
      exact ⟨1, rfl, Or.inl ⟨rfl, fun x x0 x1 => e x x0 (by omega)⟩⟩
    · rw [if_neg q]
      by_cases sc : sameC μ y c
      · have hr := ih (c + 1) (by omega) (by omega) (by omega) (fun x x0 x1 => by
          by_cases w : x = c
          · rw [w]; exact sc
          · exact e x x0 (by omega))
        obtain ⟨r, r1, r2⟩ := same_in N hL hy a (by omega) (fX5_isSameAfter_l2 N t y μ n) _ hr (fun ns => absurd sc ns) N 0 (by omega) (by omega) (by omega) (fun x x0 x1 => by omega)
        exact ⟨r, r1, r2.elim id (fun z => z.2)⟩
      · obtain ⟨r, r1, r2⟩ : ∃ r, fX5_isSameAfter_l12 N t y μ c (fX5_isSameAfter_l2 N t y μ n) N 0 = some r ∧ (r = 0) := by
          have key : ∀ (m : Nat) (h : Int), 0 ≤ h → h ≤ 4 → 4 - h < m → (∀ x : Int, 0 ≤ x → x < h → gZ μ 335 (4 * c + x) = gZ μ 335 (4 * c + (x + y) % 4)) → ∃ r, fX5_isSameAfter_l12 N t y μ c (fX5_isSameAfter_l2 N t y μ n) m h = some r ∧ r = 0 := by
            intro m
            induction m with
            | zero => intro h a2 b2 d2; omega
            | succ m ih2 =>
              intro h a2 b2 d2 e2
              rw [fX5_isSameAfter_l12, wr_id (a := h) (by omega) (by omega)]
              by_cases q4 : 4 ≤ h
              · exact absurd (fun x x0 x1 => e2 x x0 (by omega)) sc
              · rw [if_neg q4, (r_col N hL h a (by omega)).1, ob_s, (r_col N hL (h + y) a (by omega)).1, ob_s, wr_gZ, wr_gZ, show h % 4 = h by omega]
                by_cases z : gZ μ 335 (4 * c + h) = gZ μ 335 (4 * c + (h + y) % 4)
                · rw [if_pos z]
                  refine ih2 (h + 1) (by omega) (by omega) (by omega) (fun x x0 x1 => ?_)
                  by_cases w : x = h
                  · rw [w]; exact z
                  · exact e2 x x0 (by omega)
                · rw [if_neg z]; exact ⟨0, rfl, rfl⟩
          exact key N 0 (by omega) (by omega) (by omega) (fun x x0 x1 => by omega)
        exact ⟨r, r1, Or.inr ⟨r2, fun s => sc (s c a (by omega))⟩⟩
theorem r_same (N : Nat) (hNB : NB N) {μ : Mm} {t : Nat} (hL : LoomR μ t) {y : Int} (hy : 0 ≤ y ∧ y ≤ 2) : ∃ r, fX5_isSameAfter N t y μ = some r ∧ ((r = 1 ∧ ∀ x, 0 ≤ x → x < gI μ t 6 → sameC μ y x) ∨ (r = 0 ∧ ¬ ∀ x, 0 ≤ x → x < gI μ t 6 → sameC μ y x)) := by
  obtain ⟨-, ⟨e6, a6, b6⟩, -⟩ := id hL
  have hN2 : 300 ≤ N := hNB
  exact same_out N hNB hL hy N 0 (by omega) (by omega) (by omega) (fun x x0 x1 => by omega)
