/-! told: rows alike both ways, period, longest, most, all yarn -/
def bd (μ : Mm) (i c : Int) : Int := gZ μ 333 (50 + 8 * (gZ μ 333 49 - 1 - i) + c)
theorem wr_bd (μ : Mm) (i c : Int) : wr (bd μ i c) = bd μ i c := wr_gZ _ _ _
theorem r_showB (N : Nat) {μ : Mm} {t : Nat} (hL : LoomR μ t) (hW : WR μ t 3 0) {i c : Int} (h0 : 0 ≤ i) (h1 : i < gZ μ 333 49) (h2 : 0 ≤ c) (h3 : c < gI μ t 6) : fX7_showedAt N 3 i c μ = some (bd μ i c) := r_showedAt N hL hW h0 h1 h2 h3
theorem p_wasB (N : Nat) {i c : Int} (μ : Mm) (hb : gZ μ 333 49 ≤ 24) (h0 : 0 ≤ i) (h1 : i < gZ μ 333 49) (h2 : 0 ≤ c) (h3 : c < 8) : fX9_was N i c μ = some (bd μ i c) := p_was N μ hb h0 h1 h2 h3
theorem mir_x (N : Nat) {μ : Mm} {t : Nat} (hL : LoomR μ t) (hW : WR μ t 3 0) {i : Int} (i0 : 0 ≤ i) (i1 : i < gZ μ 333 49) : ∀ (n : Nat) (c : Int), 0 ≤ c → c ≤ gI μ t 6 / 2 → gI μ t 6 / 2 - c < n → (∀ x, 0 ≤ x → x < c → bd μ i x = bd μ i (gI μ t 6 - 1 - x)) → ∃ r, fX0_isMirrored_l2 N 3 (gI μ t 6) i μ n c = some r ∧ ((r = 1 ∧ ∀ x, 0 ≤ x → x < gI μ t 6 / 2 → bd μ i x = bd μ i (gI μ t 6 - 1 - x)) ∨ (r = 0 ∧ ∃ x, 0 ≤ x ∧ x < gI μ t 6 / 2 ∧ ¬ bd μ i x = bd μ i (gI μ t 6 - 1 - x))) := by
  obtain ⟨-, ⟨e6, a6, b6⟩, -⟩ := id hL
  intro n
  induction n with
  | zero => intro c h0 h1 h2; omega
  | succ n ih =>
    intro c h0 h1 h2 h3
    rw [fX0_isMirrored_l2, dvI_p a6 (by omega) (by decide) (by decide), wr_id (a := gI μ t 6 / 2) (by omega) (by omega), wr_id (a := c) (by omega) (by omega)]
    by_cases q : gI μ t 6 / 2 ≤ c
    · rw [if_pos q]
      exact ⟨1, rfl, Or.inl ⟨rfl, fun x x0 x1 => h3 x x0 (by omega)⟩⟩
    · rw [if_neg q, r_showB N hL hW i0 i1 h0 (by omega), ob_s, r_showB N hL hW i0 i1 (show 0 ≤ gI μ t 6 - 1 - c by omega) (by omega), ob_s, wr_bd, wr_bd]
      by_cases z : bd μ i c = bd μ i (gI μ t 6 - 1 - c)
      · rw [if_pos z]
        refine ih (c + 1) (by omega) (by omega) (by omega) (fun x x0 x1 => ?_)
        by_cases w : x = c
        · rw [w]; exact z
        · exact h3 x x0 (by omega)
      · rw [if_neg z]
        exact ⟨0, rfl, Or.inr ⟨rfl, c, h0, by omega, z⟩⟩
theorem mir_m (N : Nat) {μ : Mm} (hC : 0 ≤ gI μ 332 6 ∧ gI μ 332 6 ≤ 8) (hb : gZ μ 333 49 ≤ 24) {i : Int} (i0 : 0 ≤ i) (i1 : i < gZ μ 333 49) (a : Int) (rec : Int → Int → Option Int) : ∀ (n : Nat) (c f : Int), 0 ≤ c → c ≤ gI μ 332 6 → gI μ 332 6 - c < n → ((f = 1 ∧ ∀ x, 0 ≤ x → x < c → bd μ i x = bd μ i (gI μ 332 6 - 1 - x)) ∨ (f = 0 ∧ ∃ x, 0 ≤ x ∧ x < gI μ 332 6 ∧ ¬ bd μ i x = bd μ i (gI μ 332 6 - 1 - x))) → ∃ r, fX9_mirrored_l20 N μ a i rec n f c = fX9_mirrored_k69 N μ a i rec r ∧ ((r = 1 ∧ ∀ x, 0 ≤ x → x < gI μ 332 6 → bd μ i x = bd μ i (gI μ 332 6 - 1 - x)) ∨ (r = 0 ∧ ∃ x, 0 ≤ x ∧ x < gI μ 332 6 ∧ ¬ bd μ i x = bd μ i (gI μ 332 6 - 1 - x))) := by
  intro n
  induction n with
  | zero => intro c f h0 h1 h2; omega
  | succ n ih =>
    intro c f h0 h1 h2 h3
    rw [fX9_mirrored_l20, wr_gI, wr_id (a := c) (by omega) (by omega)]
    by_cases q : gI μ 332 6 ≤ c
    · rw [if_pos q]
      refine ⟨f, rfl, h3.imp (fun z => ⟨z.1, fun x x0 x1 => z.2 x x0 (by omega)⟩) id⟩
    · rw [if_neg q]
      rcases h3 with ⟨rfl, h3⟩ | ⟨rfl, h3⟩
      · rw [if_neg (by decide), p_wasB N μ hb i0 i1 h0 (by omega), ob_s, p_wasB N μ hb i0 i1 (show 0 ≤ gI μ 332 6 - 1 - c by omega) (by omega), ob_s, wr_bd, wr_bd]
        by_cases z : bd μ i c = bd μ i (gI μ 332 6 - 1 - c)
        · rw [if_pos z]
          refine ih (c + 1) 1 (by omega) (by omega) (by omega) (Or.inl ⟨rfl, fun x x0 x1 => ?_⟩)
          by_cases w : x = c
          · rw [w]; exact z
          · exact h3 x x0 (by omega)
        · rw [if_neg z]
          exact ih (c + 1) 0 (by omega) (by omega) (by omega) (Or.inr ⟨rfl, c, h0, by omega, z⟩)
      · rw [if_pos (by decide)]
        exact ih (c + 1) 0 (by omega) (by omega) (by omega) (Or.inr ⟨rfl, h3⟩)
theorem mir_half {C : Int} {f : Int → Int} (h : ∀ x, 0 ≤ x → x < C / 2 → f x = f (C - 1 - x)) : ∀ x, 0 ≤ x → x < C → f x = f (C - 1 - x) := by
  intro x x0 x1
  by_cases q : x < C / 2
  · exact h x x0 q
  · by_cases q2 : C - 1 - x < C / 2
    · have := h (C - 1 - x) (by omega) q2
      rw [show C - 1 - (C - 1 - x) = x by omega] at this
      exact this.symm
    · rw [show C - 1 - x = x by omega]
theorem mir_l (N : Nat) (hNB : NB N) {μ : Mm} {t : Nat} (hL : LoomR μ t) (hW : WR μ t 3 0) : ∀ (n : Nat) (i a : Int), 0 ≤ i → i ≤ gZ μ 333 49 → gZ μ 333 49 - i < n → ∃ r, fX0_countMirrored_l4 N 3 (gI μ t 6) μ n a i = some r ∧ fX9_mirrored_l4 N μ n a i = some r := by
  obtain ⟨-, ⟨e6, a6, b6⟩, -⟩ := id hL
  obtain ⟨hr, hb0, hb1⟩ := r_rows N hW
  have hN2 : 300 ≤ N := hNB
  intro n
  induction n with
  | zero => intro i a h0 h1 h2; omega
  | succ n ih =>
    intro i a h0 h1 h2
    rw [fX0_countMirrored_l4, fX9_mirrored_l4, hr, ob_s, ldA_ok (by decide) (by decide) (by decide), ob_s, wr_gZ, wr_id (a := i) (by omega) (by omega)]
    by_cases q : gZ μ 333 49 ≤ i
    · rw [if_pos q, if_pos q]
      exact ⟨a, rfl, rfl⟩
    · rw [if_neg q, if_neg q]
      obtain ⟨r, r1, r2⟩ := mir_x N hL hW h0 (show i < gZ μ 333 49 by omega) N 0 (by omega) (by omega) (by omega) (fun x x0 x1 => by omega)
      obtain ⟨s, s1, s2⟩ := mir_m N (μ := μ) (by omega) hb1 h0 (show i < gZ μ 333 49 by omega) a (fX9_mirrored_l4 N μ n) N 0 1 (by omega) (by omega) (by omega) (Or.inl ⟨rfl, fun x x0 x1 => by omega⟩)
      unfold fX0_isMirrored
      rw [r1, s1, ob_s]
      rw [e6] at s2
      unfold fX9_mirrored_k69 fX9_one
      rcases r2 with ⟨rfl, r2⟩ | ⟨rfl, r2⟩
      · rcases s2 with ⟨rfl, s2⟩ | ⟨rfl, s2⟩
        · rw [if_neg (by decide), if_neg (by decide), ob_s]
          exact ih (i + 1) (a + 1) (by omega) (by omega) (by omega)
        · obtain ⟨x, x0, x1, x2⟩ := s2
          exact absurd (mir_half r2 x x0 x1) x2
      · rcases s2 with ⟨rfl, s2⟩ | ⟨rfl, s2⟩
        · obtain ⟨x, x0, x1, x2⟩ := r2
          exact absurd (s2 x x0 (by omega)) x2
        · rw [if_pos (by decide), if_pos (by decide), ob_s, Int.add_zero]
          exact ih (i + 1) a (by omega) (by omega) (by omega)
theorem r_mir (N : Nat) (hNB : NB N) {μ : Mm} {t : Nat} (hL : LoomR μ t) (hW : WR μ t 3 0) : ∃ r, fX0_countMirrored N 3 (gI μ t 6) μ = some r ∧ fX9_mirrored N μ = some r := by
  obtain ⟨hr, hb0, hb1⟩ := r_rows N hW
  have hN2 : 300 ≤ N := hNB
  exact mir_l N hNB hL hW N 0 0 (by omega) (by omega) (by omega)
/-! period -/
def perP (μ : Mm) (C R p i : Int) : Prop := ∀ j, i ≤ j → j + p < R → ∀ c, 0 ≤ c → c < C → bd μ j c = bd μ (j + p) c
theorem per_xi (N : Nat) {μ : Mm} {t : Nat} (hL : LoomR μ t) (hW : WR μ t 3 0) {i p : Int} (i0 : 0 ≤ i) (p0 : 0 ≤ p) (i1 : i + p < gZ μ 333 49) (rec : Int → Option Int) : ∀ (n : Nat) (c : Int), 0 ≤ c → c ≤ gI μ t 6 → gI μ t 6 - c < n → (fX0_isPeriod_l15 N 3 (gI μ t 6) p μ i rec n c = rec (i + 1) ∧ ∀ x, c ≤ x → x < gI μ t 6 → bd μ i x = bd μ (i + p) x) ∨ (fX0_isPeriod_l15 N 3 (gI μ t 6) p μ i rec n c = some 0 ∧ ∃ x, c ≤ x ∧ x < gI μ t 6 ∧ ¬ bd μ i x = bd μ (i + p) x) := by
  obtain ⟨-, ⟨e6, a6, b6⟩, -⟩ := id hL
  intro n
  induction n with
  | zero => intro c h0 h1 h2; omega
  | succ n ih =>
    intro c h0 h1 h2
    rw [fX0_isPeriod_l15, wr_gI, wr_id (a := c) (by omega) (by omega)]
    by_cases q : gI μ t 6 ≤ c
    · rw [if_pos q]
      exact Or.inl ⟨rfl, fun x x0 x1 => by omega⟩
    · rw [if_neg q, r_showB N hL hW i0 (by omega) h0 (by omega), ob_s, r_showB N hL hW (show 0 ≤ i + p by omega) i1 h0 (by omega), ob_s, wr_bd, wr_bd]
      by_cases z : bd μ i c = bd μ (i + p) c
      · rw [if_pos z]
        rcases ih (c + 1) (by omega) (by omega) (by omega) with ⟨y1, y2⟩ | ⟨y1, x, x0, x1, x2⟩
        · refine Or.inl ⟨y1, fun x x0 x1 => ?_⟩
          by_cases w : x = c
          · rw [w]; exact z
          · exact y2 x (by omega) x1
        · exact Or.inr ⟨y1, x, by omega, x1, x2⟩
      · rw [if_neg z]
        exact Or.inr ⟨rfl, c, by omega, by omega, z⟩
theorem per_x (N : Nat) (hNB : NB N) {μ : Mm} {t : Nat} (hL : LoomR μ t) (hW : WR μ t 3 0) {p : Int} (p0 : 0 ≤ p) (p1 : p ≤ 24) : ∀ (n : Nat) (i : Int), 0 ≤ i → i ≤ gZ μ 333 49 → gZ μ 333 49 - i < n → ∃ r, fX0_isPeriod_l2 N 3 (gI μ t 6) p μ n i = some r ∧ ((r = 1 ∧ perP μ (gI μ t 6) (gZ μ 333 49) p i) ∨ (r = 0 ∧ ¬ perP μ (gI μ t 6) (gZ μ 333 49) p i)) := by
  obtain ⟨-, ⟨e6, a6, b6⟩, -⟩ := id hL
  obtain ⟨hr, hb0, hb1⟩ := r_rows N hW
  have hN2 : 300 ≤ N := hNB
  intro n
  induction n with
  | zero => intro i h0 h1 h2; omega
  | succ n ih =>
    intro i h0 h1 h2
    rw [fX0_isPeriod_l2, hr, ob_s, wr_gZ, wr_id (a := i + p) (by omega) (by omega)]
    by_cases q : gZ μ 333 49 ≤ i + p
    · rw [if_pos q]
      exact ⟨1, rfl, Or.inl ⟨rfl, fun j j0 j1 => by omega⟩⟩
    · rw [if_neg q]
      rcases per_xi N hL hW h0 p0 (show i + p < gZ μ 333 49 by omega) (fX0_isPeriod_l2 N 3 (gI μ t 6) p μ n) N 0 (by omega) (by omega) (by omega) with ⟨y1, y2⟩ | ⟨y1, x, x0, x1, x2⟩
      · rw [y1]
        obtain ⟨r, r1, r2⟩ := ih (i + 1) (by omega) (by omega) (by omega)
        refine ⟨r, r1, r2.imp (fun z => ⟨z.1, fun j j0 j1 c c0 c1 => ?_⟩) (fun z => ⟨z.1, fun w => z.2 (fun j j0 j1 => w j (by omega) j1)⟩)⟩
        by_cases w : j = i
        · rw [w]; exact y2 c c0 c1
        · exact z.2 j (by omega) j1 c c0 c1
      · rw [y1]
        exact ⟨0, rfl, Or.inr ⟨rfl, fun w => x2 (w i (by omega) (by omega) x x0 x1)⟩⟩
theorem per_mi (N : Nat) {μ : Mm} (hC : 0 ≤ gI μ 332 6 ∧ gI μ 332 6 ≤ 8) (hb : gZ μ 333 49 ≤ 24) {i p : Int} (i0 : 0 ≤ i) (p0 : 0 ≤ p) (i1 : i + p < gZ μ 333 49) (rec : Int → Int → Option Int) : ∀ (n : Nat) (c f : Int), 0 ≤ c → c ≤ gI μ 332 6 → gI μ 332 6 - c < n → (f = 0 ∨ f = 1) → ∃ r, fX9_isPeriod_l20 N p μ i rec n f c = rec r (i + 1) ∧ (r = 0 ∨ r = 1) ∧ (r = 1 ↔ (f = 1 ∧ ∀ x, c ≤ x → x < gI μ 332 6 → bd μ i x = bd μ (i + p) x)) := by
  intro n
  induction n with
  | zero => intro c f h0 h1 h2; omega
  | succ n ih =>
    intro c f h0 h1 h2 h3
    rw [fX9_isPeriod_l20, wr_gI, wr_id (a := c) (by omega) (by omega)]
    by_cases q : gI μ 332 6 ≤ c
    · rw [if_pos q]
      exact ⟨f, rfl, h3, fun z => ⟨z, fun x x0 x1 => by omega⟩, fun z => z.1⟩
    · rw [if_neg q]
      rcases h3 with rfl | rfl
      · rw [if_pos (by decide)]
        obtain ⟨r, r1, r2, r3⟩ := ih (c + 1) 0 (by omega) (by omega) (by omega) (Or.inl rfl)
        refine ⟨r, r1, r2, fun z => absurd (r3.1 z).1 (by decide), fun z => absurd z.1 (by decide)⟩
      · rw [if_neg (by decide), p_wasB N μ hb i0 (by omega) h0 (by omega), ob_s, p_wasB N μ hb (show 0 ≤ i + p by omega) i1 h0 (by omega), ob_s, wr_bd, wr_bd]
        by_cases z : bd μ i c = bd μ (i + p) c
        · rw [if_pos z]
          obtain ⟨r, r1, r2, r3⟩ := ih (c + 1) 1 (by omega) (by omega) (by omega) (Or.inr rfl)
          refine ⟨r, r1, r2, fun y => ⟨rfl, fun x x0 x1 => ?_⟩, fun y => r3.2 ⟨rfl, fun x x0 x1 => y.2 x (by omega) x1⟩⟩
          by_cases w : x = c
          · rw [w]; exact z
          · exact (r3.1 y).2 x (by omega) x1
        · rw [if_neg z]
          obtain ⟨r, r1, r2, r3⟩ := ih (c + 1) 0 (by omega) (by omega) (by omega) (Or.inl rfl)
          exact ⟨r, r1, r2, fun y => absurd (r3.1 y).1 (by decide), fun y => absurd (y.2 c (by omega) (by omega)) z⟩
theorem per_m (N : Nat) (hNB : NB N) {μ : Mm} (hC : 0 ≤ gI μ 332 6 ∧ gI μ 332 6 ≤ 8) (hb : 0 ≤ gZ μ 333 49 ∧ gZ μ 333 49 ≤ 24) {p : Int} (p0 : 0 ≤ p) (p1 : p ≤ 24) : ∀ (n : Nat) (i f : Int), 0 ≤ i → i ≤ gZ μ 333 49 → gZ μ 333 49 - i < n → (f = 0 ∨ f = 1) → ∃ r, fX9_isPeriod_l4 N p μ n f i = some r ∧ (r = 0 ∨ r = 1) ∧ (r = 1 ↔ (f = 1 ∧ perP μ (gI μ 332 6) (gZ μ 333 49) p i)) := by
  have hN2 : 300 ≤ N := hNB
  intro n
  induction n with
  | zero => intro i f h0 h1 h2; omega
  | succ n ih =>
    intro i f h0 h1 h2 h3
    rw [fX9_isPeriod_l4, ldA_ok (by decide) (by decide) (by decide), ob_s, wr_gZ, wr_id (a := i + p) (by omega) (by omega)]
    by_cases q : gZ μ 333 49 ≤ i + p
    · rw [if_pos q, gd_p h3]
      exact ⟨f, rfl, h3, fun z => ⟨z, fun j j0 j1 => by omega⟩, fun z => z.1⟩
    · rw [if_neg q]
      obtain ⟨r, r1, r2, r3⟩ := per_mi N hC hb.2 h0 p0 (show i + p < gZ μ 333 49 by omega) (fX9_isPeriod_l4 N p μ n) N 0 f (by omega) (by omega) (by omega) h3
      rw [r1]
      obtain ⟨s, s1, s2, s3⟩ := ih (i + 1) r (by omega) (by omega) (by omega) r2
      refine ⟨s, s1, s2, fun z => ?_, fun z => ?_⟩
      · have y := s3.1 z
        have y2 := r3.1 y.1
        refine ⟨y2.1, fun j j0 j1 c c0 c1 => ?_⟩
        by_cases w : j = i
        · rw [w]; exact y2.2 c c0 c1
        · exact y.2 j (by omega) j1 c c0 c1
      · exact s3.2 ⟨r3.2 ⟨z.1, fun x x0 x1 => z.2 i (by omega) (by omega) x x0 x1⟩, fun j j0 j1 => z.2 j (by omega) j1⟩
theorem per_l (N : Nat) (hNB : NB N) {μ : Mm} {t : Nat} (hL : LoomR μ t) (hW : WR μ t 3 0) : ∀ (n : Nat) (p : Int), 1 ≤ p → p ≤ gZ μ 333 49 → gZ μ 333 49 - p < n → ∃ r, fX0_findPeriod_l7 N 3 (gI μ t 6) μ (gZ μ 333 49) n p = some r ∧ fX9_period_l16 N μ n p = some r := by
  obtain ⟨-, ⟨e6, a6, b6⟩, -⟩ := id hL
  obtain ⟨hr, hb0, hb1⟩ := r_rows N hW
  have hN2 : 300 ≤ N := hNB
  intro n
  induction n with
  | zero => intro p h0 h1 h2; omega
  | succ n ih =>
    intro p h0 h1 h2
    obtain ⟨s, s1, s2, s3⟩ := per_m N hNB (μ := μ) (by omega) ⟨hb0, hb1⟩ (show 0 ≤ p by omega) (by omega) N 0 1 (by omega) (by omega) (by omega) (Or.inr rfl)
    rw [e6] at s3
    rw [fX0_findPeriod_l7, fX9_period_l16, wr_gZ, wr_id (a := p) (by omega) (by omega), if_neg (show ¬ p ≤ 0 by omega)]
    unfold fX9_isPeriod
    rw [s1, ob_s]
    by_cases q : gZ μ 333 49 ≤ p
    · rw [if_pos q]
      have : s = 1 := s3.2 ⟨rfl, fun j j0 j1 => by omega⟩
      rw [this, if_neg (by decide)]
      exact ⟨_, rfl, by congr 1; omega⟩
    · rw [if_neg q]
      obtain ⟨r, r1, r2⟩ := per_x N hNB hL hW (show 0 ≤ p by omega) (by omega) N 0 (by omega) (by omega) (by omega)
      unfold fX0_isPeriod
      rw [r1, ob_s]
      rcases r2 with ⟨rfl, r2⟩ | ⟨rfl, r2⟩
      · have : s = 1 := s3.2 ⟨rfl, r2⟩
        rw [this, if_neg (by decide), if_neg (by decide)]
        exact ⟨p, rfl, rfl⟩
      · have : s = 0 := s2.resolve_right (fun z => r2 (s3.1 z).2)
        rw [this, if_pos (by decide), if_pos (by decide)]
        exact ih (p + 1) (by omega) (by omega) (by omega)
theorem r_per (N : Nat) (hNB : NB N) {μ : Mm} {t : Nat} (hL : LoomR μ t) (hW : WR μ t 3 0) : ∃ r, fX0_findPeriod N 3 (gI μ t 6) μ = some r ∧ fX9_period N μ = some r := by
  obtain ⟨hr, hb0, hb1⟩ := r_rows N hW
  have hN2 : 300 ≤ N := hNB
  unfold fX0_findPeriod fX9_period fX9_period_j15
  rw [hr, ob_s, ldA_ok (by decide) (by decide) (by decide), ob_s, wr_gZ]
  by_cases q : gZ μ 333 49 = 0
  · rw [if_pos q]
    obtain ⟨m, rfl⟩ : ∃ m, N = m + 1 := ⟨N - 1, by omega⟩
    rw [fX0_findPeriod_l7, fX9_period_l16, wr_gZ, if_pos (by rw [q]; decide), if_pos (by decide), q]
    exact ⟨0, rfl, rfl⟩
  · rw [if_neg q]
    exact per_l N hNB hL hW N 1 (by omega) (by omega) (by omega)
/-! longest, most, all yarn -/
theorem lng_l (N : Nat) (hNB : NB N) {μ : Mm} {t : Nat} (hL : LoomR μ t) (hW : WR μ t 3 0) (hp : 0 < gZ μ 333 49) : ∀ (n : Nat) (c b m : Int), 0 ≤ c → c ≤ gI μ t 6 → gI μ t 6 - c < n → -1 ≤ m → m ≤ 24 → ∃ r, fX0_findLongest_l16 N 3 (gI μ t 6) μ n b m c = some r ∧ fX9_longest_l6 N μ n b m c = some r := by
  obtain ⟨-, ⟨e6, a6, b6⟩, -⟩ := id hL
  obtain ⟨hr, hb0, hb1⟩ := r_rows N hW
  intro n
  induction n with
  | zero => intro c b m h0 h1 h2; omega
  | succ n ih =>
    intro c b m h0 h1 h2 h3 h4
    rw [fX0_findLongest_l16, fX9_longest_l6, e6, wr_gI, wr_id (a := c) (by omega) (by omega), ldA_ok (by decide) (by decide) (by decide), ob_s, wr_gZ]
    by_cases q : gI μ t 6 ≤ c
    · rw [if_pos q, if_pos q]; exact ⟨b, rfl, rfl⟩
    · rw [if_neg q, if_neg q, if_neg (by omega)]
      obtain ⟨r, r1, r2, r3, r4⟩ := r_float N hNB hL hW h0 (show c < gI μ t 6 by omega)
      rw [r1, r2, ob_s, ob_s, wr_id (a := r) (by omega) (by omega), wr_id (a := m) (by omega) (by omega)]
      unfold fX9_longest_j42 fX9_most
      rw [wr_id (a := r) (by omega) (by omega), wr_id (a := m) (by omega) (by omega)]
      by_cases z : r ≤ m
      · rw [if_pos z, if_pos z, if_pos z, ob_s]
        exact ih (c + 1) b m (by omega) (by omega) (by omega) h3 h4
      · rw [if_neg z, if_neg z, if_neg z, ob_s]
        exact ih (c + 1) c r (by omega) (by omega) (by omega) (by omega) r4
theorem r_lng (N : Nat) (hNB : NB N) {μ : Mm} {t : Nat} (hL : LoomR μ t) (hW : WR μ t 3 0) : ∃ r, fX0_findLongest N 3 (gI μ t 6) μ = some r ∧ fX9_longest N μ = some r := by
  obtain ⟨hr, hb0, hb1⟩ := r_rows N hW
  obtain ⟨-, ⟨e6, a6, b6⟩, -⟩ := id hL
  have hN2 : 300 ≤ N := hNB
  unfold fX0_findLongest fX9_longest
  rw [hr, ob_s, wr_gZ]
  by_cases q : gZ μ 333 49 = 0
  · rw [if_pos q]
    obtain ⟨m, rfl⟩ : ∃ m, N = m + 1 := ⟨N - 1, by omega⟩
    rw [fX9_longest_l6, ldA_ok (by decide) (by decide) (by decide), ob_s, wr_gZ, if_pos (show gZ μ 333 49 ≤ 0 by omega)]
    refine ⟨-1, rfl, ?_⟩
    by_cases z : wr (gI μ 332 6) ≤ wr 0
    · rw [if_pos z]
    · rw [if_neg z]
  · rw [if_neg q]
    exact lng_l N hNB hL hW (by omega) N 0 (-1) (-1) (by omega) (by omega) (by omega) (by decide) (by decide)
theorem most_l (N : Nat) (hNB : NB N) {μ : Mm} {t : Nat} (hL : LoomR μ t) (hW : WR μ t 3 0) : ∀ (n : Nat) (k b m : Int), 0 ≤ k → k ≤ gI μ t 5 → gI μ t 5 - k < n → 0 ≤ m → m ≤ 192 → ∃ r, fX0_findMost_l7 N 3 t μ n b m k = some r ∧ fX9_mostShown_l6 N μ n b m k = some r := by
  obtain ⟨⟨e5, a5, b5⟩, ⟨e6, a6, b6⟩, -⟩ := id hL
  intro n
  induction n with
  | zero => intro k b m h0 h1 h2; omega
  | succ n ih =>
    intro k b m h0 h1 h2 h3 h4
    rw [fX0_findMost_l7, fX9_mostShown_l6, e5, wr_gI, wr_id (a := k) (by omega) (by omega)]
    by_cases q : gI μ t 5 ≤ k
    · rw [if_pos q, if_pos q]; exact ⟨b, rfl, rfl⟩
    · rw [if_neg q, if_neg q]
      obtain ⟨r, r1, r2, r3, r4⟩ := r_shown N hNB hL hW k
      rw [r1, r2, ob_s, ob_s, wr_id (a := r) (by omega) (by omega), wr_id (a := m) (by omega) (by omega)]
      unfold fX9_mostShown_j32 fX9_most
      rw [wr_id (a := r) (by omega) (by omega), wr_id (a := m) (by omega) (by omega)]
      by_cases z : r ≤ m
      · rw [if_pos z, if_pos z, if_pos z, ob_s]
        exact ih (k + 1) b m (by omega) (by omega) (by omega) h3 h4
      · rw [if_neg z, if_neg z, if_neg z, ob_s]
        exact ih (k + 1) k r (by omega) (by omega) (by omega) r3 r4
theorem r_most (N : Nat) (hNB : NB N) {μ : Mm} {t : Nat} (hL : LoomR μ t) (hW : WR μ t 3 0) : ∃ r, fX0_findMost N 3 t μ = some r ∧ fX9_mostShown N μ = some r := by
  obtain ⟨⟨e5, a5, b5⟩, ⟨e6, a6, b6⟩, -⟩ := id hL
  have hN2 : 300 ≤ N := hNB
  exact most_l N hNB hL hW N 0 (-1) 0 (by omega) (by omega) (by omega) (by decide) (by decide)
theorem sumZ (N : Nat) {μ : Mm} {K : Int} (hK : 0 ≤ K) (hz : ∀ k, K ≤ k → k < 8 → gZ μ 333 (40 + k) = 0) : ∀ (n : Nat) (k a : Int), K ≤ k → k ≤ 8 → 8 - k < n → fX9_allYarn_l4 N μ n a k = some a := by
  intro n
  induction n with
  | zero => intro k a h0 h1 h2; omega
  | succ n ih =>
    intro k a h0 h1 h2
    rw [fX9_allYarn_l4, wr_id (a := k) (by omega) (by omega)]
    by_cases q : 8 ≤ k
    · rw [if_pos q]
    · rw [if_neg q, ldA_ok (by omega) (by omega) (by omega), ob_s, hz k h0 (by omega), Int.add_zero]
      exact ih (k + 1) a (by omega) (by omega) (by omega)
theorem sum_l (N : Nat) {μ : Mm} {t : Nat} (hL : LoomR μ t) (hW : WR μ t 3 0) : ∀ (n : Nat) (k a : Int), 0 ≤ k → k ≤ gI μ t 5 → 8 - k < n → ∃ r, fX7_sumYarn_l4 N 3 (gI μ t 5) μ n a k = some r ∧ fX9_allYarn_l4 N μ n a k = some r := by
  obtain ⟨⟨e5, a5, b5⟩, ⟨e6, a6, b6⟩, -⟩ := id hL
  intro n
  induction n with
  | zero => intro k a h0 h1 h2; omega
  | succ n ih =>
    intro k a h0 h1 h2
    by_cases q : gI μ t 5 ≤ k
    · refine ⟨a, ?_, sumZ N a5 (fun j j0 j1 => hW.yz j0 j1) (n + 1) k a q (by omega) h2⟩
      rw [fX7_sumYarn_l4, wr_gI, wr_id (a := k) (by omega) (by omega), if_pos q]
    · have h3 := hW.ya h0 (show k < gI μ t 5 by omega)
      rw [fX7_sumYarn_l4, fX9_allYarn_l4, wr_gI, wr_id (a := k) (by omega) (by omega), if_neg q, if_neg (by omega), if_neg (by omega), ldA_ok (by omega) (by omega) (by omega), ldA_ok (by omega) (by omega) (by omega), ob_s, ob_s, show (3 + 6 : Nat) = 9 from rfl, h3.1]
      exact ih (k + 1) _ (by omega) (by omega) (by omega)
theorem okp_told (N : Nat) (hNB : NB N) : ok_told N Inv := by
  intro μ w hw hI
  obtain ⟨t, u, hT, hL, hW, hU, hG, hN, hX, hS⟩ := id hI
  obtain ⟨⟨e5, a5, b5⟩, ⟨e6, a6, b6⟩, ⟨e7, a7, b7⟩, -⟩ := id hL
  obtain ⟨hr, hb0, hb1⟩ := r_rows N hW
  have hN2 : 300 ≤ N := hNB
  have hpk := hW.pk
  unfold fX8_told fX9_told
  simp only [wr_id hw.1 hw.2, hT.t, gd_p hT.kt]
  by_cases w0 : w = 0
  · rw [if_pos w0, if_pos w0]; exact ⟨_, _, rfl, rfl, congrArg wr e5.symm, hI⟩
  rw [if_neg w0, if_neg w0]
  by_cases w1 : w = 1
  · rw [if_pos w1, if_pos w1]; exact ⟨_, _, rfl, rfl, congrArg wr e6.symm, hI⟩
  rw [if_neg w1, if_neg w1]
  by_cases w2 : w = 2
  · rw [if_pos w2, if_pos w2]; exact ⟨_, _, rfl, rfl, congrArg wr e7.symm, hI⟩
  rw [if_neg w2, if_neg w2]
  by_cases w3 : w = 3
  · rw [if_pos w3, if_pos w3]; exact ⟨_, _, rfl, rfl, congrArg wr hX.1.1, hI⟩
  rw [if_neg w3, if_neg w3]
  by_cases w4 : w = 4
  · rw [if_pos w4, if_pos w4, ldA_ok (by decide) (by decide) (by decide), ob_s]; exact ⟨_, _, rfl, rfl, congrArg wr hpk.1, hI⟩
  rw [if_neg w4, if_neg w4]
  by_cases w5 : w = 5
  · rw [if_pos w5, if_pos w5, ldA_ok (by decide) (by decide) (by decide), ob_s, hr, ob_s]; exact ⟨_, _, rfl, rfl, rfl, hI⟩
  rw [if_neg w5, if_neg w5]
  by_cases w6 : w = 6
  · obtain ⟨r, r1, r2⟩ := r_mir N hNB hL hW
    rw [if_pos w6, if_pos w6, r1, r2, ob_s]; exact ⟨_, _, rfl, rfl, rfl, hI⟩
  rw [if_neg w6, if_neg w6]
  by_cases w7 : w = 7
  · obtain ⟨r, r1, r2⟩ := r_per N hNB hL hW
    rw [if_pos w7, if_pos w7, r1, r2, ob_s]; exact ⟨_, _, rfl, rfl, rfl, hI⟩
  rw [if_neg w7, if_neg w7]
  by_cases w8 : w = 8
  · obtain ⟨r, r1, r2⟩ := r_lng N hNB hL hW
    rw [if_pos w8, if_pos w8, r1, r2, ob_s]; exact ⟨_, _, rfl, rfl, rfl, hI⟩
  rw [if_neg w8, if_neg w8]
  by_cases w9 : w = 9
  · obtain ⟨r, r1, r2⟩ := r_most N hNB hL hW
    rw [if_pos w9, if_pos w9, r1, r2, ob_s]; exact ⟨_, _, rfl, rfl, rfl, hI⟩
  rw [if_neg w9, if_neg w9]
  by_cases w10 : w = 10
  · obtain ⟨r, r1, r2⟩ := sum_l N hL hW N 0 0 (by omega) (by omega) (by omega)
    unfold fX7_sumYarn fX9_allYarn
    rw [if_pos w10, if_pos w10, r1, r2, ob_s]; exact ⟨_, _, rfl, rfl, rfl, hI⟩
  rw [if_neg w10, if_neg w10]
  by_cases w11 : w = 11
  · rw [if_pos w11, if_pos w11]; exact ⟨_, _, rfl, rfl, congrArg wr hN.1.1, hI⟩
  rw [if_neg w11, if_neg w11]
  by_cases w12 : w = 12
  · rw [if_pos w12, if_pos w12]; exact ⟨_, _, rfl, rfl, congrArg wr hN.2.1.1, hI⟩
  rw [if_neg w12, if_neg w12]
  by_cases w13 : w = 13
  · rw [if_pos w13, if_pos w13]; exact ⟨_, _, rfl, rfl, congrArg wr hU.2.1.1, hI⟩
  rw [if_neg w13, if_neg w13]
  exact ⟨_, _, rfl, rfl, rfl, hI⟩
