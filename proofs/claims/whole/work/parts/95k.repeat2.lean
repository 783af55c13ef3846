/-! repeat, the reckoning of the notes -/
theorem sameC_1 (μ : Mm) (c : Int) : sameC μ 1 c ↔ (gZ μ 335 (4 * c + 0) = gZ μ 335 (4 * c + 1) ∧ gZ μ 335 (4 * c + 1) = gZ μ 335 (4 * c + 2) ∧ gZ μ 335 (4 * c + 2) = gZ μ 335 (4 * c + 3)) := by
  constructor
  · intro h
    exact ⟨h 0 (by decide) (by decide), h 1 (by decide) (by decide), h 2 (by decide) (by decide)⟩
  · rintro ⟨h1, h2, h3⟩ x x0 x1
    rcases (show x = 0 ∨ x = 1 ∨ x = 2 ∨ x = 3 by omega) with rfl | rfl | rfl | rfl
    · exact h1
    · exact h2
    · exact h3
    · exact (h1.trans (h2.trans h3)).symm
theorem sameC_2 (μ : Mm) (c : Int) : sameC μ 2 c ↔ (gZ μ 335 (4 * c + 0) = gZ μ 335 (4 * c + 2) ∧ gZ μ 335 (4 * c + 1) = gZ μ 335 (4 * c + 3)) := by
  constructor
  · intro h
    exact ⟨h 0 (by decide) (by decide), h 1 (by decide) (by decide)⟩
  · rintro ⟨h1, h2⟩ x x0 x1
    rcases (show x = 0 ∨ x = 1 ∨ x = 2 ∨ x = 3 by omega) with rfl | rfl | rfl | rfl
    · exact h1
    · exact h2
    · exact h1.symm
    · exact h2.symm
def rR (r : Int) (A P : Prop) : Prop := (r = 1 ∧ A) ∨ (r = 2 ∧ ¬ A ∧ P) ∨ (r = 4 ∧ ¬ A ∧ ¬ P)
theorem rR_c {r : Int} {A P A2 P2 : Prop} (h : rR r A P) (ha : A ↔ A2) (hp : P ↔ P2) : rR r A2 P2 := by
  unfold rR at *; rw [← ha, ← hp]; exact h
theorem all_s {C c a a2 : Int} {S : Int → Prop} (hc : c < C) (h : a2 = 1 ↔ (a = 1 ∧ S c)) : (a2 = 1 ∧ ∀ x, c + 1 ≤ x → x < C → S x) ↔ (a = 1 ∧ ∀ x, c ≤ x → x < C → S x) := by
  rw [h]
  constructor
  · rintro ⟨⟨h1, h2⟩, h3⟩
    refine ⟨h1, fun x x0 x1 => ?_⟩
    by_cases q : x = c
    · rw [q]; exact h2
    · exact h3 x (by omega) x1
  · rintro ⟨h1, h2⟩
    exact ⟨⟨h1, h2 c (by omega) hc⟩, fun x x0 x1 => h2 x (by omega) x1⟩
theorem rep_m (N : Nat) {μ : Mm} (hC : gI μ 332 6 ≤ 8) : ∀ (n : Nat) (a p c : Int), (a = 0 ∨ a = 1) → (p = 0 ∨ p = 1) → (a = 1 → p = 1) → 0 ≤ c → c ≤ gI μ 332 6 → gI μ 332 6 - c < n → ∃ r, fX9_repeat_l16 N μ n a p c = some r ∧ rR r (a = 1 ∧ ∀ x, c ≤ x → x < gI μ 332 6 → sameC μ 1 x) (p = 1 ∧ ∀ x, c ≤ x → x < gI μ 332 6 → sameC μ 2 x) := by
  intro n
  induction n with
  | zero => intro a p c _ _ _ _ _ h; omega
  | succ n ih =>
    intro a p c ha hp hap c0 c1 hn
    rw [fX9_repeat_l16, wr_gI, wr_id (a := c) (by omega) (by omega)]
    by_cases q : gI μ 332 6 ≤ c
    · rw [if_pos q]
      unfold fX9_repeat_k99
      have v1 : ∀ S : Int → Prop, ∀ x, c ≤ x → x < gI μ 332 6 → S x := fun S x x0 x1 => by omega
      rcases ha with rfl | rfl
      · rcases hp with rfl | rfl
        · exact ⟨4, rfl, Or.inr (Or.inr ⟨rfl, fun z => absurd z.1 (by decide), fun z => absurd z.1 (by decide)⟩)⟩
        · exact ⟨2, rfl, Or.inr (Or.inl ⟨rfl, fun z => absurd z.1 (by decide), rfl, v1 _⟩)⟩
      · exact ⟨1, rfl, Or.inl ⟨rfl, rfl, v1 _⟩⟩
    · rw [if_neg q]
      have s1 := sameC_1 μ c
      have s2 := sameC_2 μ c
      have key : ∀ p2, (p2 = 0 ∨ p2 = 1) → (p2 = 1 ↔ (p = 1 ∧ sameC μ 2 c)) → ∃ r, fX9_repeat_j63 N μ a c (fX9_repeat_l16 N μ n) p2 = some r ∧ rR r (a = 1 ∧ ∀ x, c ≤ x → x < gI μ 332 6 → sameC μ 1 x) (p = 1 ∧ ∀ x, c ≤ x → x < gI μ 332 6 → sameC μ 2 x) := by
        intro p2 hp2 e2
        have go : ∀ a2, (a2 = 0 ∨ a2 = 1) → (a2 = 1 ↔ (a = 1 ∧ sameC μ 1 c)) → ∃ r, fX9_repeat_l16 N μ n a2 p2 (c + 1) = some r ∧ rR r (a = 1 ∧ ∀ x, c ≤ x → x < gI μ 332 6 → sameC μ 1 x) (p = 1 ∧ ∀ x, c ≤ x → x < gI μ 332 6 → sameC μ 2 x) := by
          intro a2 ha2 e1
          obtain ⟨r, r1, r2⟩ := ih a2 p2 (c + 1) ha2 hp2 (fun z => by
            rw [e2]
            have := e1.1 z
            refine ⟨hap this.1, ?_⟩
            rw [s2]; rw [s1] at this
            exact ⟨this.2.1.trans this.2.2.1, this.2.2.1.trans this.2.2.2⟩) (by omega) (by omega) (by omega)
          exact ⟨r, r1, rR_c r2 (all_s (by omega) e1) (all_s (by omega) e2)⟩
        unfold fX9_repeat_j63
        by_cases za : a = 0
        · rw [if_pos (by rw [za]; decide)]
          exact go 0 (Or.inl rfl) ⟨fun z => absurd z (by decide), fun z => absurd z.1 (by omega)⟩
        · have a1 : a = 1 := by omega
          rw [if_neg (by rw [a1]; decide)]
          by_cases zp : p2 = 0
          · rw [if_pos (by rw [zp]; decide)]
            refine go 0 (Or.inl rfl) ⟨fun z => absurd z (by decide), fun z => ?_⟩
            have : p2 = 1 := by
              rw [e2]
              refine ⟨hap a1, ?_⟩
              have w := z.2
              rw [s2]; rw [s1] at w
              exact ⟨w.1.trans w.2.1, w.2.1.trans w.2.2⟩
            omega
          · have p1 : p2 = 1 := by omega
            rw [if_neg (by rw [p1]; decide), p_colourOf N 0 μ c0 (by omega), ob_s, p_colourOf N 1 μ c0 (by omega), ob_s, wr_gZ, wr_gZ]
            have w := (e2.1 p1).2
            rw [s2] at w
            by_cases z : gZ μ 335 (4 * c + 0 % 4) = gZ μ 335 (4 * c + 1 % 4)
            · rw [if_pos z]
              refine go 1 (Or.inr rfl) ⟨fun _ => ⟨a1, ?_⟩, fun _ => rfl⟩
              rw [s1]
              have z' : gZ μ 335 (4 * c + 0) = gZ μ 335 (4 * c + 1) := z
              exact ⟨z', z'.symm.trans w.1, w.1.symm.trans (z'.trans w.2)⟩
            · rw [if_neg z]
              refine go 0 (Or.inl rfl) ⟨fun y => absurd y (by decide), fun y => ?_⟩
              have y2 := y.2
              rw [s1] at y2
              exact absurd y2.1 z
      by_cases zp : p = 0
      · rw [if_pos (by rw [zp]; decide)]
        exact key 0 (Or.inl rfl) ⟨fun z => absurd z (by decide), fun z => absurd z.1 (by omega)⟩
      · have p1 : p = 1 := by omega
        rw [if_neg (by rw [p1]; decide), p_colourOf N 0 μ c0 (by omega), ob_s, p_colourOf N 2 μ c0 (by omega), ob_s, wr_gZ, wr_gZ]
        by_cases z : gZ μ 335 (4 * c + 0 % 4) = gZ μ 335 (4 * c + 2 % 4)
        · rw [if_pos z, p_colourOf N 1 μ c0 (by omega), ob_s, p_colourOf N 3 μ c0 (by omega), ob_s, wr_gZ, wr_gZ]
          by_cases y : gZ μ 335 (4 * c + 1 % 4) = gZ μ 335 (4 * c + 3 % 4)
          · rw [if_pos y]
            exact key 1 (Or.inr rfl) ⟨fun _ => ⟨p1, s2.2 ⟨z, y⟩⟩, fun _ => rfl⟩
          · rw [if_neg y]
            exact key 0 (Or.inl rfl) ⟨fun x => absurd x (by decide), fun x => absurd (s2.1 x.2).2 y⟩
        · rw [if_neg z]
          exact key 0 (Or.inl rfl) ⟨fun x => absurd x (by decide), fun x => absurd (s2.1 x.2).1 z⟩
theorem okp_repeat (N : Nat) (hNB : NB N) : ok_repeat N Inv := by
  intro μ hI
  obtain ⟨t, u, hT, hL, hW, hU, hG, hN, hX, hS⟩ := id hI
  have hN2 : 300 ≤ N := hNB
  obtain ⟨e2, ⟨e6, a6, b6⟩, -⟩ := id hL
  unfold fX8_repeat fX9_repeat
  rw [hT.t, gd_p hT.kt, p_isMade, p_isLoom, ob_s, ob_s, e2.1]
  by_cases q : 0 < gI μ t 5
  · rw [if_pos q, if_neg (by decide), if_neg (by decide)]
    obtain ⟨r, r1, r2⟩ := rep_m N (μ := μ) (by omega) N 1 1 0 (Or.inr rfl) (Or.inr rfl) (fun _ => rfl) (by omega) (by omega) (by omega)
    obtain ⟨s1, p1, p2⟩ := r_same N hNB hL (y := 1) (by decide)
    obtain ⟨s2, p3, p4⟩ := r_same N hNB hL (y := 2) (by decide)
    rw [p1, ob_s, p3, ob_s, r1]
    have k1 : (1 = (1 : Int) ∧ ∀ x, 0 ≤ x → x < gI μ 332 6 → sameC μ 1 x) ↔ (∀ x, 0 ≤ x → x < gI μ t 6 → sameC μ 1 x) := by rw [e6]; exact ⟨fun z => z.2, fun z => ⟨rfl, z⟩⟩
    have k2 : (1 = (1 : Int) ∧ ∀ x, 0 ≤ x → x < gI μ 332 6 → sameC μ 2 x) ↔ (∀ x, 0 ≤ x → x < gI μ t 6 → sameC μ 2 x) := by rw [e6]; exact ⟨fun z => z.2, fun z => ⟨rfl, z⟩⟩
    have r3 := rR_c r2 k1 k2
    rcases p2 with ⟨rfl, w1⟩ | ⟨rfl, w1⟩
    · rcases r3 with ⟨rfl, -⟩ | ⟨-, n1, -⟩ | ⟨-, n1, -⟩
      · exact ⟨1, 1, rfl, rfl, rfl, hI⟩
      · exact absurd w1 n1
      · exact absurd w1 n1
    · rcases r3 with ⟨-, n1⟩ | ⟨rfl, -, n2⟩ | ⟨rfl, -, n2⟩
      · exact absurd n1 w1
      · rcases p4 with ⟨rfl, w2⟩ | ⟨rfl, w2⟩
        · exact ⟨2, 2, rfl, rfl, rfl, hI⟩
        · exact absurd n2 w2
      · rcases p4 with ⟨rfl, w2⟩ | ⟨rfl, w2⟩
        · exact absurd w2 n2
        · exact ⟨4, 4, rfl, rfl, rfl, hI⟩
  · rw [if_neg q, if_pos (by decide), if_pos (by decide)]
    exact ⟨_, _, rfl, rfl, rfl, hI⟩
