/-! THE RELATION of the two: what the class' cells and the reference's hold alike -/
/-- the loom as told: t is the class' Threading -/
def LoomR (μ : Mm) (t : Nat) : Prop :=
  (gI μ 332 2 = gI μ t 5 ∧ 0 ≤ gI μ t 5 ∧ gI μ t 5 ≤ 8) ∧ (gI μ 332 6 = gI μ t 6 ∧ 0 ≤ gI μ t 6 ∧ gI μ t 6 ≤ 8) ∧ (gI μ 332 9 = gI μ t 7 ∧ 0 ≤ gI μ t 7 ∧ gI μ t 7 ≤ 4) ∧
  (gI μ t 5 = 0 → gI μ t 6 = 0 ∧ gI μ t 7 = 0) ∧
  (∀ j : Int, 0 ≤ j → j < 4 * gI μ t 6 → gZ μ (t + 1) j = gZ μ 335 j ∧ 0 ≤ gZ μ 335 j ∧ gZ μ 335 j < gI μ t 5) ∧
  (∀ k : Int, 0 ≤ k → k < gI μ t 7 → gZ μ (t + 4) k = gZ μ 337 k ∧ 0 < gZ μ 337 k ∧ gZ μ 337 k < 256 ∧ ∀ c : Nat, gI μ t 6 ≤ (c : Int) → (gZ μ 337 k).toNat.testBit c = false) ∧
  (∀ c : Nat, (c : Int) < gI μ t 6 → (gZ μ (t + 3) c = -1 ∧ ∀ k : Int, 0 ≤ k → k < gI μ t 7 → (gZ μ 337 k).toNat.testBit c = false) ∨ (0 ≤ gZ μ (t + 3) c ∧ gZ μ (t + 3) c < gI μ t 7 ∧ ∀ k : Int, 0 ≤ k → k < gI μ t 7 → ((gZ μ 337 k).toNat.testBit c = true ↔ k = gZ μ (t + 3) c))) ∧
  (0 ≤ gI μ t 8 ∧ gI μ t 8 < 256 ∧ ∀ c : Nat, (c : Int) < gI μ t 6 → ((gI μ t 8).toNat.testBit c = true ↔ ¬ gZ μ (t + 3) c = -1))
/-- a state of section 2: the class' rows X (1 ways .. 8 band) with its picks, the reference's block v -/
def WRf (K C : Int) (X : Nat → Int → Int) (p : Int) (v : Int → Int) : Prop :=
  (∀ c : Int, 0 ≤ c → c < C → X 2 c = v c ∧ 0 ≤ v c ∧ v c ≤ 3 ∧ X 3 c = v (8 + c) ∧ -99 ≤ v (8 + c) ∧ v (8 + c) ≤ 99 ∧ X 4 c = v (16 + c) ∧ -1 ≤ v (16 + c) ∧ v (16 + c) < K ∧ X 5 c = v (24 + c) ∧ -1 ≤ v (24 + c) ∧ v (24 + c) ≤ 1 ∧ X 1 c = v (32 + c) ∧ 0 ≤ v (32 + c) ∧ v (32 + c) ≤ 1) ∧
  (∀ k : Int, 0 ≤ k → k < K → X 6 k = v (40 + k) ∧ 0 ≤ v (40 + k) ∧ v (40 + k) ≤ 999) ∧ (∀ k : Int, K ≤ k → k < 8 → v (40 + k) = 0) ∧
  (p = v 48 ∧ 0 ≤ p ∧ p ≤ 9030 ∧ v 49 = if p < 24 then p else 24) ∧
  (∀ i c : Int, 0 ≤ i → i < v 49 → 0 ≤ c → c < C → X 8 ((p - 1 - i) % 24 * 8 + c) = v (50 + 8 * (v 49 - 1 - i) + c) ∧ -1 ≤ v (50 + 8 * (v 49 - 1 - i) + c) ∧ v (50 + 8 * (v 49 - 1 - i) + c) < K)
def WR (μ : Mm) (t a : Nat) (o : Int) : Prop := WRf (gI μ t 5) (gI μ t 6) (fun j c => gZ μ (a + j) c) (gI μ a 8) (fun k => gZ μ 333 (o + k))
/-- what can be undone -/
def UndoR (μ : Mm) (t : Nat) : Prop :=
  (0 ≤ gI μ 21 1 ∧ gI μ 21 1 < 30) ∧ (gI μ 21 2 = gI μ 332 18 ∧ 0 ≤ gI μ 21 2 ∧ gI μ 21 2 ≤ 30) ∧
  ∀ j : Nat, (j : Int) < gI μ 21 2 → WR μ t (23 + 9 * ((gI μ 21 1 - gI μ 21 2 + j) % 30).toNat) (972 + 243 * (j : Int))
def ImageR (μ : Mm) (t : Nat) : Prop := ∀ i : Nat, i < 2 → gZ μ 334 i = gI μ (312 + 10 * i) 2 ∧ (gZ μ 334 i = 0 ∨ (gZ μ 334 i = 1 ∧ WR μ t (313 + 10 * i) (486 + 243 * (i : Int)) ∧ gI μ (312 + 10 * i) 1 = gZ μ 333 (486 + 243 * (i : Int) + 242) ∧ 0 ≤ gI μ (312 + 10 * i) 1))
def NotesR (μ : Mm) (t : Nat) : Prop :=
  (gI μ 293 5 = gI μ 332 23 ∧ 0 ≤ gI μ 293 5 ∧ gI μ 293 5 ≤ 8) ∧ (gI μ 293 6 = gI μ 332 26 ∧ 0 ≤ gI μ 293 6 ∧ gI μ 293 6 ≤ 20) ∧
  (∀ i : Int, 0 ≤ i → i < gI μ 293 5 → gZ μ 294 i = gZ μ 341 i ∧ 0 ≤ gZ μ 341 i ∧ gZ μ 341 i < gI μ t 6 ∧ gZ μ 295 i = gZ μ 342 i ∧ 1 ≤ gZ μ 342 i ∧ gZ μ 342 i ≤ 99 ∧ gZ μ 296 i = gZ μ 343 i) ∧
  (∀ i : Int, 0 ≤ i → i < gI μ 293 6 → gZ μ 297 i = gZ μ 344 i ∧ 0 ≤ gZ μ 344 i ∧ gZ μ 344 i < gI μ t 6 ∧ gZ μ 298 i = gZ μ 345 i)
def TextR (μ : Mm) : Prop := (gI μ 1 1 = gI μ 332 13 ∧ 0 ≤ gI μ 1 1 ∧ gI μ 1 1 ≤ 240) ∧ (∀ i : Int, 0 ≤ i → i < gI μ 1 1 → gZ μ 2 i = gZ μ 339 i ∧ 0 ≤ gZ μ 339 i ∧ gZ μ 339 i ≤ 255) ∧ gI μ 1 5 = gI μ 332 17
def TU (μ : Mm) (t u : Nat) : Prop := gI μ 0 6 = t ∧ gI μ 0 7 = u ∧ (t = 300 ∧ u = 306 ∨ t = 306 ∧ u = 300)
def Inv (μ : Mm) : Prop := ∃ t u : Nat, TU μ t u ∧ LoomR μ t ∧ WR μ t 3 0 ∧ UndoR μ t ∧ ImageR μ t ∧ NotesR μ t ∧ TextR μ ∧ (gI μ 0 8 = gZ μ 333 242 ∧ 0 ≤ gI μ 0 8)
theorem TU.kt {μ : Mm} {t u : Nat} (h : TU μ t u) : kd t = 4 := by
  rcases h.2.2 with ⟨rfl, rfl⟩ | ⟨rfl, rfl⟩ <;> decide +kernel
theorem TU.ku {μ : Mm} {t u : Nat} (h : TU μ t u) : kd u = 4 := by
  rcases h.2.2 with ⟨rfl, rfl⟩ | ⟨rfl, rfl⟩ <;> decide +kernel
theorem TU.t {μ : Mm} {t u : Nat} (h : TU μ t u) : (gI μ 0 6).toNat = t := by rw [h.1, Int.toNat_natCast]
theorem TU.u {μ : Mm} {t u : Nat} (h : TU μ t u) : (gI μ 0 7).toNat = u := by rw [h.2.1, Int.toNat_natCast]
theorem WR.cd {μ : Mm} {t : Nat} (h : WR μ t 3 0) {c : Int} (h0 : 0 ≤ c) (h1 : c < gI μ t 6) : gZ μ 5 c = gZ μ 333 c ∧ 0 ≤ gZ μ 333 c ∧ gZ μ 333 c ≤ 3 ∧ gZ μ 6 c = gZ μ 333 (8 + c) ∧ -99 ≤ gZ μ 333 (8 + c) ∧ gZ μ 333 (8 + c) ≤ 99 ∧ gZ μ 7 c = gZ μ 333 (16 + c) ∧ -1 ≤ gZ μ 333 (16 + c) ∧ gZ μ 333 (16 + c) < gI μ t 5 ∧ gZ μ 8 c = gZ μ 333 (24 + c) ∧ -1 ≤ gZ μ 333 (24 + c) ∧ gZ μ 333 (24 + c) ≤ 1 ∧ gZ μ 4 c = gZ μ 333 (32 + c) ∧ 0 ≤ gZ μ 333 (32 + c) ∧ gZ μ 333 (32 + c) ≤ 1 := by
  have h2 := h.1 c h0 h1
  simp only [Int.zero_add] at h2
  exact h2
theorem WR.ya {μ : Mm} {t : Nat} (h : WR μ t 3 0) {k : Int} (h0 : 0 ≤ k) (h1 : k < gI μ t 5) : gZ μ 9 k = gZ μ 333 (40 + k) ∧ 0 ≤ gZ μ 333 (40 + k) ∧ gZ μ 333 (40 + k) ≤ 999 := by
  have h2 := h.2.1 k h0 h1
  simp only [Int.zero_add] at h2
  exact h2
theorem WR.yz {μ : Mm} {t : Nat} (h : WR μ t 3 0) {k : Int} (h0 : gI μ t 5 ≤ k) (h1 : k < 8) : gZ μ 333 (40 + k) = 0 := by
  have h2 := h.2.2.1 k h0 h1
  simp only [Int.zero_add] at h2
  exact h2
theorem WR.pk {μ : Mm} {t : Nat} (h : WR μ t 3 0) : gI μ 3 8 = gZ μ 333 48 ∧ 0 ≤ gI μ 3 8 ∧ gI μ 3 8 ≤ 9030 ∧ gZ μ 333 49 = if gI μ 3 8 < 24 then gI μ 3 8 else 24 := by
  have h2 := h.2.2.2.1
  simp only [Int.zero_add] at h2
  exact h2
theorem WR.bd {μ : Mm} {t : Nat} (h : WR μ t 3 0) {i c : Int} (h0 : 0 ≤ i) (h1 : i < gZ μ 333 49) (h2 : 0 ≤ c) (h3 : c < gI μ t 6) : gZ μ 11 ((gI μ 3 8 - 1 - i) % 24 * 8 + c) = gZ μ 333 (50 + 8 * (gZ μ 333 49 - 1 - i) + c) ∧ -1 ≤ gZ μ 333 (50 + 8 * (gZ μ 333 49 - 1 - i) + c) ∧ gZ μ 333 (50 + 8 * (gZ μ 333 49 - 1 - i) + c) < gI μ t 5 := by
  have h4 := h.2.2.2.2 i c h0 (by simpa only [Int.zero_add] using h1) h2 h3
  simp only [Int.zero_add] at h4
  exact h4
theorem okp_fault (N : Nat) : ok_fault N Inv := by
  intro μ hI
  obtain ⟨t, u, hT, hL, hW, hU, hG, hN, hX, hS⟩ := id hI
  exact ⟨_, _, rfl, rfl, by rw [hX.2.2], hI⟩
theorem okp_yarn (N : Nat) : ok_yarn N Inv := by
  intro μ k hk hI
  obtain ⟨t, u, hT, hL, hW, hU, hG, hN, hX, hS⟩ := id hI
  obtain ⟨⟨e5, a5, b5⟩, ⟨e6, a6, b6⟩, -⟩ := hL
  unfold fX8_yarn fX9_yarn
  rw [hT.t, gd_p hT.kt, p_hasColour N t k μ hk, p_isColour N k μ (by omega) hk, e5]
  by_cases q : 0 ≤ k ∧ k < gI μ t 5
  · have h1 := hW.ya q.1 q.2
    rw [if_pos q]
    simp (disch := first | omega | decide) only [ob_s, if_pos, if_neg, ldA_ok]
    exact ⟨_, _, rfl, rfl, congrArg wr h1.1, hI⟩
  · rw [if_neg q]
    simp (disch := first | omega | decide) only [ob_s, if_pos, if_neg, ldA_ok]
    exact ⟨_, _, rfl, rfl, rfl, hI⟩
theorem okp_pack (N : Nat) : ok_pack N Inv := by
  intro μ k hk hI
  obtain ⟨t, u, hT, hL, hW, hU, hG, hN, hX, hS⟩ := id hI
  obtain ⟨⟨e5, a5, b5⟩, ⟨e6, a6, b6⟩, ⟨e7, a7, b7⟩, -, -, hk7, -⟩ := hL
  unfold fX8_pack fX9_pack fX5_hasPack
  simp only [hT.t, gd_p hT.kt, wr_id hk.1 hk.2, wr_gI, e7]
  rw [wr_id (show -2147483648 ≤ gI μ t 7 - 1 by omega) (by omega), p_in N k 0 _ μ (by omega) (by omega) (by omega)]
  by_cases q1 : 0 ≤ k
  · by_cases q2 : k < gI μ t 7
    · have h1 := hk7 k q1 q2
      simp (disch := first | omega | decide) only [ob_s, if_pos, if_neg, ldA_ok]
      exact ⟨_, _, rfl, rfl, congrArg wr h1.1, hI⟩
    · simp (disch := first | omega | decide) only [ob_s, if_pos, if_neg, ldA_ok]
      exact ⟨_, _, rfl, rfl, rfl, hI⟩
  · simp (disch := first | omega | decide) only [ob_s, if_pos, if_neg, ldA_ok]
    exact ⟨_, _, rfl, rfl, rfl, hI⟩
