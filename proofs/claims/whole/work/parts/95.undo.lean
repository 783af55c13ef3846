/-! what can be undone, behind a deed -/
theorem undo_after {μ ν : Mm} {t : Nat} (hL : LoomR μ t) (hW : WR μ t 3 0) (hU : UndoR μ t) (e5 : gI ν t 5 = gI μ t 5) (e6 : gI ν t 6 = gI μ t 6) (h1 : gI ν 21 1 = (gI μ 21 1 + 1) % 30) (h2 : gI ν 21 2 = (if gI μ 21 2 < 30 then gI μ 21 2 + 1 else 30)) (h3 : gI ν 332 18 = (if gI μ 332 18 < 30 then gI μ 332 18 + 1 else 30)) (h4 : ∀ r, 23 ≤ r → r ≤ 292 → (r < 23 + 9 * (gI μ 21 1).toNat ∨ 23 + 9 * (gI μ 21 1).toNat + 8 < r) → ν r = μ r) (h5 : gI ν (23 + 9 * (gI μ 21 1).toNat) 8 = gI μ 3 8) (h6 : ∀ (j : Nat) (i : Int), 1 ≤ j → j ≤ 8 → j ≠ 7 → 0 ≤ i → i < 192 → (j ≠ 8 → i < 8) → gZ ν (23 + 9 * (gI μ 21 1).toNat + j) i = gZ μ (3 + j) i) (h7 : ∀ j k : Int, 0 ≤ j → j < (if gI μ 332 18 < 30 then gI μ 332 18 else 29) → 0 ≤ k → k < 243 → gZ ν 333 (972 + 243 * j + k) = gZ μ 333 (972 + 243 * (if gI μ 332 18 < 30 then j else j + 1) + k)) (h8 : ∀ k : Int, 0 ≤ k → k < 243 → gZ ν 333 (972 + 243 * (if gI μ 332 18 < 30 then gI μ 332 18 else 29) + k) = gZ μ 333 k) : UndoR ν t := by
  obtain ⟨⟨u1, u2⟩, ⟨u3, u4, u5⟩, u6⟩ := hU
  rw [← u3] at h3 h7 h8
  have hn : 0 ≤ (gI μ 21 1 + 1) % 30 ∧ (gI μ 21 1 + 1) % 30 < 30 := by omega
  have old : ∀ (x : Int) (o : Int) (a : Nat), a = 23 + 9 * (x % 30).toNat → x % 30 ≠ gI μ 21 1 → WR μ t a o → ∀ o2 : Int, (∀ k : Int, 0 ≤ k → k < 242 → gZ ν 333 (o2 + k) = gZ μ 333 (o + k)) → WR ν t a o2 := by
    intro x o a ha hx hw o2 hv
    have hfar : a + 8 < 23 + 9 * (gI μ 21 1).toNat ∨ 23 + 9 * (gI μ 21 1).toNat + 8 < a := by omega
    exact hw.mv hL e5 e6 (gI_row (h4 a (by omega) (by omega) (by omega)) 8) (fun j i b1 b2 _ _ _ _ => gZ_row (h4 (a + j) (by omega) (by omega) (by omega)) i) hv
  by_cases q : gI μ 21 2 < 30
  · rw [if_pos q] at h2 h3
    simp only [if_pos q] at h7 h8
    refine ⟨by rw [h1]; exact hn, ⟨by rw [h2, h3], by omega, by omega⟩, fun j hj => ?_⟩
    rw [h1, h2]
    rw [h2] at hj
    by_cases q2 : (j : Int) = gI μ 21 2
    · have e : ((gI μ 21 1 + 1) % 30 - (gI μ 21 2 + 1) + (j : Int)) % 30 = gI μ 21 1 := by omega
      rw [e]
      refine hW.mv hL e5 e6 h5 h6 (fun k a b => ?_)
      have := h8 k a (by omega)
      rw [← q2] at this
      rw [this]
      congr 1
      omega
    · have e : ((gI μ 21 1 + 1) % 30 - (gI μ 21 2 + 1) + (j : Int)) % 30 = (gI μ 21 1 - gI μ 21 2 + j) % 30 := by omega
      rw [e]
      exact old (gI μ 21 1 - gI μ 21 2 + j) _ _ rfl (by omega) (u6 j (by omega)) _ (fun k a b => h7 j k (by omega) (by omega) a (by omega))
  · rw [if_neg q] at h2 h3
    simp only [if_neg q] at h7 h8
    refine ⟨by rw [h1]; exact hn, ⟨by rw [h2, h3], by omega, by omega⟩, fun j hj => ?_⟩
    rw [h1, h2]
    rw [h2] at hj
    by_cases q2 : j = 29
    · subst q2
      have e : ((gI μ 21 1 + 1) % 30 - 30 + ((29 : Nat) : Int)) % 30 = gI μ 21 1 := by omega
      rw [e]
      refine hW.mv hL e5 e6 h5 h6 (fun k a b => ?_)
      have := h8 k a (by omega)
      rw [show 972 + 243 * ((29 : Nat) : Int) = 972 + 243 * 29 from rfl, this]
      congr 1
      omega
    · have e : ((gI μ 21 1 + 1) % 30 - 30 + (j : Int)) % 30 = (gI μ 21 1 - gI μ 21 2 + ((j + 1 : Nat) : Int)) % 30 := by omega
      rw [e]
      exact old (gI μ 21 1 - gI μ 21 2 + ((j + 1 : Nat) : Int)) _ _ rfl (by omega) (u6 (j + 1) (by omega)) _ (fun k a b => by
        rw [h7 j k (by omega) (by omega) a (by omega)]
        congr 1)
theorem rem_both (N : Nat) (hNB : NB N) {μ : Mm} {t u : Nat} (hT : TU μ t u) (hL : LoomR μ t) (hW : WR μ t 3 0) (hU : UndoR μ t) : ∃ ν1, fX1_remember N 3 μ = some ν1 ∧ (∀ r, (r < 21 ∨ r = 22 ∨ 292 < r) → ν1 r = μ r) ∧ ∀ μ1 : Mm, (∀ r, 21 ≤ r → μ1 r = ν1 r) → ∃ ν2, fX9_remember N μ1 = some ν2 ∧ (∀ r, r ≠ 332 → r ≠ 333 → ν2 r = μ1 r) ∧ (∀ k, k ≠ 18 → gI ν2 332 k = gI μ 332 k) ∧ (∀ k, 0 ≤ k → k < 972 → gZ ν2 333 k = gZ μ 333 k) ∧ ∀ μ2 : Mm, (∀ r, 21 ≤ r → r ≠ 333 → μ2 r = ν2 r) → (∀ k, 972 ≤ k → k < 8262 → gZ μ2 333 k = gZ ν2 333 k) → UndoR μ2 t := by
  have ht := hT.r
  obtain ⟨⟨u1, u2⟩, ⟨u3, u4, u5⟩, u6⟩ := id hU
  obtain ⟨ν1, f1, f2, f3, f4, f5, f6, f7⟩ := x_remember N μ ⟨u1, u2⟩ ⟨u4, u5⟩
  refine ⟨ν1, f1, f2, fun μ1 hμ1 => ?_⟩
  have r332 : μ1 332 = μ 332 := (hμ1 332 (by decide)).trans (f2 332 (by decide))
  have r333 : μ1 333 = μ 333 := (hμ1 333 (by decide)).trans (f2 333 (by decide))
  have c18 : gI μ1 332 18 = gI μ 332 18 := gI_row r332 18
  obtain ⟨ν2, g1, g2, g3, g4, g5, g6, g7⟩ := m_remember N hNB μ1 (by rw [c18, ← u3]; exact ⟨u4, u5⟩)
  rw [c18] at g4 g6 g7
  refine ⟨ν2, g1, g2, fun k hk => (g3 k hk).trans (gI_row r332 k), fun k h0 h1 => (g5 k h0 h1).trans (gZ_row r333 k), fun μ2 k1 k2 => ?_⟩
  have rr : ∀ r, 21 ≤ r → r ≠ 332 → r ≠ 333 → μ2 r = ν1 r := fun r a b c => by rw [k1 r a c, g2 r b c, hμ1 r a]
  have rt : μ2 t = μ t := by rw [rr t (by omega) (by omega) (by omega), f2 t (by omega)]
  have hb : 0 ≤ (if gI μ 332 18 < 30 then gI μ 332 18 else 29) ∧ (if gI μ 332 18 < 30 then gI μ 332 18 else 29) ≤ 29 := by
    by_cases q : gI μ 332 18 < 30
    · rw [if_pos q]; omega
    · rw [if_neg q]; omega
  refine undo_after hL hW hU (gI_row rt 5) (gI_row rt 6) ?_ ?_ ?_ (fun r a b c => ?_) ?_ (fun j i b1 b2 b3 b4 b5 b6 => ?_) (fun j k a1 a2 a3 a4 => ?_) (fun k a1 a2 => ?_)
  · rw [gI_row (rr 21 (by decide) (by decide) (by decide)), f3]
  · rw [gI_row (rr 21 (by decide) (by decide) (by decide)), f4]
  · rw [gI_row (k1 332 (by decide) (by decide)), g4]
  · rw [rr r (by omega) (by omega) (by omega), f5 r a b c]
  · rw [gI_row (rr _ (by omega) (by omega) (by omega)), f6]
  · rw [gZ_row (rr _ (by omega) (by omega) (by omega)), f7 j i b1 b2 b3 b4 b5 b6]
  · rw [k2 _ (by omega) (by omega), g6 j k a1 a2 a3 a4, gZ_row r333]
  · rw [k2 _ (by omega) (by omega), g7 k a1 a2, gZ_row r333]
