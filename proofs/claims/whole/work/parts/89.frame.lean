/-! FRAMES: which rows each part of the relation reads -/
theorem row_pI {μ : Mm} {a k r : Nat} {v : Int} (h : r ≠ a) : (pI μ a k v) r = μ r := by unfold pI sM; rw [if_neg h]
theorem row_pZ {μ : Mm} {a r : Nat} {i v : Int} (h : r ≠ a) : (pZ μ a i v) r = μ r := row_pI h
theorem row_sM {μ : Mm} {a r : Nat} {g : Nat → Int32} (h : r ≠ a) : (sM μ a g) r = μ r := by unfold sM; rw [if_neg h]
theorem gI_row {μ μ' : Mm} {r : Nat} (h : μ' r = μ r) (k : Nat) : gI μ' r k = gI μ r k := by unfold gI; rw [h]
theorem gZ_row {μ μ' : Mm} {r : Nat} (h : μ' r = μ r) (i : Int) : gZ μ' r i = gZ μ r i := gI_row h _
theorem LoomR.fr {μ μ' : Mm} {t : Nat} (h : LoomR μ t) (hr : ∀ r, (r = t ∨ r = t + 1 ∨ r = t + 3 ∨ r = t + 4 ∨ r = 335 ∨ r = 337) → μ' r = μ r) (h2 : gI μ' 332 2 = gI μ 332 2) (h6 : gI μ' 332 6 = gI μ 332 6) (h9 : gI μ' 332 9 = gI μ 332 9) : LoomR μ' t := by
  have e0 := gI_row (hr t (by omega))
  have e1 := gZ_row (hr (t + 1) (by omega))
  have e3 := gZ_row (hr (t + 3) (by omega))
  have e4 := gZ_row (hr (t + 4) (by omega))
  have e5 := gZ_row (hr 335 (by omega))
  have e7 := gZ_row (hr 337 (by omega))
  unfold LoomR
  simp only [e0, e1, e3, e4, e5, e7, h2, h6, h9]
  exact h
theorem WRf.fr {K C : Int} {X X' : Nat → Int → Int} {p : Int} {v v' : Int → Int} (hK : 0 ≤ K ∧ K ≤ 8) (hC : 0 ≤ C ∧ C ≤ 8) (h : WRf K C X p v) (hX : ∀ j i, 1 ≤ j → j ≤ 8 → j ≠ 7 → 0 ≤ i → i < 192 → (j ≠ 8 → i < 8) → X' j i = X j i) (hv : ∀ k, 0 ≤ k → k < 242 → v' k = v k) : WRf K C X' p v' := by
  obtain ⟨h1, h2, h3, h4, h5⟩ := h
  have hb : v 49 ≤ 24 ∧ 0 ≤ v 49 := by
    rw [h4.2.2.2]
    by_cases q : p < 24
    · rw [if_pos q]; omega
    · rw [if_neg q]; omega
  refine ⟨fun c a b => ?_, fun k a b => ?_, fun k a b => ?_, ?_, fun i c a b d e => ?_⟩
  · rw [hX 2 c (by decide) (by decide) (by decide) a (by omega) (fun _ => by omega), hX 3 c (by decide) (by decide) (by decide) a (by omega) (fun _ => by omega), hX 4 c (by decide) (by decide) (by decide) a (by omega) (fun _ => by omega), hX 5 c (by decide) (by decide) (by decide) a (by omega) (fun _ => by omega), hX 1 c (by decide) (by decide) (by decide) a (by omega) (fun _ => by omega), hv c (by omega) (by omega), hv (8 + c) (by omega) (by omega), hv (16 + c) (by omega) (by omega), hv (24 + c) (by omega) (by omega), hv (32 + c) (by omega) (by omega)]
    exact h1 c a b
  · rw [hX 6 k (by decide) (by decide) (by decide) a (by omega) (fun _ => by omega), hv (40 + k) (by omega) (by omega)]
    exact h2 k a b
  · rw [hv (40 + k) (by omega) (by omega)]
    exact h3 k a b
  · rw [hv 48 (by decide) (by decide), hv 49 (by decide) (by decide)]
    exact h4
  · rw [hv 49 (by decide) (by decide)] at b ⊢
    have m1 := Int.emod_nonneg (p - 1 - i) (show (24 : Int) ≠ 0 by decide)
    have m2 := Int.emod_lt_of_pos (p - 1 - i) (show (0 : Int) < 24 by decide)
    rw [hX 8 _ (by decide) (by decide) (by decide) (by omega) (by omega) (fun q => absurd rfl q), hv _ (by omega) (by omega)]
    exact h5 i c a b d e
theorem WR.fr {μ μ' : Mm} {t a : Nat} {o : Int} (h : WR μ t a o) (hL : LoomR μ t) (hr : ∀ r, (r = t ∨ (a ≤ r ∧ r ≤ a + 8 ∧ r ≠ a + 7)) → μ' r = μ r) (hv : ∀ k, 0 ≤ k → k < 242 → gZ μ' 333 (o + k) = gZ μ 333 (o + k)) : WR μ' t a o := by
  obtain ⟨⟨e5, a5, b5⟩, ⟨e6, a6, b6⟩, -⟩ := hL
  have e0 := gI_row (hr t (by omega))
  have ea := gI_row (hr a (by omega))
  unfold WR
  rw [e0, e0, ea]
  exact WRf.fr ⟨a5, b5⟩ ⟨a6, b6⟩ h (fun j i h1 h2 h7 _ _ _ => gZ_row (hr (a + j) (by omega)) i) hv
theorem UndoR.fr {μ μ' : Mm} {t : Nat} (h : UndoR μ t) (hL : LoomR μ t) (hr : ∀ r, (r = t ∨ (21 ≤ r ∧ r ≤ 292 ∧ r ≠ 22)) → μ' r = μ r) (h18 : gI μ' 332 18 = gI μ 332 18) (hv : ∀ k, 972 ≤ k → k < 8262 → gZ μ' 333 k = gZ μ 333 k) : UndoR μ' t := by
  have e1 := gI_row (hr 21 (by omega))
  obtain ⟨h1, h2, h3⟩ := h
  unfold UndoR
  rw [e1, e1, h18]
  refine ⟨h1, h2, fun j hj => ?_⟩
  have m1 := Int.emod_nonneg (gI μ 21 1 - gI μ 21 2 + j) (show (30 : Int) ≠ 0 by decide)
  have m2 := Int.emod_lt_of_pos (gI μ 21 1 - gI μ 21 2 + j) (show (0 : Int) < 30 by decide)
  refine (h3 j hj).fr hL (fun r q => hr r ?_) (fun k _ _ => hv _ (by omega) (by omega))
  rcases q with q | q
  · exact Or.inl q
  · exact Or.inr (by omega)
theorem ImageR.fr {μ μ' : Mm} {t : Nat} (h : ImageR μ t) (hL : LoomR μ t) (hr : ∀ r, (r = t ∨ r = 334 ∨ (312 ≤ r ∧ r ≤ 331)) → μ' r = μ r) (hv : ∀ k, 486 ≤ k → k < 972 → gZ μ' 333 k = gZ μ 333 k) : ImageR μ' t := by
  intro i hi
  have h1 := h i hi
  rw [gZ_row (hr 334 (by omega)), gI_row (hr (312 + 10 * i) (by omega)), gI_row (hr (312 + 10 * i) (by omega)), hv _ (by omega) (by omega)]
  refine ⟨h1.1, h1.2.imp id (fun q => ⟨q.1, q.2.1.fr hL (fun r q => hr r ?_) (fun k _ _ => hv _ (by omega) (by omega)), q.2.2⟩)⟩
  rcases q with q | q
  · exact Or.inl q
  · exact Or.inr (by omega)
theorem NotesR.fr {μ μ' : Mm} {t : Nat} (h : NotesR μ t) (hr : ∀ r, (r = t ∨ (293 ≤ r ∧ r ≤ 298) ∨ (341 ≤ r ∧ r ≤ 345)) → μ' r = μ r) (h23 : gI μ' 332 23 = gI μ 332 23) (h26 : gI μ' 332 26 = gI μ 332 26) : NotesR μ' t := by
  unfold NotesR
  have et := gI_row (hr t (by omega))
  have e3 := gI_row (hr 293 (by omega))
  have e4 := gZ_row (hr 294 (by omega))
  have e5 := gZ_row (hr 295 (by omega))
  have e6 := gZ_row (hr 296 (by omega))
  have e7 := gZ_row (hr 297 (by omega))
  have e8 := gZ_row (hr 298 (by omega))
  have f1 := gZ_row (hr 341 (by omega))
  have f2 := gZ_row (hr 342 (by omega))
  have f3 := gZ_row (hr 343 (by omega))
  have f4 := gZ_row (hr 344 (by omega))
  have f5 := gZ_row (hr 345 (by omega))
  simp only [et, e3, e4, e5, e6, e7, e8, f1, f2, f3, f4, f5, h23, h26]
  exact h
theorem TextR.fr {μ μ' : Mm} (h : TextR μ) (hr : ∀ r, (r = 1 ∨ r = 2 ∨ r = 339) → μ' r = μ r) (h13 : gI μ' 332 13 = gI μ 332 13) (h17 : gI μ' 332 17 = gI μ 332 17) : TextR μ' := by
  unfold TextR
  have e1 := gI_row (hr 1 (by omega))
  have e2 := gZ_row (hr 2 (by omega))
  have e3 := gZ_row (hr 339 (by omega))
  simp only [e1, e2, e3, h13, h17]
  exact h
theorem TU.fr {μ μ' : Mm} {t u : Nat} (h : TU μ t u) (h6 : gI μ' 0 6 = gI μ 0 6) (h7 : gI μ' 0 7 = gI μ 0 7) : TU μ' t u := ⟨h6.trans h.1, h7.trans h.2.1, h.2.2⟩
theorem TU.r {μ : Mm} {t u : Nat} (h : TU μ t u) : 300 ≤ t ∧ t ≤ 306 := by rcases h.2.2 with ⟨rfl, rfl⟩ | ⟨rfl, rfl⟩ <;> decide
theorem okp_seed (N : Nat) : ok_seed N Inv := by
  intro μ v hv hI
  obtain ⟨t, u, hT, hL, hW, hU, hG, hN, hX, hS⟩ := id hI
  have ht := hT.r
  unfold fX8_seed fX9_seed
  rw [wr_id hv.1 hv.2]
  by_cases q : 0 ≤ v
  · simp (disch := first | omega | decide) only [if_pos, if_neg, gd_p, ob_s, ldA_ok, stA_ok]
    refine ⟨_, _, _, _, rfl, rfl, ?_, t, u, hT.fr ?_ ?_, hL.fr (fun r hr => ?_) ?_ ?_ ?_, hW.fr hL (fun r hr => ?_) (fun k _ _ => ?_), hU.fr hL (fun r hr => ?_) ?_ (fun k _ _ => ?_), hG.fr hL (fun r hr => ?_) (fun k _ _ => ?_), hN.fr (fun r hr => ?_) ?_ ?_, hX.fr (fun r hr => ?_) ?_ ?_, ?_⟩
    · rw [gZ_pI_a (by decide)]; exact congrArg wr hS.1
    all_goals try (simp (disch := first | omega | decide) only [row_pI, row_pZ, gI_pI_a, gI_pZ_a, gI_pI_k, gZ_pI_a, gZ_pZ_a, gZ_pZ_n]; done)
    simp (disch := first | omega | decide) only [gI_pZ_a, gI_pI_s, gZ_pZ_s, wr_id]
    exact ⟨trivial, q⟩
  · simp (disch := first | omega | decide) only [if_pos, if_neg]
    exact ⟨_, _, _, _, rfl, rfl, rfl, hI⟩
