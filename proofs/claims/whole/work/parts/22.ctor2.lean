/-! THE CONSTRUCTORS WITH LOOPS: Deeds, CardBand -/
def arW (cs : CS) (f : Nat → Option Nat) : va_E := .inl (cs.2.2.1, 30, .inr (.inr (.inr (.inr f))))
def arG (cs : CS) (f : Nat → Option Nat) : va_E := .inl (cs.2.2.2, 2, .inr (.inr (.inr (.inr f))))
def arF (b k : Nat) : Nat → Option Nat := fun i => if i < k then some (b + (23 + 9 * i)) else none
theorem GW.arr {D : va_G} {b : Nat} {E : Nat → va_E} {n : Nat} {H : Heap} {a N : Nat} {cA : ClassId} {f g : Nat → Option Nat} (h : GW D b E n H) (han : a < n) (hE : E a = .inl (cA, N, .inr (.inr (.inr (.inr f))))) (hfg : ∀ i, i < N → f i = g i) : GW D b (sE E a (.inl (cA, N, .inr (.inr (.inr (.inr g)))))) n H := by
  refine ⟨?_, h.2⟩
  intro k q hq
  rcases Nat.lt_or_ge k n with z | z
  · rw [wn_at b _ z] at hq
    cases hq
    by_cases hk : k = a
    · subst hk
      have h1 := h.1 k _ (wn_at b E z)
      rw [hE] at h1
      rw [sE_s]
      have h2 : H[b + k]? = some (vp_cell cA (N, .inr (.inr (.inr (.inr f))))) := h1
      show H[b + k]? = some (vp_cell cA (N, .inr (.inr (.inr (.inr g)))))
      rw [h2, vp_cell_q, vp_cell_q]
      congr 1
      unfold arrV
      congr 1
      apply Array.ext
      · simp
      · intro i h3 h4
        simp only [Array.getElem_ofFn]
        rw [hfg i (by simpa using h3)]
    · rw [sE_n hk]
      exact h.1 k _ (wn_at b E z)
  · rw [wn_out b _ z] at hq
    cases hq
theorem fE_W (b : Nat) (cs : CS) : fE b cs 22 = arW cs (fun i => some (b + (23 + 9 * i))) := by
  unfold fE layc
  rw [kz_22]
  rfl
theorem fE_G (b : Nat) (cs : CS) : fE b cs 299 = arG cs (fun i => some (b + (312 + 10 * i))) := by
  unfold fE layc
  rw [kz_299]
  rfl
theorem kd_dw {k : Nat} (h : k < 30) : kd (23 + 9 * k) = 5 := by
  have key : ∀ x, x < 30 → kd (23 + 9 * x) = 5 := by decide +kernel
  exact key k h
theorem arF_up (b k : Nat) : va_up (arF b k) k (some (b + (23 + 9 * k))) = arF b (k + 1) := by
  funext i
  unfold va_up arF
  by_cases h : i = k
  · subst h
    rw [if_pos rfl, if_pos (by omega)]
  · rw [if_neg h]
    by_cases h2 : i < k
    · rw [if_pos h2, if_pos (by omega)]
    · rw [if_neg h2, if_neg (by omega)]
abbrev rmX1_init : Room := { frames := 2, cells := 271, slots := 7740, locals := 40 }
set_option maxHeartbeats 4000000 in
set_option maxRecDepth 100000 in
theorem q_X1_init (l : Launch) (D : va_G) (b : Nat) (cs : CS) {F : Nat → va_E} (hF : ∀ x, 21 ≤ x → x < 293 → F x = fE b cs x) : MG l yX1_init wsX1_init rmX1_init D b cs [jR b 21] (sE F 21 (.inr (0, [.null, .int 0, .int 0]))) 22 F 293 271 7740 := by
  refine met_inG (cc := cX1_init) (maxL := 2) (lv0 := [(0, jR b 21)]) (by decide +kernel) rfl (Nat.le_of_ble_eq_true rfl) rfl ?_
  intro p e s m args below meth c hx hb hr hlk hml hown hini hts hG hK hN ls hl
  have hown : s.vm.findClass RX1 = some m.cls := hown
  have hini : meth.name = "<init>" := hini
  have hS : va_S (bA b) s.heap s.heap [] := va_S.rf
  have hinX1 : ∀ w ∈ u_ws RX1 TX1 3, w ∈ wsX1_init := by decide +kernel
  have hinX7 : ∀ w ∈ u_ws RX7 TX7 9, w ∈ wsX1_init := by decide +kernel
  refine j_aload_n hx hb dX1_init_0 rfl (lv_at hl 0 rfl) ?_
  refine k_obj hx hb hown (hts (.methodLink RX1 3 objectInit) (by decide +kernel)) (hts (.instanceMethod objectInit) (by decide +kernel)) (hts (.code objectInit ⟨#[0xb1]⟩ 1 none) (by decide +kernel)) hml hl.1 (Nat.le_of_ble_eq_true rfl) dX1_init_1 (Nat.le_of_ble_eq_true rfl) (Nat.le_of_ble_eq_true rfl) ?_
  refine j_aload_n hx hb dX1_init_4 rfl (lv_at hl 0 rfl) ?_
  refine j_bipush hx hb dX1_init_5 (by decide) ?_
  have hG : GW D b (sE (sE F 22 (arW cs (fun _ => none))) 21 (.inr (0, [.null, .int 0, .int 0]))) 22 _ := hG.eq (fun x hx9 => by
    by_cases q : x = 21
    · rw [q, sE_s, sE_s]
    · rw [sE_n q, sE_n q, sE_n (by omega)])
  refine k_newq (z := 30) (N := 30) (t0 := 2) (cA := cs.2.2.1) hx hb hown (hts (.classLink RX1 9 RX7) (by decide +kernel)) hN.1 hK rfl hG hS (by rw [sE_n (by decide)]; exact sE_s _ _ _) (by decide +kernel) (by decide +kernel) (Nat.le_of_ble_eq_true rfl) (Nat.le_of_ble_eq_true rfl) (Nat.le_of_ble_eq_true rfl) dX1_init_7 (fun H hG hS => ?_)
  refine k_putF (ty := .array (.object "CardBand$Weave")) (v := jR b 22) (E1 := sE (sE F 22 (arW cs (fun _ => none))) 21 (.inr (0, [jR b 22, .int 0, .int 0]))) hx hb hts hinX1 tyX1 tyX1_ok nmX1 hown hK hG hS (by decide) (sE_s _ _ _) rfl 0 (by decide) (hts (.fieldLink RX1 11 "CardBand$Deeds" "before" "[LCardBand$Weave;") (by decide +kernel)) rfl (Or.inr ⟨rfl, hini, rfl⟩) (by decide +kernel) rfl rfl (Nat.le_of_ble_eq_true rfl) dX1_init_10 (sE_sE _ _ _ _) (fun H locs hG hS => ?_)
  refine j_iconst hx hb dX1_init_13 ?_
  refine j_istore_n (lv2 := [(1, jI 0), (0, jR b 21)]) hx hb dX1_init_14 rfl hl (by decide) rfl (fun ls hl => ?_)
  have hL : ∀ (j k : Nat), k + j = 30 → ∀ (H : Heap) (locs : List Loc) (ls : Array Slot), GW D b (sE (sE F 22 (arW cs (arF b k))) 21 (.inr (0, [jR b 22, .int 0, .int 0]))) (23 + 9 * k) H → va_S (bA b) s.heap H locs → lv_has ls 2 [(1, jI k), (0, jR b 21)] → W p l e rmX1_init s m args below meth c H locs (1 + 9 * k) (30 + 257 * k) (MQ below (QG D b F 293) args s 271 7740 (bA b)) (F0 m 15 ls []) := by
    intro j
    induction j with
    | zero =>
      intro k hk H locs ls hG hS hl
      have hk : k = 30 := by omega
      subst hk
      refine j_iload_n hx hb dX1_init_15 rfl (lv_at hl 0 rfl) ?_
      refine j_aload_n hx hb dX1_init_16 rfl (lv_at hl 1 rfl) ?_
      refine k_get (v := jR b 22) hx hb hts hinX1 hown hK hG (by decide) (sE_s _ _ _) rfl 0 (by decide) (hts (.fieldLink RX1 11 "CardBand$Deeds" "before" "[LCardBand$Weave;") (by decide +kernel)) rfl rfl dX1_init_17 ?_
      refine k_alen (z := 30) hx hb hK hG (a := 22) (by decide) (by rw [sE_n (by decide)]; exact sE_s _ _ _) (t0 := 2) rfl rfl dX1_init_20 ?_
      refine j_icmp_ge (A := 30) (B := 30) (tgt := 43) hx hb (by decide) (by decide) dX1_init_21 (by decide) (fun q => ?_) (fun q => absurd (by decide) q)
      have hG := hG.arr (a := 22) (g := fun i => some (b + (23 + 9 * i))) (by decide) (by rw [sE_n (by decide)]; exact sE_s _ _ _) (fun i hi => if_pos hi)
      have e1 : F 22 = arW cs (fun i => some (b + (23 + 9 * i))) := (hF _ (by decide) (by decide)).trans (fE_W b cs)
      have e2 : F 21 = .inr (0, [jR b 22, .int 0, .int 0]) := by
        rw [hF _ (by decide) (by decide), fE_O kz_21 (by decide), mZ_z (by decide) (by decide) (by decide)]
        rfl
      have hG : GW D b F 293 H := hG.eq (fun x hx9 => by
        by_cases q1 : x = 22
        · rw [q1, sE_s, e1]; rfl
        · rw [sE_n q1]
          by_cases q2 : x = 21
          · rw [q2, sE_s, e2]
          · rw [sE_n q2, sE_n q1])
      exact k_ret hx hb hG hS hr hlk (by decide) (by decide) dX1_init_43
    | succ j ih =>
      intro k hk H locs ls hG hS hl
      have hw : wr (k : Int) = k := wr_id (by omega) (by omega)
      refine j_iload_n hx hb dX1_init_15 rfl (lv_at hl 0 rfl) ?_
      refine j_aload_n hx hb dX1_init_16 rfl (lv_at hl 1 rfl) ?_
      refine k_get (v := jR b 22) hx hb hts hinX1 hown hK hG (by omega) (sE_s _ _ _) rfl 0 (by decide) (hts (.fieldLink RX1 11 "CardBand$Deeds" "before" "[LCardBand$Weave;") (by decide +kernel)) rfl rfl dX1_init_17 ?_
      refine k_alen (z := 30) hx hb hK hG (a := 22) (by omega) (by rw [sE_n (by decide)]; exact sE_s _ _ _) (t0 := 2) rfl rfl dX1_init_20 ?_
      refine j_icmp_ge (A := k) (B := 30) (tgt := 43) hx hb hw (by decide) dX1_init_21 (by decide) (fun q => absurd q (by omega)) (fun q => ?_)
      refine j_aload_n hx hb dX1_init_24 rfl (lv_at hl 1 rfl) ?_
      refine k_get (v := jR b 22) hx hb hts hinX1 hown hK hG (by omega) (sE_s _ _ _) rfl 0 (by decide) (hts (.fieldLink RX1 11 "CardBand$Deeds" "before" "[LCardBand$Weave;") (by decide +kernel)) rfl rfl dX1_init_25 ?_
      refine j_iload_n hx hb dX1_init_28 rfl (lv_at hl 0 rfl) ?_
      have hG : GW D b (sE (sE (sE F 22 (arW cs (arF b k))) 21 (.inr (0, [jR b 22, .int 0, .int 0]))) (23 + 9 * k) (.inr (5, [.null, .null, .null, .null, .null, .null, .null, .null, .int 0]))) (23 + 9 * k) _ := hG.eq (fun x hx9 => (sE_n (by omega)).symm)
      refine k_new (ci := 5) (fs := [.null, .null, .null, .null, .null, .null, .null, .null, .int 0]) hx hb hts hinX7 tyX7 tyX7_ok hown (hts (.classLink RX1 9 RX7) (by decide +kernel)) (hts (.instantiable RX7 9) (by decide +kernel)) (hts (.initialized RX7) (by decide +kernel)) hK hG hS rfl (fun j hj => by rcases (show j = 0 ∨ j = 1 ∨ j = 2 ∨ j = 3 ∨ j = 4 ∨ j = 5 ∨ j = 6 ∨ j = 7 ∨ j = 8 by omega) with rfl | rfl | rfl | rfl | rfl | rfl | rfl | rfl | rfl <;> rfl) (sE_s _ _ _) (by show 1 + 9 * k + 1 ≤ 271; omega) (by show 30 + 257 * k + 9 ≤ 7740; omega) dX1_init_29 (fun H hG hS => ?_)
      refine j_dup hx hb dX1_init_32 rfl ?_
      refine k_initN (E1 := sE (sE F 22 (arW cs (arF b k))) 21 (.inr (0, [jR b 22, .int 0, .int 0]))) (n2 := 23 + 9 * k + 9) (rest := [jR b (23 + 9 * k), jI k, jR b 22]) ⟨hx, hb, hml, hown, hts⟩ hK hN hG hS (q_X7_init l D b cs (kd_dw (by omega)) (fun x h1 h2 => by rw [sE_n (by omega), sE_n (by omega)]; exact hF x (by omega) (by omega))) ⟨va_cnB 0 hts gX1_init_X7_init_n17 rfl rfl rfl hN.2.2.2.2.2.2.2.1 (hts (.initialized RX7) (by decide +kernel)) (by decide +kernel) ⟨Nat.le_of_ble_eq_true rfl, Nat.le_of_ble_eq_true rfl⟩, rfl, (hts (.instanceMethod yX7_init) (by decide +kernel))⟩ hl.1 rfl (Nat.le_of_ble_eq_true rfl) dX1_init_33 ⟨by show 1 + 9 * k + 1 + 8 ≤ 271; omega, by show 30 + 257 * k + 9 + 248 ≤ 7740; omega⟩ (fun H locs hG hS => ?_)
      refine k_ast (a := 22) (v := 23 + 9 * k) (ci := 5) (t0 := 2) (E1 := sE (sE F 22 (arW cs (arF b (k + 1)))) 21 (.inr (0, [jR b 22, .int 0, .int 0]))) hx hb hK hG hS (by omega) (by rw [sE_n (by decide)]; exact sE_s _ _ _) rfl (by omega) (by rw [sE_n (by omega), sE_n (by omega)]; exact (hF _ (by omega) (by omega)).trans (fE_O (kd_dw (by omega)) (by decide))) rfl (vp_in_w (by rw [hw]; omega)) dX1_init_36 (by
        rw [i32_cl (by rw [hw]; omega), hw, Int.toNat_natCast, arF_up, sE_comm (by decide), sE_sE]
        rfl) (fun H locs hG hS => ?_)
      refine j_iinc (k := 0) (lv2 := [(1, jI (k + 1)), (0, jR b 21)]) hx hb dX1_init_37 hl rfl (by decide) rfl (fun ls hl => ?_)
      refine j_goto (tgt := 15) hx hb dX1_init_40 (by decide) ?_
      refine W.cs (cells' := 1 + 9 * (k + 1)) (slots' := 30 + 257 * (k + 1)) (by omega) (by omega) ?_
      exact ih (k + 1) (by omega) H locs ls (by rw [show 23 + 9 * (k + 1) = 23 + 9 * k + 9 by omega]; exact hG) hS hl
  refine hL 30 0 (by decide) H locs ls (hG.eq (fun x hx9 => ?_)) hS hl
  by_cases q1 : x = 21
  · rw [q1, sE_s, sE_s]
  · rw [sE_n q1, sE_n q1]
    by_cases q2 : x = 22
    · rw [q2, sE_s, sE_s]; rfl
    · rw [sE_n q2, sE_n q2]
abbrev rmX8_init : Room := { frames := 3, cells := 331, slots := 9234, locals := 61 }
set_option maxHeartbeats 8000000 in
set_option maxRecDepth 100000 in
theorem q_X8_init (l : Launch) (D : va_G) (b : Nat) (cs : CS) {F : Nat → va_E} (hF : ∀ x, x < 332 → F x = fE b cs x) : MG l yX8_init wsX8_init rmX8_init D b cs [jR b 0] (sE F 0 (.inr (6, [.null, .null, .null, .null, .null, .null, .null, .null, .long 0]))) 1 F 332 331 9234 := by
  refine met_inG (cc := cX8_init) (maxL := 2) (lv0 := [(0, jR b 0)]) (by decide +kernel) rfl (Nat.le_of_ble_eq_true rfl) rfl ?_
  intro p e s m args below meth c hx hb hr hlk hml hown hini hts hG hK hN ls hl
  have hown : s.vm.findClass RX8 = some m.cls := hown
  have hini : meth.name = "<init>" := hini
  have hS : va_S (bA b) s.heap s.heap [] := va_S.rf
  have hinX8 : ∀ w ∈ u_ws RX8 TX8 9, w ∈ wsX8_init := by decide +kernel
  have hinX4 : ∀ w ∈ u_ws RX4 TX4 6, w ∈ wsX8_init := by decide +kernel
  have hinX7 : ∀ w ∈ u_ws RX7 TX7 9, w ∈ wsX8_init := by decide +kernel
  have hinX1 : ∀ w ∈ u_ws RX1 TX1 3, w ∈ wsX8_init := by decide +kernel
  have hinX3 : ∀ w ∈ u_ws RX3 TX3 7, w ∈ wsX8_init := by decide +kernel
  have hinX5 : ∀ w ∈ u_ws RX5 TX5 9, w ∈ wsX8_init := by decide +kernel
  have hinX2 : ∀ w ∈ u_ws RX2 TX2 3, w ∈ wsX8_init := by decide +kernel
  refine j_aload_n hx hb dX8_init_0 rfl (lv_at hl 0 rfl) ?_
  refine k_obj hx hb hown (hts (.methodLink RX8 1 objectInit) (by decide +kernel)) (hts (.instanceMethod objectInit) (by decide +kernel)) (hts (.code objectInit ⟨#[0xb1]⟩ 1 none) (by decide +kernel)) hml hl.1 (Nat.le_of_ble_eq_true rfl) dX8_init_1 (Nat.le_of_ble_eq_true rfl) (Nat.le_of_ble_eq_true rfl) ?_
  refine j_aload_n hx hb dX8_init_4 rfl (lv_at hl 0 rfl) ?_
  have hG : GW D b (sE (sE F 0 (.inr (6, [.null, .null, .null, .null, .null, .null, .null, .null, .long 0]))) 1 (.inr (3, [.null, .int 0, .int 0, .int 0, .int 0, .int 0]))) 1 _ := hG.eq (fun x hx9 => (sE_n (by omega)).symm)
  refine k_new (ci := 3) (fs := [.null, .int 0, .int 0, .int 0, .int 0, .int 0]) hx hb hts hinX4 tyX4 tyX4_ok hown (hts (.classLink RX8 7 RX4) (by decide +kernel)) (hts (.instantiable RX4 6) (by decide +kernel)) (hts (.initialized RX4) (by decide +kernel)) hK hG hS rfl (fun j hj => by rcases (show j = 0 ∨ j = 1 ∨ j = 2 ∨ j = 3 ∨ j = 4 ∨ j = 5 by omega) with rfl | rfl | rfl | rfl | rfl | rfl <;> rfl) (sE_s _ _ _) (Nat.le_of_ble_eq_true rfl) (Nat.le_of_ble_eq_true rfl) dX8_init_5 (fun H hG hS => ?_)
  refine j_dup hx hb dX8_init_8 rfl ?_
  refine k_initN (E1 := sE F 0 (.inr (6, [.null, .null, .null, .null, .null, .null, .null, .null, .long 0]))) (n2 := 3) (rest := [jR b 1, jR b 0]) ⟨hx, hb, hml, hown, hts⟩ hK hN hG hS (q_X4_init l D b cs (fun x h1 h2 => by rw [sE_n (by omega)]; exact hF x (by omega))) ⟨va_cnB 0 hts gX8_init_X4_init_n9 rfl rfl rfl hN.2.2.1 (hts (.initialized RX4) (by decide +kernel)) (by decide +kernel) ⟨Nat.le_of_ble_eq_true rfl, Nat.le_of_ble_eq_true rfl⟩, rfl, (hts (.instanceMethod yX4_init) (by decide +kernel))⟩ hl.1 rfl (Nat.le_of_ble_eq_true rfl) dX8_init_9 ⟨Nat.le_of_ble_eq_true rfl, Nat.le_of_ble_eq_true rfl⟩ (fun H locs hG hS => ?_)
  refine k_putF (ty := .object "CardBand$Telling") (v := jR b 1) (E1 := sE F 0 (.inr (6, [jR b 1, .null, .null, .null, .null, .null, .null, .null, .long 0]))) hx hb hts hinX8 tyX8 tyX8_ok nmX8 hown hK hG hS (by decide) (sE_s _ _ _) rfl 0 (by decide) (hts (.fieldLink RX8 10 "CardBand" "text" "LCardBand$Telling;") (by decide +kernel)) rfl (Or.inr ⟨rfl, hini, rfl⟩) (by decide +kernel) rfl rfl (Nat.le_of_ble_eq_true rfl) dX8_init_12 (sE_sE _ _ _ _) (fun H locs hG hS => ?_)
  refine j_aload_n hx hb dX8_init_15 rfl (lv_at hl 0 rfl) ?_
  have hG : GW D b (sE (sE F 0 (.inr (6, [jR b 1, .null, .null, .null, .null, .null, .null, .null, .long 0]))) 3 (.inr (5, [.null, .null, .null, .null, .null, .null, .null, .null, .int 0]))) 3 _ := hG.eq (fun x hx9 => (sE_n (by omega)).symm)
  refine k_new (ci := 5) (fs := [.null, .null, .null, .null, .null, .null, .null, .null, .int 0]) hx hb hts hinX7 tyX7 tyX7_ok hown (hts (.classLink RX8 16 RX7) (by decide +kernel)) (hts (.instantiable RX7 9) (by decide +kernel)) (hts (.initialized RX7) (by decide +kernel)) hK hG hS rfl (fun j hj => by rcases (show j = 0 ∨ j = 1 ∨ j = 2 ∨ j = 3 ∨ j = 4 ∨ j = 5 ∨ j = 6 ∨ j = 7 ∨ j = 8 by omega) with rfl | rfl | rfl | rfl | rfl | rfl | rfl | rfl | rfl <;> rfl) (sE_s _ _ _) (Nat.le_of_ble_eq_true rfl) (Nat.le_of_ble_eq_true rfl) dX8_init_16 (fun H hG hS => ?_)
  refine j_dup hx hb dX8_init_19 rfl ?_
  refine k_initN (E1 := sE F 0 (.inr (6, [jR b 1, .null, .null, .null, .null, .null, .null, .null, .long 0]))) (n2 := 12) (rest := [jR b 3, jR b 0]) ⟨hx, hb, hml, hown, hts⟩ hK hN hG hS (q_X7_init l D b cs kz_3 (fun x h1 h2 => by rw [sE_n (by omega)]; exact hF x (by omega))) ⟨va_cnB 0 hts gX8_init_X7_init_n18 rfl rfl rfl hN.2.2.2.1 (hts (.initialized RX7) (by decide +kernel)) (by decide +kernel) ⟨Nat.le_of_ble_eq_true rfl, Nat.le_of_ble_eq_true rfl⟩, rfl, (hts (.instanceMethod yX7_init) (by decide +kernel))⟩ hl.1 rfl (Nat.le_of_ble_eq_true rfl) dX8_init_20 ⟨Nat.le_of_ble_eq_true rfl, Nat.le_of_ble_eq_true rfl⟩ (fun H locs hG hS => ?_)
  refine k_putF (ty := .object "CardBand$Weave") (v := jR b 3) (E1 := sE F 0 (.inr (6, [jR b 1, jR b 3, .null, .null, .null, .null, .null, .null, .long 0]))) hx hb hts hinX8 tyX8 tyX8_ok nmX8 hown hK hG hS (by decide) (sE_s _ _ _) rfl 1 (by decide) (hts (.fieldLink RX8 19 "CardBand" "weave" "LCardBand$Weave;") (by decide +kernel)) rfl (Or.inr ⟨rfl, hini, rfl⟩) (by decide +kernel) rfl rfl (Nat.le_of_ble_eq_true rfl) dX8_init_23 (sE_sE _ _ _ _) (fun H locs hG hS => ?_)
  refine j_aload_n hx hb dX8_init_26 rfl (lv_at hl 0 rfl) ?_
  have hG : GW D b (sE (sE F 0 (.inr (6, [jR b 1, jR b 3, .null, .null, .null, .null, .null, .null, .long 0]))) 12 (.inr (5, [.null, .null, .null, .null, .null, .null, .null, .null, .int 0]))) 12 _ := hG.eq (fun x hx9 => (sE_n (by omega)).symm)
  refine k_new (ci := 5) (fs := [.null, .null, .null, .null, .null, .null, .null, .null, .int 0]) hx hb hts hinX7 tyX7 tyX7_ok hown (hts (.classLink RX8 16 RX7) (by decide +kernel)) (hts (.instantiable RX7 9) (by decide +kernel)) (hts (.initialized RX7) (by decide +kernel)) hK hG hS rfl (fun j hj => by rcases (show j = 0 ∨ j = 1 ∨ j = 2 ∨ j = 3 ∨ j = 4 ∨ j = 5 ∨ j = 6 ∨ j = 7 ∨ j = 8 by omega) with rfl | rfl | rfl | rfl | rfl | rfl | rfl | rfl | rfl <;> rfl) (sE_s _ _ _) (Nat.le_of_ble_eq_true rfl) (Nat.le_of_ble_eq_true rfl) dX8_init_27 (fun H hG hS => ?_)
  refine j_dup hx hb dX8_init_30 rfl ?_
  refine k_initN (E1 := sE F 0 (.inr (6, [jR b 1, jR b 3, .null, .null, .null, .null, .null, .null, .long 0]))) (n2 := 21) (rest := [jR b 12, jR b 0]) ⟨hx, hb, hml, hown, hts⟩ hK hN hG hS (q_X7_init l D b cs kz_12 (fun x h1 h2 => by rw [sE_n (by omega)]; exact hF x (by omega))) ⟨va_cnB 0 hts gX8_init_X7_init_n18 rfl rfl rfl hN.2.2.2.1 (hts (.initialized RX7) (by decide +kernel)) (by decide +kernel) ⟨Nat.le_of_ble_eq_true rfl, Nat.le_of_ble_eq_true rfl⟩, rfl, (hts (.instanceMethod yX7_init) (by decide +kernel))⟩ hl.1 rfl (Nat.le_of_ble_eq_true rfl) dX8_init_31 ⟨Nat.le_of_ble_eq_true rfl, Nat.le_of_ble_eq_true rfl⟩ (fun H locs hG hS => ?_)
  refine k_putF (ty := .object "CardBand$Weave") (v := jR b 12) (E1 := sE F 0 (.inr (6, [jR b 1, jR b 3, jR b 12, .null, .null, .null, .null, .null, .long 0]))) hx hb hts hinX8 tyX8 tyX8_ok nmX8 hown hK hG hS (by decide) (sE_s _ _ _) rfl 2 (by decide) (hts (.fieldLink RX8 23 "CardBand" "trial" "LCardBand$Weave;") (by decide +kernel)) rfl (Or.inr ⟨rfl, hini, rfl⟩) (by decide +kernel) rfl rfl (Nat.le_of_ble_eq_true rfl) dX8_init_34 (sE_sE _ _ _ _) (fun H locs hG hS => ?_)
  refine j_aload_n hx hb dX8_init_37 rfl (lv_at hl 0 rfl) ?_
  have hG : GW D b (sE (sE F 0 (.inr (6, [jR b 1, jR b 3, jR b 12, .null, .null, .null, .null, .null, .long 0]))) 21 (.inr (0, [.null, .int 0, .int 0]))) 21 _ := hG.eq (fun x hx9 => (sE_n (by omega)).symm)
  refine k_new (ci := 0) (fs := [.null, .int 0, .int 0]) hx hb hts hinX1 tyX1 tyX1_ok hown (hts (.classLink RX8 26 RX1) (by decide +kernel)) (hts (.instantiable RX1 3) (by decide +kernel)) (hts (.initialized RX1) (by decide +kernel)) hK hG hS rfl (fun j hj => by rcases (show j = 0 ∨ j = 1 ∨ j = 2 by omega) with rfl | rfl | rfl <;> rfl) (sE_s _ _ _) (Nat.le_of_ble_eq_true rfl) (Nat.le_of_ble_eq_true rfl) dX8_init_38 (fun H hG hS => ?_)
  refine j_dup hx hb dX8_init_41 rfl ?_
  refine k_init (E1 := sE F 0 (.inr (6, [jR b 1, jR b 3, jR b 12, .null, .null, .null, .null, .null, .long 0]))) (n2 := 293) (rest := [jR b 21, jR b 0]) ⟨hx, hb, hml, hown, hts⟩ hK hN hG hS (q_X1_init l D b cs (fun x h1 h2 => by rw [sE_n (by omega)]; exact hF x (by omega))) (cwI 0 hts gX8_init_X1_init rfl rfl rfl (hts (.initialized RX1) (by decide +kernel)) (hts (.methodLink RX8 28 yX1_init) (by decide +kernel)) (hts (.instanceMethod yX1_init) (by decide +kernel)) rfl (by decide +kernel) ⟨Nat.le_of_ble_eq_true rfl, Nat.le_of_ble_eq_true rfl⟩) hl.1 rfl (Nat.le_of_ble_eq_true rfl) dX8_init_42 ⟨Nat.le_of_ble_eq_true rfl, Nat.le_of_ble_eq_true rfl⟩ (fun H locs hG hS => ?_)
  refine k_putF (ty := .object "CardBand$Deeds") (v := jR b 21) (E1 := sE F 0 (.inr (6, [jR b 1, jR b 3, jR b 12, jR b 21, .null, .null, .null, .null, .long 0]))) hx hb hts hinX8 tyX8 tyX8_ok nmX8 hown hK hG hS (by decide) (sE_s _ _ _) rfl 3 (by decide) (hts (.fieldLink RX8 29 "CardBand" "deeds" "LCardBand$Deeds;") (by decide +kernel)) rfl (Or.inr ⟨rfl, hini, rfl⟩) (by decide +kernel) rfl rfl (Nat.le_of_ble_eq_true rfl) dX8_init_45 (sE_sE _ _ _ _) (fun H locs hG hS => ?_)
  refine j_aload_n hx hb dX8_init_48 rfl (lv_at hl 0 rfl) ?_
  have hG : GW D b (sE (sE F 0 (.inr (6, [jR b 1, jR b 3, jR b 12, jR b 21, .null, .null, .null, .null, .long 0]))) 293 (.inr (2, [.null, .null, .null, .null, .null, .int 0, .int 0]))) 293 _ := hG.eq (fun x hx9 => (sE_n (by omega)).symm)
  refine k_new (ci := 2) (fs := [.null, .null, .null, .null, .null, .int 0, .int 0]) hx hb hts hinX3 tyX3 tyX3_ok hown (hts (.classLink RX8 33 RX3) (by decide +kernel)) (hts (.instantiable RX3 7) (by decide +kernel)) (hts (.initialized RX3) (by decide +kernel)) hK hG hS rfl (fun j hj => by rcases (show j = 0 ∨ j = 1 ∨ j = 2 ∨ j = 3 ∨ j = 4 ∨ j = 5 ∨ j = 6 by omega) with rfl | rfl | rfl | rfl | rfl | rfl | rfl <;> rfl) (sE_s _ _ _) (Nat.le_of_ble_eq_true rfl) (Nat.le_of_ble_eq_true rfl) dX8_init_49 (fun H hG hS => ?_)
  refine j_dup hx hb dX8_init_52 rfl ?_
  refine k_initN (E1 := sE F 0 (.inr (6, [jR b 1, jR b 3, jR b 12, jR b 21, .null, .null, .null, .null, .long 0]))) (n2 := 299) (rest := [jR b 293, jR b 0]) ⟨hx, hb, hml, hown, hts⟩ hK hN hG hS (q_X3_init l D b cs (fun x h1 h2 => by rw [sE_n (by omega)]; exact hF x (by omega))) ⟨va_cnB 0 hts gX8_init_X3_init_n35 rfl rfl rfl hN.2.2.2.2.1 (hts (.initialized RX3) (by decide +kernel)) (by decide +kernel) ⟨Nat.le_of_ble_eq_true rfl, Nat.le_of_ble_eq_true rfl⟩, rfl, (hts (.instanceMethod yX3_init) (by decide +kernel))⟩ hl.1 rfl (Nat.le_of_ble_eq_true rfl) dX8_init_53 ⟨Nat.le_of_ble_eq_true rfl, Nat.le_of_ble_eq_true rfl⟩ (fun H locs hG hS => ?_)
  refine k_putF (ty := .object "CardBand$Notes") (v := jR b 293) (E1 := sE F 0 (.inr (6, [jR b 1, jR b 3, jR b 12, jR b 21, jR b 293, .null, .null, .null, .long 0]))) hx hb hts hinX8 tyX8 tyX8_ok nmX8 hown hK hG hS (by decide) (sE_s _ _ _) rfl 4 (by decide) (hts (.fieldLink RX8 36 "CardBand" "notes" "LCardBand$Notes;") (by decide +kernel)) rfl (Or.inr ⟨rfl, hini, rfl⟩) (by decide +kernel) rfl rfl (Nat.le_of_ble_eq_true rfl) dX8_init_56 (sE_sE _ _ _ _) (fun H locs hG hS => ?_)
  refine j_aload_n hx hb dX8_init_59 rfl (lv_at hl 0 rfl) ?_
  refine j_iconst hx hb dX8_init_60 ?_
  have hG : GW D b (sE (sE F 299 (arG cs (fun _ => none))) 0 (.inr (6, [jR b 1, jR b 3, jR b 12, jR b 21, jR b 293, .null, .null, .null, .long 0]))) 299 _ := hG.eq (fun x hx9 => by
    by_cases q : x = 0
    · rw [q, sE_s, sE_s]
    · rw [sE_n q, sE_n q, sE_n (by omega)])
  refine k_newq (z := 2) (N := 2) (t0 := 3) (cA := cs.2.2.2) hx hb hown (hts (.classLink RX8 40 RX2) (by decide +kernel)) hN.2.1 hK rfl hG hS (by rw [sE_n (by decide)]; exact sE_s _ _ _) (by decide +kernel) (by decide +kernel) (Nat.le_of_ble_eq_true rfl) (Nat.le_of_ble_eq_true rfl) (Nat.le_of_ble_eq_true rfl) dX8_init_61 (fun H hG hS => ?_)
  refine k_putF (ty := .array (.object "CardBand$Image")) (v := jR b 299) (E1 := sE (sE F 299 (arG cs (fun _ => none))) 0 (.inr (6, [jR b 1, jR b 3, jR b 12, jR b 21, jR b 293, jR b 299, .null, .null, .long 0]))) hx hb hts hinX8 tyX8 tyX8_ok nmX8 hown hK hG hS (by decide) (sE_s _ _ _) rfl 5 (by decide) (hts (.fieldLink RX8 42 "CardBand" "images" "[LCardBand$Image;") (by decide +kernel)) rfl (Or.inr ⟨rfl, hini, rfl⟩) (by decide +kernel) rfl rfl (Nat.le_of_ble_eq_true rfl) dX8_init_64 (sE_sE _ _ _ _) (fun H locs hG hS => ?_)
  refine j_aload_n hx hb dX8_init_67 rfl (lv_at hl 0 rfl) ?_
  have hG : GW D b (sE (sE (sE F 299 (arG cs (fun _ => none))) 0 (.inr (6, [jR b 1, jR b 3, jR b 12, jR b 21, jR b 293, jR b 299, .null, .null, .long 0]))) 300 (.inr (4, [.null, .null, .null, .null, .null, .int 0, .int 0, .int 0, .int 0]))) 300 _ := hG.eq (fun x hx9 => (sE_n (by omega)).symm)
  refine k_new (ci := 4) (fs := [.null, .null, .null, .null, .null, .int 0, .int 0, .int 0, .int 0]) hx hb hts hinX5 tyX5 tyX5_ok hown (hts (.classLink RX8 46 RX5) (by decide +kernel)) (hts (.instantiable RX5 9) (by decide +kernel)) (hts (.initialized RX5) (by decide +kernel)) hK hG hS rfl (fun j hj => by rcases (show j = 0 ∨ j = 1 ∨ j = 2 ∨ j = 3 ∨ j = 4 ∨ j = 5 ∨ j = 6 ∨ j = 7 ∨ j = 8 by omega) with rfl | rfl | rfl | rfl | rfl | rfl | rfl | rfl | rfl <;> rfl) (sE_s _ _ _) (Nat.le_of_ble_eq_true rfl) (Nat.le_of_ble_eq_true rfl) dX8_init_68 (fun H hG hS => ?_)
  refine j_dup hx hb dX8_init_71 rfl ?_
  refine k_initN (E1 := sE (sE F 299 (arG cs (fun _ => none))) 0 (.inr (6, [jR b 1, jR b 3, jR b 12, jR b 21, jR b 293, jR b 299, .null, .null, .long 0]))) (n2 := 306) (rest := [jR b 300, jR b 0]) ⟨hx, hb, hml, hown, hts⟩ hK hN hG hS (q_X5_init l D b cs kz_300 (fun x h1 h2 => by rw [sE_n (by omega), sE_n (by omega)]; exact hF x (by omega))) ⟨va_cnB 0 hts gX8_init_X5_init_n48 rfl rfl rfl hN.2.2.2.2.2.1 (hts (.initialized RX5) (by decide +kernel)) (by decide +kernel) ⟨Nat.le_of_ble_eq_true rfl, Nat.le_of_ble_eq_true rfl⟩, rfl, (hts (.instanceMethod yX5_init) (by decide +kernel))⟩ hl.1 rfl (Nat.le_of_ble_eq_true rfl) dX8_init_72 ⟨Nat.le_of_ble_eq_true rfl, Nat.le_of_ble_eq_true rfl⟩ (fun H locs hG hS => ?_)
  refine k_putF (ty := .object "CardBand$Threading") (v := jR b 300) (E1 := sE (sE F 299 (arG cs (fun _ => none))) 0 (.inr (6, [jR b 1, jR b 3, jR b 12, jR b 21, jR b 293, jR b 299, jR b 300, .null, .long 0]))) hx hb hts hinX8 tyX8 tyX8_ok nmX8 hown hK hG hS (by decide) (sE_s _ _ _) rfl 6 (by decide) (hts (.fieldLink RX8 49 "CardBand" "threading" "LCardBand$Threading;") (by decide +kernel)) rfl (Or.inl rfl) (by decide +kernel) rfl rfl (Nat.le_of_ble_eq_true rfl) dX8_init_75 (sE_sE _ _ _ _) (fun H locs hG hS => ?_)
  refine j_aload_n hx hb dX8_init_78 rfl (lv_at hl 0 rfl) ?_
  have hG : GW D b (sE (sE (sE F 299 (arG cs (fun _ => none))) 0 (.inr (6, [jR b 1, jR b 3, jR b 12, jR b 21, jR b 293, jR b 299, jR b 300, .null, .long 0]))) 306 (.inr (4, [.null, .null, .null, .null, .null, .int 0, .int 0, .int 0, .int 0]))) 306 _ := hG.eq (fun x hx9 => (sE_n (by omega)).symm)
  refine k_new (ci := 4) (fs := [.null, .null, .null, .null, .null, .int 0, .int 0, .int 0, .int 0]) hx hb hts hinX5 tyX5 tyX5_ok hown (hts (.classLink RX8 46 RX5) (by decide +kernel)) (hts (.instantiable RX5 9) (by decide +kernel)) (hts (.initialized RX5) (by decide +kernel)) hK hG hS rfl (fun j hj => by rcases (show j = 0 ∨ j = 1 ∨ j = 2 ∨ j = 3 ∨ j = 4 ∨ j = 5 ∨ j = 6 ∨ j = 7 ∨ j = 8 by omega) with rfl | rfl | rfl | rfl | rfl | rfl | rfl | rfl | rfl <;> rfl) (sE_s _ _ _) (Nat.le_of_ble_eq_true rfl) (Nat.le_of_ble_eq_true rfl) dX8_init_79 (fun H hG hS => ?_)
  refine j_dup hx hb dX8_init_82 rfl ?_
  refine k_initN (E1 := sE (sE F 299 (arG cs (fun _ => none))) 0 (.inr (6, [jR b 1, jR b 3, jR b 12, jR b 21, jR b 293, jR b 299, jR b 300, .null, .long 0]))) (n2 := 312) (rest := [jR b 306, jR b 0]) ⟨hx, hb, hml, hown, hts⟩ hK hN hG hS (q_X5_init l D b cs kz_306 (fun x h1 h2 => by rw [sE_n (by omega), sE_n (by omega)]; exact hF x (by omega))) ⟨va_cnB 0 hts gX8_init_X5_init_n48 rfl rfl rfl hN.2.2.2.2.2.1 (hts (.initialized RX5) (by decide +kernel)) (by decide +kernel) ⟨Nat.le_of_ble_eq_true rfl, Nat.le_of_ble_eq_true rfl⟩, rfl, (hts (.instanceMethod yX5_init) (by decide +kernel))⟩ hl.1 rfl (Nat.le_of_ble_eq_true rfl) dX8_init_83 ⟨Nat.le_of_ble_eq_true rfl, Nat.le_of_ble_eq_true rfl⟩ (fun H locs hG hS => ?_)
  refine k_putF (ty := .object "CardBand$Threading") (v := jR b 306) (E1 := sE (sE F 299 (arG cs (fun _ => none))) 0 (.inr (6, [jR b 1, jR b 3, jR b 12, jR b 21, jR b 293, jR b 299, jR b 300, jR b 306, .long 0]))) hx hb hts hinX8 tyX8 tyX8_ok nmX8 hown hK hG hS (by decide) (sE_s _ _ _) rfl 7 (by decide) (hts (.fieldLink RX8 53 "CardBand" "spare" "LCardBand$Threading;") (by decide +kernel)) rfl (Or.inl rfl) (by decide +kernel) rfl rfl (Nat.le_of_ble_eq_true rfl) dX8_init_86 (sE_sE _ _ _ _) (fun H locs hG hS => ?_)
  refine j_iconst hx hb dX8_init_89 ?_
  refine j_istore_n (lv2 := [(1, jI 0), (0, jR b 0)]) hx hb dX8_init_90 rfl hl (by decide) rfl (fun ls hl => ?_)
  refine j_iload_n hx hb dX8_init_91 rfl (lv_at hl 0 rfl) ?_
  refine j_aload_n hx hb dX8_init_92 rfl (lv_at hl 1 rfl) ?_
  refine k_get (v := jR b 299) hx hb hts hinX8 hown hK hG (by decide) (sE_s _ _ _) rfl 5 (by decide) (hts (.fieldLink RX8 42 "CardBand" "images" "[LCardBand$Image;") (by decide +kernel)) rfl rfl dX8_init_93 ?_
  refine k_alen (z := 2) hx hb hK hG (a := 299) (by decide) (by rw [sE_n (by decide)]; exact sE_s _ _ _) (t0 := 3) rfl rfl dX8_init_96 ?_
  refine j_icmp_ge (A := 0) (B := 2) (tgt := 119) hx hb (by decide) (by decide) dX8_init_97 (by decide) (fun q => absurd q (by decide)) (fun q => ?_)
  refine j_aload_n hx hb dX8_init_100 rfl (lv_at hl 1 rfl) ?_
  refine k_get (v := jR b 299) hx hb hts hinX8 hown hK hG (by decide) (sE_s _ _ _) rfl 5 (by decide) (hts (.fieldLink RX8 42 "CardBand" "images" "[LCardBand$Image;") (by decide +kernel)) rfl rfl dX8_init_101 ?_
  refine j_iload_n hx hb dX8_init_104 rfl (lv_at hl 0 rfl) ?_
  have hG : GW D b (sE (sE (sE F 299 (arG cs (fun _ => none))) 0 (.inr (6, [jR b 1, jR b 3, jR b 12, jR b 21, jR b 293, jR b 299, jR b 300, jR b 306, .long 0]))) 312 (.inr (1, [.null, .long 0, .int 0]))) 312 _ := hG.eq (fun x hx9 => (sE_n (by omega)).symm)
  refine k_new (ci := 1) (fs := [.null, .long 0, .int 0]) hx hb hts hinX2 tyX2 tyX2_ok hown (hts (.classLink RX8 40 RX2) (by decide +kernel)) (hts (.instantiable RX2 3) (by decide +kernel)) (hts (.initialized RX2) (by decide +kernel)) hK hG hS rfl (fun j hj => by rcases (show j = 0 ∨ j = 1 ∨ j = 2 by omega) with rfl | rfl | rfl <;> rfl) (sE_s _ _ _) (Nat.le_of_ble_eq_true rfl) (Nat.le_of_ble_eq_true rfl) dX8_init_105 (fun H hG hS => ?_)
  refine j_dup hx hb dX8_init_108 rfl ?_
  refine k_initN (E1 := sE (sE F 299 (arG cs (fun _ => none))) 0 (.inr (6, [jR b 1, jR b 3, jR b 12, jR b 21, jR b 293, jR b 299, jR b 300, jR b 306, .long 0]))) (n2 := 322) (rest := [jR b 312, jI 0, jR b 299]) ⟨hx, hb, hml, hown, hts⟩ hK hN hG hS (q_X2_init l D b cs kz_312 (fun x h1 h2 => by rw [sE_n (by omega), sE_n (by omega)]; exact hF x (by omega))) ⟨va_cnB 0 hts gX8_init_X2_init_n56 rfl rfl rfl hN.2.2.2.2.2.2.1 (hts (.initialized RX2) (by decide +kernel)) (by decide +kernel) ⟨Nat.le_of_ble_eq_true rfl, Nat.le_of_ble_eq_true rfl⟩, rfl, (hts (.instanceMethod yX2_init) (by decide +kernel))⟩ hl.1 rfl (Nat.le_of_ble_eq_true rfl) dX8_init_109 ⟨Nat.le_of_ble_eq_true rfl, Nat.le_of_ble_eq_true rfl⟩ (fun H locs hG hS => ?_)
  refine k_ast (a := 299) (v := 312) (ci := 1) (t0 := 3) (E1 := sE (sE F 299 (arG cs (va_up (fun _ => none) 0 (some (b + 312))))) 0 (.inr (6, [jR b 1, jR b 3, jR b 12, jR b 21, jR b 293, jR b 299, jR b 300, jR b 306, .long 0]))) hx hb hK hG hS (by decide) (by rw [sE_n (by decide)]; exact sE_s _ _ _) rfl (by decide) (by rw [sE_n (by decide), sE_n (by decide)]; exact (hF _ (by decide)).trans (fE_O kz_312 (by decide))) rfl (vp_in_w (by decide)) dX8_init_112 (by rw [i32_cl (by decide), show (wr (0)).toNat = 0 by decide, sE_comm (by decide), sE_sE]; rfl) (fun H locs hG hS => ?_)
  refine j_iinc (k := 0) (lv2 := [(1, jI (0 + 1)), (0, jR b 0)]) hx hb dX8_init_113 hl rfl (by decide) rfl (fun ls hl => ?_)
  refine j_goto (tgt := 91) hx hb dX8_init_116 (by decide) ?_
  refine j_iload_n hx hb dX8_init_91 rfl (lv_at hl 0 rfl) ?_
  refine j_aload_n hx hb dX8_init_92 rfl (lv_at hl 1 rfl) ?_
  refine k_get (v := jR b 299) hx hb hts hinX8 hown hK hG (by decide) (sE_s _ _ _) rfl 5 (by decide) (hts (.fieldLink RX8 42 "CardBand" "images" "[LCardBand$Image;") (by decide +kernel)) rfl rfl dX8_init_93 ?_
  refine k_alen (z := 2) hx hb hK hG (a := 299) (by decide) (by rw [sE_n (by decide)]; exact sE_s _ _ _) (t0 := 3) rfl rfl dX8_init_96 ?_
  refine j_icmp_ge (A := 1) (B := 2) (tgt := 119) hx hb (by decide) (by decide) dX8_init_97 (by decide) (fun q => absurd q (by decide)) (fun q => ?_)
  refine j_aload_n hx hb dX8_init_100 rfl (lv_at hl 1 rfl) ?_
  refine k_get (v := jR b 299) hx hb hts hinX8 hown hK hG (by decide) (sE_s _ _ _) rfl 5 (by decide) (hts (.fieldLink RX8 42 "CardBand" "images" "[LCardBand$Image;") (by decide +kernel)) rfl rfl dX8_init_101 ?_
  refine j_iload_n hx hb dX8_init_104 rfl (lv_at hl 0 rfl) ?_
  have hG : GW D b (sE (sE (sE F 299 (arG cs (va_up (fun _ => none) 0 (some (b + 312))))) 0 (.inr (6, [jR b 1, jR b 3, jR b 12, jR b 21, jR b 293, jR b 299, jR b 300, jR b 306, .long 0]))) 322 (.inr (1, [.null, .long 0, .int 0]))) 322 _ := hG.eq (fun x hx9 => (sE_n (by omega)).symm)
  refine k_new (ci := 1) (fs := [.null, .long 0, .int 0]) hx hb hts hinX2 tyX2 tyX2_ok hown (hts (.classLink RX8 40 RX2) (by decide +kernel)) (hts (.instantiable RX2 3) (by decide +kernel)) (hts (.initialized RX2) (by decide +kernel)) hK hG hS rfl (fun j hj => by rcases (show j = 0 ∨ j = 1 ∨ j = 2 by omega) with rfl | rfl | rfl <;> rfl) (sE_s _ _ _) (Nat.le_of_ble_eq_true rfl) (Nat.le_of_ble_eq_true rfl) dX8_init_105 (fun H hG hS => ?_)
  refine j_dup hx hb dX8_init_108 rfl ?_
  refine k_initN (E1 := sE (sE F 299 (arG cs (va_up (fun _ => none) 0 (some (b + 312))))) 0 (.inr (6, [jR b 1, jR b 3, jR b 12, jR b 21, jR b 293, jR b 299, jR b 300, jR b 306, .long 0]))) (n2 := 332) (rest := [jR b 322, jI (0 + 1), jR b 299]) ⟨hx, hb, hml, hown, hts⟩ hK hN hG hS (q_X2_init l D b cs kz_322 (fun x h1 h2 => by rw [sE_n (by omega), sE_n (by omega)]; exact hF x (by omega))) ⟨va_cnB 0 hts gX8_init_X2_init_n56 rfl rfl rfl hN.2.2.2.2.2.2.1 (hts (.initialized RX2) (by decide +kernel)) (by decide +kernel) ⟨Nat.le_of_ble_eq_true rfl, Nat.le_of_ble_eq_true rfl⟩, rfl, (hts (.instanceMethod yX2_init) (by decide +kernel))⟩ hl.1 rfl (Nat.le_of_ble_eq_true rfl) dX8_init_109 ⟨Nat.le_of_ble_eq_true rfl, Nat.le_of_ble_eq_true rfl⟩ (fun H locs hG hS => ?_)
  refine k_ast (a := 299) (v := 322) (ci := 1) (t0 := 3) (E1 := sE (sE F 299 (arG cs (va_up (va_up (fun _ => none) 0 (some (b + 312))) 1 (some (b + 322))))) 0 (.inr (6, [jR b 1, jR b 3, jR b 12, jR b 21, jR b 293, jR b 299, jR b 300, jR b 306, .long 0]))) hx hb hK hG hS (by decide) (by rw [sE_n (by decide)]; exact sE_s _ _ _) rfl (by decide) (by rw [sE_n (by decide), sE_n (by decide)]; exact (hF _ (by decide)).trans (fE_O kz_322 (by decide))) rfl (vp_in_w (by decide)) dX8_init_112 (by rw [i32_cl (by decide), show (wr ((0 + 1))).toNat = 1 by decide, sE_comm (by decide), sE_sE]; rfl) (fun H locs hG hS => ?_)
  refine j_iinc (k := 0) (lv2 := [(1, jI ((0 + 1) + 1)), (0, jR b 0)]) hx hb dX8_init_113 hl rfl (by decide) rfl (fun ls hl => ?_)
  refine j_goto (tgt := 91) hx hb dX8_init_116 (by decide) ?_
  refine j_iload_n hx hb dX8_init_91 rfl (lv_at hl 0 rfl) ?_
  refine j_aload_n hx hb dX8_init_92 rfl (lv_at hl 1 rfl) ?_
  refine k_get (v := jR b 299) hx hb hts hinX8 hown hK hG (by decide) (sE_s _ _ _) rfl 5 (by decide) (hts (.fieldLink RX8 42 "CardBand" "images" "[LCardBand$Image;") (by decide +kernel)) rfl rfl dX8_init_93 ?_
  refine k_alen (z := 2) hx hb hK hG (a := 299) (by decide) (by rw [sE_n (by decide)]; exact sE_s _ _ _) (t0 := 3) rfl rfl dX8_init_96 ?_
  refine j_icmp_ge (A := 2) (B := 2) (tgt := 119) hx hb (by decide) (by decide) dX8_init_97 (by decide) (fun q => ?_) (fun q => absurd (by decide) q)
  have hG := hG.arr (a := 299) (g := fun i => some (b + (312 + 10 * i))) (by decide) (by rw [sE_n (by decide)]; exact sE_s _ _ _) (fun i hi => by rcases (show i = 0 ∨ i = 1 by omega) with rfl | rfl <;> rfl)
  have e1 : F 299 = arG cs (fun i => some (b + (312 + 10 * i))) := (hF _ (by decide)).trans (fE_G b cs)
  have e2 : F 0 = .inr (6, [jR b 1, jR b 3, jR b 12, jR b 21, jR b 293, jR b 299, jR b 300, jR b 306, .long 0]) := by
    rw [hF _ (by decide), fE_O kz_0 (by decide)]
    rfl
  have hG : GW D b F 332 _ := hG.eq (fun x hx9 => by
    by_cases q1 : x = 299
    · rw [q1, sE_s, e1]; rfl
    · rw [sE_n q1]
      by_cases q2 : x = 0
      · rw [q2, sE_s, e2]
      · rw [sE_n q2, sE_n q1])
  exact k_ret hx hb hG hS hr hlk (by decide) (by decide) dX8_init_119
