/-! THE START: the two objects made, then the loop -/
set_option maxHeartbeats 4000000 in
set_option maxRecDepth 100000 in
theorem st_K {s : State} {b : Nat} (hts0 : ∀ w ∈ lw_tbl, w.before #[Value.ref b] s = true) : ∃ (D : va_G) (cs : CS), va_K D vwCl (tyl cs) s := by
  obtain ⟨c0, i0, k0⟩ := u_known (C := RX1) (T := TX1) (N := 3) (n := 3) hts0 inTX1 (hts0 (.instantiable RX1 3) (by decide +kernel))
  obtain ⟨c1, i1, k1⟩ := u_known (C := RX2) (T := TX2) (N := 3) (n := 3) hts0 inTX2 (hts0 (.instantiable RX2 3) (by decide +kernel))
  obtain ⟨c2, i2, k2⟩ := u_known (C := RX3) (T := TX3) (N := 7) (n := 7) hts0 inTX3 (hts0 (.instantiable RX3 7) (by decide +kernel))
  obtain ⟨c3, i3, k3⟩ := u_known (C := RX4) (T := TX4) (N := 6) (n := 6) hts0 inTX4 (hts0 (.instantiable RX4 6) (by decide +kernel))
  obtain ⟨c4, i4, k4⟩ := u_known (C := RX5) (T := TX5) (N := 9) (n := 9) hts0 inTX5 (hts0 (.instantiable RX5 9) (by decide +kernel))
  obtain ⟨c5, i5, k5⟩ := u_known (C := RX7) (T := TX7) (N := 9) (n := 9) hts0 inTX7 (hts0 (.instantiable RX7 9) (by decide +kernel))
  obtain ⟨c6, i6, k6⟩ := u_known (C := RX8) (T := TX8) (N := 9) (n := 9) hts0 inTX8 (hts0 (.instantiable RX8 9) (by decide +kernel))
  obtain ⟨c7, i7, k7⟩ := u_known (C := RX9) (T := TX9) (N := 27) (n := 27) hts0 inTX9 (hts0 (.instantiable RX9 27) (by decide +kernel))
  obtain ⟨aI, kI, pI1, f1, f2, f3⟩ := Cond.arrayClass_spec (hts0 (.arrayClass .int) (by decide +kernel))
  obtain ⟨aZ, kZ, pZ1, g1, g2, g3⟩ := Cond.arrayClass_spec (hts0 (.arrayClass .boolean) (by decide +kernel))
  obtain ⟨pW, aW, kW, w1, w2, w3, w4, w5⟩ := Cond.arrayOver_spec (hts0 (.arrayOver (.object "CardBand$Weave")) (by decide +kernel))
  obtain ⟨pG, aG, kG, v1, v2, v3, v4, v5⟩ := Cond.arrayOver_spec (hts0 (.arrayOver (.object "CardBand$Image")) (by decide +kernel))
  refine ⟨(fun k => if k = 0 then c0 else if k = 1 then c1 else if k = 2 then c2 else if k = 3 then c3 else if k = 4 then c4 else if k = 5 then c5 else if k = 6 then c6 else c7, fun k => if k = 0 then i0 else if k = 1 then i1 else if k = 2 then i2 else if k = 3 then i3 else if k = 4 then i4 else if k = 5 then i5 else if k = 6 then i6 else i7), (aI, aZ, aW, aG), ?_, ?_⟩
  · intro k q hq
    match k, hq with
    | 0, hq => cases hq; exact k0
    | 1, hq => cases hq; exact k1
    | 2, hq => cases hq; exact k2
    | 3, hq => cases hq; exact k3
    | 4, hq => cases hq; exact k4
    | 5, hq => cases hq; exact k5
    | 6, hq => cases hq; exact k6
    | 7, hq => cases hq; exact k7
    | k + 8, hq => simp [vwCl] at hq
  · intro k q hq
    match k, hq with
    | 0, hq => cases hq; exact ⟨fun N z => ⟨(fun k h => by cases h), kI, f2, pI1, f3⟩, f1⟩
    | 1, hq => cases hq; exact ⟨fun N z => ⟨(fun k h => by cases h), kZ, g2, pZ1, g3⟩, g1⟩
    | 2, hq => cases hq; exact ⟨fun N z => ⟨(fun k h => by cases h), kW, w3, pW, w4⟩, kW, pW, w3, w4, w1, w5⟩
    | 3, hq => cases hq; exact ⟨fun N z => ⟨(fun k h => by cases h), kG, v3, pG, v4⟩, kG, pG, v3, v4, v1, v5⟩
    | k + 4, hq => simp [tyl] at hq
set_option maxHeartbeats 4000000 in
set_option maxRecDepth 100000 in
theorem st_N {s : State} {b : Nat} (hts0 : ∀ w ∈ lw_tbl, w.before #[Value.ref b] s = true) : NK s :=
  ⟨va_AO.of (hts0 (.arrayOver (.object "CardBand$Weave")) (by decide +kernel)), va_AO.of (hts0 (.arrayOver (.object "CardBand$Image")) (by decide +kernel)), va_Nw.of rfl (hts0 (.methodLinkNest RX8 9 yX4_init "CardBand") (by decide +kernel)), va_Nw.of rfl (hts0 (.methodLinkNest RX8 18 yX7_init "CardBand") (by decide +kernel)), va_Nw.of rfl (hts0 (.methodLinkNest RX8 35 yX3_init "CardBand") (by decide +kernel)), va_Nw.of rfl (hts0 (.methodLinkNest RX8 48 yX5_init "CardBand") (by decide +kernel)), va_Nw.of rfl (hts0 (.methodLinkNest RX8 56 yX2_init "CardBand") (by decide +kernel)), va_Nw.of rfl (hts0 (.methodLinkNest RX1 17 yX7_init "CardBand") (by decide +kernel)), va_Nw.of rfl (hts0 (.methodLinkNest RX2 9 yX7_init "CardBand") (by decide +kernel))⟩
set_option maxHeartbeats 8000000 in
set_option maxRecDepth 100000 in
theorem whole_start {p : Program} {e : Env} {s : State} {m : MethodId} {below : List Frame} {meth : Method} {c : Code} (l : Launch) (hflags : l.flags = flags0) {b L : Nat} {xs : Nat → Int32} (hL : L ≤ 256) (C0 : lw_At p s m meth c b L xs) : W p l e room_1 s m #[Value.ref b] below meth c s.heap [] 0 0 (lw_Z below #[Value.ref b] s) (entryFrame m ([Value.ref b] : List Value).toArray 4) := by
  obtain ⟨hx, hb, hr, hml, hown, hts0, hX, hbl, hlocks, hgv⟩ := id C0
  have hts : ∀ w ∈ wsL_law, w.before #[Value.ref b] s = true := fun w h => hts0 w (wsL_law_in w h)
  have hown : s.vm.findClass RL = some m.cls := hown
  obtain ⟨D, cs, hK⟩ := st_K hts0
  have hN : NK s := st_N hts0
  have hNB : NB 300 := Nat.le_refl 300
  have hS : va_S (bA s.heap.size) s.heap s.heap [] := va_S.rf
  have hl := lv_entry ([.ref b]) (n := 4) (Nat.le_of_ble_eq_true rfl)
  rw [lg_entry_eq]
  generalize (lg_sl ([.ref b]) ++ List.replicate (4 - (lg_sl ([.ref b])).length) Slot.unset).toArray = ls at hl ⊢
  have hl : lv_has ls 4 [(0, .ref b)] := hl
  have hG : GW D s.heap.size (sE (fE s.heap.size cs) 0 (.inr (6, [.null, .null, .null, .null, .null, .null, .null, .null, .long 0]))) 0 s.heap := ⟨(fun k q hq => by rw [wn_out _ _ (Nat.zero_le k)] at hq; cases hq), (Nat.add_zero _).symm⟩
  refine k_new (cs := cs) (ci := 6) (fs := [.null, .null, .null, .null, .null, .null, .null, .null, .long 0]) (rest := []) hx hb hts inlX8 tyX8 tyX8_ok hown (hts (.classLink RL 7 RX8) (by decide +kernel)) (hts (.instantiable RX8 9) (by decide +kernel)) (hts (.initialized RX8) (by decide +kernel)) hK hG hS rfl (fun j hj => by rcases (show j = 0 ∨ j = 1 ∨ j = 2 ∨ j = 3 ∨ j = 4 ∨ j = 5 ∨ j = 6 ∨ j = 7 ∨ j = 8 by omega) with rfl | rfl | rfl | rfl | rfl | rfl | rfl | rfl | rfl <;> rfl) (sE_s _ _ _) (Nat.le_of_ble_eq_true rfl) (Nat.le_of_ble_eq_true rfl) dL_law_0 (fun H hG hS => ?_)
  refine j_dup hx hb dL_law_3 rfl ?_
  refine k_init (E1 := fE s.heap.size cs) (n2 := 332) (rest := [jR s.heap.size 0]) ⟨hx, hb, hml, hown, hts⟩ hK hN hG hS (q_X8_init l D s.heap.size cs (fun x _ => rfl)) (cwI 0 hts gL_law_X8_init rfl rfl rfl (hts (.initialized RX8) (by decide +kernel)) (hts (.methodLink RL 9 yX8_init) (by decide +kernel)) (hts (.instanceMethod yX8_init) (by decide +kernel)) rfl (by decide +kernel) ⟨(Nat.le_of_ble_eq_true rfl), (Nat.le_of_ble_eq_true rfl)⟩) hl.1 rfl (Nat.le_of_ble_eq_true rfl) dL_law_4 ⟨(Nat.le_of_ble_eq_true rfl), (Nat.le_of_ble_eq_true rfl)⟩ (fun H locs hG hS => ?_)
  refine j_astore_n (x := 0) (lv2 := [(1, jR s.heap.size 0), (0, .ref b)]) hx hb dL_law_7 rfl hl (by decide) rfl (fun ls hl => ?_)
  have hG : GW D s.heap.size (sE (fE s.heap.size cs) 332 (.inr (7, [.null, .null, .int 0, .int 0, .null, .null, .int 0, .int 0, .null, .int 0, .int 0, .null, .null, .int 0, .int 0, .int 0, .int 0, .int 0, .int 0, .null, .null, .null, .null, .int 0, .null, .null, .int 0]))) 332 H := hG.eq (fun x hx9 => (sE_n (by omega)).symm)
  refine k_new (cs := cs) (ci := 7) (fs := [.null, .null, .int 0, .int 0, .null, .null, .int 0, .int 0, .null, .int 0, .int 0, .null, .null, .int 0, .int 0, .int 0, .int 0, .int 0, .int 0, .null, .null, .null, .null, .int 0, .null, .null, .int 0]) (rest := []) hx hb hts inlX9 tyX9 tyX9_ok hown (hts (.classLink RL 10 RX9) (by decide +kernel)) (hts (.instantiable RX9 27) (by decide +kernel)) (hts (.initialized RX9) (by decide +kernel)) hK hG hS rfl (fun j hj => by rcases (show j = 0 ∨ j = 1 ∨ j = 2 ∨ j = 3 ∨ j = 4 ∨ j = 5 ∨ j = 6 ∨ j = 7 ∨ j = 8 ∨ j = 9 ∨ j = 10 ∨ j = 11 ∨ j = 12 ∨ j = 13 ∨ j = 14 ∨ j = 15 ∨ j = 16 ∨ j = 17 ∨ j = 18 ∨ j = 19 ∨ j = 20 ∨ j = 21 ∨ j = 22 ∨ j = 23 ∨ j = 24 ∨ j = 25 ∨ j = 26 by omega) with rfl | rfl | rfl | rfl | rfl | rfl | rfl | rfl | rfl | rfl | rfl | rfl | rfl | rfl | rfl | rfl | rfl | rfl | rfl | rfl | rfl | rfl | rfl | rfl | rfl | rfl | rfl <;> rfl) (sE_s _ _ _) (Nat.le_of_ble_eq_true rfl) (Nat.le_of_ble_eq_true rfl) dL_law_8 (fun H hG hS => ?_)
  refine j_dup hx hb dL_law_11 rfl ?_
  refine k_init (E1 := fE s.heap.size cs) (n2 := 346) (rest := [jR s.heap.size 332]) ⟨hx, hb, hml, hown, hts⟩ hK hN hG hS (q_X9_init l D s.heap.size cs (fun x _ _ => rfl)) (cwI 0 hts gL_law_X9_init rfl rfl rfl (hts (.initialized RX9) (by decide +kernel)) (hts (.methodLink RL 12 yX9_init) (by decide +kernel)) (hts (.instanceMethod yX9_init) (by decide +kernel)) rfl (by decide +kernel) ⟨(Nat.le_of_ble_eq_true rfl), (Nat.le_of_ble_eq_true rfl)⟩) hl.1 rfl (Nat.le_of_ble_eq_true rfl) dL_law_12 ⟨(Nat.le_of_ble_eq_true rfl), (Nat.le_of_ble_eq_true rfl)⟩ (fun H locs hG hS => ?_)
  refine j_astore_n (x := 332) (lv2 := [(2, jR s.heap.size 332), (1, jR s.heap.size 0), (0, .ref b)]) hx hb dL_law_15 rfl hl (by decide) rfl (fun ls hl => ?_)
  refine j_iconst hx hb dL_law_16 ?_
  refine j_istore_n (lv2 := [(3, jI 0), (2, jR s.heap.size 332), (1, jR s.heap.size 0), (0, .ref b)]) hx hb dL_law_17 rfl hl (by decide) rfl (fun ls hl => ?_)
  have hP : va_P D vwCl (wl s.heap.size cs mZ) H := hG.1
  have hl : lv_has ls 4 [(3, jI (4 * ((0 : Nat) : Int))), (2, jR s.heap.size 332), (1, jR s.heap.size 0), (0, .ref b)] := hl
  refine W.widen (k := 600000) (n := 7302250) (Nat.le_of_ble_eq_true rfl) (Nat.le_of_ble_eq_true rfl) ?_
  exact law_loop C0 hL (D := D) (cs := cs) (N := 300) (I := Inv) (okp_feed 300) (okp_loom 300 hNB) (okp_fault 300) (okp_told 300 hNB) (okp_card 300 hNB) (okp_pack 300) (okp_yarn 300) (okp_row 300) (okp_pick 300 hNB) (okp_flip 300 hNB) (okp_shift 300 hNB) (okp_buy 300 hNB) (okp_drift 300 hNB) (okp_undo 300 hNB) (okp_ahead 300) (okp_lasts 300 hNB) (okp_untwist 300 hNB) (okp_home 300 hNB) (okp_together 300 hNB) (okp_repeat 300 hNB) (okp_floats 300 hNB) (okp_alike 300 hNB) (okp_shown 300 hNB) (okp_turned 300 hNB) (okp_share 300 hNB) (okp_plain 300 hNB) (okp_see 300) (okp_holes 300 hNB) (okp_lookAt 300 hNB) (okp_write 300) (okp_judge 300 hNB) (okp_tear 300) (okp_seed 300) (okp_keep 300 hNB) (okp_goBack 300 hNB) hK 65 0 (by omega) (by omega) mZ inv_mZ H locs ls hP hS hl
