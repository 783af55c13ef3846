def fX8_ahead_j68 (N : Nat) (y1 : Int) (μ : Mm) : Int → Option (Int) := fun s10 =>
    Option.bind (fX5_colourAt N ((gI μ 0 6).toNat) y1 s10 μ) (fun v12 => some v12)
def fX8_ahead (N : Nat) (y1 : Int) (y2 : Int) (y3 : Int) (μ : Mm) : Option (Int) :=
    gd (decide (kd ((gI μ 0 6).toNat) = 4)) (Option.bind (fX5_hasCard N ((gI μ 0 6).toNat) y1 μ) (fun v3 => if wr v3 = 0 then (some (-1000000001)) else (if wr y2 < 1 then (some (-1000000002)) else (if 99 < wr y2 then (some (-1000000002)) else (if wr y3 < 0 then (some (-1000000002)) else (if wr y3 ≤ 1 then (if wr y3 = 0 then (Option.bind (ldA μ 5 8 y1) (fun v16 => fX8_ahead_j68 N y1 μ ((v16 + y2) - 1))) else (Option.bind (ldA μ 5 8 y1) (fun v14 => fX8_ahead_j68 N y1 μ (v14 - y2)))) else (some (-1000000002))))))))
abbrev rmX8_ahead : Room := { frames := 2, cells := 0, slots := 0, locals := 43 }
set_option maxHeartbeats 4000000 in
set_option maxRecDepth 100000 in
theorem m_X8_ahead (l : Launch) (D : va_G) (b : Nat) (cs : CS) (N : Nat) {μ : Mm} {y1 y2 y3 : Int} {r : Int} (h : fX8_ahead N y1 y2 y3 μ = some r) : MI l yX8_ahead wsX8_ahead rmX8_ahead D b cs [jR b 0, jI y1, jI y2, jI y3] μ μ r := by
  refine met_in (cc := cX8_ahead) (maxL := 5) (ret := some .int) (lv0 := [(0, jR b 0), (1, jI y1), (2, jI y2), (3, jI y3)]) (by decide +kernel) rfl (Nat.le_of_ble_eq_true rfl) rfl ?_
  intro p e s m args below meth c hx hb hr hlk hml hown hts hP hK ls hl
  have hown : s.vm.findClass RX8 = some m.cls := hown
  have hS : va_S (bA b) s.heap s.heap [] := va_S.rf
  have hinX7 : ∀ w ∈ u_ws RX7 TX7 9, w ∈ wsX8_ahead := by decide +kernel
  have hinX8 : ∀ w ∈ u_ws RX8 TX8 9, w ∈ wsX8_ahead := by decide +kernel
  unfold fX8_ahead at h
  refine j_aload_n hx hb dX8_ahead_0 rfl (lv_at hl 0 rfl) ?_
  refine j_get (v := jR b ((gI μ 0 6).toNat)) hx hb hts hinX8 hown hK hP kz_0 (by decide) rfl 6 (by decide) (hts (.fieldLink RX8 49 "CardBand" "threading" "LCardBand$Threading;") (by decide +kernel)) rfl rfl dX8_ahead_1 ?_
  refine j_iload_n hx hb dX8_ahead_4 rfl (lv_at hl 1 rfl) ?_
  obtain ⟨g1, h⟩ := ob_g h
  replace g1 := of_decide_eq_true g1
  obtain ⟨v3, e2, h⟩ := ob_I h
  refine jc_VI (As := [jI y1]) (rest := []) ⟨hx, hb, hml, hown, hts⟩ hK hP hS (m_X5_hasCard l D b cs N g1 e2) (cwV 1 hts gX8_ahead_X5_hasCard rfl rfl rfl (by decide +kernel) ⟨Nat.le_of_ble_eq_true rfl, Nat.le_of_ble_eq_true rfl⟩) g1 (by decide) rfl rfl hl.1 rfl (Nat.le_of_ble_eq_true rfl) dX8_ahead_5 ⟨Nat.zero_le _, Nat.zero_le _⟩ (fun H locs hP hS => ?_)
  refine j_if_ne (A := wr v3) (tgt := 14) hx hb rfl dX8_ahead_8 (by decide) (fun q4 => ?_) (fun q4 => ?_)
  · replace h := (if_neg q4).symm.trans h
    refine j_iload_n hx hb dX8_ahead_14 rfl (lv_at hl 2 rfl) ?_
    refine j_iconst hx hb dX8_ahead_15 ?_
    refine j_icmp_lt (A := wr y2) (B := 1) (tgt := 34) hx hb rfl (by decide) dX8_ahead_16 (by decide) (fun q5 => ?_) (fun q5 => ?_)
    · replace h := (if_pos q5).symm.trans h
      refine j_ldc (n := (-1000000002)) hx hb hown (hts (.constant RX8 57 (-1000000002)) (by decide +kernel)) (by decide) dX8_ahead_34 ?_
      exact j_retI hx hb hK hP hS hr hlk (Option.some.inj h) dX8_ahead_36
    · replace h := (if_neg q5).symm.trans h
      refine j_iload_n hx hb dX8_ahead_19 rfl (lv_at hl 2 rfl) ?_
      refine j_bipush hx hb dX8_ahead_20 (by decide) ?_
      refine j_icmp_gt (A := wr y2) (B := 99) (tgt := 34) hx hb rfl (by decide) dX8_ahead_22 (by decide) (fun q6 => ?_) (fun q6 => ?_)
      · replace h := (if_pos q6).symm.trans h
        refine j_ldc (n := (-1000000002)) hx hb hown (hts (.constant RX8 57 (-1000000002)) (by decide +kernel)) (by decide) dX8_ahead_34 ?_
        exact j_retI hx hb hK hP hS hr hlk (Option.some.inj h) dX8_ahead_36
      · replace h := (if_neg q6).symm.trans h
        refine j_iload_n hx hb dX8_ahead_25 rfl (lv_at hl 3 rfl) ?_
        refine j_if_lt (A := wr y3) (tgt := 34) hx hb rfl dX8_ahead_26 (by decide) (fun q7 => ?_) (fun q7 => ?_)
        · replace h := (if_pos q7).symm.trans h
          refine j_ldc (n := (-1000000002)) hx hb hown (hts (.constant RX8 57 (-1000000002)) (by decide +kernel)) (by decide) dX8_ahead_34 ?_
          exact j_retI hx hb hK hP hS hr hlk (Option.some.inj h) dX8_ahead_36
        · replace h := (if_neg q7).symm.trans h
          refine j_iload_n hx hb dX8_ahead_29 rfl (lv_at hl 3 rfl) ?_
          refine j_iconst hx hb dX8_ahead_30 ?_
          refine j_icmp_le (A := wr y3) (B := 1) (tgt := 37) hx hb rfl (by decide) dX8_ahead_31 (by decide) (fun q8 => ?_) (fun q8 => ?_)
          · replace h := (if_pos q8).symm.trans h
            refine j_iload_n hx hb dX8_ahead_37 rfl (lv_at hl 3 rfl) ?_
            have hj68_9 : ∀ (s10 : Int) (H : Heap) (locs : List Loc) (ls : Array Slot), va_P D vwCl (wl b cs μ) H → va_S (bA b) s.heap H locs → lv_has ls 5 [(0, jR b 0), (1, jI y1)] → fX8_ahead_j68 N y1 μ s10 = some r → W p l e rmX8_ahead s m args below meth c H locs 0 0 (MQ below (QI D b cs μ r) args s 0 0 (bA b)) (F0 m 68 ls [jI s10]) := by
              intro s10 H locs ls hP hS hl h
              unfold fX8_ahead_j68 at h
              refine j_istore (lv2 := [(4, jI s10), (0, jR b 0), (1, jI y1)]) hx hb dX8_ahead_68 hl (by decide) rfl (fun ls hl => ?_)
              refine j_aload_n hx hb dX8_ahead_70 rfl (lv_at hl 1 rfl) ?_
              refine j_get (v := jR b ((gI μ 0 6).toNat)) hx hb hts hinX8 hown hK hP kz_0 (by decide) rfl 6 (by decide) (hts (.fieldLink RX8 49 "CardBand" "threading" "LCardBand$Threading;") (by decide +kernel)) rfl rfl dX8_ahead_71 ?_
              refine j_iload_n hx hb dX8_ahead_74 rfl (lv_at hl 2 rfl) ?_
              refine j_iload hx hb dX8_ahead_75 (lv_at hl 0 rfl) ?_
              obtain ⟨v12, e11, h⟩ := ob_I h
              refine jc_VI (As := [jI y1, jI s10]) (rest := []) ⟨hx, hb, hml, hown, hts⟩ hK hP hS (m_X5_colourAt l D b cs N g1 e11) (cwV 2 hts gX8_ahead_X5_colourAt rfl rfl rfl (by decide +kernel) ⟨Nat.le_of_ble_eq_true rfl, Nat.le_of_ble_eq_true rfl⟩) g1 (by decide) rfl rfl hl.1 rfl (Nat.le_of_ble_eq_true rfl) dX8_ahead_77 ⟨Nat.zero_le _, Nat.zero_le _⟩ (fun H locs hP hS => ?_)
              exact j_retI hx hb hK hP hS hr hlk (Option.some.inj h) dX8_ahead_80
            refine j_if_ne (A := wr y3) (tgt := 57) hx hb rfl dX8_ahead_38 (by decide) (fun q13 => ?_) (fun q13 => ?_)
            · replace h := (if_neg q13).symm.trans h
              refine j_aload_n hx hb dX8_ahead_57 rfl (lv_at hl 0 rfl) ?_
              refine j_get (v := jR b 3) hx hb hts hinX8 hown hK hP kz_0 (by decide) rfl 1 (by decide) (hts (.fieldLink RX8 19 "CardBand" "weave" "LCardBand$Weave;") (by decide +kernel)) rfl rfl dX8_ahead_58 ?_
              refine j_get (v := jR b 5) hx hb hts hinX7 hown hK hP kz_3 (by decide) rfl 1 (by decide) (hts (.fieldLink RX8 145 "CardBand$Weave" "stands" "[I") (by decide +kernel)) rfl rfl dX8_ahead_61 ?_
              refine j_iload_n hx hb dX8_ahead_64 rfl (lv_at hl 1 rfl) ?_
              obtain ⟨v14, e15, h⟩ := ob_I h
              refine j_iaload hx hb hK hP kz_5 e15 dX8_ahead_65 ?_
              refine j_iload_n hx hb dX8_ahead_66 rfl (lv_at hl 2 rfl) ?_
              refine j_isub hx hb dX8_ahead_67 ?_
              exact hj68_9 _ _ _ _ hP hS (lv_sub hl [0, 1] rfl) h
            · replace h := (if_pos q13).symm.trans h
              refine j_aload_n hx hb dX8_ahead_41 rfl (lv_at hl 0 rfl) ?_
              refine j_get (v := jR b 3) hx hb hts hinX8 hown hK hP kz_0 (by decide) rfl 1 (by decide) (hts (.fieldLink RX8 19 "CardBand" "weave" "LCardBand$Weave;") (by decide +kernel)) rfl rfl dX8_ahead_42 ?_
              refine j_get (v := jR b 5) hx hb hts hinX7 hown hK hP kz_3 (by decide) rfl 1 (by decide) (hts (.fieldLink RX8 145 "CardBand$Weave" "stands" "[I") (by decide +kernel)) rfl rfl dX8_ahead_45 ?_
              refine j_iload_n hx hb dX8_ahead_48 rfl (lv_at hl 1 rfl) ?_
              obtain ⟨v16, e17, h⟩ := ob_I h
              refine j_iaload hx hb hK hP kz_5 e17 dX8_ahead_49 ?_
              refine j_iload_n hx hb dX8_ahead_50 rfl (lv_at hl 2 rfl) ?_
              refine j_iadd hx hb dX8_ahead_51 ?_
              refine j_iconst hx hb dX8_ahead_52 ?_
              refine j_isub hx hb dX8_ahead_53 ?_
              refine j_goto (tgt := 68) hx hb dX8_ahead_54 (by decide) ?_
              exact hj68_9 _ _ _ _ hP hS (lv_sub hl [0, 1] rfl) h
          · replace h := (if_neg q8).symm.trans h
            refine j_ldc (n := (-1000000002)) hx hb hown (hts (.constant RX8 57 (-1000000002)) (by decide +kernel)) (by decide) dX8_ahead_34 ?_
            exact j_retI hx hb hK hP hS hr hlk (Option.some.inj h) dX8_ahead_36
  · replace h := (if_pos q4).symm.trans h
    refine j_ldc (n := (-1000000001)) hx hb hown (hts (.constant RX8 136 (-1000000001)) (by decide +kernel)) (by decide) dX8_ahead_11 ?_
    exact j_retI hx hb hK hP hS hr hlk (Option.some.inj h) dX8_ahead_13
def fX8_alike (N : Nat) (y1 : Int) (μ : Mm) : Option (Int) :=
    gd (decide (kd ((gI μ 0 6).toNat) = 4)) (Option.bind (fX0_findAlike N 3 (gI μ ((gI μ 0 6).toNat) 6) y1 μ) (fun v3 => some v3))
abbrev rmX8_alike : Room := { frames := 5, cells := 0, slots := 0, locals := 112 }
set_option maxHeartbeats 4000000 in
set_option maxRecDepth 100000 in
theorem m_X8_alike (l : Launch) (D : va_G) (b : Nat) (cs : CS) (N : Nat) {μ : Mm} {y1 : Int} {r : Int} (h : fX8_alike N y1 μ = some r) : MI l yX8_alike wsX8_alike rmX8_alike D b cs [jR b 0, jI y1] μ μ r := by
  refine met_in (cc := cX8_alike) (maxL := 2) (ret := some .int) (lv0 := [(0, jR b 0), (1, jI y1)]) (by decide +kernel) rfl (Nat.le_of_ble_eq_true rfl) rfl ?_
  intro p e s m args below meth c hx hb hr hlk hml hown hts hP hK ls hl
  have hown : s.vm.findClass RX8 = some m.cls := hown
  have hS : va_S (bA b) s.heap s.heap [] := va_S.rf
  have hinX5 : ∀ w ∈ u_ws RX5 TX5 9, w ∈ wsX8_alike := by decide +kernel
  have hinX8 : ∀ w ∈ u_ws RX8 TX8 9, w ∈ wsX8_alike := by decide +kernel
  unfold fX8_alike at h
  refine j_aload_n hx hb dX8_alike_0 rfl (lv_at hl 0 rfl) ?_
  refine j_get (v := jR b 3) hx hb hts hinX8 hown hK hP kz_0 (by decide) rfl 1 (by decide) (hts (.fieldLink RX8 19 "CardBand" "weave" "LCardBand$Weave;") (by decide +kernel)) rfl rfl dX8_alike_1 ?_
  refine j_aload_n hx hb dX8_alike_4 rfl (lv_at hl 0 rfl) ?_
  refine j_get (v := jR b ((gI μ 0 6).toNat)) hx hb hts hinX8 hown hK hP kz_0 (by decide) rfl 6 (by decide) (hts (.fieldLink RX8 49 "CardBand" "threading" "LCardBand$Threading;") (by decide +kernel)) rfl rfl dX8_alike_5 ?_
  obtain ⟨g1, h⟩ := ob_g h
  replace g1 := of_decide_eq_true g1
  refine j_get (v := jI (gI μ ((gI μ 0 6).toNat) 6)) hx hb hts hinX5 hown hK hP g1 (by decide) rfl 6 (by decide) (hts (.fieldLink RX8 85 "CardBand$Threading" "cards" "I") (by decide +kernel)) rfl (by rw [jI_g]; rfl) dX8_alike_8 ?_
  refine j_iload_n hx hb dX8_alike_11 rfl (lv_at hl 1 rfl) ?_
  obtain ⟨v3, e2, h⟩ := ob_I h
  refine jc_SI (As := [jR b 3, jI (gI μ ((gI μ 0 6).toNat) 6), jI y1]) (rest := []) ⟨hx, hb, hml, hown, hts⟩ hK hP hS (m_X0_findAlike l D b cs N kz_3 e2) (va_cwS 3 hts gX8_alike_X0_findAlike rfl rfl rfl (by decide +kernel) ⟨Nat.le_of_ble_eq_true rfl, Nat.le_of_ble_eq_true rfl⟩) rfl hl.1 rfl (Nat.le_of_ble_eq_true rfl) dX8_alike_12 ⟨Nat.zero_le _, Nat.zero_le _⟩ (fun H locs hP hS => ?_)
  exact j_retI hx hb hK hP hS hr hlk (Option.some.inj h) dX8_alike_15
def fX8_buy (N : Nat) (y1 : Int) (y2 : Int) (μ : Mm) : Option (Int × Mm) :=
    gd (decide (kd ((gI μ 0 6).toNat) = 4)) (Option.bind (fX5_hasColour N ((gI μ 0 6).toNat) y1 μ) (fun v3 => if wr v3 = 0 then (some ((-1000000001), μ)) else (if wr y2 < 1 then (some ((-1000000002), μ)) else (if wr y2 ≤ 999 then (Option.bind (fX1_remember N 3 μ) (fun μ8 => Option.bind (ldA μ8 9 8 y1) (fun v9 => Option.bind (stA μ8 9 8 y1 (if wr (v9 + y2) < wr 999 then (v9 + y2) else 999)) (fun μ11 => Option.bind (ldA μ11 9 8 y1) (fun v13 => some (v13, μ11)))))) else (some ((-1000000002), μ))))))
abbrev rmX8_buy : Room := { frames := 3, cells := 0, slots := 0, locals := 69 }
set_option maxHeartbeats 4000000 in
set_option maxRecDepth 100000 in
theorem m_X8_buy (l : Launch) (D : va_G) (b : Nat) (cs : CS) (N : Nat) {μ μ0 : Mm} {y1 y2 : Int} {r : Int} (h : fX8_buy N y1 y2 μ = some (r, μ0)) : MI l yX8_buy wsX8_buy rmX8_buy D b cs [jR b 0, jI y1, jI y2] μ μ0 r := by
  refine met_in (cc := cX8_buy) (maxL := 3) (ret := some .int) (lv0 := [(0, jR b 0), (1, jI y1), (2, jI y2)]) (by decide +kernel) rfl (Nat.le_of_ble_eq_true rfl) rfl ?_
  intro p e s m args below meth c hx hb hr hlk hml hown hts hP hK ls hl
  have hown : s.vm.findClass RX8 = some m.cls := hown
  have hS : va_S (bA b) s.heap s.heap [] := va_S.rf
  have hinX7 : ∀ w ∈ u_ws RX7 TX7 9, w ∈ wsX8_buy := by decide +kernel
  have hinX8 : ∀ w ∈ u_ws RX8 TX8 9, w ∈ wsX8_buy := by decide +kernel
  unfold fX8_buy at h
  refine j_aload_n hx hb dX8_buy_0 rfl (lv_at hl 0 rfl) ?_
  refine j_get (v := jR b ((gI μ 0 6).toNat)) hx hb hts hinX8 hown hK hP kz_0 (by decide) rfl 6 (by decide) (hts (.fieldLink RX8 49 "CardBand" "threading" "LCardBand$Threading;") (by decide +kernel)) rfl rfl dX8_buy_1 ?_
  refine j_iload_n hx hb dX8_buy_4 rfl (lv_at hl 1 rfl) ?_
  obtain ⟨g1, h⟩ := ob_g h
  replace g1 := of_decide_eq_true g1
  obtain ⟨v3, e2, h⟩ := ob_I h
  refine jc_VI (As := [jI y1]) (rest := []) ⟨hx, hb, hml, hown, hts⟩ hK hP hS (m_X5_hasColour l D b cs N g1 e2) (cwV 1 hts gX8_buy_X5_hasColour rfl rfl rfl (by decide +kernel) ⟨Nat.le_of_ble_eq_true rfl, Nat.le_of_ble_eq_true rfl⟩) g1 (by decide) rfl rfl hl.1 rfl (Nat.le_of_ble_eq_true rfl) dX8_buy_5 ⟨Nat.zero_le _, Nat.zero_le _⟩ (fun H locs hP hS => ?_)
  refine j_if_ne (A := wr v3) (tgt := 14) hx hb rfl dX8_buy_8 (by decide) (fun q4 => ?_) (fun q4 => ?_)
  · replace h := (if_neg q4).symm.trans h
    refine j_iload_n hx hb dX8_buy_14 rfl (lv_at hl 2 rfl) ?_
    refine j_iconst hx hb dX8_buy_15 ?_
    refine j_icmp_lt (A := wr y2) (B := 1) (tgt := 26) hx hb rfl (by decide) dX8_buy_16 (by decide) (fun q5 => ?_) (fun q5 => ?_)
    · replace h := (if_pos q5).symm.trans h
      refine j_ldc (n := (-1000000002)) hx hb hown (hts (.constant RX8 57 (-1000000002)) (by decide +kernel)) (by decide) dX8_buy_26 ?_
      obtain ⟨e0, e1⟩ := Prod.mk.inj (Option.some.inj h)
      subst e1
      exact j_retI hx hb hK hP hS hr hlk e0 dX8_buy_28
    · replace h := (if_neg q5).symm.trans h
      refine j_iload_n hx hb dX8_buy_19 rfl (lv_at hl 2 rfl) ?_
      refine j_sipush hx hb dX8_buy_20 (by decide) ?_
      refine j_icmp_le (A := wr y2) (B := 999) (tgt := 29) hx hb rfl (by decide) dX8_buy_23 (by decide) (fun q6 => ?_) (fun q6 => ?_)
      · replace h := (if_pos q6).symm.trans h
        refine j_aload_n hx hb dX8_buy_29 rfl (lv_at hl 0 rfl) ?_
        refine j_get (v := jR b 21) hx hb hts hinX8 hown hK hP kz_0 (by decide) rfl 3 (by decide) (hts (.fieldLink RX8 29 "CardBand" "deeds" "LCardBand$Deeds;") (by decide +kernel)) rfl rfl dX8_buy_30 ?_
        refine j_aload_n hx hb dX8_buy_33 rfl (lv_at hl 0 rfl) ?_
        refine j_get (v := jR b 3) hx hb hts hinX8 hown hK hP kz_0 (by decide) rfl 1 (by decide) (hts (.fieldLink RX8 19 "CardBand" "weave" "LCardBand$Weave;") (by decide +kernel)) rfl rfl dX8_buy_34 ?_
        obtain ⟨μ8, e7, h⟩ := ob_I h
        refine jc_VM (As := [jR b 3]) (rest := []) ⟨hx, hb, hml, hown, hts⟩ hK hP hS (m_X1_remember l D b cs N kz_3 e7) (cwV 1 hts gX8_buy_X1_remember rfl rfl rfl (by decide +kernel) ⟨Nat.le_of_ble_eq_true rfl, Nat.le_of_ble_eq_true rfl⟩) kz_21 (by decide) rfl rfl hl.1 rfl (Nat.le_of_ble_eq_true rfl) dX8_buy_37 ⟨Nat.zero_le _, Nat.zero_le _⟩ (fun H locs hP hS => ?_)
        refine j_aload_n hx hb dX8_buy_40 rfl (lv_at hl 0 rfl) ?_
        refine j_get (v := jR b 3) hx hb hts hinX8 hown hK hP kz_0 (by decide) rfl 1 (by decide) (hts (.fieldLink RX8 19 "CardBand" "weave" "LCardBand$Weave;") (by decide +kernel)) rfl rfl dX8_buy_41 ?_
        refine j_get (v := jR b 9) hx hb hts hinX7 hown hK hP kz_3 (by decide) rfl 5 (by decide) (hts (.fieldLink RX8 169 "CardBand$Weave" "yarns" "[I") (by decide +kernel)) rfl rfl dX8_buy_44 ?_
        refine j_iload_n hx hb dX8_buy_47 rfl (lv_at hl 1 rfl) ?_
        refine j_sipush hx hb dX8_buy_48 (by decide) ?_
        refine j_aload_n hx hb dX8_buy_51 rfl (lv_at hl 0 rfl) ?_
        refine j_get (v := jR b 3) hx hb hts hinX8 hown hK hP kz_0 (by decide) rfl 1 (by decide) (hts (.fieldLink RX8 19 "CardBand" "weave" "LCardBand$Weave;") (by decide +kernel)) rfl rfl dX8_buy_52 ?_
        refine j_get (v := jR b 9) hx hb hts hinX7 hown hK hP kz_3 (by decide) rfl 5 (by decide) (hts (.fieldLink RX8 169 "CardBand$Weave" "yarns" "[I") (by decide +kernel)) rfl rfl dX8_buy_55 ?_
        refine j_iload_n hx hb dX8_buy_58 rfl (lv_at hl 1 rfl) ?_
        obtain ⟨v9, e10, h⟩ := ob_I h
        refine j_iaload hx hb hK hP kz_9 e10 dX8_buy_59 ?_
        refine j_iload_n hx hb dX8_buy_60 rfl (lv_at hl 2 rfl) ?_
        refine j_iadd hx hb dX8_buy_61 ?_
        refine j_min hx hb hml hl.1 hown (hts (.methodLink RX8 194 Lib.Math.min.name) (by decide +kernel)) (hts (.static Lib.Math.min.name) (by decide +kernel)) (hts (.initialized "java/lang/Math") (by decide +kernel)) (hts (.code Lib.Math.min.name Lib.Math.min.code 2 (some .int)) (by decide +kernel)) (Nat.le_of_ble_eq_true rfl) (Nat.le_of_ble_eq_true rfl) (Nat.zero_le _) (Nat.zero_le _) dX8_buy_62 ?_
        obtain ⟨μ11, e12, h⟩ := ob_I h
        refine j_iastore hx hb hK hP hS kz_9 e12 dX8_buy_65 (fun H locs hP hS => ?_)
        refine j_aload_n hx hb dX8_buy_66 rfl (lv_at hl 0 rfl) ?_
        refine j_get (v := jR b 3) hx hb hts hinX8 hown hK hP kz_0 (by decide) rfl 1 (by decide) (hts (.fieldLink RX8 19 "CardBand" "weave" "LCardBand$Weave;") (by decide +kernel)) rfl rfl dX8_buy_67 ?_
        refine j_get (v := jR b 9) hx hb hts hinX7 hown hK hP kz_3 (by decide) rfl 5 (by decide) (hts (.fieldLink RX8 169 "CardBand$Weave" "yarns" "[I") (by decide +kernel)) rfl rfl dX8_buy_70 ?_
        refine j_iload_n hx hb dX8_buy_73 rfl (lv_at hl 1 rfl) ?_
        obtain ⟨v13, e14, h⟩ := ob_I h
        refine j_iaload hx hb hK hP kz_9 e14 dX8_buy_74 ?_
        obtain ⟨e0, e1⟩ := Prod.mk.inj (Option.some.inj h)
        subst e1
        exact j_retI hx hb hK hP hS hr hlk e0 dX8_buy_75
      · replace h := (if_neg q6).symm.trans h
        refine j_ldc (n := (-1000000002)) hx hb hown (hts (.constant RX8 57 (-1000000002)) (by decide +kernel)) (by decide) dX8_buy_26 ?_
        obtain ⟨e0, e1⟩ := Prod.mk.inj (Option.some.inj h)
        subst e1
        exact j_retI hx hb hK hP hS hr hlk e0 dX8_buy_28
  · replace h := (if_pos q4).symm.trans h
    refine j_ldc (n := (-1000000001)) hx hb hown (hts (.constant RX8 136 (-1000000001)) (by decide +kernel)) (by decide) dX8_buy_11 ?_
    obtain ⟨e0, e1⟩ := Prod.mk.inj (Option.some.inj h)
    subst e1
    exact j_retI hx hb hK hP hS hr hlk e0 dX8_buy_13
def fX8_card (N : Nat) (y1 : Int) (y2 : Int) (μ : Mm) : Option (Int) :=
    gd (decide (kd ((gI μ 0 6).toNat) = 4)) (Option.bind (fX5_hasCard N ((gI μ 0 6).toNat) y1 μ) (fun v3 => if wr v3 = 0 then (some (-1000000001)) else (if wr y2 < 0 then (if wr y2 = 4 then (Option.bind (ldA μ 4 8 y1) (fun v7 => some v7)) else (if wr y2 = 5 then (Option.bind (ldA μ 5 8 y1) (fun v10 => some v10)) else (if wr y2 = 6 then (Option.bind (ldA μ 6 8 y1) (fun v13 => some (v13 + 99))) else (if wr y2 = 7 then (Option.bind (ldA μ 7 8 y1) (fun v16 => some v16)) else (if wr y2 = 8 then (Option.bind (ldA μ 8 8 y1) (fun v19 => some v19)) else (if wr y2 = 9 then (Option.bind (ldA μ (((gI μ 0 6).toNat) + 3) 8 y1) (fun v22 => some v22)) else (some (-1000000002)))))))) else (if 4 ≤ wr y2 then (if wr y2 = 4 then (Option.bind (ldA μ 4 8 y1) (fun v26 => some v26)) else (if wr y2 = 5 then (Option.bind (ldA μ 5 8 y1) (fun v29 => some v29)) else (if wr y2 = 6 then (Option.bind (ldA μ 6 8 y1) (fun v32 => some (v32 + 99))) else (if wr y2 = 7 then (Option.bind (ldA μ 7 8 y1) (fun v35 => some v35)) else (if wr y2 = 8 then (Option.bind (ldA μ 8 8 y1) (fun v38 => some v38)) else (if wr y2 = 9 then (Option.bind (ldA μ (((gI μ 0 6).toNat) + 3) 8 y1) (fun v41 => some v41)) else (some (-1000000002)))))))) else (Option.bind (fX5_colourAt N ((gI μ 0 6).toNat) y1 y2 μ) (fun v44 => some v44))))))
abbrev rmX8_card : Room := { frames := 2, cells := 0, slots := 0, locals := 43 }
set_option maxHeartbeats 4000000 in
set_option maxRecDepth 100000 in
theorem m_X8_card (l : Launch) (D : va_G) (b : Nat) (cs : CS) (N : Nat) {μ : Mm} {y1 y2 : Int} {r : Int} (h : fX8_card N y1 y2 μ = some r) : MI l yX8_card wsX8_card rmX8_card D b cs [jR b 0, jI y1, jI y2] μ μ r := by
  refine met_in (cc := cX8_card) (maxL := 3) (ret := some .int) (lv0 := [(0, jR b 0), (1, jI y1), (2, jI y2)]) (by decide +kernel) rfl (Nat.le_of_ble_eq_true rfl) rfl ?_
  intro p e s m args below meth c hx hb hr hlk hml hown hts hP hK ls hl
  have hown : s.vm.findClass RX8 = some m.cls := hown
  have hS : va_S (bA b) s.heap s.heap [] := va_S.rf
  have hinX5 : ∀ w ∈ u_ws RX5 TX5 9, w ∈ wsX8_card := by decide +kernel
  have hinX7 : ∀ w ∈ u_ws RX7 TX7 9, w ∈ wsX8_card := by decide +kernel
  have hinX8 : ∀ w ∈ u_ws RX8 TX8 9, w ∈ wsX8_card := by decide +kernel
  unfold fX8_card at h
  refine j_aload_n hx hb dX8_card_0 rfl (lv_at hl 0 rfl) ?_
  refine j_get (v := jR b ((gI μ 0 6).toNat)) hx hb hts hinX8 hown hK hP kz_0 (by decide) rfl 6 (by decide) (hts (.fieldLink RX8 49 "CardBand" "threading" "LCardBand$Threading;") (by decide +kernel)) rfl rfl dX8_card_1 ?_
  refine j_iload_n hx hb dX8_card_4 rfl (lv_at hl 1 rfl) ?_
  obtain ⟨g1, h⟩ := ob_g h
  replace g1 := of_decide_eq_true g1
  obtain ⟨v3, e2, h⟩ := ob_I h
  refine jc_VI (As := [jI y1]) (rest := []) ⟨hx, hb, hml, hown, hts⟩ hK hP hS (m_X5_hasCard l D b cs N g1 e2) (cwV 1 hts gX8_card_X5_hasCard rfl rfl rfl (by decide +kernel) ⟨Nat.le_of_ble_eq_true rfl, Nat.le_of_ble_eq_true rfl⟩) g1 (by decide) rfl rfl hl.1 rfl (Nat.le_of_ble_eq_true rfl) dX8_card_5 ⟨Nat.zero_le _, Nat.zero_le _⟩ (fun H locs hP hS => ?_)
  refine j_if_ne (A := wr v3) (tgt := 14) hx hb rfl dX8_card_8 (by decide) (fun q4 => ?_) (fun q4 => ?_)
  · replace h := (if_neg q4).symm.trans h
    refine j_iload_n hx hb dX8_card_14 rfl (lv_at hl 2 rfl) ?_
    refine j_if_lt (A := wr y2) (tgt := 33) hx hb rfl dX8_card_15 (by decide) (fun q5 => ?_) (fun q5 => ?_)
    · replace h := (if_pos q5).symm.trans h
      refine j_iload_n hx hb dX8_card_33 rfl (lv_at hl 2 rfl) ?_
      by_cases q6 : wr y2 = 4
      · replace h := (if_pos q6).symm.trans h
        refine j_tabIn (A := wr y2) (off := 38) (tgt := 72) hx hb rfl dX8_card_34 (by rw [q6]; decide) (by rw [q6]; decide) (by rw [q6]; rfl) (by decide) ?_
        refine j_aload_n hx hb dX8_card_72 rfl (lv_at hl 0 rfl) ?_
        refine j_get (v := jR b 3) hx hb hts hinX8 hown hK hP kz_0 (by decide) rfl 1 (by decide) (hts (.fieldLink RX8 19 "CardBand" "weave" "LCardBand$Weave;") (by decide +kernel)) rfl rfl dX8_card_73 ?_
        refine j_get (v := jR b 4) hx hb hts hinX7 hown hK hP kz_3 (by decide) rfl 0 (by decide) (hts (.fieldLink RX8 141 "CardBand$Weave" "ways" "[I") (by decide +kernel)) rfl rfl dX8_card_76 ?_
        refine j_iload_n hx hb dX8_card_79 rfl (lv_at hl 1 rfl) ?_
        obtain ⟨v7, e8, h⟩ := ob_I h
        refine j_iaload hx hb hK hP kz_4 e8 dX8_card_80 ?_
        exact j_retI hx hb hK hP hS hr hlk (Option.some.inj h) dX8_card_81
      · replace h := (if_neg q6).symm.trans h
        by_cases q9 : wr y2 = 5
        · replace h := (if_pos q9).symm.trans h
          refine j_tabIn (A := wr y2) (off := 48) (tgt := 82) hx hb rfl dX8_card_34 (by rw [q9]; decide) (by rw [q9]; decide) (by rw [q9]; rfl) (by decide) ?_
          refine j_aload_n hx hb dX8_card_82 rfl (lv_at hl 0 rfl) ?_
          refine j_get (v := jR b 3) hx hb hts hinX8 hown hK hP kz_0 (by decide) rfl 1 (by decide) (hts (.fieldLink RX8 19 "CardBand" "weave" "LCardBand$Weave;") (by decide +kernel)) rfl rfl dX8_card_83 ?_
          refine j_get (v := jR b 5) hx hb hts hinX7 hown hK hP kz_3 (by decide) rfl 1 (by decide) (hts (.fieldLink RX8 145 "CardBand$Weave" "stands" "[I") (by decide +kernel)) rfl rfl dX8_card_86 ?_
          refine j_iload_n hx hb dX8_card_89 rfl (lv_at hl 1 rfl) ?_
          obtain ⟨v10, e11, h⟩ := ob_I h
          refine j_iaload hx hb hK hP kz_5 e11 dX8_card_90 ?_
          exact j_retI hx hb hK hP hS hr hlk (Option.some.inj h) dX8_card_91
        · replace h := (if_neg q9).symm.trans h
          by_cases q12 : wr y2 = 6
          · replace h := (if_pos q12).symm.trans h
            refine j_tabIn (A := wr y2) (off := 58) (tgt := 92) hx hb rfl dX8_card_34 (by rw [q12]; decide) (by rw [q12]; decide) (by rw [q12]; rfl) (by decide) ?_
            refine j_aload_n hx hb dX8_card_92 rfl (lv_at hl 0 rfl) ?_
            refine j_get (v := jR b 3) hx hb hts hinX8 hown hK hP kz_0 (by decide) rfl 1 (by decide) (hts (.fieldLink RX8 19 "CardBand" "weave" "LCardBand$Weave;") (by decide +kernel)) rfl rfl dX8_card_93 ?_
            refine j_get (v := jR b 6) hx hb hts hinX7 hown hK hP kz_3 (by decide) rfl 2 (by decide) (hts (.fieldLink RX8 148 "CardBand$Weave" "twists" "[I") (by decide +kernel)) rfl rfl dX8_card_96 ?_
            refine j_iload_n hx hb dX8_card_99 rfl (lv_at hl 1 rfl) ?_
            obtain ⟨v13, e14, h⟩ := ob_I h
            refine j_iaload hx hb hK hP kz_6 e14 dX8_card_100 ?_
            refine j_bipush hx hb dX8_card_101 (by decide) ?_
            refine j_iadd hx hb dX8_card_103 ?_
            exact j_retI hx hb hK hP hS hr hlk (Option.some.inj h) dX8_card_104
          · replace h := (if_neg q12).symm.trans h
            by_cases q15 : wr y2 = 7
            · replace h := (if_pos q15).symm.trans h
              refine j_tabIn (A := wr y2) (off := 71) (tgt := 105) hx hb rfl dX8_card_34 (by rw [q15]; decide) (by rw [q15]; decide) (by rw [q15]; rfl) (by decide) ?_
              refine j_aload_n hx hb dX8_card_105 rfl (lv_at hl 0 rfl) ?_
              refine j_get (v := jR b 3) hx hb hts hinX8 hown hK hP kz_0 (by decide) rfl 1 (by decide) (hts (.fieldLink RX8 19 "CardBand" "weave" "LCardBand$Weave;") (by decide +kernel)) rfl rfl dX8_card_106 ?_
              refine j_get (v := jR b 7) hx hb hts hinX7 hown hK hP kz_3 (by decide) rfl 3 (by decide) (hts (.fieldLink RX8 151 "CardBand$Weave" "shows" "[I") (by decide +kernel)) rfl rfl dX8_card_109 ?_
              refine j_iload_n hx hb dX8_card_112 rfl (lv_at hl 1 rfl) ?_
              obtain ⟨v16, e17, h⟩ := ob_I h
              refine j_iaload hx hb hK hP kz_7 e17 dX8_card_113 ?_
              exact j_retI hx hb hK hP hS hr hlk (Option.some.inj h) dX8_card_114
            · replace h := (if_neg q15).symm.trans h
              by_cases q18 : wr y2 = 8
              · replace h := (if_pos q18).symm.trans h
                refine j_tabIn (A := wr y2) (off := 81) (tgt := 115) hx hb rfl dX8_card_34 (by rw [q18]; decide) (by rw [q18]; decide) (by rw [q18]; rfl) (by decide) ?_
                refine j_aload_n hx hb dX8_card_115 rfl (lv_at hl 0 rfl) ?_
                refine j_get (v := jR b 3) hx hb hts hinX8 hown hK hP kz_0 (by decide) rfl 1 (by decide) (hts (.fieldLink RX8 19 "CardBand" "weave" "LCardBand$Weave;") (by decide +kernel)) rfl rfl dX8_card_116 ?_
                refine j_get (v := jR b 8) hx hb hts hinX7 hown hK hP kz_3 (by decide) rfl 4 (by decide) (hts (.fieldLink RX8 154 "CardBand$Weave" "slants" "[I") (by decide +kernel)) rfl rfl dX8_card_119 ?_
                refine j_iload_n hx hb dX8_card_122 rfl (lv_at hl 1 rfl) ?_
                obtain ⟨v19, e20, h⟩ := ob_I h
                refine j_iaload hx hb hK hP kz_8 e20 dX8_card_123 ?_
                exact j_retI hx hb hK hP hS hr hlk (Option.some.inj h) dX8_card_124
              · replace h := (if_neg q18).symm.trans h
                by_cases q21 : wr y2 = 9
                · replace h := (if_pos q21).symm.trans h
                  refine j_tabIn (A := wr y2) (off := 91) (tgt := 125) hx hb rfl dX8_card_34 (by rw [q21]; decide) (by rw [q21]; decide) (by rw [q21]; rfl) (by decide) ?_
                  refine j_aload_n hx hb dX8_card_125 rfl (lv_at hl 0 rfl) ?_
                  refine j_get (v := jR b ((gI μ 0 6).toNat)) hx hb hts hinX8 hown hK hP kz_0 (by decide) rfl 6 (by decide) (hts (.fieldLink RX8 49 "CardBand" "threading" "LCardBand$Threading;") (by decide +kernel)) rfl rfl dX8_card_126 ?_
                  refine j_get (v := jR b (((gI μ 0 6).toNat) + 3)) hx hb hts hinX5 hown hK hP g1 (by decide) rfl 2 (by decide) (hts (.fieldLink RX8 157 "CardBand$Threading" "packOf" "[I") (by decide +kernel)) rfl rfl dX8_card_129 ?_
                  refine j_iload_n hx hb dX8_card_132 rfl (lv_at hl 1 rfl) ?_
                  obtain ⟨v22, e23, h⟩ := ob_I h
                  refine j_iaload hx hb hK hP (kX5_3 g1) e23 dX8_card_133 ?_
                  exact j_retI hx hb hK hP hS hr hlk (Option.some.inj h) dX8_card_134
                · replace h := (if_neg q21).symm.trans h
                  refine j_tabOut (A := wr y2) (tgt := 135) hx hb rfl dX8_card_34 (by omega) (by decide) ?_
                  refine j_ldc (n := (-1000000002)) hx hb hown (hts (.constant RX8 57 (-1000000002)) (by decide +kernel)) (by decide) dX8_card_135 ?_
                  exact j_retI hx hb hK hP hS hr hlk (Option.some.inj h) dX8_card_137
    · replace h := (if_neg q5).symm.trans h
      refine j_iload_n hx hb dX8_card_18 rfl (lv_at hl 2 rfl) ?_
      refine j_iconst hx hb dX8_card_19 ?_
      refine j_icmp_ge (A := wr y2) (B := 4) (tgt := 33) hx hb rfl (by decide) dX8_card_20 (by decide) (fun q24 => ?_) (fun q24 => ?_)
      · replace h := (if_pos q24).symm.trans h
        refine j_iload_n hx hb dX8_card_33 rfl (lv_at hl 2 rfl) ?_
        by_cases q25 : wr y2 = 4
        · replace h := (if_pos q25).symm.trans h
          refine j_tabIn (A := wr y2) (off := 38) (tgt := 72) hx hb rfl dX8_card_34 (by rw [q25]; decide) (by rw [q25]; decide) (by rw [q25]; rfl) (by decide) ?_
          refine j_aload_n hx hb dX8_card_72 rfl (lv_at hl 0 rfl) ?_
          refine j_get (v := jR b 3) hx hb hts hinX8 hown hK hP kz_0 (by decide) rfl 1 (by decide) (hts (.fieldLink RX8 19 "CardBand" "weave" "LCardBand$Weave;") (by decide +kernel)) rfl rfl dX8_card_73 ?_
          refine j_get (v := jR b 4) hx hb hts hinX7 hown hK hP kz_3 (by decide) rfl 0 (by decide) (hts (.fieldLink RX8 141 "CardBand$Weave" "ways" "[I") (by decide +kernel)) rfl rfl dX8_card_76 ?_
          refine j_iload_n hx hb dX8_card_79 rfl (lv_at hl 1 rfl) ?_
          obtain ⟨v26, e27, h⟩ := ob_I h
          refine j_iaload hx hb hK hP kz_4 e27 dX8_card_80 ?_
          exact j_retI hx hb hK hP hS hr hlk (Option.some.inj h) dX8_card_81
        · replace h := (if_neg q25).symm.trans h
          by_cases q28 : wr y2 = 5
          · replace h := (if_pos q28).symm.trans h
            refine j_tabIn (A := wr y2) (off := 48) (tgt := 82) hx hb rfl dX8_card_34 (by rw [q28]; decide) (by rw [q28]; decide) (by rw [q28]; rfl) (by decide) ?_
            refine j_aload_n hx hb dX8_card_82 rfl (lv_at hl 0 rfl) ?_
            refine j_get (v := jR b 3) hx hb hts hinX8 hown hK hP kz_0 (by decide) rfl 1 (by decide) (hts (.fieldLink RX8 19 "CardBand" "weave" "LCardBand$Weave;") (by decide +kernel)) rfl rfl dX8_card_83 ?_
            refine j_get (v := jR b 5) hx hb hts hinX7 hown hK hP kz_3 (by decide) rfl 1 (by decide) (hts (.fieldLink RX8 145 "CardBand$Weave" "stands" "[I") (by decide +kernel)) rfl rfl dX8_card_86 ?_
            refine j_iload_n hx hb dX8_card_89 rfl (lv_at hl 1 rfl) ?_
            obtain ⟨v29, e30, h⟩ := ob_I h
            refine j_iaload hx hb hK hP kz_5 e30 dX8_card_90 ?_
            exact j_retI hx hb hK hP hS hr hlk (Option.some.inj h) dX8_card_91
          · replace h := (if_neg q28).symm.trans h
            by_cases q31 : wr y2 = 6
            · replace h := (if_pos q31).symm.trans h
              refine j_tabIn (A := wr y2) (off := 58) (tgt := 92) hx hb rfl dX8_card_34 (by rw [q31]; decide) (by rw [q31]; decide) (by rw [q31]; rfl) (by decide) ?_
              refine j_aload_n hx hb dX8_card_92 rfl (lv_at hl 0 rfl) ?_
              refine j_get (v := jR b 3) hx hb hts hinX8 hown hK hP kz_0 (by decide) rfl 1 (by decide) (hts (.fieldLink RX8 19 "CardBand" "weave" "LCardBand$Weave;") (by decide +kernel)) rfl rfl dX8_card_93 ?_
              refine j_get (v := jR b 6) hx hb hts hinX7 hown hK hP kz_3 (by decide) rfl 2 (by decide) (hts (.fieldLink RX8 148 "CardBand$Weave" "twists" "[I") (by decide +kernel)) rfl rfl dX8_card_96 ?_
              refine j_iload_n hx hb dX8_card_99 rfl (lv_at hl 1 rfl) ?_
              obtain ⟨v32, e33, h⟩ := ob_I h
              refine j_iaload hx hb hK hP kz_6 e33 dX8_card_100 ?_
              refine j_bipush hx hb dX8_card_101 (by decide) ?_
              refine j_iadd hx hb dX8_card_103 ?_
              exact j_retI hx hb hK hP hS hr hlk (Option.some.inj h) dX8_card_104
            · replace h := (if_neg q31).symm.trans h
              by_cases q34 : wr y2 = 7
              · replace h := (if_pos q34).symm.trans h
                refine j_tabIn (A := wr y2) (off := 71) (tgt := 105) hx hb rfl dX8_card_34 (by rw [q34]; decide) (by rw [q34]; decide) (by rw [q34]; rfl) (by decide) ?_
                refine j_aload_n hx hb dX8_card_105 rfl (lv_at hl 0 rfl) ?_
                refine j_get (v := jR b 3) hx hb hts hinX8 hown hK hP kz_0 (by decide) rfl 1 (by decide) (hts (.fieldLink RX8 19 "CardBand" "weave" "LCardBand$Weave;") (by decide +kernel)) rfl rfl dX8_card_106 ?_
                refine j_get (v := jR b 7) hx hb hts hinX7 hown hK hP kz_3 (by decide) rfl 3 (by decide) (hts (.fieldLink RX8 151 "CardBand$Weave" "shows" "[I") (by decide +kernel)) rfl rfl dX8_card_109 ?_
                refine j_iload_n hx hb dX8_card_112 rfl (lv_at hl 1 rfl) ?_
                obtain ⟨v35, e36, h⟩ := ob_I h
                refine j_iaload hx hb hK hP kz_7 e36 dX8_card_113 ?_
                exact j_retI hx hb hK hP hS hr hlk (Option.some.inj h) dX8_card_114
              · replace h := (if_neg q34).symm.trans h
                by_cases q37 : wr y2 = 8
                · replace h := (if_pos q37).symm.trans h
                  refine j_tabIn (A := wr y2) (off := 81) (tgt := 115) hx hb rfl dX8_card_34 (by rw [q37]; decide) (by rw [q37]; decide) (by rw [q37]; rfl) (by decide) ?_
                  refine j_aload_n hx hb dX8_card_115 rfl (lv_at hl 0 rfl) ?_
                  refine j_get (v := jR b 3) hx hb hts hinX8 hown hK hP kz_0 (by decide) rfl 1 (by decide) (hts (.fieldLink RX8 19 "CardBand" "weave" "LCardBand$Weave;") (by decide +kernel)) rfl rfl dX8_card_116 ?_
                  refine j_get (v := jR b 8) hx hb hts hinX7 hown hK hP kz_3 (by decide) rfl 4 (by decide) (hts (.fieldLink RX8 154 "CardBand$Weave" "slants" "[I") (by decide +kernel)) rfl rfl dX8_card_119 ?_
                  refine j_iload_n hx hb dX8_card_122 rfl (lv_at hl 1 rfl) ?_
                  obtain ⟨v38, e39, h⟩ := ob_I h
                  refine j_iaload hx hb hK hP kz_8 e39 dX8_card_123 ?_
                  exact j_retI hx hb hK hP hS hr hlk (Option.some.inj h) dX8_card_124
                · replace h := (if_neg q37).symm.trans h
                  by_cases q40 : wr y2 = 9
                  · replace h := (if_pos q40).symm.trans h
                    refine j_tabIn (A := wr y2) (off := 91) (tgt := 125) hx hb rfl dX8_card_34 (by rw [q40]; decide) (by rw [q40]; decide) (by rw [q40]; rfl) (by decide) ?_
                    refine j_aload_n hx hb dX8_card_125 rfl (lv_at hl 0 rfl) ?_
                    refine j_get (v := jR b ((gI μ 0 6).toNat)) hx hb hts hinX8 hown hK hP kz_0 (by decide) rfl 6 (by decide) (hts (.fieldLink RX8 49 "CardBand" "threading" "LCardBand$Threading;") (by decide +kernel)) rfl rfl dX8_card_126 ?_
                    refine j_get (v := jR b (((gI μ 0 6).toNat) + 3)) hx hb hts hinX5 hown hK hP g1 (by decide) rfl 2 (by decide) (hts (.fieldLink RX8 157 "CardBand$Threading" "packOf" "[I") (by decide +kernel)) rfl rfl dX8_card_129 ?_
                    refine j_iload_n hx hb dX8_card_132 rfl (lv_at hl 1 rfl) ?_
                    obtain ⟨v41, e42, h⟩ := ob_I h
                    refine j_iaload hx hb hK hP (kX5_3 g1) e42 dX8_card_133 ?_
                    exact j_retI hx hb hK hP hS hr hlk (Option.some.inj h) dX8_card_134
                  · replace h := (if_neg q40).symm.trans h
                    refine j_tabOut (A := wr y2) (tgt := 135) hx hb rfl dX8_card_34 (by omega) (by decide) ?_
                    refine j_ldc (n := (-1000000002)) hx hb hown (hts (.constant RX8 57 (-1000000002)) (by decide +kernel)) (by decide) dX8_card_135 ?_
                    exact j_retI hx hb hK hP hS hr hlk (Option.some.inj h) dX8_card_137
      · replace h := (if_neg q24).symm.trans h
        refine j_aload_n hx hb dX8_card_23 rfl (lv_at hl 0 rfl) ?_
        refine j_get (v := jR b ((gI μ 0 6).toNat)) hx hb hts hinX8 hown hK hP kz_0 (by decide) rfl 6 (by decide) (hts (.fieldLink RX8 49 "CardBand" "threading" "LCardBand$Threading;") (by decide +kernel)) rfl rfl dX8_card_24 ?_
        refine j_iload_n hx hb dX8_card_27 rfl (lv_at hl 1 rfl) ?_
        refine j_iload_n hx hb dX8_card_28 rfl (lv_at hl 2 rfl) ?_
        obtain ⟨v44, e43, h⟩ := ob_I h
        refine jc_VI (As := [jI y1, jI y2]) (rest := []) ⟨hx, hb, hml, hown, hts⟩ hK hP hS (m_X5_colourAt l D b cs N g1 e43) (cwV 2 hts gX8_card_X5_colourAt rfl rfl rfl (by decide +kernel) ⟨Nat.le_of_ble_eq_true rfl, Nat.le_of_ble_eq_true rfl⟩) g1 (by decide) rfl rfl hl.1 rfl (Nat.le_of_ble_eq_true rfl) dX8_card_29 ⟨Nat.zero_le _, Nat.zero_le _⟩ (fun H locs hP hS => ?_)
        exact j_retI hx hb hK hP hS hr hlk (Option.some.inj h) dX8_card_32
  · replace h := (if_pos q4).symm.trans h
    refine j_ldc (n := (-1000000001)) hx hb hown (hts (.constant RX8 136 (-1000000001)) (by decide +kernel)) (by decide) dX8_card_11 ?_
    exact j_retI hx hb hK hP hS hr hlk (Option.some.inj h) dX8_card_13
def fX8_countPicks_l13 (N : Nat) (y1 : Int) (y2 : Int) : Nat → Int → Mm → Option (Int × Mm)
  | 0, _, _ => none
  | n3 + 1, x3_4, μ5 =>
    if wr y2 ≤ wr x3_4 then (some (x3_4, μ5)) else (gd (decide (kd ((gI μ5 0 6).toNat) = 4)) (bP (fX7_weaveOnce N 12 ((gI μ5 0 6).toNat) y1 μ5) (fun v9 μ10 => if wr v9 = 0 then (some (x3_4, μ10)) else ((fX8_countPicks_l13 N y1 y2 n3) (x3_4 + 1) μ10))))
def fX8_countPicks (N : Nat) (y1 : Int) (y2 : Int) (μ : Mm) : Option (Int × Mm) :=
    Option.bind (fX7_become N 12 3 μ) (fun μ2 => fX8_countPicks_l13 N y1 y2 N 0 μ2)
abbrev rmX8_countPicks : Room := { frames := 5, cells := 0, slots := 0, locals := 114 }
set_option maxHeartbeats 4000000 in
set_option maxRecDepth 100000 in
theorem m_X8_countPicks (l : Launch) (D : va_G) (b : Nat) (cs : CS) (N : Nat) {μ μ0 : Mm} {y1 y2 : Int} {r : Int} (h : fX8_countPicks N y1 y2 μ = some (r, μ0)) : MI l yX8_countPicks wsX8_countPicks rmX8_countPicks D b cs [jR b 0, jI y1, jI y2] μ μ0 r := by
  refine met_in (cc := cX8_countPicks) (maxL := 4) (ret := some .int) (lv0 := [(0, jR b 0), (1, jI y1), (2, jI y2)]) (by decide +kernel) rfl (Nat.le_of_ble_eq_true rfl) rfl ?_
  intro p e s m args below meth c hx hb hr hlk hml hown hts hP hK ls hl
  have hown : s.vm.findClass RX8 = some m.cls := hown
  have hS : va_S (bA b) s.heap s.heap [] := va_S.rf
  have hinX8 : ∀ w ∈ u_ws RX8 TX8 9, w ∈ wsX8_countPicks := by decide +kernel
  unfold fX8_countPicks at h
  refine j_aload_n hx hb dX8_countPicks_0 rfl (lv_at hl 0 rfl) ?_
  refine j_get (v := jR b 12) hx hb hts hinX8 hown hK hP kz_0 (by decide) rfl 2 (by decide) (hts (.fieldLink RX8 23 "CardBand" "trial" "LCardBand$Weave;") (by decide +kernel)) rfl rfl dX8_countPicks_1 ?_
  refine j_aload_n hx hb dX8_countPicks_4 rfl (lv_at hl 0 rfl) ?_
  refine j_get (v := jR b 3) hx hb hts hinX8 hown hK hP kz_0 (by decide) rfl 1 (by decide) (hts (.fieldLink RX8 19 "CardBand" "weave" "LCardBand$Weave;") (by decide +kernel)) rfl rfl dX8_countPicks_5 ?_
  obtain ⟨μ2, e1, h⟩ := ob_I h
  refine jc_VM (As := [jR b 3]) (rest := []) ⟨hx, hb, hml, hown, hts⟩ hK hP hS (m_X7_become l D b cs N kz_12 kz_3 e1) (cwV 1 hts gX8_countPicks_X7_become rfl rfl rfl (by decide +kernel) ⟨Nat.le_of_ble_eq_true rfl, Nat.le_of_ble_eq_true rfl⟩) kz_12 (by decide) rfl rfl hl.1 rfl (Nat.le_of_ble_eq_true rfl) dX8_countPicks_8 ⟨Nat.zero_le _, Nat.zero_le _⟩ (fun H locs hP hS => ?_)
  refine j_iconst hx hb dX8_countPicks_11 ?_
  refine j_istore_n (lv2 := [(3, jI 0), (0, jR b 0), (1, jI y1), (2, jI y2)]) hx hb dX8_countPicks_12 rfl hl (by decide) rfl (fun ls hl => ?_)
  have hl13_3 : ∀ (n0 : Nat) (x3_4 : Int) (μ5 : Mm) (H : Heap) (locs : List Loc) (ls : Array Slot), va_P D vwCl (wl b cs μ5) H → va_S (bA b) s.heap H locs → lv_has ls 4 [(0, jR b 0), (1, jI y1), (2, jI y2), (3, jI x3_4)] → fX8_countPicks_l13 N y1 y2 n0 x3_4 μ5 = some (r, μ0) → W p l e rmX8_countPicks s m args below meth c H locs 0 0 (MQ below (QI D b cs μ0 r) args s 0 0 (bA b)) (F0 m 13 ls []) := by
    intro n0
    induction n0 with
    | zero => intro x3_4 μ5 H locs ls hP hS hl h; rw [fX8_countPicks_l13] at h; cases h
    | succ n3 ih13_3 =>
      intro x3_4 μ5 H locs ls hP hS hl h
      rw [fX8_countPicks_l13] at h
      refine j_iload_n hx hb dX8_countPicks_13 rfl (lv_at hl 3 rfl) ?_
      refine j_iload_n hx hb dX8_countPicks_14 rfl (lv_at hl 2 rfl) ?_
      refine j_icmp_ge (A := wr x3_4) (B := wr y2) (tgt := 39) hx hb rfl rfl dX8_countPicks_15 (by decide) (fun q6 => ?_) (fun q6 => ?_)
      · replace h := (if_pos q6).symm.trans h
        refine j_iload_n hx hb dX8_countPicks_39 rfl (lv_at hl 3 rfl) ?_
        obtain ⟨e0, e1⟩ := Prod.mk.inj (Option.some.inj h)
        subst e1
        exact j_retI hx hb hK hP hS hr hlk e0 dX8_countPicks_40
      · replace h := (if_neg q6).symm.trans h
        refine j_aload_n hx hb dX8_countPicks_18 rfl (lv_at hl 0 rfl) ?_
        refine j_get (v := jR b 12) hx hb hts hinX8 hown hK hP kz_0 (by decide) rfl 2 (by decide) (hts (.fieldLink RX8 23 "CardBand" "trial" "LCardBand$Weave;") (by decide +kernel)) rfl rfl dX8_countPicks_19 ?_
        refine j_aload_n hx hb dX8_countPicks_22 rfl (lv_at hl 0 rfl) ?_
        refine j_get (v := jR b ((gI μ5 0 6).toNat)) hx hb hts hinX8 hown hK hP kz_0 (by decide) rfl 6 (by decide) (hts (.fieldLink RX8 49 "CardBand" "threading" "LCardBand$Threading;") (by decide +kernel)) rfl rfl dX8_countPicks_23 ?_
        refine j_iload_n hx hb dX8_countPicks_26 rfl (lv_at hl 1 rfl) ?_
        obtain ⟨g7, h⟩ := ob_g h
        replace g7 := of_decide_eq_true g7
        obtain ⟨v9, μ10, e8, h⟩ := ob_P h
        refine jc_VI (As := [jR b ((gI μ5 0 6).toNat), jI y1]) (rest := []) ⟨hx, hb, hml, hown, hts⟩ hK hP hS (m_X7_weaveOnce l D b cs N kz_12 g7 e8) (cwV 2 hts gX8_countPicks_X7_weaveOnce rfl rfl rfl (by decide +kernel) ⟨Nat.le_of_ble_eq_true rfl, Nat.le_of_ble_eq_true rfl⟩) kz_12 (by decide) rfl rfl hl.1 rfl (Nat.le_of_ble_eq_true rfl) dX8_countPicks_27 ⟨Nat.zero_le _, Nat.zero_le _⟩ (fun H locs hP hS => ?_)
        refine j_if_eq (A := wr v9) (tgt := 39) hx hb rfl dX8_countPicks_30 (by decide) (fun q11 => ?_) (fun q11 => ?_)
        · replace h := (if_pos q11).symm.trans h
          refine j_iload_n hx hb dX8_countPicks_39 rfl (lv_at hl 3 rfl) ?_
          obtain ⟨e0, e1⟩ := Prod.mk.inj (Option.some.inj h)
          subst e1
          exact j_retI hx hb hK hP hS hr hlk e0 dX8_countPicks_40
        · replace h := (if_neg q11).symm.trans h
          refine j_iinc (k := 3) (lv2 := [(3, jI (x3_4 + 1)), (0, jR b 0), (1, jI y1), (2, jI y2)]) hx hb dX8_countPicks_33 hl rfl (by decide) rfl (fun ls hl => ?_)
          refine j_goto (tgt := 13) hx hb dX8_countPicks_36 (by decide) ?_
          exact ih13_3 _ _ _ _ _ hP hS (lv_sub hl [1, 2, 3, 0] rfl) h
  exact hl13_3 N _ _ _ _ _ hP hS (lv_sub hl [1, 2, 3, 0] rfl) h
def fX8_drawFigure (N : Nat) (μ : Mm) : Option (Int × Mm) :=
    gd (decide (-2147483648 ≤ (rmL (((gI μ 0 8) * 1103515245) + 12345) 2147483648) ∧ (rmL (((gI μ 0 8) * 1103515245) + 12345) 2147483648) < 2147483648)) (Option.bind (some (pI μ 0 8 (rmL (((gI μ 0 8) * 1103515245) + 12345) 2147483648))) (fun μ2 => some ((rmL (dvL (gI μ2 0 8) 65536) 3), μ2)))
abbrev rmX8_drawFigure : Room := { frames := 0, cells := 0, slots := 0, locals := 0 }
set_option maxHeartbeats 4000000 in
set_option maxRecDepth 100000 in
theorem m_X8_drawFigure (l : Launch) (D : va_G) (b : Nat) (cs : CS) (N : Nat) {μ μ0 : Mm} {r : Int} (h : fX8_drawFigure N μ = some (r, μ0)) : MI l yX8_drawFigure wsX8_drawFigure rmX8_drawFigure D b cs [jR b 0] μ μ0 r := by
  refine met_in (cc := cX8_drawFigure) (maxL := 1) (ret := some .int) (lv0 := [(0, jR b 0)]) (by decide +kernel) rfl (Nat.le_of_ble_eq_true rfl) rfl ?_
  intro p e s m args below meth c hx hb hr hlk hml hown hts hP hK ls hl
  have hown : s.vm.findClass RX8 = some m.cls := hown
  have hS : va_S (bA b) s.heap s.heap [] := va_S.rf
  have hinX8 : ∀ w ∈ u_ws RX8 TX8 9, w ∈ wsX8_drawFigure := by decide +kernel
  unfold fX8_drawFigure at h
  refine j_aload_n hx hb dX8_drawFigure_0 rfl (lv_at hl 0 rfl) ?_
  refine j_aload_n hx hb dX8_drawFigure_1 rfl (lv_at hl 0 rfl) ?_
  refine j_get (v := jL (gI μ 0 8)) hx hb hts hinX8 hown hK hP kz_0 (by decide) rfl 8 (by decide) (hts (.fieldLink RX8 287 "CardBand" "drawn" "J") (by decide +kernel)) rfl (by rw [jL_g]; rfl) dX8_drawFigure_2 ?_
  refine j_ldc2 (n := 1103515245) hx hb hown (hts (.constantLong RX8 307 (1103515245)) (by decide +kernel)) (by decide) dX8_drawFigure_5 ?_
  refine j_lmul hx hb dX8_drawFigure_8 ?_
  refine j_ldc2 (n := 12345) hx hb hown (hts (.constantLong RX8 309 (12345)) (by decide +kernel)) (by decide) dX8_drawFigure_9 ?_
  refine j_ladd hx hb dX8_drawFigure_12 ?_
  refine j_ldc2 (n := 2147483648) hx hb hown (hts (.constantLong RX8 311 (2147483648)) (by decide +kernel)) (by decide) dX8_drawFigure_13 ?_
  refine j_lrem hx hb dX8_drawFigure_16 (by decide) ?_
  obtain ⟨g1, h⟩ := ob_g h
  replace g1 := of_decide_eq_true g1
  obtain ⟨μ2, e3, h⟩ := ob_I h
  refine j_put (ty := .long) (z := (rmL (((gI μ 0 8) * 1103515245) + 12345) 2147483648)) hx hb hts hinX8 tyX8 tyX8_ok nmX8 hown hK hP hS kz_0 (by decide) rfl 8 (by decide) (hts (.fieldLink RX8 287 "CardBand" "drawn" "J") (by decide +kernel)) rfl rfl (by decide +kernel) rfl rfl (by simp [flds]) (set_J6 g1) dX8_drawFigure_17 (Option.some.inj e3) (fun H locs hP hS => ?_)
  refine j_aload_n hx hb dX8_drawFigure_20 rfl (lv_at hl 0 rfl) ?_
  refine j_get (v := jL (gI μ2 0 8)) hx hb hts hinX8 hown hK hP kz_0 (by decide) rfl 8 (by decide) (hts (.fieldLink RX8 287 "CardBand" "drawn" "J") (by decide +kernel)) rfl (by rw [jL_g]; rfl) dX8_drawFigure_21 ?_
  refine j_ldc2 (n := 65536) hx hb hown (hts (.constantLong RX8 313 (65536)) (by decide +kernel)) (by decide) dX8_drawFigure_24 ?_
  refine j_ldiv hx hb dX8_drawFigure_27 (by decide) ?_
  refine j_ldc2 (n := 3) hx hb hown (hts (.constantLong RX8 315 (3)) (by decide +kernel)) (by decide) dX8_drawFigure_28 ?_
  refine j_lrem hx hb dX8_drawFigure_31 (by decide) ?_
  refine j_l2i hx hb dX8_drawFigure_32 ?_
  obtain ⟨e0, e1⟩ := Prod.mk.inj (Option.some.inj h)
  subst e1
  exact j_retI hx hb hK hP hS hr hlk e0 dX8_drawFigure_33
def fX8_drawMoves_l6 (N : Nat) : Nat → Int → Int → Int → Mm → Option (Int × Mm)
  | 0, _, _, _, _ => none
  | n1 + 1, x1_2, x2_3, x3_4, μ5 =>
    gd (decide (kd ((gI μ5 0 6).toNat) = 4)) (if wr (gI μ5 ((gI μ5 0 6).toNat) 7) ≤ wr x3_4 then (some (x1_2, μ5)) else (bP (fX8_drawFigure N μ5) (fun v9 μ10 => (fX8_drawMoves_l6 N n1) (x1_2 + (v9 * x2_3)) (x2_3 * 3) (x3_4 + 1) μ10)))
def fX8_drawMoves (N : Nat) (μ : Mm) : Option (Int × Mm) :=
    fX8_drawMoves_l6 N N 0 1 0 μ
abbrev rmX8_drawMoves : Room := { frames := 1, cells := 0, slots := 0, locals := 20 }
set_option maxHeartbeats 4000000 in
set_option maxRecDepth 100000 in
theorem m_X8_drawMoves (l : Launch) (D : va_G) (b : Nat) (cs : CS) (N : Nat) {μ μ0 : Mm} {r : Int} (h : fX8_drawMoves N μ = some (r, μ0)) : MI l yX8_drawMoves wsX8_drawMoves rmX8_drawMoves D b cs [jR b 0] μ μ0 r := by
  refine met_in (cc := cX8_drawMoves) (maxL := 4) (ret := some .int) (lv0 := [(0, jR b 0)]) (by decide +kernel) rfl (Nat.le_of_ble_eq_true rfl) rfl ?_
  intro p e s m args below meth c hx hb hr hlk hml hown hts hP hK ls hl
  have hown : s.vm.findClass RX8 = some m.cls := hown
  have hS : va_S (bA b) s.heap s.heap [] := va_S.rf
  have hinX5 : ∀ w ∈ u_ws RX5 TX5 9, w ∈ wsX8_drawMoves := by decide +kernel
  have hinX8 : ∀ w ∈ u_ws RX8 TX8 9, w ∈ wsX8_drawMoves := by decide +kernel
  unfold fX8_drawMoves at h
  refine j_iconst hx hb dX8_drawMoves_0 ?_
  refine j_istore_n (lv2 := [(1, jI 0), (0, jR b 0)]) hx hb dX8_drawMoves_1 rfl hl (by decide) rfl (fun ls hl => ?_)
  refine j_iconst hx hb dX8_drawMoves_2 ?_
  refine j_istore_n (lv2 := [(2, jI 1), (1, jI 0), (0, jR b 0)]) hx hb dX8_drawMoves_3 rfl hl (by decide) rfl (fun ls hl => ?_)
  refine j_iconst hx hb dX8_drawMoves_4 ?_
  refine j_istore_n (lv2 := [(3, jI 0), (2, jI 1), (1, jI 0), (0, jR b 0)]) hx hb dX8_drawMoves_5 rfl hl (by decide) rfl (fun ls hl => ?_)
  have hl6_1 : ∀ (n0 : Nat) (x1_2 : Int) (x2_3 : Int) (x3_4 : Int) (μ5 : Mm) (H : Heap) (locs : List Loc) (ls : Array Slot), va_P D vwCl (wl b cs μ5) H → va_S (bA b) s.heap H locs → lv_has ls 4 [(0, jR b 0), (1, jI x1_2), (2, jI x2_3), (3, jI x3_4)] → fX8_drawMoves_l6 N n0 x1_2 x2_3 x3_4 μ5 = some (r, μ0) → W p l e rmX8_drawMoves s m args below meth c H locs 0 0 (MQ below (QI D b cs μ0 r) args s 0 0 (bA b)) (F0 m 6 ls []) := by
    intro n0
    induction n0 with
    | zero => intro x1_2 x2_3 x3_4 μ5 H locs ls hP hS hl h; rw [fX8_drawMoves_l6] at h; cases h
    | succ n1 ih6_1 =>
      intro x1_2 x2_3 x3_4 μ5 H locs ls hP hS hl h
      rw [fX8_drawMoves_l6] at h
      refine j_iload_n hx hb dX8_drawMoves_6 rfl (lv_at hl 3 rfl) ?_
      refine j_aload_n hx hb dX8_drawMoves_7 rfl (lv_at hl 0 rfl) ?_
      refine j_get (v := jR b ((gI μ5 0 6).toNat)) hx hb hts hinX8 hown hK hP kz_0 (by decide) rfl 6 (by decide) (hts (.fieldLink RX8 49 "CardBand" "threading" "LCardBand$Threading;") (by decide +kernel)) rfl rfl dX8_drawMoves_8 ?_
      obtain ⟨g6, h⟩ := ob_g h
      replace g6 := of_decide_eq_true g6
      refine j_get (v := jI (gI μ5 ((gI μ5 0 6).toNat) 7)) hx hb hts hinX5 hown hK hP g6 (by decide) rfl 7 (by decide) (hts (.fieldLink RX8 94 "CardBand$Threading" "packs" "I") (by decide +kernel)) rfl (by rw [jI_g]; rfl) dX8_drawMoves_11 ?_
      refine j_icmp_ge (A := wr x3_4) (B := wr (gI μ5 ((gI μ5 0 6).toNat) 7)) (tgt := 36) hx hb rfl rfl dX8_drawMoves_14 (by decide) (fun q7 => ?_) (fun q7 => ?_)
      · replace h := (if_pos q7).symm.trans h
        refine j_iload_n hx hb dX8_drawMoves_36 rfl (lv_at hl 1 rfl) ?_
        obtain ⟨e0, e1⟩ := Prod.mk.inj (Option.some.inj h)
        subst e1
        exact j_retI hx hb hK hP hS hr hlk e0 dX8_drawMoves_37
      · replace h := (if_neg q7).symm.trans h
        refine j_iload_n hx hb dX8_drawMoves_17 rfl (lv_at hl 1 rfl) ?_
        refine j_aload_n hx hb dX8_drawMoves_18 rfl (lv_at hl 0 rfl) ?_
        obtain ⟨v9, μ10, e8, h⟩ := ob_P h
        refine jc_VI (As := []) (rest := [jI x1_2]) ⟨hx, hb, hml, hown, hts⟩ hK hP hS (m_X8_drawFigure l D b cs N e8) (cwV 0 hts gX8_drawMoves_X8_drawFigure rfl rfl rfl (by decide +kernel) ⟨Nat.le_of_ble_eq_true rfl, Nat.le_of_ble_eq_true rfl⟩) kz_0 (by decide) rfl rfl hl.1 rfl (Nat.le_of_ble_eq_true rfl) dX8_drawMoves_19 ⟨Nat.zero_le _, Nat.zero_le _⟩ (fun H locs hP hS => ?_)
        refine j_iload_n hx hb dX8_drawMoves_22 rfl (lv_at hl 2 rfl) ?_
        refine j_imul hx hb dX8_drawMoves_23 ?_
        refine j_iadd hx hb dX8_drawMoves_24 ?_
        refine j_istore_n (lv2 := [(1, jI (x1_2 + (v9 * x2_3))), (0, jR b 0), (2, jI x2_3), (3, jI x3_4)]) hx hb dX8_drawMoves_25 rfl hl (by decide) rfl (fun ls hl => ?_)
        refine j_iload_n hx hb dX8_drawMoves_26 rfl (lv_at hl 2 rfl) ?_
        refine j_iconst hx hb dX8_drawMoves_27 ?_
        refine j_imul hx hb dX8_drawMoves_28 ?_
        refine j_istore_n (lv2 := [(2, jI (x2_3 * 3)), (1, jI (x1_2 + (v9 * x2_3))), (0, jR b 0), (3, jI x3_4)]) hx hb dX8_drawMoves_29 rfl hl (by decide) rfl (fun ls hl => ?_)
        refine j_iinc (k := 3) (lv2 := [(3, jI (x3_4 + 1)), (2, jI (x2_3 * 3)), (1, jI (x1_2 + (v9 * x2_3))), (0, jR b 0)]) hx hb dX8_drawMoves_30 hl rfl (by decide) rfl (fun ls hl => ?_)
        refine j_goto (tgt := 6) hx hb dX8_drawMoves_33 (by decide) ?_
        exact ih6_1 _ _ _ _ _ _ _ hP hS (lv_sub hl [3, 2, 1, 0] rfl) h
  exact hl6_1 N _ _ _ _ _ _ _ hP hS (lv_sub hl [3, 2, 1, 0] rfl) h
def fX8_drift_l45 (N : Nat) (y1 : Int) : Nat → Int → Mm → Option (Int × Mm)
  | 0, _, _ => none
  | n8 + 1, x2_9, μ10 =>
    if wr y1 ≤ wr x2_9 then (some ((gI μ10 3 8), μ10)) else (Option.bind (fX1_remember N 3 μ10) (fun μ13 => bP (fX8_drawMoves N μ13) (fun v15 μ16 => gd (decide (kd ((gI μ13 0 6).toNat) = 4)) (bP (fX7_weaveOnce N 3 ((gI μ13 0 6).toNat) v15 μ16) (fun v19 μ20 => (fX8_drift_l45 N y1 n8) (x2_9 + 1) μ20)))))
def fX8_drift (N : Nat) (y1 : Int) (μ : Mm) : Option (Int × Mm) :=
    if wr y1 < 1 then (some ((-1000000002), μ)) else (if wr y1 ≤ 30 then (gd (decide (kd ((gI μ 0 6).toNat) = 4)) (Option.bind (fX5_isMade N ((gI μ 0 6).toNat) μ) (fun v5 => if wr v5 = 0 then (some ((-1000000003), μ)) else (if wr (gI μ 3 8) ≤ 9000 then (fX8_drift_l45 N y1 N 0 μ) else (some ((-1000000004), μ)))))) else (some ((-1000000002), μ)))
abbrev rmX8_drift : Room := { frames := 5, cells := 0, slots := 0, locals := 114 }
set_option maxHeartbeats 4000000 in
set_option maxRecDepth 100000 in
theorem m_X8_drift (l : Launch) (D : va_G) (b : Nat) (cs : CS) (N : Nat) {μ μ0 : Mm} {y1 : Int} {r : Int} (h : fX8_drift N y1 μ = some (r, μ0)) : MI l yX8_drift wsX8_drift rmX8_drift D b cs [jR b 0, jI y1] μ μ0 r := by
  refine met_in (cc := cX8_drift) (maxL := 3) (ret := some .int) (lv0 := [(0, jR b 0), (1, jI y1)]) (by decide +kernel) rfl (Nat.le_of_ble_eq_true rfl) rfl ?_
  intro p e s m args below meth c hx hb hr hlk hml hown hts hP hK ls hl
  have hown : s.vm.findClass RX8 = some m.cls := hown
  have hS : va_S (bA b) s.heap s.heap [] := va_S.rf
  have hinX7 : ∀ w ∈ u_ws RX7 TX7 9, w ∈ wsX8_drift := by decide +kernel
  have hinX8 : ∀ w ∈ u_ws RX8 TX8 9, w ∈ wsX8_drift := by decide +kernel
  unfold fX8_drift at h
  refine j_iload_n hx hb dX8_drift_0 rfl (lv_at hl 1 rfl) ?_
  refine j_iconst hx hb dX8_drift_1 ?_
  refine j_icmp_lt (A := wr y1) (B := 1) (tgt := 11) hx hb rfl (by decide) dX8_drift_2 (by decide) (fun q1 => ?_) (fun q1 => ?_)
  · replace h := (if_pos q1).symm.trans h
    refine j_ldc (n := (-1000000002)) hx hb hown (hts (.constant RX8 57 (-1000000002)) (by decide +kernel)) (by decide) dX8_drift_11 ?_
    obtain ⟨e0, e1⟩ := Prod.mk.inj (Option.some.inj h)
    subst e1
    exact j_retI hx hb hK hP hS hr hlk e0 dX8_drift_13
  · replace h := (if_neg q1).symm.trans h
    refine j_iload_n hx hb dX8_drift_5 rfl (lv_at hl 1 rfl) ?_
    refine j_bipush hx hb dX8_drift_6 (by decide) ?_
    refine j_icmp_le (A := wr y1) (B := 30) (tgt := 14) hx hb rfl (by decide) dX8_drift_8 (by decide) (fun q2 => ?_) (fun q2 => ?_)
    · replace h := (if_pos q2).symm.trans h
      refine j_aload_n hx hb dX8_drift_14 rfl (lv_at hl 0 rfl) ?_
      refine j_get (v := jR b ((gI μ 0 6).toNat)) hx hb hts hinX8 hown hK hP kz_0 (by decide) rfl 6 (by decide) (hts (.fieldLink RX8 49 "CardBand" "threading" "LCardBand$Threading;") (by decide +kernel)) rfl rfl dX8_drift_15 ?_
      obtain ⟨g3, h⟩ := ob_g h
      replace g3 := of_decide_eq_true g3
      obtain ⟨v5, e4, h⟩ := ob_I h
      refine jc_VI (As := []) (rest := []) ⟨hx, hb, hml, hown, hts⟩ hK hP hS (m_X5_isMade l D b cs N g3 e4) (cwV 0 hts gX8_drift_X5_isMade rfl rfl rfl (by decide +kernel) ⟨Nat.le_of_ble_eq_true rfl, Nat.le_of_ble_eq_true rfl⟩) g3 (by decide) rfl rfl hl.1 rfl (Nat.le_of_ble_eq_true rfl) dX8_drift_18 ⟨Nat.zero_le _, Nat.zero_le _⟩ (fun H locs hP hS => ?_)
      refine j_if_ne (A := wr v5) (tgt := 27) hx hb rfl dX8_drift_21 (by decide) (fun q6 => ?_) (fun q6 => ?_)
      · replace h := (if_neg q6).symm.trans h
        refine j_aload_n hx hb dX8_drift_27 rfl (lv_at hl 0 rfl) ?_
        refine j_get (v := jR b 3) hx hb hts hinX8 hown hK hP kz_0 (by decide) rfl 1 (by decide) (hts (.fieldLink RX8 19 "CardBand" "weave" "LCardBand$Weave;") (by decide +kernel)) rfl rfl dX8_drift_28 ?_
        refine j_get (v := jI (gI μ 3 8)) hx hb hts hinX7 hown hK hP kz_3 (by decide) rfl 8 (by decide) (hts (.fieldLink RX8 97 "CardBand$Weave" "picks" "I") (by decide +kernel)) rfl (by rw [jI_g]; rfl) dX8_drift_31 ?_
        refine j_sipush hx hb dX8_drift_34 (by decide) ?_
        refine j_icmp_le (A := wr (gI μ 3 8)) (B := 9000) (tgt := 43) hx hb rfl (by decide) dX8_drift_37 (by decide) (fun q7 => ?_) (fun q7 => ?_)
        · replace h := (if_pos q7).symm.trans h
          refine j_iconst hx hb dX8_drift_43 ?_
          refine j_istore_n (lv2 := [(2, jI 0), (0, jR b 0), (1, jI y1)]) hx hb dX8_drift_44 rfl hl (by decide) rfl (fun ls hl => ?_)
          have hl45_8 : ∀ (n0 : Nat) (x2_9 : Int) (μ10 : Mm) (H : Heap) (locs : List Loc) (ls : Array Slot), va_P D vwCl (wl b cs μ10) H → va_S (bA b) s.heap H locs → lv_has ls 3 [(0, jR b 0), (1, jI y1), (2, jI x2_9)] → fX8_drift_l45 N y1 n0 x2_9 μ10 = some (r, μ0) → W p l e rmX8_drift s m args below meth c H locs 0 0 (MQ below (QI D b cs μ0 r) args s 0 0 (bA b)) (F0 m 45 ls []) := by
            intro n0
            induction n0 with
            | zero => intro x2_9 μ10 H locs ls hP hS hl h; rw [fX8_drift_l45] at h; cases h
            | succ n8 ih45_8 =>
              intro x2_9 μ10 H locs ls hP hS hl h
              rw [fX8_drift_l45] at h
              refine j_iload_n hx hb dX8_drift_45 rfl (lv_at hl 2 rfl) ?_
              refine j_iload_n hx hb dX8_drift_46 rfl (lv_at hl 1 rfl) ?_
              refine j_icmp_ge (A := wr x2_9) (B := wr y1) (tgt := 83) hx hb rfl rfl dX8_drift_47 (by decide) (fun q11 => ?_) (fun q11 => ?_)
              · replace h := (if_pos q11).symm.trans h
                refine j_aload_n hx hb dX8_drift_83 rfl (lv_at hl 0 rfl) ?_
                refine j_get (v := jR b 3) hx hb hts hinX8 hown hK hP kz_0 (by decide) rfl 1 (by decide) (hts (.fieldLink RX8 19 "CardBand" "weave" "LCardBand$Weave;") (by decide +kernel)) rfl rfl dX8_drift_84 ?_
                refine j_get (v := jI (gI μ10 3 8)) hx hb hts hinX7 hown hK hP kz_3 (by decide) rfl 8 (by decide) (hts (.fieldLink RX8 97 "CardBand$Weave" "picks" "I") (by decide +kernel)) rfl (by rw [jI_g]; rfl) dX8_drift_87 ?_
                obtain ⟨e0, e1⟩ := Prod.mk.inj (Option.some.inj h)
                subst e1
                exact j_retI hx hb hK hP hS hr hlk e0 dX8_drift_90
              · replace h := (if_neg q11).symm.trans h
                refine j_aload_n hx hb dX8_drift_50 rfl (lv_at hl 0 rfl) ?_
                refine j_get (v := jR b 21) hx hb hts hinX8 hown hK hP kz_0 (by decide) rfl 3 (by decide) (hts (.fieldLink RX8 29 "CardBand" "deeds" "LCardBand$Deeds;") (by decide +kernel)) rfl rfl dX8_drift_51 ?_
                refine j_aload_n hx hb dX8_drift_54 rfl (lv_at hl 0 rfl) ?_
                refine j_get (v := jR b 3) hx hb hts hinX8 hown hK hP kz_0 (by decide) rfl 1 (by decide) (hts (.fieldLink RX8 19 "CardBand" "weave" "LCardBand$Weave;") (by decide +kernel)) rfl rfl dX8_drift_55 ?_
                obtain ⟨μ13, e12, h⟩ := ob_I h
                refine jc_VM (As := [jR b 3]) (rest := []) ⟨hx, hb, hml, hown, hts⟩ hK hP hS (m_X1_remember l D b cs N kz_3 e12) (cwV 1 hts gX8_drift_X1_remember rfl rfl rfl (by decide +kernel) ⟨Nat.le_of_ble_eq_true rfl, Nat.le_of_ble_eq_true rfl⟩) kz_21 (by decide) rfl rfl hl.1 rfl (Nat.le_of_ble_eq_true rfl) dX8_drift_58 ⟨Nat.zero_le _, Nat.zero_le _⟩ (fun H locs hP hS => ?_)
                refine j_aload_n hx hb dX8_drift_61 rfl (lv_at hl 0 rfl) ?_
                refine j_get (v := jR b 3) hx hb hts hinX8 hown hK hP kz_0 (by decide) rfl 1 (by decide) (hts (.fieldLink RX8 19 "CardBand" "weave" "LCardBand$Weave;") (by decide +kernel)) rfl rfl dX8_drift_62 ?_
                refine j_aload_n hx hb dX8_drift_65 rfl (lv_at hl 0 rfl) ?_
                refine j_get (v := jR b ((gI μ13 0 6).toNat)) hx hb hts hinX8 hown hK hP kz_0 (by decide) rfl 6 (by decide) (hts (.fieldLink RX8 49 "CardBand" "threading" "LCardBand$Threading;") (by decide +kernel)) rfl rfl dX8_drift_66 ?_
                refine j_aload_n hx hb dX8_drift_69 rfl (lv_at hl 0 rfl) ?_
                obtain ⟨v15, μ16, e14, h⟩ := ob_P h
                refine jc_VI (As := []) (rest := [jR b ((gI μ13 0 6).toNat), jR b 3]) ⟨hx, hb, hml, hown, hts⟩ hK hP hS (m_X8_drawMoves l D b cs N e14) (cwV 0 hts gX8_drift_X8_drawMoves rfl rfl rfl (by decide +kernel) ⟨Nat.le_of_ble_eq_true rfl, Nat.le_of_ble_eq_true rfl⟩) kz_0 (by decide) rfl rfl hl.1 rfl (Nat.le_of_ble_eq_true rfl) dX8_drift_70 ⟨Nat.zero_le _, Nat.zero_le _⟩ (fun H locs hP hS => ?_)
                obtain ⟨g17, h⟩ := ob_g h
                replace g17 := of_decide_eq_true g17
                obtain ⟨v19, μ20, e18, h⟩ := ob_P h
                refine jc_VI (As := [jR b ((gI μ13 0 6).toNat), jI v15]) (rest := []) ⟨hx, hb, hml, hown, hts⟩ hK hP hS (m_X7_weaveOnce l D b cs N kz_3 g17 e18) (cwV 2 hts gX8_drift_X7_weaveOnce rfl rfl rfl (by decide +kernel) ⟨Nat.le_of_ble_eq_true rfl, Nat.le_of_ble_eq_true rfl⟩) kz_3 (by decide) rfl rfl hl.1 rfl (Nat.le_of_ble_eq_true rfl) dX8_drift_73 ⟨Nat.zero_le _, Nat.zero_le _⟩ (fun H locs hP hS => ?_)
                refine j_pop hx hb dX8_drift_76 rfl ?_
                refine j_iinc (k := 2) (lv2 := [(2, jI (x2_9 + 1)), (0, jR b 0), (1, jI y1)]) hx hb dX8_drift_77 hl rfl (by decide) rfl (fun ls hl => ?_)
                refine j_goto (tgt := 45) hx hb dX8_drift_80 (by decide) ?_
                exact ih45_8 _ _ _ _ _ hP hS (lv_sub hl [1, 2, 0] rfl) h
          exact hl45_8 N _ _ _ _ _ hP hS (lv_sub hl [1, 2, 0] rfl) h
        · replace h := (if_neg q7).symm.trans h
          refine j_ldc (n := (-1000000004)) hx hb hown (hts (.constant RX8 62 (-1000000004)) (by decide +kernel)) (by decide) dX8_drift_40 ?_
          obtain ⟨e0, e1⟩ := Prod.mk.inj (Option.some.inj h)
          subst e1
          exact j_retI hx hb hK hP hS hr hlk e0 dX8_drift_42
      · replace h := (if_pos q6).symm.trans h
        refine j_ldc (n := (-1000000003)) hx hb hown (hts (.constant RX8 185 (-1000000003)) (by decide +kernel)) (by decide) dX8_drift_24 ?_
        obtain ⟨e0, e1⟩ := Prod.mk.inj (Option.some.inj h)
        subst e1
        exact j_retI hx hb hK hP hS hr hlk e0 dX8_drift_26
    · replace h := (if_neg q2).symm.trans h
      refine j_ldc (n := (-1000000002)) hx hb hown (hts (.constant RX8 57 (-1000000002)) (by decide +kernel)) (by decide) dX8_drift_11 ?_
      obtain ⟨e0, e1⟩ := Prod.mk.inj (Option.some.inj h)
      subst e1
      exact j_retI hx hb hK hP hS hr hlk e0 dX8_drift_13
def fX8_fault (N : Nat) (μ : Mm) : Option (Int) :=
    some (gI μ 1 5)
abbrev rmX8_fault : Room := { frames := 0, cells := 0, slots := 0, locals := 0 }
set_option maxHeartbeats 4000000 in
set_option maxRecDepth 100000 in
theorem m_X8_fault (l : Launch) (D : va_G) (b : Nat) (cs : CS) (N : Nat) {μ : Mm} {r : Int} (h : fX8_fault N μ = some r) : MI l yX8_fault wsX8_fault rmX8_fault D b cs [jR b 0] μ μ r := by
  refine met_in (cc := cX8_fault) (maxL := 1) (ret := some .int) (lv0 := [(0, jR b 0)]) (by decide +kernel) rfl (Nat.le_of_ble_eq_true rfl) rfl ?_
  intro p e s m args below meth c hx hb hr hlk hml hown hts hP hK ls hl
  have hown : s.vm.findClass RX8 = some m.cls := hown
  have hS : va_S (bA b) s.heap s.heap [] := va_S.rf
  have hinX4 : ∀ w ∈ u_ws RX4 TX4 6, w ∈ wsX8_fault := by decide +kernel
  have hinX8 : ∀ w ∈ u_ws RX8 TX8 9, w ∈ wsX8_fault := by decide +kernel
  unfold fX8_fault at h
  refine j_aload_n hx hb dX8_fault_0 rfl (lv_at hl 0 rfl) ?_
  refine j_get (v := jR b 1) hx hb hts hinX8 hown hK hP kz_0 (by decide) rfl 0 (by decide) (hts (.fieldLink RX8 10 "CardBand" "text" "LCardBand$Telling;") (by decide +kernel)) rfl rfl dX8_fault_1 ?_
  refine j_get (v := jI (gI μ 1 5)) hx hb hts hinX4 hown hK hP kz_1 (by decide) rfl 5 (by decide) (hts (.fieldLink RX8 88 "CardBand$Telling" "faultPlace" "I") (by decide +kernel)) rfl (by rw [jI_g]; rfl) dX8_fault_4 ?_
  exact j_retI hx hb hK hP hS hr hlk (Option.some.inj h) dX8_fault_7
def fX8_feed (N : Nat) (y1 : Int) (μ : Mm) : Option (Int × Mm) :=
    if wr y1 < 0 then (some ((-1000000002), μ)) else (if wr y1 ≤ 255 then (bP (fX4_append N y1 μ) (fun v4 μ5 => if wr v4 = 0 then (some ((-1000000004), μ5)) else (some ((gI μ5 1 1), μ5)))) else (some ((-1000000002), μ)))
abbrev rmX8_feed : Room := { frames := 1, cells := 0, slots := 0, locals := 21 }
set_option maxHeartbeats 4000000 in
set_option maxRecDepth 100000 in
theorem m_X8_feed (l : Launch) (D : va_G) (b : Nat) (cs : CS) (N : Nat) {μ μ0 : Mm} {y1 : Int} {r : Int} (h : fX8_feed N y1 μ = some (r, μ0)) : MI l yX8_feed wsX8_feed rmX8_feed D b cs [jR b 0, jI y1] μ μ0 r := by
  refine met_in (cc := cX8_feed) (maxL := 2) (ret := some .int) (lv0 := [(0, jR b 0), (1, jI y1)]) (by decide +kernel) rfl (Nat.le_of_ble_eq_true rfl) rfl ?_
  intro p e s m args below meth c hx hb hr hlk hml hown hts hP hK ls hl
  have hown : s.vm.findClass RX8 = some m.cls := hown
  have hS : va_S (bA b) s.heap s.heap [] := va_S.rf
  have hinX4 : ∀ w ∈ u_ws RX4 TX4 6, w ∈ wsX8_feed := by decide +kernel
  have hinX8 : ∀ w ∈ u_ws RX8 TX8 9, w ∈ wsX8_feed := by decide +kernel
  unfold fX8_feed at h
  refine j_iload_n hx hb dX8_feed_0 rfl (lv_at hl 1 rfl) ?_
  refine j_if_lt (A := wr y1) (tgt := 11) hx hb rfl dX8_feed_1 (by decide) (fun q1 => ?_) (fun q1 => ?_)
  · replace h := (if_pos q1).symm.trans h
    refine j_ldc (n := (-1000000002)) hx hb hown (hts (.constant RX8 57 (-1000000002)) (by decide +kernel)) (by decide) dX8_feed_11 ?_
    obtain ⟨e0, e1⟩ := Prod.mk.inj (Option.some.inj h)
    subst e1
    exact j_retI hx hb hK hP hS hr hlk e0 dX8_feed_13
  · replace h := (if_neg q1).symm.trans h
    refine j_iload_n hx hb dX8_feed_4 rfl (lv_at hl 1 rfl) ?_
    refine j_sipush hx hb dX8_feed_5 (by decide) ?_
    refine j_icmp_le (A := wr y1) (B := 255) (tgt := 14) hx hb rfl (by decide) dX8_feed_8 (by decide) (fun q2 => ?_) (fun q2 => ?_)
    · replace h := (if_pos q2).symm.trans h
      refine j_aload_n hx hb dX8_feed_14 rfl (lv_at hl 0 rfl) ?_
      refine j_get (v := jR b 1) hx hb hts hinX8 hown hK hP kz_0 (by decide) rfl 0 (by decide) (hts (.fieldLink RX8 10 "CardBand" "text" "LCardBand$Telling;") (by decide +kernel)) rfl rfl dX8_feed_15 ?_
      refine j_iload_n hx hb dX8_feed_18 rfl (lv_at hl 1 rfl) ?_
      obtain ⟨v4, μ5, e3, h⟩ := ob_P h
      refine jc_VI (As := [jI y1]) (rest := []) ⟨hx, hb, hml, hown, hts⟩ hK hP hS (m_X4_append l D b cs N e3) (cwV 1 hts gX8_feed_X4_append rfl rfl rfl (by decide +kernel) ⟨Nat.le_of_ble_eq_true rfl, Nat.le_of_ble_eq_true rfl⟩) kz_1 (by decide) rfl rfl hl.1 rfl (Nat.le_of_ble_eq_true rfl) dX8_feed_19 ⟨Nat.zero_le _, Nat.zero_le _⟩ (fun H locs hP hS => ?_)
      refine j_if_ne (A := wr v4) (tgt := 28) hx hb rfl dX8_feed_22 (by decide) (fun q6 => ?_) (fun q6 => ?_)
      · replace h := (if_neg q6).symm.trans h
        refine j_aload_n hx hb dX8_feed_28 rfl (lv_at hl 0 rfl) ?_
        refine j_get (v := jR b 1) hx hb hts hinX8 hown hK hP kz_0 (by decide) rfl 0 (by decide) (hts (.fieldLink RX8 10 "CardBand" "text" "LCardBand$Telling;") (by decide +kernel)) rfl rfl dX8_feed_29 ?_
        refine j_get (v := jI (gI μ5 1 1)) hx hb hts hinX4 hown hK hP kz_1 (by decide) rfl 1 (by decide) (hts (.fieldLink RX8 63 "CardBand$Telling" "length" "I") (by decide +kernel)) rfl (by rw [jI_g]; rfl) dX8_feed_32 ?_
        obtain ⟨e0, e1⟩ := Prod.mk.inj (Option.some.inj h)
        subst e1
        exact j_retI hx hb hK hP hS hr hlk e0 dX8_feed_35
      · replace h := (if_pos q6).symm.trans h
        refine j_ldc (n := (-1000000004)) hx hb hown (hts (.constant RX8 62 (-1000000004)) (by decide +kernel)) (by decide) dX8_feed_25 ?_
        obtain ⟨e0, e1⟩ := Prod.mk.inj (Option.some.inj h)
        subst e1
        exact j_retI hx hb hK hP hS hr hlk e0 dX8_feed_27
    · replace h := (if_neg q2).symm.trans h
      refine j_ldc (n := (-1000000002)) hx hb hown (hts (.constant RX8 57 (-1000000002)) (by decide +kernel)) (by decide) dX8_feed_11 ?_
      obtain ⟨e0, e1⟩ := Prod.mk.inj (Option.some.inj h)
      subst e1
      exact j_retI hx hb hK hP hS hr hlk e0 dX8_feed_13
def fX8_flip (N : Nat) (y1 : Int) (μ : Mm) : Option (Int × Mm) :=
    gd (decide (kd ((gI μ 0 6).toNat) = 4)) (Option.bind (fX5_hasCard N ((gI μ 0 6).toNat) y1 μ) (fun v3 => if wr v3 = 0 then (some ((-1000000001), μ)) else (Option.bind (fX1_remember N 3 μ) (fun μ6 => Option.bind (ldA μ6 4 8 y1) (fun v7 => Option.bind (stA μ6 4 8 y1 (1 - v7)) (fun μ9 => Option.bind (ldA μ9 4 8 y1) (fun v11 => some (v11, μ9))))))))
abbrev rmX8_flip : Room := { frames := 3, cells := 0, slots := 0, locals := 69 }
set_option maxHeartbeats 4000000 in
set_option maxRecDepth 100000 in
theorem m_X8_flip (l : Launch) (D : va_G) (b : Nat) (cs : CS) (N : Nat) {μ μ0 : Mm} {y1 : Int} {r : Int} (h : fX8_flip N y1 μ = some (r, μ0)) : MI l yX8_flip wsX8_flip rmX8_flip D b cs [jR b 0, jI y1] μ μ0 r := by
  refine met_in (cc := cX8_flip) (maxL := 2) (ret := some .int) (lv0 := [(0, jR b 0), (1, jI y1)]) (by decide +kernel) rfl (Nat.le_of_ble_eq_true rfl) rfl ?_
  intro p e s m args below meth c hx hb hr hlk hml hown hts hP hK ls hl
  have hown : s.vm.findClass RX8 = some m.cls := hown
  have hS : va_S (bA b) s.heap s.heap [] := va_S.rf
  have hinX7 : ∀ w ∈ u_ws RX7 TX7 9, w ∈ wsX8_flip := by decide +kernel
  have hinX8 : ∀ w ∈ u_ws RX8 TX8 9, w ∈ wsX8_flip := by decide +kernel
  unfold fX8_flip at h
  refine j_aload_n hx hb dX8_flip_0 rfl (lv_at hl 0 rfl) ?_
  refine j_get (v := jR b ((gI μ 0 6).toNat)) hx hb hts hinX8 hown hK hP kz_0 (by decide) rfl 6 (by decide) (hts (.fieldLink RX8 49 "CardBand" "threading" "LCardBand$Threading;") (by decide +kernel)) rfl rfl dX8_flip_1 ?_
  refine j_iload_n hx hb dX8_flip_4 rfl (lv_at hl 1 rfl) ?_
  obtain ⟨g1, h⟩ := ob_g h
  replace g1 := of_decide_eq_true g1
  obtain ⟨v3, e2, h⟩ := ob_I h
  refine jc_VI (As := [jI y1]) (rest := []) ⟨hx, hb, hml, hown, hts⟩ hK hP hS (m_X5_hasCard l D b cs N g1 e2) (cwV 1 hts gX8_flip_X5_hasCard rfl rfl rfl (by decide +kernel) ⟨Nat.le_of_ble_eq_true rfl, Nat.le_of_ble_eq_true rfl⟩) g1 (by decide) rfl rfl hl.1 rfl (Nat.le_of_ble_eq_true rfl) dX8_flip_5 ⟨Nat.zero_le _, Nat.zero_le _⟩ (fun H locs hP hS => ?_)
  refine j_if_ne (A := wr v3) (tgt := 14) hx hb rfl dX8_flip_8 (by decide) (fun q4 => ?_) (fun q4 => ?_)
  · replace h := (if_neg q4).symm.trans h
    refine j_aload_n hx hb dX8_flip_14 rfl (lv_at hl 0 rfl) ?_
    refine j_get (v := jR b 21) hx hb hts hinX8 hown hK hP kz_0 (by decide) rfl 3 (by decide) (hts (.fieldLink RX8 29 "CardBand" "deeds" "LCardBand$Deeds;") (by decide +kernel)) rfl rfl dX8_flip_15 ?_
    refine j_aload_n hx hb dX8_flip_18 rfl (lv_at hl 0 rfl) ?_
    refine j_get (v := jR b 3) hx hb hts hinX8 hown hK hP kz_0 (by decide) rfl 1 (by decide) (hts (.fieldLink RX8 19 "CardBand" "weave" "LCardBand$Weave;") (by decide +kernel)) rfl rfl dX8_flip_19 ?_
    obtain ⟨μ6, e5, h⟩ := ob_I h
    refine jc_VM (As := [jR b 3]) (rest := []) ⟨hx, hb, hml, hown, hts⟩ hK hP hS (m_X1_remember l D b cs N kz_3 e5) (cwV 1 hts gX8_flip_X1_remember rfl rfl rfl (by decide +kernel) ⟨Nat.le_of_ble_eq_true rfl, Nat.le_of_ble_eq_true rfl⟩) kz_21 (by decide) rfl rfl hl.1 rfl (Nat.le_of_ble_eq_true rfl) dX8_flip_22 ⟨Nat.zero_le _, Nat.zero_le _⟩ (fun H locs hP hS => ?_)
    refine j_aload_n hx hb dX8_flip_25 rfl (lv_at hl 0 rfl) ?_
    refine j_get (v := jR b 3) hx hb hts hinX8 hown hK hP kz_0 (by decide) rfl 1 (by decide) (hts (.fieldLink RX8 19 "CardBand" "weave" "LCardBand$Weave;") (by decide +kernel)) rfl rfl dX8_flip_26 ?_
    refine j_get (v := jR b 4) hx hb hts hinX7 hown hK hP kz_3 (by decide) rfl 0 (by decide) (hts (.fieldLink RX8 141 "CardBand$Weave" "ways" "[I") (by decide +kernel)) rfl rfl dX8_flip_29 ?_
    refine j_iload_n hx hb dX8_flip_32 rfl (lv_at hl 1 rfl) ?_
    refine j_iconst hx hb dX8_flip_33 ?_
    refine j_aload_n hx hb dX8_flip_34 rfl (lv_at hl 0 rfl) ?_
    refine j_get (v := jR b 3) hx hb hts hinX8 hown hK hP kz_0 (by decide) rfl 1 (by decide) (hts (.fieldLink RX8 19 "CardBand" "weave" "LCardBand$Weave;") (by decide +kernel)) rfl rfl dX8_flip_35 ?_
    refine j_get (v := jR b 4) hx hb hts hinX7 hown hK hP kz_3 (by decide) rfl 0 (by decide) (hts (.fieldLink RX8 141 "CardBand$Weave" "ways" "[I") (by decide +kernel)) rfl rfl dX8_flip_38 ?_
    refine j_iload_n hx hb dX8_flip_41 rfl (lv_at hl 1 rfl) ?_
    obtain ⟨v7, e8, h⟩ := ob_I h
    refine j_iaload hx hb hK hP kz_4 e8 dX8_flip_42 ?_
    refine j_isub hx hb dX8_flip_43 ?_
    obtain ⟨μ9, e10, h⟩ := ob_I h
    refine j_iastore hx hb hK hP hS kz_4 e10 dX8_flip_44 (fun H locs hP hS => ?_)
    refine j_aload_n hx hb dX8_flip_45 rfl (lv_at hl 0 rfl) ?_
    refine j_get (v := jR b 3) hx hb hts hinX8 hown hK hP kz_0 (by decide) rfl 1 (by decide) (hts (.fieldLink RX8 19 "CardBand" "weave" "LCardBand$Weave;") (by decide +kernel)) rfl rfl dX8_flip_46 ?_
    refine j_get (v := jR b 4) hx hb hts hinX7 hown hK hP kz_3 (by decide) rfl 0 (by decide) (hts (.fieldLink RX8 141 "CardBand$Weave" "ways" "[I") (by decide +kernel)) rfl rfl dX8_flip_49 ?_
    refine j_iload_n hx hb dX8_flip_52 rfl (lv_at hl 1 rfl) ?_
    obtain ⟨v11, e12, h⟩ := ob_I h
    refine j_iaload hx hb hK hP kz_4 e12 dX8_flip_53 ?_
    obtain ⟨e0, e1⟩ := Prod.mk.inj (Option.some.inj h)
    subst e1
    exact j_retI hx hb hK hP hS hr hlk e0 dX8_flip_54
  · replace h := (if_pos q4).symm.trans h
    refine j_ldc (n := (-1000000001)) hx hb hown (hts (.constant RX8 136 (-1000000001)) (by decide +kernel)) (by decide) dX8_flip_11 ?_
    obtain ⟨e0, e1⟩ := Prod.mk.inj (Option.some.inj h)
    subst e1
    exact j_retI hx hb hK hP hS hr hlk e0 dX8_flip_13
def fX8_floats (N : Nat) (y1 : Int) (μ : Mm) : Option (Int) :=
    gd (decide (kd ((gI μ 0 6).toNat) = 4)) (Option.bind (fX5_hasCard N ((gI μ 0 6).toNat) y1 μ) (fun v3 => if wr v3 = 0 then (some (-1000000001)) else (Option.bind (fX0_findFloat N 3 y1 μ) (fun v6 => some v6))))
abbrev rmX8_floats : Room := { frames := 4, cells := 0, slots := 0, locals := 89 }
set_option maxHeartbeats 4000000 in
set_option maxRecDepth 100000 in
theorem m_X8_floats (l : Launch) (D : va_G) (b : Nat) (cs : CS) (N : Nat) {μ : Mm} {y1 : Int} {r : Int} (h : fX8_floats N y1 μ = some r) : MI l yX8_floats wsX8_floats rmX8_floats D b cs [jR b 0, jI y1] μ μ r := by
  refine met_in (cc := cX8_floats) (maxL := 2) (ret := some .int) (lv0 := [(0, jR b 0), (1, jI y1)]) (by decide +kernel) rfl (Nat.le_of_ble_eq_true rfl) rfl ?_
  intro p e s m args below meth c hx hb hr hlk hml hown hts hP hK ls hl
  have hown : s.vm.findClass RX8 = some m.cls := hown
  have hS : va_S (bA b) s.heap s.heap [] := va_S.rf
  have hinX8 : ∀ w ∈ u_ws RX8 TX8 9, w ∈ wsX8_floats := by decide +kernel
  unfold fX8_floats at h
  refine j_aload_n hx hb dX8_floats_0 rfl (lv_at hl 0 rfl) ?_
  refine j_get (v := jR b ((gI μ 0 6).toNat)) hx hb hts hinX8 hown hK hP kz_0 (by decide) rfl 6 (by decide) (hts (.fieldLink RX8 49 "CardBand" "threading" "LCardBand$Threading;") (by decide +kernel)) rfl rfl dX8_floats_1 ?_
  refine j_iload_n hx hb dX8_floats_4 rfl (lv_at hl 1 rfl) ?_
  obtain ⟨g1, h⟩ := ob_g h
  replace g1 := of_decide_eq_true g1
  obtain ⟨v3, e2, h⟩ := ob_I h
  refine jc_VI (As := [jI y1]) (rest := []) ⟨hx, hb, hml, hown, hts⟩ hK hP hS (m_X5_hasCard l D b cs N g1 e2) (cwV 1 hts gX8_floats_X5_hasCard rfl rfl rfl (by decide +kernel) ⟨Nat.le_of_ble_eq_true rfl, Nat.le_of_ble_eq_true rfl⟩) g1 (by decide) rfl rfl hl.1 rfl (Nat.le_of_ble_eq_true rfl) dX8_floats_5 ⟨Nat.zero_le _, Nat.zero_le _⟩ (fun H locs hP hS => ?_)
  refine j_if_eq (A := wr v3) (tgt := 22) hx hb rfl dX8_floats_8 (by decide) (fun q4 => ?_) (fun q4 => ?_)
  · replace h := (if_pos q4).symm.trans h
    refine j_ldc (n := (-1000000001)) hx hb hown (hts (.constant RX8 136 (-1000000001)) (by decide +kernel)) (by decide) dX8_floats_22 ?_
    exact j_retI hx hb hK hP hS hr hlk (Option.some.inj h) dX8_floats_24
  · replace h := (if_neg q4).symm.trans h
    refine j_aload_n hx hb dX8_floats_11 rfl (lv_at hl 0 rfl) ?_
    refine j_get (v := jR b 3) hx hb hts hinX8 hown hK hP kz_0 (by decide) rfl 1 (by decide) (hts (.fieldLink RX8 19 "CardBand" "weave" "LCardBand$Weave;") (by decide +kernel)) rfl rfl dX8_floats_12 ?_
    refine j_iload_n hx hb dX8_floats_15 rfl (lv_at hl 1 rfl) ?_
    obtain ⟨v6, e5, h⟩ := ob_I h
    refine jc_SI (As := [jR b 3, jI y1]) (rest := []) ⟨hx, hb, hml, hown, hts⟩ hK hP hS (m_X0_findFloat l D b cs N kz_3 e5) (va_cwS 2 hts gX8_floats_X0_findFloat rfl rfl rfl (by decide +kernel) ⟨Nat.le_of_ble_eq_true rfl, Nat.le_of_ble_eq_true rfl⟩) rfl hl.1 rfl (Nat.le_of_ble_eq_true rfl) dX8_floats_16 ⟨Nat.zero_le _, Nat.zero_le _⟩ (fun H locs hP hS => ?_)
    refine j_goto (tgt := 24) hx hb dX8_floats_19 (by decide) ?_
    exact j_retI hx hb hK hP hS hr hlk (Option.some.inj h) dX8_floats_24
def fX8_forgetImages_l2 (N : Nat) : Nat → Int → Mm → Option (Mm)
  | 0, _, _ => none
  | n1 + 1, x1_2, μ3 =>
    if 2 ≤ wr x1_2 then (some μ3) else (Option.bind (ckI 2 x1_2) (fun v5 => gd (decide (kd (312 + 10 * v5.toNat) = 1)) (Option.bind (some (pI μ3 (312 + 10 * v5.toNat) 2 0)) (fun μ8 => (fX8_forgetImages_l2 N n1) (x1_2 + 1) μ8))))
def fX8_forgetImages (N : Nat) (μ : Mm) : Option (Mm) :=
    fX8_forgetImages_l2 N N 0 μ
abbrev rmX8_forgetImages : Room := { frames := 0, cells := 0, slots := 0, locals := 0 }
set_option maxHeartbeats 4000000 in
set_option maxRecDepth 100000 in
theorem m_X8_forgetImages (l : Launch) (D : va_G) (b : Nat) (cs : CS) (N : Nat) {μ μ0 : Mm} (h : fX8_forgetImages N μ = some μ0) : MM l yX8_forgetImages wsX8_forgetImages rmX8_forgetImages D b cs [jR b 0] μ μ0 := by
  refine met_in (cc := cX8_forgetImages) (maxL := 3) (ret := none) (lv0 := [(0, jR b 0)]) (by decide +kernel) rfl (Nat.le_of_ble_eq_true rfl) rfl ?_
  intro p e s m args below meth c hx hb hr hlk hml hown hts hP hK ls hl
  have hown : s.vm.findClass RX8 = some m.cls := hown
  have hS : va_S (bA b) s.heap s.heap [] := va_S.rf
  have hinX2 : ∀ w ∈ u_ws RX2 TX2 3, w ∈ wsX8_forgetImages := by decide +kernel
  have hinX8 : ∀ w ∈ u_ws RX8 TX8 9, w ∈ wsX8_forgetImages := by decide +kernel
  unfold fX8_forgetImages at h
  refine j_iconst hx hb dX8_forgetImages_0 ?_
  refine j_istore_n (lv2 := [(1, jI 0), (0, jR b 0)]) hx hb dX8_forgetImages_1 rfl hl (by decide) rfl (fun ls hl => ?_)
  have hl2_1 : ∀ (n0 : Nat) (x1_2 : Int) (μ3 : Mm) (H : Heap) (locs : List Loc) (ls : Array Slot), va_P D vwCl (wl b cs μ3) H → va_S (bA b) s.heap H locs → lv_has ls 3 [(0, jR b 0), (1, jI x1_2)] → fX8_forgetImages_l2 N n0 x1_2 μ3 = some μ0 → W p l e rmX8_forgetImages s m args below meth c H locs 0 0 (MQ below (QM D b cs μ0) args s 0 0 (bA b)) (F0 m 2 ls []) := by
    intro n0
    induction n0 with
    | zero => intro x1_2 μ3 H locs ls hP hS hl h; rw [fX8_forgetImages_l2] at h; cases h
    | succ n1 ih2_1 =>
      intro x1_2 μ3 H locs ls hP hS hl h
      rw [fX8_forgetImages_l2] at h
      refine j_iload_n hx hb dX8_forgetImages_2 rfl (lv_at hl 1 rfl) ?_
      refine j_aload_n hx hb dX8_forgetImages_3 rfl (lv_at hl 0 rfl) ?_
      refine j_get (v := jR b 299) hx hb hts hinX8 hown hK hP kz_0 (by decide) rfl 5 (by decide) (hts (.fieldLink RX8 42 "CardBand" "images" "[LCardBand$Image;") (by decide +kernel)) rfl rfl dX8_forgetImages_4 ?_
      refine j_alenG hx hb hK hP kz_299 dX8_forgetImages_7 ?_
      refine j_icmp_ge (A := wr x1_2) (B := 2) (tgt := 33) hx hb rfl (by decide) dX8_forgetImages_8 (by decide) (fun q4 => ?_) (fun q4 => ?_)
      · replace h := (if_pos q4).symm.trans h
        have e0 := Option.some.inj h
        subst e0
        exact j_retM hx hb hK hP hS hr hlk dX8_forgetImages_33
      · replace h := (if_neg q4).symm.trans h
        refine j_aload_n hx hb dX8_forgetImages_11 rfl (lv_at hl 0 rfl) ?_
        refine j_get (v := jR b 299) hx hb hts hinX8 hown hK hP kz_0 (by decide) rfl 5 (by decide) (hts (.fieldLink RX8 42 "CardBand" "images" "[LCardBand$Image;") (by decide +kernel)) rfl rfl dX8_forgetImages_12 ?_
        refine j_iload_n hx hb dX8_forgetImages_15 rfl (lv_at hl 1 rfl) ?_
        obtain ⟨v5, e6, h⟩ := ob_I h
        refine j_aaG hx hb hK hP kz_299 e6 dX8_forgetImages_16 ?_
        refine j_astore_n (lv2 := [(2, jR b (312 + 10 * v5.toNat)), (0, jR b 0), (1, jI x1_2)]) hx hb dX8_forgetImages_17 rfl hl (by decide) rfl (fun ls hl => ?_)
        refine j_aload_n hx hb dX8_forgetImages_18 rfl (lv_at hl 0 rfl) ?_
        refine j_ifnullR hx hb dX8_forgetImages_19 ?_
        refine j_aload_n hx hb dX8_forgetImages_22 rfl (lv_at hl 0 rfl) ?_
        refine j_iconst hx hb dX8_forgetImages_23 ?_
        obtain ⟨g7, h⟩ := ob_g h
        replace g7 := of_decide_eq_true g7
        obtain ⟨μ8, e9, h⟩ := ob_I h
        refine j_put (ty := .boolean) (z := 0) hx hb hts hinX2 tyX2 tyX2_ok nmX2 hown hK hP hS g7 (by decide) rfl 2 (by decide) (hts (.fieldLink RX8 300 "CardBand$Image" "kept" "Z") (by decide +kernel)) rfl rfl (by decide +kernel) rfl rfl (by simp [flds]) rfl dX8_forgetImages_24 (Option.some.inj e9) (fun H locs hP hS => ?_)
        refine j_iinc (k := 2) (lv2 := [(1, jI (x1_2 + 1)), (2, jR b (312 + 10 * v5.toNat)), (0, jR b 0)]) hx hb dX8_forgetImages_27 hl rfl (by decide) rfl (fun ls hl => ?_)
        refine j_goto (tgt := 2) hx hb dX8_forgetImages_30 (by decide) ?_
        exact ih2_1 _ _ _ _ _ hP hS (lv_sub hl [2, 0] rfl) h
  exact hl2_1 N _ _ _ _ _ hP hS (lv_sub hl [1, 0] rfl) h
def fX8_imageAt (N : Nat) (y1 : Int) (μ : Mm) : Option (Int) :=
    if wr y1 < 0 then (some (-1)) else (if 2 ≤ wr y1 then (some (-1)) else (Option.bind (ckI 2 y1) (fun v3 => some ((312 + 10 * v3.toNat) : Int))))
abbrev rmX8_imageAt : Room := { frames := 0, cells := 0, slots := 0, locals := 0 }
set_option maxHeartbeats 4000000 in
set_option maxRecDepth 100000 in
theorem m_X8_imageAt (l : Launch) (D : va_G) (b : Nat) (cs : CS) (N : Nat) {μ : Mm} {y1 : Int} {r : Int} (h : fX8_imageAt N y1 μ = some r) : MN l yX8_imageAt wsX8_imageAt rmX8_imageAt D b cs [jR b 0, jI y1] μ μ r := by
  refine met_in (cc := cX8_imageAt) (maxL := 2) (ret := some (.object "CardBand$Image")) (lv0 := [(0, jR b 0), (1, jI y1)]) (by decide +kernel) rfl (Nat.le_of_ble_eq_true rfl) rfl ?_
  intro p e s m args below meth c hx hb hr hlk hml hown hts hP hK ls hl
  have hown : s.vm.findClass RX8 = some m.cls := hown
  have hS : va_S (bA b) s.heap s.heap [] := va_S.rf
  have hinX8 : ∀ w ∈ u_ws RX8 TX8 9, w ∈ wsX8_imageAt := by decide +kernel
  unfold fX8_imageAt at h
  refine j_iload_n hx hb dX8_imageAt_0 rfl (lv_at hl 1 rfl) ?_
  refine j_if_lt (A := wr y1) (tgt := 22) hx hb rfl dX8_imageAt_1 (by decide) (fun q1 => ?_) (fun q1 => ?_)
  · replace h := (if_pos q1).symm.trans h
    refine j_null (b := b) hx hb dX8_imageAt_22 ?_
    exact j_retN hx hb hK hP hS hr hlk (Option.some.inj h) dX8_imageAt_23
  · replace h := (if_neg q1).symm.trans h
    refine j_iload_n hx hb dX8_imageAt_4 rfl (lv_at hl 1 rfl) ?_
    refine j_aload_n hx hb dX8_imageAt_5 rfl (lv_at hl 0 rfl) ?_
    refine j_get (v := jR b 299) hx hb hts hinX8 hown hK hP kz_0 (by decide) rfl 5 (by decide) (hts (.fieldLink RX8 42 "CardBand" "images" "[LCardBand$Image;") (by decide +kernel)) rfl rfl dX8_imageAt_6 ?_
    refine j_alenG hx hb hK hP kz_299 dX8_imageAt_9 ?_
    refine j_icmp_ge (A := wr y1) (B := 2) (tgt := 22) hx hb rfl (by decide) dX8_imageAt_10 (by decide) (fun q2 => ?_) (fun q2 => ?_)
    · replace h := (if_pos q2).symm.trans h
      refine j_null (b := b) hx hb dX8_imageAt_22 ?_
      exact j_retN hx hb hK hP hS hr hlk (Option.some.inj h) dX8_imageAt_23
    · replace h := (if_neg q2).symm.trans h
      refine j_aload_n hx hb dX8_imageAt_13 rfl (lv_at hl 0 rfl) ?_
      refine j_get (v := jR b 299) hx hb hts hinX8 hown hK hP kz_0 (by decide) rfl 5 (by decide) (hts (.fieldLink RX8 42 "CardBand" "images" "[LCardBand$Image;") (by decide +kernel)) rfl rfl dX8_imageAt_14 ?_
      refine j_iload_n hx hb dX8_imageAt_17 rfl (lv_at hl 1 rfl) ?_
      obtain ⟨v3, e4, h⟩ := ob_I h
      refine j_aaG hx hb hK hP kz_299 e4 dX8_imageAt_18 ?_
      refine j_goto (tgt := 23) hx hb dX8_imageAt_19 (by decide) ?_
      rw [jR_N b (312 + 10 * v3.toNat)]
      exact j_retN hx hb hK hP hS hr hlk (Option.some.inj h) dX8_imageAt_23
def fX8_goBack (N : Nat) (y1 : Int) (μ : Mm) : Option (Int × Mm) :=
    Option.bind (fX8_imageAt N y1 μ) (fun v2 => if v2 < 0 then (some ((-1000000001), μ)) else (gd (decide (kd v2.toNat = 1)) (if wr (gI μ v2.toNat 2) = 0 then (some ((-1000000003), μ)) else (gd (decide (kd (v2.toNat + 1) = 5)) (Option.bind (fX7_become N 3 (v2.toNat + 1) μ) (fun μ8 => gd (decide (-2147483648 ≤ (gI μ8 v2.toNat 1) ∧ (gI μ8 v2.toNat 1) < 2147483648)) (Option.bind (some (pI μ8 0 8 (gI μ8 v2.toNat 1))) (fun μ10 => Option.bind (fX1_forget N μ10) (fun μ13 => some (1, μ13))))))))))
abbrev rmX8_goBack : Room := { frames := 2, cells := 0, slots := 0, locals := 47 }
set_option maxHeartbeats 4000000 in
set_option maxRecDepth 100000 in
theorem m_X8_goBack (l : Launch) (D : va_G) (b : Nat) (cs : CS) (N : Nat) {μ μ0 : Mm} {y1 : Int} {r : Int} (h : fX8_goBack N y1 μ = some (r, μ0)) : MI l yX8_goBack wsX8_goBack rmX8_goBack D b cs [jR b 0, jI y1] μ μ0 r := by
  refine met_in (cc := cX8_goBack) (maxL := 3) (ret := some .int) (lv0 := [(0, jR b 0), (1, jI y1)]) (by decide +kernel) rfl (Nat.le_of_ble_eq_true rfl) rfl ?_
  intro p e s m args below meth c hx hb hr hlk hml hown hts hP hK ls hl
  have hown : s.vm.findClass RX8 = some m.cls := hown
  have hS : va_S (bA b) s.heap s.heap [] := va_S.rf
  have hinX2 : ∀ w ∈ u_ws RX2 TX2 3, w ∈ wsX8_goBack := by decide +kernel
  have hinX8 : ∀ w ∈ u_ws RX8 TX8 9, w ∈ wsX8_goBack := by decide +kernel
  unfold fX8_goBack at h
  refine j_aload_n hx hb dX8_goBack_0 rfl (lv_at hl 0 rfl) ?_
  refine j_iload_n hx hb dX8_goBack_1 rfl (lv_at hl 1 rfl) ?_
  obtain ⟨v2, e1, h⟩ := ob_I h
  refine jc_VN (As := [jI y1]) (rest := []) ⟨hx, hb, hml, hown, hts⟩ hK hP hS (m_X8_imageAt l D b cs N e1) (cwV 1 hts gX8_goBack_X8_imageAt rfl rfl rfl (by decide +kernel) ⟨Nat.le_of_ble_eq_true rfl, Nat.le_of_ble_eq_true rfl⟩) kz_0 (by decide) rfl rfl hl.1 rfl (Nat.le_of_ble_eq_true rfl) dX8_goBack_2 ⟨Nat.zero_le _, Nat.zero_le _⟩ (fun H locs hP hS => ?_)
  refine j_astore_nN (lv2 := [(2, jN b v2), (0, jR b 0), (1, jI y1)]) hx hb dX8_goBack_5 rfl hl (by decide) rfl (fun ls hl => ?_)
  refine j_aload_nN hx hb dX8_goBack_6 rfl (lv_at hl 0 rfl) ?_
  refine j_ifnonnull (tgt := 13) hx hb dX8_goBack_7 (by decide) (fun q3 => ?_) (fun q3 => ?_)
  · replace h := (if_neg q3).symm.trans h
    rw [jN_R q3] at hl
    refine j_aload_n hx hb dX8_goBack_13 rfl (lv_at hl 0 rfl) ?_
    obtain ⟨g4, h⟩ := ob_g h
    replace g4 := of_decide_eq_true g4
    refine j_get (v := jI (gI μ v2.toNat 2)) hx hb hts hinX2 hown hK hP g4 (by decide) rfl 2 (by decide) (hts (.fieldLink RX8 300 "CardBand$Image" "kept" "Z") (by decide +kernel)) rfl (by rw [jI_g]; rfl) dX8_goBack_14 ?_
    refine j_if_ne (A := wr (gI μ v2.toNat 2)) (tgt := 23) hx hb rfl dX8_goBack_17 (by decide) (fun q5 => ?_) (fun q5 => ?_)
    · replace h := (if_neg q5).symm.trans h
      refine j_aload_n hx hb dX8_goBack_23 rfl (lv_at hl 1 rfl) ?_
      refine j_get (v := jR b 3) hx hb hts hinX8 hown hK hP kz_0 (by decide) rfl 1 (by decide) (hts (.fieldLink RX8 19 "CardBand" "weave" "LCardBand$Weave;") (by decide +kernel)) rfl rfl dX8_goBack_24 ?_
      refine j_aload_n hx hb dX8_goBack_27 rfl (lv_at hl 0 rfl) ?_
      refine j_get (v := jR b (v2.toNat + 1)) hx hb hts hinX2 hown hK hP g4 (by decide) rfl 0 (by decide) (hts (.fieldLink RX8 295 "CardBand$Image" "weave" "LCardBand$Weave;") (by decide +kernel)) rfl rfl dX8_goBack_28 ?_
      obtain ⟨g6, h⟩ := ob_g h
      replace g6 := of_decide_eq_true g6
      obtain ⟨μ8, e7, h⟩ := ob_I h
      refine jc_VM (As := [jR b (v2.toNat + 1)]) (rest := []) ⟨hx, hb, hml, hown, hts⟩ hK hP hS (m_X7_become l D b cs N kz_3 g6 e7) (cwV 1 hts gX8_goBack_X7_become rfl rfl rfl (by decide +kernel) ⟨Nat.le_of_ble_eq_true rfl, Nat.le_of_ble_eq_true rfl⟩) kz_3 (by decide) rfl rfl hl.1 rfl (Nat.le_of_ble_eq_true rfl) dX8_goBack_31 ⟨Nat.zero_le _, Nat.zero_le _⟩ (fun H locs hP hS => ?_)
      refine j_aload_n hx hb dX8_goBack_34 rfl (lv_at hl 1 rfl) ?_
      refine j_aload_n hx hb dX8_goBack_35 rfl (lv_at hl 0 rfl) ?_
      refine j_get (v := jL (gI μ8 v2.toNat 1)) hx hb hts hinX2 hown hK hP g4 (by decide) rfl 1 (by decide) (hts (.fieldLink RX8 299 "CardBand$Image" "drawn" "J") (by decide +kernel)) rfl (by rw [jL_g]; rfl) dX8_goBack_36 ?_
      obtain ⟨g9, h⟩ := ob_g h
      replace g9 := of_decide_eq_true g9
      obtain ⟨μ10, e11, h⟩ := ob_I h
      refine j_put (ty := .long) (z := (gI μ8 v2.toNat 1)) hx hb hts hinX8 tyX8 tyX8_ok nmX8 hown hK hP hS kz_0 (by decide) rfl 8 (by decide) (hts (.fieldLink RX8 287 "CardBand" "drawn" "J") (by decide +kernel)) rfl rfl (by decide +kernel) rfl rfl (by simp [flds]) (set_J6 g9) dX8_goBack_39 (Option.some.inj e11) (fun H locs hP hS => ?_)
      refine j_aload_n hx hb dX8_goBack_42 rfl (lv_at hl 1 rfl) ?_
      refine j_get (v := jR b 21) hx hb hts hinX8 hown hK hP kz_0 (by decide) rfl 3 (by decide) (hts (.fieldLink RX8 29 "CardBand" "deeds" "LCardBand$Deeds;") (by decide +kernel)) rfl rfl dX8_goBack_43 ?_
      obtain ⟨μ13, e12, h⟩ := ob_I h
      refine jc_VM (As := []) (rest := []) ⟨hx, hb, hml, hown, hts⟩ hK hP hS (m_X1_forget l D b cs N e12) (cwV 0 hts gX8_goBack_X1_forget rfl rfl rfl (by decide +kernel) ⟨Nat.le_of_ble_eq_true rfl, Nat.le_of_ble_eq_true rfl⟩) kz_21 (by decide) rfl rfl hl.1 rfl (Nat.le_of_ble_eq_true rfl) dX8_goBack_46 ⟨Nat.zero_le _, Nat.zero_le _⟩ (fun H locs hP hS => ?_)
      refine j_iconst hx hb dX8_goBack_49 ?_
      obtain ⟨e0, e1⟩ := Prod.mk.inj (Option.some.inj h)
      subst e1
      exact j_retI hx hb hK hP hS hr hlk e0 dX8_goBack_50
    · replace h := (if_pos q5).symm.trans h
      refine j_ldc (n := (-1000000003)) hx hb hown (hts (.constant RX8 185 (-1000000003)) (by decide +kernel)) (by decide) dX8_goBack_20 ?_
      obtain ⟨e0, e1⟩ := Prod.mk.inj (Option.some.inj h)
      subst e1
      exact j_retI hx hb hK hP hS hr hlk e0 dX8_goBack_22
  · replace h := (if_pos q3).symm.trans h
    refine j_ldc (n := (-1000000001)) hx hb hown (hts (.constant RX8 136 (-1000000001)) (by decide +kernel)) (by decide) dX8_goBack_10 ?_
    obtain ⟨e0, e1⟩ := Prod.mk.inj (Option.some.inj h)
    subst e1
    exact j_retI hx hb hK hP hS hr hlk e0 dX8_goBack_12
def fX8_holes (N : Nat) (y1 : Int) (μ : Mm) : Option (Int) :=
    gd (decide (kd ((gI μ 0 6).toNat) = 4)) (Option.bind (fX5_hasCard N ((gI μ 0 6).toNat) y1 μ) (fun v3 => if wr v3 = 0 then (some (-1000000001)) else (Option.bind (fX3_findHoles N ((gI μ 0 6).toNat) y1 μ) (fun v6 => some v6))))
abbrev rmX8_holes : Room := { frames := 4, cells := 0, slots := 0, locals := 92 }
set_option maxHeartbeats 4000000 in
set_option maxRecDepth 100000 in
theorem m_X8_holes (l : Launch) (D : va_G) (b : Nat) (cs : CS) (N : Nat) {μ : Mm} {y1 : Int} {r : Int} (h : fX8_holes N y1 μ = some r) : MI l yX8_holes wsX8_holes rmX8_holes D b cs [jR b 0, jI y1] μ μ r := by
  refine met_in (cc := cX8_holes) (maxL := 2) (ret := some .int) (lv0 := [(0, jR b 0), (1, jI y1)]) (by decide +kernel) rfl (Nat.le_of_ble_eq_true rfl) rfl ?_
  intro p e s m args below meth c hx hb hr hlk hml hown hts hP hK ls hl
  have hown : s.vm.findClass RX8 = some m.cls := hown
  have hS : va_S (bA b) s.heap s.heap [] := va_S.rf
  have hinX8 : ∀ w ∈ u_ws RX8 TX8 9, w ∈ wsX8_holes := by decide +kernel
  unfold fX8_holes at h
  refine j_aload_n hx hb dX8_holes_0 rfl (lv_at hl 0 rfl) ?_
  refine j_get (v := jR b ((gI μ 0 6).toNat)) hx hb hts hinX8 hown hK hP kz_0 (by decide) rfl 6 (by decide) (hts (.fieldLink RX8 49 "CardBand" "threading" "LCardBand$Threading;") (by decide +kernel)) rfl rfl dX8_holes_1 ?_
  refine j_iload_n hx hb dX8_holes_4 rfl (lv_at hl 1 rfl) ?_
  obtain ⟨g1, h⟩ := ob_g h
  replace g1 := of_decide_eq_true g1
  obtain ⟨v3, e2, h⟩ := ob_I h
  refine jc_VI (As := [jI y1]) (rest := []) ⟨hx, hb, hml, hown, hts⟩ hK hP hS (m_X5_hasCard l D b cs N g1 e2) (cwV 1 hts gX8_holes_X5_hasCard rfl rfl rfl (by decide +kernel) ⟨Nat.le_of_ble_eq_true rfl, Nat.le_of_ble_eq_true rfl⟩) g1 (by decide) rfl rfl hl.1 rfl (Nat.le_of_ble_eq_true rfl) dX8_holes_5 ⟨Nat.zero_le _, Nat.zero_le _⟩ (fun H locs hP hS => ?_)
  refine j_if_eq (A := wr v3) (tgt := 26) hx hb rfl dX8_holes_8 (by decide) (fun q4 => ?_) (fun q4 => ?_)
  · replace h := (if_pos q4).symm.trans h
    refine j_ldc (n := (-1000000001)) hx hb hown (hts (.constant RX8 136 (-1000000001)) (by decide +kernel)) (by decide) dX8_holes_26 ?_
    exact j_retI hx hb hK hP hS hr hlk (Option.some.inj h) dX8_holes_28
  · replace h := (if_neg q4).symm.trans h
    refine j_aload_n hx hb dX8_holes_11 rfl (lv_at hl 0 rfl) ?_
    refine j_get (v := jR b 293) hx hb hts hinX8 hown hK hP kz_0 (by decide) rfl 4 (by decide) (hts (.fieldLink RX8 36 "CardBand" "notes" "LCardBand$Notes;") (by decide +kernel)) rfl rfl dX8_holes_12 ?_
    refine j_aload_n hx hb dX8_holes_15 rfl (lv_at hl 0 rfl) ?_
    refine j_get (v := jR b ((gI μ 0 6).toNat)) hx hb hts hinX8 hown hK hP kz_0 (by decide) rfl 6 (by decide) (hts (.fieldLink RX8 49 "CardBand" "threading" "LCardBand$Threading;") (by decide +kernel)) rfl rfl dX8_holes_16 ?_
    refine j_iload_n hx hb dX8_holes_19 rfl (lv_at hl 1 rfl) ?_
    obtain ⟨v6, e5, h⟩ := ob_I h
    refine jc_VI (As := [jR b ((gI μ 0 6).toNat), jI y1]) (rest := []) ⟨hx, hb, hml, hown, hts⟩ hK hP hS (m_X3_findHoles l D b cs N g1 e5) (cwV 2 hts gX8_holes_X3_findHoles rfl rfl rfl (by decide +kernel) ⟨Nat.le_of_ble_eq_true rfl, Nat.le_of_ble_eq_true rfl⟩) kz_293 (by decide) rfl rfl hl.1 rfl (Nat.le_of_ble_eq_true rfl) dX8_holes_20 ⟨Nat.zero_le _, Nat.zero_le _⟩ (fun H locs hP hS => ?_)
    refine j_goto (tgt := 28) hx hb dX8_holes_23 (by decide) ?_
    exact j_retI hx hb hK hP hS hr hlk (Option.some.inj h) dX8_holes_28
def fX8_isHowOrMoves (N : Nat) (y0 : Int) (μ : Mm) : Option (Int) :=
    if wr y0 = 0 then (some 1) else (if wr y0 = 1 then (some 1) else (some 0))
abbrev rmX8_isHowOrMoves : Room := { frames := 0, cells := 0, slots := 0, locals := 0 }
set_option maxHeartbeats 4000000 in
set_option maxRecDepth 100000 in
theorem m_X8_isHowOrMoves (l : Launch) (D : va_G) (b : Nat) (cs : CS) (N : Nat) {μ : Mm} {y0 : Int} {r : Int} (h : fX8_isHowOrMoves N y0 μ = some r) : MI l yX8_isHowOrMoves wsX8_isHowOrMoves rmX8_isHowOrMoves D b cs [jI y0] μ μ r := by
  refine met_in (cc := cX8_isHowOrMoves) (maxL := 1) (ret := some .boolean) (lv0 := [(0, jI y0)]) (by decide +kernel) rfl (Nat.le_of_ble_eq_true rfl) rfl ?_
  intro p e s m args below meth c hx hb hr hlk hml hown hts hP hK ls hl
  have hown : s.vm.findClass RX8 = some m.cls := hown
  have hS : va_S (bA b) s.heap s.heap [] := va_S.rf
  unfold fX8_isHowOrMoves at h
  refine j_iload_n hx hb dX8_isHowOrMoves_0 rfl (lv_at hl 0 rfl) ?_
  refine j_if_eq (A := wr y0) (tgt := 9) hx hb rfl dX8_isHowOrMoves_1 (by decide) (fun q1 => ?_) (fun q1 => ?_)
  · replace h := (if_pos q1).symm.trans h
    refine j_iconst hx hb dX8_isHowOrMoves_9 ?_
    refine j_goto (tgt := 14) hx hb dX8_isHowOrMoves_10 (by decide) ?_
    exact j_retZ hx hb hK hP hS hr hlk (by decide) (Option.some.inj h) dX8_isHowOrMoves_14
  · replace h := (if_neg q1).symm.trans h
    refine j_iload_n hx hb dX8_isHowOrMoves_4 rfl (lv_at hl 0 rfl) ?_
    refine j_iconst hx hb dX8_isHowOrMoves_5 ?_
    refine j_icmp_ne (A := wr y0) (B := 1) (tgt := 13) hx hb rfl (by decide) dX8_isHowOrMoves_6 (by decide) (fun q2 => ?_) (fun q2 => ?_)
    · replace h := (if_neg q2).symm.trans h
      refine j_iconst hx hb dX8_isHowOrMoves_13 ?_
      exact j_retZ hx hb hK hP hS hr hlk (by decide) (Option.some.inj h) dX8_isHowOrMoves_14
    · replace h := (if_pos q2).symm.trans h
      refine j_iconst hx hb dX8_isHowOrMoves_9 ?_
      refine j_goto (tgt := 14) hx hb dX8_isHowOrMoves_10 (by decide) ?_
      exact j_retZ hx hb hK hP hS hr hlk (by decide) (Option.some.inj h) dX8_isHowOrMoves_14
def fX8_home (N : Nat) (y1 : Int) (μ : Mm) : Option (Int) :=
    Option.bind (fX8_isHowOrMoves N y1 μ) (fun v2 => if wr v2 = 0 then (some (-1000000002)) else (gd (decide (kd ((gI μ 0 6).toNat) = 4)) (Option.bind (fX5_isMade N ((gI μ 0 6).toNat) μ) (fun v6 => if wr v6 = 0 then (some (-1000000003)) else (Option.bind (fX6_packsStandAlike N 3 ((gI μ 0 6).toNat) μ) (fun v9 => if wr v9 = 0 then (some (-1)) else (if wr y1 = 0 then (Option.bind (fX6_countHome N 3 ((gI μ 0 6).toNat) μ) (fun v15 => some v15)) else (Option.bind (fX6_firstHome N 3 ((gI μ 0 6).toNat) μ) (fun v13 => some v13)))))))))
abbrev rmX8_home : Room := { frames := 4, cells := 0, slots := 0, locals := 91 }
set_option maxHeartbeats 4000000 in
set_option maxRecDepth 100000 in
theorem m_X8_home (l : Launch) (D : va_G) (b : Nat) (cs : CS) (N : Nat) {μ : Mm} {y1 : Int} {r : Int} (h : fX8_home N y1 μ = some r) : MI l yX8_home wsX8_home rmX8_home D b cs [jR b 0, jI y1] μ μ r := by
  refine met_in (cc := cX8_home) (maxL := 2) (ret := some .int) (lv0 := [(0, jR b 0), (1, jI y1)]) (by decide +kernel) rfl (Nat.le_of_ble_eq_true rfl) rfl ?_
  intro p e s m args below meth c hx hb hr hlk hml hown hts hP hK ls hl
  have hown : s.vm.findClass RX8 = some m.cls := hown
  have hS : va_S (bA b) s.heap s.heap [] := va_S.rf
  have hinX8 : ∀ w ∈ u_ws RX8 TX8 9, w ∈ wsX8_home := by decide +kernel
  unfold fX8_home at h
  refine j_iload_n hx hb dX8_home_0 rfl (lv_at hl 1 rfl) ?_
  obtain ⟨v2, e1, h⟩ := ob_I h
  refine jc_SI (As := [jI y1]) (rest := []) ⟨hx, hb, hml, hown, hts⟩ hK hP hS (m_X8_isHowOrMoves l D b cs N e1) (va_cwS 1 hts gX8_home_X8_isHowOrMoves rfl rfl rfl (by decide +kernel) ⟨Nat.le_of_ble_eq_true rfl, Nat.le_of_ble_eq_true rfl⟩) rfl hl.1 rfl (Nat.le_of_ble_eq_true rfl) dX8_home_1 ⟨Nat.zero_le _, Nat.zero_le _⟩ (fun H locs hP hS => ?_)
  refine j_if_ne (A := wr v2) (tgt := 10) hx hb rfl dX8_home_4 (by decide) (fun q3 => ?_) (fun q3 => ?_)
  · replace h := (if_neg q3).symm.trans h
    refine j_aload_n hx hb dX8_home_10 rfl (lv_at hl 0 rfl) ?_
    refine j_get (v := jR b ((gI μ 0 6).toNat)) hx hb hts hinX8 hown hK hP kz_0 (by decide) rfl 6 (by decide) (hts (.fieldLink RX8 49 "CardBand" "threading" "LCardBand$Threading;") (by decide +kernel)) rfl rfl dX8_home_11 ?_
    obtain ⟨g4, h⟩ := ob_g h
    replace g4 := of_decide_eq_true g4
    obtain ⟨v6, e5, h⟩ := ob_I h
    refine jc_VI (As := []) (rest := []) ⟨hx, hb, hml, hown, hts⟩ hK hP hS (m_X5_isMade l D b cs N g4 e5) (cwV 0 hts gX8_home_X5_isMade rfl rfl rfl (by decide +kernel) ⟨Nat.le_of_ble_eq_true rfl, Nat.le_of_ble_eq_true rfl⟩) g4 (by decide) rfl rfl hl.1 rfl (Nat.le_of_ble_eq_true rfl) dX8_home_14 ⟨Nat.zero_le _, Nat.zero_le _⟩ (fun H locs hP hS => ?_)
    refine j_if_ne (A := wr v6) (tgt := 23) hx hb rfl dX8_home_17 (by decide) (fun q7 => ?_) (fun q7 => ?_)
    · replace h := (if_neg q7).symm.trans h
      refine j_aload_n hx hb dX8_home_23 rfl (lv_at hl 0 rfl) ?_
      refine j_get (v := jR b 3) hx hb hts hinX8 hown hK hP kz_0 (by decide) rfl 1 (by decide) (hts (.fieldLink RX8 19 "CardBand" "weave" "LCardBand$Weave;") (by decide +kernel)) rfl rfl dX8_home_24 ?_
      refine j_aload_n hx hb dX8_home_27 rfl (lv_at hl 0 rfl) ?_
      refine j_get (v := jR b ((gI μ 0 6).toNat)) hx hb hts hinX8 hown hK hP kz_0 (by decide) rfl 6 (by decide) (hts (.fieldLink RX8 49 "CardBand" "threading" "LCardBand$Threading;") (by decide +kernel)) rfl rfl dX8_home_28 ?_
      obtain ⟨v9, e8, h⟩ := ob_I h
      refine jc_SI (As := [jR b 3, jR b ((gI μ 0 6).toNat)]) (rest := []) ⟨hx, hb, hml, hown, hts⟩ hK hP hS (m_X6_packsStandAlike l D b cs N kz_3 g4 e8) (va_cwS 2 hts gX8_home_X6_packsStandAlike rfl rfl rfl (by decide +kernel) ⟨Nat.le_of_ble_eq_true rfl, Nat.le_of_ble_eq_true rfl⟩) rfl hl.1 rfl (Nat.le_of_ble_eq_true rfl) dX8_home_31 ⟨Nat.zero_le _, Nat.zero_le _⟩ (fun H locs hP hS => ?_)
      refine j_if_ne (A := wr v9) (tgt := 39) hx hb rfl dX8_home_34 (by decide) (fun q10 => ?_) (fun q10 => ?_)
      · replace h := (if_neg q10).symm.trans h
        refine j_iload_n hx hb dX8_home_39 rfl (lv_at hl 1 rfl) ?_
        refine j_if_ne (A := wr y1) (tgt := 57) hx hb rfl dX8_home_40 (by decide) (fun q11 => ?_) (fun q11 => ?_)
        · replace h := (if_neg q11).symm.trans h
          refine j_aload_n hx hb dX8_home_57 rfl (lv_at hl 0 rfl) ?_
          refine j_get (v := jR b 3) hx hb hts hinX8 hown hK hP kz_0 (by decide) rfl 1 (by decide) (hts (.fieldLink RX8 19 "CardBand" "weave" "LCardBand$Weave;") (by decide +kernel)) rfl rfl dX8_home_58 ?_
          refine j_aload_n hx hb dX8_home_61 rfl (lv_at hl 0 rfl) ?_
          refine j_get (v := jR b ((gI μ 0 6).toNat)) hx hb hts hinX8 hown hK hP kz_0 (by decide) rfl 6 (by decide) (hts (.fieldLink RX8 49 "CardBand" "threading" "LCardBand$Threading;") (by decide +kernel)) rfl rfl dX8_home_62 ?_
          obtain ⟨v13, e12, h⟩ := ob_I h
          refine jc_SI (As := [jR b 3, jR b ((gI μ 0 6).toNat)]) (rest := []) ⟨hx, hb, hml, hown, hts⟩ hK hP hS (m_X6_firstHome l D b cs N kz_3 g4 e12) (va_cwS 2 hts gX8_home_X6_firstHome rfl rfl rfl (by decide +kernel) ⟨Nat.le_of_ble_eq_true rfl, Nat.le_of_ble_eq_true rfl⟩) rfl hl.1 rfl (Nat.le_of_ble_eq_true rfl) dX8_home_65 ⟨Nat.zero_le _, Nat.zero_le _⟩ (fun H locs hP hS => ?_)
          exact j_retI hx hb hK hP hS hr hlk (Option.some.inj h) dX8_home_68
        · replace h := (if_pos q11).symm.trans h
          refine j_aload_n hx hb dX8_home_43 rfl (lv_at hl 0 rfl) ?_
          refine j_get (v := jR b 3) hx hb hts hinX8 hown hK hP kz_0 (by decide) rfl 1 (by decide) (hts (.fieldLink RX8 19 "CardBand" "weave" "LCardBand$Weave;") (by decide +kernel)) rfl rfl dX8_home_44 ?_
          refine j_aload_n hx hb dX8_home_47 rfl (lv_at hl 0 rfl) ?_
          refine j_get (v := jR b ((gI μ 0 6).toNat)) hx hb hts hinX8 hown hK hP kz_0 (by decide) rfl 6 (by decide) (hts (.fieldLink RX8 49 "CardBand" "threading" "LCardBand$Threading;") (by decide +kernel)) rfl rfl dX8_home_48 ?_
          obtain ⟨v15, e14, h⟩ := ob_I h
          refine jc_SI (As := [jR b 3, jR b ((gI μ 0 6).toNat)]) (rest := []) ⟨hx, hb, hml, hown, hts⟩ hK hP hS (m_X6_countHome l D b cs N kz_3 g4 e14) (va_cwS 2 hts gX8_home_X6_countHome rfl rfl rfl (by decide +kernel) ⟨Nat.le_of_ble_eq_true rfl, Nat.le_of_ble_eq_true rfl⟩) rfl hl.1 rfl (Nat.le_of_ble_eq_true rfl) dX8_home_51 ⟨Nat.zero_le _, Nat.zero_le _⟩ (fun H locs hP hS => ?_)
          refine j_goto (tgt := 68) hx hb dX8_home_54 (by decide) ?_
          exact j_retI hx hb hK hP hS hr hlk (Option.some.inj h) dX8_home_68
      · replace h := (if_pos q10).symm.trans h
        refine j_iconst hx hb dX8_home_37 ?_
        exact j_retI hx hb hK hP hS hr hlk (Option.some.inj h) dX8_home_38
    · replace h := (if_pos q7).symm.trans h
      refine j_ldc (n := (-1000000003)) hx hb hown (hts (.constant RX8 185 (-1000000003)) (by decide +kernel)) (by decide) dX8_home_20 ?_
      exact j_retI hx hb hK hP hS hr hlk (Option.some.inj h) dX8_home_22
  · replace h := (if_pos q3).symm.trans h
    refine j_ldc (n := (-1000000002)) hx hb hown (hts (.constant RX8 57 (-1000000002)) (by decide +kernel)) (by decide) dX8_home_7 ?_
    exact j_retI hx hb hK hP hS hr hlk (Option.some.inj h) dX8_home_9
def fX8_judge (N : Nat) (μ : Mm) : Option (Int) :=
    Option.bind (fX3_findWrong N 3 μ) (fun v2 => some v2)
abbrev rmX8_judge : Room := { frames := 1, cells := 0, slots := 0, locals := 22 }
set_option maxHeartbeats 4000000 in
set_option maxRecDepth 100000 in
theorem m_X8_judge (l : Launch) (D : va_G) (b : Nat) (cs : CS) (N : Nat) {μ : Mm} {r : Int} (h : fX8_judge N μ = some r) : MI l yX8_judge wsX8_judge rmX8_judge D b cs [jR b 0] μ μ r := by
  refine met_in (cc := cX8_judge) (maxL := 1) (ret := some .int) (lv0 := [(0, jR b 0)]) (by decide +kernel) rfl (Nat.le_of_ble_eq_true rfl) rfl ?_
  intro p e s m args below meth c hx hb hr hlk hml hown hts hP hK ls hl
  have hown : s.vm.findClass RX8 = some m.cls := hown
  have hS : va_S (bA b) s.heap s.heap [] := va_S.rf
  have hinX8 : ∀ w ∈ u_ws RX8 TX8 9, w ∈ wsX8_judge := by decide +kernel
  unfold fX8_judge at h
  refine j_aload_n hx hb dX8_judge_0 rfl (lv_at hl 0 rfl) ?_
  refine j_get (v := jR b 293) hx hb hts hinX8 hown hK hP kz_0 (by decide) rfl 4 (by decide) (hts (.fieldLink RX8 36 "CardBand" "notes" "LCardBand$Notes;") (by decide +kernel)) rfl rfl dX8_judge_1 ?_
  refine j_aload_n hx hb dX8_judge_4 rfl (lv_at hl 0 rfl) ?_
  refine j_get (v := jR b 3) hx hb hts hinX8 hown hK hP kz_0 (by decide) rfl 1 (by decide) (hts (.fieldLink RX8 19 "CardBand" "weave" "LCardBand$Weave;") (by decide +kernel)) rfl rfl dX8_judge_5 ?_
  obtain ⟨v2, e1, h⟩ := ob_I h
  refine jc_VI (As := [jR b 3]) (rest := []) ⟨hx, hb, hml, hown, hts⟩ hK hP hS (m_X3_findWrong l D b cs N kz_3 e1) (cwV 1 hts gX8_judge_X3_findWrong rfl rfl rfl (by decide +kernel) ⟨Nat.le_of_ble_eq_true rfl, Nat.le_of_ble_eq_true rfl⟩) kz_293 (by decide) rfl rfl hl.1 rfl (Nat.le_of_ble_eq_true rfl) dX8_judge_8 ⟨Nat.zero_le _, Nat.zero_le _⟩ (fun H locs hP hS => ?_)
  exact j_retI hx hb hK hP hS hr hlk (Option.some.inj h) dX8_judge_11
def fX8_keep (N : Nat) (y1 : Int) (μ : Mm) : Option (Int × Mm) :=
    Option.bind (fX8_imageAt N y1 μ) (fun v2 => if v2 < 0 then (some ((-1000000001), μ)) else (gd (decide (kd v2.toNat = 1)) (gd (decide (kd (v2.toNat + 1) = 5)) (Option.bind (fX7_become N (v2.toNat + 1) 3 μ) (fun μ7 => gd (decide (-2147483648 ≤ (gI μ7 0 8) ∧ (gI μ7 0 8) < 2147483648)) (Option.bind (some (pI μ7 v2.toNat 1 (gI μ7 0 8))) (fun μ9 => Option.bind (some (pI μ9 v2.toNat 2 1)) (fun μ11 => Option.bind (fX1_forget N μ11) (fun μ14 => some (1, μ14))))))))))
abbrev rmX8_keep : Room := { frames := 2, cells := 0, slots := 0, locals := 47 }
set_option maxHeartbeats 4000000 in
set_option maxRecDepth 100000 in
theorem m_X8_keep (l : Launch) (D : va_G) (b : Nat) (cs : CS) (N : Nat) {μ μ0 : Mm} {y1 : Int} {r : Int} (h : fX8_keep N y1 μ = some (r, μ0)) : MI l yX8_keep wsX8_keep rmX8_keep D b cs [jR b 0, jI y1] μ μ0 r := by
  refine met_in (cc := cX8_keep) (maxL := 3) (ret := some .int) (lv0 := [(0, jR b 0), (1, jI y1)]) (by decide +kernel) rfl (Nat.le_of_ble_eq_true rfl) rfl ?_
  intro p e s m args below meth c hx hb hr hlk hml hown hts hP hK ls hl
  have hown : s.vm.findClass RX8 = some m.cls := hown
  have hS : va_S (bA b) s.heap s.heap [] := va_S.rf
  have hinX2 : ∀ w ∈ u_ws RX2 TX2 3, w ∈ wsX8_keep := by decide +kernel
  have hinX8 : ∀ w ∈ u_ws RX8 TX8 9, w ∈ wsX8_keep := by decide +kernel
  unfold fX8_keep at h
  refine j_aload_n hx hb dX8_keep_0 rfl (lv_at hl 0 rfl) ?_
  refine j_iload_n hx hb dX8_keep_1 rfl (lv_at hl 1 rfl) ?_
  obtain ⟨v2, e1, h⟩ := ob_I h
  refine jc_VN (As := [jI y1]) (rest := []) ⟨hx, hb, hml, hown, hts⟩ hK hP hS (m_X8_imageAt l D b cs N e1) (cwV 1 hts gX8_keep_X8_imageAt rfl rfl rfl (by decide +kernel) ⟨Nat.le_of_ble_eq_true rfl, Nat.le_of_ble_eq_true rfl⟩) kz_0 (by decide) rfl rfl hl.1 rfl (Nat.le_of_ble_eq_true rfl) dX8_keep_2 ⟨Nat.zero_le _, Nat.zero_le _⟩ (fun H locs hP hS => ?_)
  refine j_astore_nN (lv2 := [(2, jN b v2), (0, jR b 0), (1, jI y1)]) hx hb dX8_keep_5 rfl hl (by decide) rfl (fun ls hl => ?_)
  refine j_aload_nN hx hb dX8_keep_6 rfl (lv_at hl 0 rfl) ?_
  refine j_ifnonnull (tgt := 13) hx hb dX8_keep_7 (by decide) (fun q3 => ?_) (fun q3 => ?_)
  · replace h := (if_neg q3).symm.trans h
    rw [jN_R q3] at hl
    refine j_aload_n hx hb dX8_keep_13 rfl (lv_at hl 0 rfl) ?_
    obtain ⟨g4, h⟩ := ob_g h
    replace g4 := of_decide_eq_true g4
    refine j_get (v := jR b (v2.toNat + 1)) hx hb hts hinX2 hown hK hP g4 (by decide) rfl 0 (by decide) (hts (.fieldLink RX8 295 "CardBand$Image" "weave" "LCardBand$Weave;") (by decide +kernel)) rfl rfl dX8_keep_14 ?_
    refine j_aload_n hx hb dX8_keep_17 rfl (lv_at hl 1 rfl) ?_
    refine j_get (v := jR b 3) hx hb hts hinX8 hown hK hP kz_0 (by decide) rfl 1 (by decide) (hts (.fieldLink RX8 19 "CardBand" "weave" "LCardBand$Weave;") (by decide +kernel)) rfl rfl dX8_keep_18 ?_
    obtain ⟨g5, h⟩ := ob_g h
    replace g5 := of_decide_eq_true g5
    obtain ⟨μ7, e6, h⟩ := ob_I h
    refine jc_VM (As := [jR b 3]) (rest := []) ⟨hx, hb, hml, hown, hts⟩ hK hP hS (m_X7_become l D b cs N g5 kz_3 e6) (cwV 1 hts gX8_keep_X7_become rfl rfl rfl (by decide +kernel) ⟨Nat.le_of_ble_eq_true rfl, Nat.le_of_ble_eq_true rfl⟩) g5 (by decide) rfl rfl hl.1 rfl (Nat.le_of_ble_eq_true rfl) dX8_keep_21 ⟨Nat.zero_le _, Nat.zero_le _⟩ (fun H locs hP hS => ?_)
    refine j_aload_n hx hb dX8_keep_24 rfl (lv_at hl 0 rfl) ?_
    refine j_aload_n hx hb dX8_keep_25 rfl (lv_at hl 1 rfl) ?_
    refine j_get (v := jL (gI μ7 0 8)) hx hb hts hinX8 hown hK hP kz_0 (by decide) rfl 8 (by decide) (hts (.fieldLink RX8 287 "CardBand" "drawn" "J") (by decide +kernel)) rfl (by rw [jL_g]; rfl) dX8_keep_26 ?_
    obtain ⟨g8, h⟩ := ob_g h
    replace g8 := of_decide_eq_true g8
    obtain ⟨μ9, e10, h⟩ := ob_I h
    refine j_put (ty := .long) (z := (gI μ7 0 8)) hx hb hts hinX2 tyX2 tyX2_ok nmX2 hown hK hP hS g4 (by decide) rfl 1 (by decide) (hts (.fieldLink RX8 299 "CardBand$Image" "drawn" "J") (by decide +kernel)) rfl rfl (by decide +kernel) rfl rfl (by simp [flds]) (set_J1 g8) dX8_keep_29 (Option.some.inj e10) (fun H locs hP hS => ?_)
    refine j_aload_n hx hb dX8_keep_32 rfl (lv_at hl 0 rfl) ?_
    refine j_iconst hx hb dX8_keep_33 ?_
    obtain ⟨μ11, e12, h⟩ := ob_I h
    refine j_put (ty := .boolean) (z := 1) hx hb hts hinX2 tyX2 tyX2_ok nmX2 hown hK hP hS g4 (by decide) rfl 2 (by decide) (hts (.fieldLink RX8 300 "CardBand$Image" "kept" "Z") (by decide +kernel)) rfl rfl (by decide +kernel) rfl rfl (by simp [flds]) rfl dX8_keep_34 (Option.some.inj e12) (fun H locs hP hS => ?_)
    refine j_aload_n hx hb dX8_keep_37 rfl (lv_at hl 1 rfl) ?_
    refine j_get (v := jR b 21) hx hb hts hinX8 hown hK hP kz_0 (by decide) rfl 3 (by decide) (hts (.fieldLink RX8 29 "CardBand" "deeds" "LCardBand$Deeds;") (by decide +kernel)) rfl rfl dX8_keep_38 ?_
    obtain ⟨μ14, e13, h⟩ := ob_I h
    refine jc_VM (As := []) (rest := []) ⟨hx, hb, hml, hown, hts⟩ hK hP hS (m_X1_forget l D b cs N e13) (cwV 0 hts gX8_keep_X1_forget rfl rfl rfl (by decide +kernel) ⟨Nat.le_of_ble_eq_true rfl, Nat.le_of_ble_eq_true rfl⟩) kz_21 (by decide) rfl rfl hl.1 rfl (Nat.le_of_ble_eq_true rfl) dX8_keep_41 ⟨Nat.zero_le _, Nat.zero_le _⟩ (fun H locs hP hS => ?_)
    refine j_iconst hx hb dX8_keep_44 ?_
    obtain ⟨e0, e1⟩ := Prod.mk.inj (Option.some.inj h)
    subst e1
    exact j_retI hx hb hK hP hS hr hlk e0 dX8_keep_45
  · replace h := (if_pos q3).symm.trans h
    refine j_ldc (n := (-1000000001)) hx hb hown (hts (.constant RX8 136 (-1000000001)) (by decide +kernel)) (by decide) dX8_keep_10 ?_
    obtain ⟨e0, e1⟩ := Prod.mk.inj (Option.some.inj h)
    subst e1
    exact j_retI hx hb hK hP hS hr hlk e0 dX8_keep_12
def fX8_lasts (N : Nat) (y1 : Int) (y2 : Int) (μ : Mm) : Option (Int × Mm) :=
    gd (decide (kd ((gI μ 0 6).toNat) = 4)) (Option.bind (fX5_takesMoves N ((gI μ 0 6).toNat) y1 μ) (fun v3 => if wr v3 = 0 then (some ((-1000000002), μ)) else (Option.bind (fX8_isHowOrMoves N y2 μ) (fun v6 => if wr v6 = 0 then (some ((-1000000002), μ)) else (Option.bind (fX5_isMade N ((gI μ 0 6).toNat) μ) (fun v9 => if wr v9 = 0 then (some ((-1000000003), μ)) else (bP (fX8_countPicks N y1 99 μ) (fun v12 μ13 => if wr y2 = 0 then (some (v12, μ13)) else (if wr v12 = 99 then (some ((-1), μ13)) else (gd (decide (kd ((gI μ13 0 6).toNat) = 4)) (bP (fX7_findLacking N 12 ((gI μ13 0 6).toNat) y1 μ13) (fun v18 μ19 => some (v18, μ19)))))))))))))
abbrev rmX8_lasts : Room := { frames := 6, cells := 0, slots := 0, locals := 137 }
set_option maxHeartbeats 4000000 in
set_option maxRecDepth 100000 in
theorem m_X8_lasts (l : Launch) (D : va_G) (b : Nat) (cs : CS) (N : Nat) {μ μ0 : Mm} {y1 y2 : Int} {r : Int} (h : fX8_lasts N y1 y2 μ = some (r, μ0)) : MI l yX8_lasts wsX8_lasts rmX8_lasts D b cs [jR b 0, jI y1, jI y2] μ μ0 r := by
  refine met_in (cc := cX8_lasts) (maxL := 4) (ret := some .int) (lv0 := [(0, jR b 0), (1, jI y1), (2, jI y2)]) (by decide +kernel) rfl (Nat.le_of_ble_eq_true rfl) rfl ?_
  intro p e s m args below meth c hx hb hr hlk hml hown hts hP hK ls hl
  have hown : s.vm.findClass RX8 = some m.cls := hown
  have hS : va_S (bA b) s.heap s.heap [] := va_S.rf
  have hinX8 : ∀ w ∈ u_ws RX8 TX8 9, w ∈ wsX8_lasts := by decide +kernel
  unfold fX8_lasts at h
  refine j_aload_n hx hb dX8_lasts_0 rfl (lv_at hl 0 rfl) ?_
  refine j_get (v := jR b ((gI μ 0 6).toNat)) hx hb hts hinX8 hown hK hP kz_0 (by decide) rfl 6 (by decide) (hts (.fieldLink RX8 49 "CardBand" "threading" "LCardBand$Threading;") (by decide +kernel)) rfl rfl dX8_lasts_1 ?_
  refine j_iload_n hx hb dX8_lasts_4 rfl (lv_at hl 1 rfl) ?_
  obtain ⟨g1, h⟩ := ob_g h
  replace g1 := of_decide_eq_true g1
  obtain ⟨v3, e2, h⟩ := ob_I h
  refine jc_VI (As := [jI y1]) (rest := []) ⟨hx, hb, hml, hown, hts⟩ hK hP hS (m_X5_takesMoves l D b cs N g1 e2) (cwV 1 hts gX8_lasts_X5_takesMoves rfl rfl rfl (by decide +kernel) ⟨Nat.le_of_ble_eq_true rfl, Nat.le_of_ble_eq_true rfl⟩) g1 (by decide) rfl rfl hl.1 rfl (Nat.le_of_ble_eq_true rfl) dX8_lasts_5 ⟨Nat.zero_le _, Nat.zero_le _⟩ (fun H locs hP hS => ?_)
  refine j_if_eq (A := wr v3) (tgt := 18) hx hb rfl dX8_lasts_8 (by decide) (fun q4 => ?_) (fun q4 => ?_)
  · replace h := (if_pos q4).symm.trans h
    refine j_ldc (n := (-1000000002)) hx hb hown (hts (.constant RX8 57 (-1000000002)) (by decide +kernel)) (by decide) dX8_lasts_18 ?_
    obtain ⟨e0, e1⟩ := Prod.mk.inj (Option.some.inj h)
    subst e1
    exact j_retI hx hb hK hP hS hr hlk e0 dX8_lasts_20
  · replace h := (if_neg q4).symm.trans h
    refine j_iload_n hx hb dX8_lasts_11 rfl (lv_at hl 2 rfl) ?_
    obtain ⟨v6, e5, h⟩ := ob_I h
    refine jc_SI (As := [jI y2]) (rest := []) ⟨hx, hb, hml, hown, hts⟩ hK hP hS (m_X8_isHowOrMoves l D b cs N e5) (va_cwS 1 hts gX8_lasts_X8_isHowOrMoves rfl rfl rfl (by decide +kernel) ⟨Nat.le_of_ble_eq_true rfl, Nat.le_of_ble_eq_true rfl⟩) rfl hl.1 rfl (Nat.le_of_ble_eq_true rfl) dX8_lasts_12 ⟨Nat.zero_le _, Nat.zero_le _⟩ (fun H locs hP hS => ?_)
    refine j_if_ne (A := wr v6) (tgt := 21) hx hb rfl dX8_lasts_15 (by decide) (fun q7 => ?_) (fun q7 => ?_)
    · replace h := (if_neg q7).symm.trans h
      refine j_aload_n hx hb dX8_lasts_21 rfl (lv_at hl 0 rfl) ?_
      refine j_get (v := jR b ((gI μ 0 6).toNat)) hx hb hts hinX8 hown hK hP kz_0 (by decide) rfl 6 (by decide) (hts (.fieldLink RX8 49 "CardBand" "threading" "LCardBand$Threading;") (by decide +kernel)) rfl rfl dX8_lasts_22 ?_
      obtain ⟨v9, e8, h⟩ := ob_I h
      refine jc_VI (As := []) (rest := []) ⟨hx, hb, hml, hown, hts⟩ hK hP hS (m_X5_isMade l D b cs N g1 e8) (cwV 0 hts gX8_lasts_X5_isMade rfl rfl rfl (by decide +kernel) ⟨Nat.le_of_ble_eq_true rfl, Nat.le_of_ble_eq_true rfl⟩) g1 (by decide) rfl rfl hl.1 rfl (Nat.le_of_ble_eq_true rfl) dX8_lasts_25 ⟨Nat.zero_le _, Nat.zero_le _⟩ (fun H locs hP hS => ?_)
      refine j_if_ne (A := wr v9) (tgt := 34) hx hb rfl dX8_lasts_28 (by decide) (fun q10 => ?_) (fun q10 => ?_)
      · replace h := (if_neg q10).symm.trans h
        refine j_aload_n hx hb dX8_lasts_34 rfl (lv_at hl 0 rfl) ?_
        refine j_iload_n hx hb dX8_lasts_35 rfl (lv_at hl 1 rfl) ?_
        refine j_bipush hx hb dX8_lasts_36 (by decide) ?_
        obtain ⟨v12, μ13, e11, h⟩ := ob_P h
        refine jc_VI (As := [jI y1, jI 99]) (rest := []) ⟨hx, hb, hml, hown, hts⟩ hK hP hS (m_X8_countPicks l D b cs N e11) (cwV 2 hts gX8_lasts_X8_countPicks rfl rfl rfl (by decide +kernel) ⟨Nat.le_of_ble_eq_true rfl, Nat.le_of_ble_eq_true rfl⟩) kz_0 (by decide) rfl rfl hl.1 rfl (Nat.le_of_ble_eq_true rfl) dX8_lasts_38 ⟨Nat.zero_le _, Nat.zero_le _⟩ (fun H locs hP hS => ?_)
        refine j_istore_n (lv2 := [(3, jI v12), (0, jR b 0), (1, jI y1), (2, jI y2)]) hx hb dX8_lasts_41 rfl hl (by decide) rfl (fun ls hl => ?_)
        refine j_iload_n hx hb dX8_lasts_42 rfl (lv_at hl 3 rfl) ?_
        refine j_if_ne (A := wr y2) (tgt := 48) hx hb rfl dX8_lasts_43 (by decide) (fun q14 => ?_) (fun q14 => ?_)
        · replace h := (if_neg q14).symm.trans h
          refine j_iload_n hx hb dX8_lasts_48 rfl (lv_at hl 0 rfl) ?_
          refine j_bipush hx hb dX8_lasts_49 (by decide) ?_
          refine j_icmp_ne (A := wr v12) (B := 99) (tgt := 58) hx hb rfl (by decide) dX8_lasts_51 (by decide) (fun q15 => ?_) (fun q15 => ?_)
          · replace h := (if_neg q15).symm.trans h
            refine j_aload_n hx hb dX8_lasts_58 rfl (lv_at hl 1 rfl) ?_
            refine j_get (v := jR b 12) hx hb hts hinX8 hown hK hP kz_0 (by decide) rfl 2 (by decide) (hts (.fieldLink RX8 23 "CardBand" "trial" "LCardBand$Weave;") (by decide +kernel)) rfl rfl dX8_lasts_59 ?_
            refine j_aload_n hx hb dX8_lasts_62 rfl (lv_at hl 1 rfl) ?_
            refine j_get (v := jR b ((gI μ13 0 6).toNat)) hx hb hts hinX8 hown hK hP kz_0 (by decide) rfl 6 (by decide) (hts (.fieldLink RX8 49 "CardBand" "threading" "LCardBand$Threading;") (by decide +kernel)) rfl rfl dX8_lasts_63 ?_
            refine j_iload_n hx hb dX8_lasts_66 rfl (lv_at hl 2 rfl) ?_
            obtain ⟨g16, h⟩ := ob_g h
            replace g16 := of_decide_eq_true g16
            obtain ⟨v18, μ19, e17, h⟩ := ob_P h
            refine jc_VI (As := [jR b ((gI μ13 0 6).toNat), jI y1]) (rest := []) ⟨hx, hb, hml, hown, hts⟩ hK hP hS (m_X7_findLacking l D b cs N kz_12 g16 e17) (cwV 2 hts gX8_lasts_X7_findLacking rfl rfl rfl (by decide +kernel) ⟨Nat.le_of_ble_eq_true rfl, Nat.le_of_ble_eq_true rfl⟩) kz_12 (by decide) rfl rfl hl.1 rfl (Nat.le_of_ble_eq_true rfl) dX8_lasts_67 ⟨Nat.zero_le _, Nat.zero_le _⟩ (fun H locs hP hS => ?_)
            obtain ⟨e0, e1⟩ := Prod.mk.inj (Option.some.inj h)
            subst e1
            exact j_retI hx hb hK hP hS hr hlk e0 dX8_lasts_70
          · replace h := (if_pos q15).symm.trans h
            refine j_iconst hx hb dX8_lasts_54 ?_
            refine j_goto (tgt := 70) hx hb dX8_lasts_55 (by decide) ?_
            obtain ⟨e0, e1⟩ := Prod.mk.inj (Option.some.inj h)
            subst e1
            exact j_retI hx hb hK hP hS hr hlk e0 dX8_lasts_70
        · replace h := (if_pos q14).symm.trans h
          refine j_iload_n hx hb dX8_lasts_46 rfl (lv_at hl 0 rfl) ?_
          obtain ⟨e0, e1⟩ := Prod.mk.inj (Option.some.inj h)
          subst e1
          exact j_retI hx hb hK hP hS hr hlk e0 dX8_lasts_47
      · replace h := (if_pos q10).symm.trans h
        refine j_ldc (n := (-1000000003)) hx hb hown (hts (.constant RX8 185 (-1000000003)) (by decide +kernel)) (by decide) dX8_lasts_31 ?_
        obtain ⟨e0, e1⟩ := Prod.mk.inj (Option.some.inj h)
        subst e1
        exact j_retI hx hb hK hP hS hr hlk e0 dX8_lasts_33
    · replace h := (if_pos q7).symm.trans h
      refine j_ldc (n := (-1000000002)) hx hb hown (hts (.constant RX8 57 (-1000000002)) (by decide +kernel)) (by decide) dX8_lasts_18 ?_
      obtain ⟨e0, e1⟩ := Prod.mk.inj (Option.some.inj h)
      subst e1
      exact j_retI hx hb hK hP hS hr hlk e0 dX8_lasts_20
def fX8_lookAt (N : Nat) (y1 : Int) (μ : Mm) : Option (Int) :=
    gd (decide (kd ((gI μ 0 6).toNat) = 4)) (Option.bind (fX5_hasCard N ((gI μ 0 6).toNat) y1 μ) (fun v3 => if wr v3 = 0 then (some (-1000000001)) else (Option.bind (fX3_findLook N ((gI μ 0 6).toNat) y1 μ) (fun v6 => some v6))))
abbrev rmX8_lookAt : Room := { frames := 5, cells := 0, slots := 0, locals := 121 }
set_option maxHeartbeats 4000000 in
set_option maxRecDepth 100000 in
theorem m_X8_lookAt (l : Launch) (D : va_G) (b : Nat) (cs : CS) (N : Nat) {μ : Mm} {y1 : Int} {r : Int} (h : fX8_lookAt N y1 μ = some r) : MI l yX8_lookAt wsX8_lookAt rmX8_lookAt D b cs [jR b 0, jI y1] μ μ r := by
  refine met_in (cc := cX8_lookAt) (maxL := 2) (ret := some .int) (lv0 := [(0, jR b 0), (1, jI y1)]) (by decide +kernel) rfl (Nat.le_of_ble_eq_true rfl) rfl ?_
  intro p e s m args below meth c hx hb hr hlk hml hown hts hP hK ls hl
  have hown : s.vm.findClass RX8 = some m.cls := hown
  have hS : va_S (bA b) s.heap s.heap [] := va_S.rf
  have hinX8 : ∀ w ∈ u_ws RX8 TX8 9, w ∈ wsX8_lookAt := by decide +kernel
  unfold fX8_lookAt at h
  refine j_aload_n hx hb dX8_lookAt_0 rfl (lv_at hl 0 rfl) ?_
  refine j_get (v := jR b ((gI μ 0 6).toNat)) hx hb hts hinX8 hown hK hP kz_0 (by decide) rfl 6 (by decide) (hts (.fieldLink RX8 49 "CardBand" "threading" "LCardBand$Threading;") (by decide +kernel)) rfl rfl dX8_lookAt_1 ?_
  refine j_iload_n hx hb dX8_lookAt_4 rfl (lv_at hl 1 rfl) ?_
  obtain ⟨g1, h⟩ := ob_g h
  replace g1 := of_decide_eq_true g1
  obtain ⟨v3, e2, h⟩ := ob_I h
  refine jc_VI (As := [jI y1]) (rest := []) ⟨hx, hb, hml, hown, hts⟩ hK hP hS (m_X5_hasCard l D b cs N g1 e2) (cwV 1 hts gX8_lookAt_X5_hasCard rfl rfl rfl (by decide +kernel) ⟨Nat.le_of_ble_eq_true rfl, Nat.le_of_ble_eq_true rfl⟩) g1 (by decide) rfl rfl hl.1 rfl (Nat.le_of_ble_eq_true rfl) dX8_lookAt_5 ⟨Nat.zero_le _, Nat.zero_le _⟩ (fun H locs hP hS => ?_)
  refine j_if_eq (A := wr v3) (tgt := 26) hx hb rfl dX8_lookAt_8 (by decide) (fun q4 => ?_) (fun q4 => ?_)
  · replace h := (if_pos q4).symm.trans h
    refine j_ldc (n := (-1000000001)) hx hb hown (hts (.constant RX8 136 (-1000000001)) (by decide +kernel)) (by decide) dX8_lookAt_26 ?_
    exact j_retI hx hb hK hP hS hr hlk (Option.some.inj h) dX8_lookAt_28
  · replace h := (if_neg q4).symm.trans h
    refine j_aload_n hx hb dX8_lookAt_11 rfl (lv_at hl 0 rfl) ?_
    refine j_get (v := jR b 293) hx hb hts hinX8 hown hK hP kz_0 (by decide) rfl 4 (by decide) (hts (.fieldLink RX8 36 "CardBand" "notes" "LCardBand$Notes;") (by decide +kernel)) rfl rfl dX8_lookAt_12 ?_
    refine j_aload_n hx hb dX8_lookAt_15 rfl (lv_at hl 0 rfl) ?_
    refine j_get (v := jR b ((gI μ 0 6).toNat)) hx hb hts hinX8 hown hK hP kz_0 (by decide) rfl 6 (by decide) (hts (.fieldLink RX8 49 "CardBand" "threading" "LCardBand$Threading;") (by decide +kernel)) rfl rfl dX8_lookAt_16 ?_
    refine j_iload_n hx hb dX8_lookAt_19 rfl (lv_at hl 1 rfl) ?_
    obtain ⟨v6, e5, h⟩ := ob_I h
    refine jc_VI (As := [jR b ((gI μ 0 6).toNat), jI y1]) (rest := []) ⟨hx, hb, hml, hown, hts⟩ hK hP hS (m_X3_findLook l D b cs N g1 e5) (cwV 2 hts gX8_lookAt_X3_findLook rfl rfl rfl (by decide +kernel) ⟨Nat.le_of_ble_eq_true rfl, Nat.le_of_ble_eq_true rfl⟩) kz_293 (by decide) rfl rfl hl.1 rfl (Nat.le_of_ble_eq_true rfl) dX8_lookAt_20 ⟨Nat.zero_le _, Nat.zero_le _⟩ (fun H locs hP hS => ?_)
    refine j_goto (tgt := 28) hx hb dX8_lookAt_23 (by decide) ?_
    exact j_retI hx hb hK hP hS hr hlk (Option.some.inj h) dX8_lookAt_28
def fX8_loom (N : Nat) (μ : Mm) : Option (Int × Mm) :=
    gd (decide (kd ((gI μ 0 7).toNat) = 4)) (bP (fX4_readInto N ((gI μ 0 7).toNat) μ) (fun v3 μ4 => Option.bind (some (pI μ4 1 1 0)) (fun μ5 => if wr v3 = 0 then (some (((-10) - (gI μ5 1 4)), μ5)) else (gd (decide (kd ((gI μ5 0 6).toNat) = 4)) (Option.bind (some (pI μ5 0 7 (((gI μ5 0 6).toNat) : Int))) (fun μ9 => gd (decide (kd ((gI μ5 0 7).toNat) = 4)) (Option.bind (some (pI μ9 0 6 (((gI μ5 0 7).toNat) : Int))) (fun μ12 => gd (decide (kd ((gI μ12 0 6).toNat) = 4)) (Option.bind (fX7_begin N 3 ((gI μ12 0 6).toNat) μ12) (fun μ16 => Option.bind (fX1_forget N μ16) (fun μ18 => Option.bind (fX3_forget N μ18) (fun μ20 => Option.bind (fX8_forgetImages N μ20) (fun μ22 => gd (decide (kd ((gI μ22 0 6).toNat) = 4)) (some ((gI μ22 ((gI μ22 0 6).toNat) 6), μ22)))))))))))))))
abbrev rmX8_loom : Room := { frames := 6, cells := 0, slots := 0, locals := 130 }
set_option maxHeartbeats 4000000 in
set_option maxRecDepth 100000 in
theorem m_X8_loom (l : Launch) (D : va_G) (b : Nat) (cs : CS) (N : Nat) {μ μ0 : Mm} {r : Int} (h : fX8_loom N μ = some (r, μ0)) : MI l yX8_loom wsX8_loom rmX8_loom D b cs [jR b 0] μ μ0 r := by
  refine met_in (cc := cX8_loom) (maxL := 3) (ret := some .int) (lv0 := [(0, jR b 0)]) (by decide +kernel) rfl (Nat.le_of_ble_eq_true rfl) rfl ?_
  intro p e s m args below meth c hx hb hr hlk hml hown hts hP hK ls hl
  have hown : s.vm.findClass RX8 = some m.cls := hown
  have hS : va_S (bA b) s.heap s.heap [] := va_S.rf
  have hinX4 : ∀ w ∈ u_ws RX4 TX4 6, w ∈ wsX8_loom := by decide +kernel
  have hinX5 : ∀ w ∈ u_ws RX5 TX5 9, w ∈ wsX8_loom := by decide +kernel
  have hinX8 : ∀ w ∈ u_ws RX8 TX8 9, w ∈ wsX8_loom := by decide +kernel
  unfold fX8_loom at h
  refine j_aload_n hx hb dX8_loom_0 rfl (lv_at hl 0 rfl) ?_
  refine j_get (v := jR b 1) hx hb hts hinX8 hown hK hP kz_0 (by decide) rfl 0 (by decide) (hts (.fieldLink RX8 10 "CardBand" "text" "LCardBand$Telling;") (by decide +kernel)) rfl rfl dX8_loom_1 ?_
  refine j_aload_n hx hb dX8_loom_4 rfl (lv_at hl 0 rfl) ?_
  refine j_get (v := jR b ((gI μ 0 7).toNat)) hx hb hts hinX8 hown hK hP kz_0 (by decide) rfl 7 (by decide) (hts (.fieldLink RX8 53 "CardBand" "spare" "LCardBand$Threading;") (by decide +kernel)) rfl rfl dX8_loom_5 ?_
  obtain ⟨g1, h⟩ := ob_g h
  replace g1 := of_decide_eq_true g1
  obtain ⟨v3, μ4, e2, h⟩ := ob_P h
  refine jc_VI (As := [jR b ((gI μ 0 7).toNat)]) (rest := []) ⟨hx, hb, hml, hown, hts⟩ hK hP hS (m_X4_readInto l D b cs N g1 e2) (cwV 1 hts gX8_loom_X4_readInto rfl rfl rfl (by decide +kernel) ⟨Nat.le_of_ble_eq_true rfl, Nat.le_of_ble_eq_true rfl⟩) kz_1 (by decide) rfl rfl hl.1 rfl (Nat.le_of_ble_eq_true rfl) dX8_loom_8 ⟨Nat.zero_le _, Nat.zero_le _⟩ (fun H locs hP hS => ?_)
  refine j_istore_n (lv2 := [(1, jI v3), (0, jR b 0)]) hx hb dX8_loom_11 rfl hl (by decide) rfl (fun ls hl => ?_)
  refine j_aload_n hx hb dX8_loom_12 rfl (lv_at hl 1 rfl) ?_
  refine j_get (v := jR b 1) hx hb hts hinX8 hown hK hP kz_0 (by decide) rfl 0 (by decide) (hts (.fieldLink RX8 10 "CardBand" "text" "LCardBand$Telling;") (by decide +kernel)) rfl rfl dX8_loom_13 ?_
  refine j_iconst hx hb dX8_loom_16 ?_
  obtain ⟨μ5, e6, h⟩ := ob_I h
  refine j_put (ty := .int) (z := 0) hx hb hts hinX4 tyX4 tyX4_ok nmX4 hown hK hP hS kz_1 (by decide) rfl 1 (by decide) (hts (.fieldLink RX8 63 "CardBand$Telling" "length" "I") (by decide +kernel)) rfl rfl (by decide +kernel) rfl rfl (by simp [flds]) rfl dX8_loom_17 (Option.some.inj e6) (fun H locs hP hS => ?_)
  refine j_iload_n hx hb dX8_loom_20 rfl (lv_at hl 0 rfl) ?_
  refine j_if_ne (A := wr v3) (tgt := 35) hx hb rfl dX8_loom_21 (by decide) (fun q7 => ?_) (fun q7 => ?_)
  · replace h := (if_neg q7).symm.trans h
    refine j_aload_n hx hb dX8_loom_35 rfl (lv_at hl 1 rfl) ?_
    refine j_get (v := jR b ((gI μ5 0 7).toNat)) hx hb hts hinX8 hown hK hP kz_0 (by decide) rfl 7 (by decide) (hts (.fieldLink RX8 53 "CardBand" "spare" "LCardBand$Threading;") (by decide +kernel)) rfl rfl dX8_loom_36 ?_
    refine j_astore_n (lv2 := [(2, jR b ((gI μ5 0 7).toNat)), (1, jI v3), (0, jR b 0)]) hx hb dX8_loom_39 rfl hl (by decide) rfl (fun ls hl => ?_)
    refine j_aload_n hx hb dX8_loom_40 rfl (lv_at hl 2 rfl) ?_
    refine j_aload_n hx hb dX8_loom_41 rfl (lv_at hl 2 rfl) ?_
    refine j_get (v := jR b ((gI μ5 0 6).toNat)) hx hb hts hinX8 hown hK hP kz_0 (by decide) rfl 6 (by decide) (hts (.fieldLink RX8 49 "CardBand" "threading" "LCardBand$Threading;") (by decide +kernel)) rfl rfl dX8_loom_42 ?_
    obtain ⟨g8, h⟩ := ob_g h
    replace g8 := of_decide_eq_true g8
    obtain ⟨μ9, e10, h⟩ := ob_I h
    refine j_put (ty := .object "CardBand$Threading") (z := (((gI μ5 0 6).toNat) : Int)) hx hb hts hinX8 tyX8 tyX8_ok nmX8 hown hK hP hS kz_0 (by decide) rfl 7 (by decide) (hts (.fieldLink RX8 53 "CardBand" "spare" "LCardBand$Threading;") (by decide +kernel)) rfl rfl (by decide +kernel) rfl rfl (by simp [flds]) (set_T7 (kd_lt (by rw [g8]; decide))) dX8_loom_45 (Option.some.inj e10) (fun H locs hP hS => ?_)
    refine j_aload_n hx hb dX8_loom_48 rfl (lv_at hl 2 rfl) ?_
    refine j_aload_n hx hb dX8_loom_49 rfl (lv_at hl 0 rfl) ?_
    obtain ⟨g11, h⟩ := ob_g h
    replace g11 := of_decide_eq_true g11
    obtain ⟨μ12, e13, h⟩ := ob_I h
    refine j_put (ty := .object "CardBand$Threading") (z := (((gI μ5 0 7).toNat) : Int)) hx hb hts hinX8 tyX8 tyX8_ok nmX8 hown hK hP hS kz_0 (by decide) rfl 6 (by decide) (hts (.fieldLink RX8 49 "CardBand" "threading" "LCardBand$Threading;") (by decide +kernel)) rfl rfl (by decide +kernel) rfl rfl (by simp [flds]) (set_T6 (kd_lt (by rw [g11]; decide))) dX8_loom_50 (Option.some.inj e13) (fun H locs hP hS => ?_)
    refine j_aload_n hx hb dX8_loom_53 rfl (lv_at hl 2 rfl) ?_
    refine j_get (v := jR b 3) hx hb hts hinX8 hown hK hP kz_0 (by decide) rfl 1 (by decide) (hts (.fieldLink RX8 19 "CardBand" "weave" "LCardBand$Weave;") (by decide +kernel)) rfl rfl dX8_loom_54 ?_
    refine j_aload_n hx hb dX8_loom_57 rfl (lv_at hl 2 rfl) ?_
    refine j_get (v := jR b ((gI μ12 0 6).toNat)) hx hb hts hinX8 hown hK hP kz_0 (by decide) rfl 6 (by decide) (hts (.fieldLink RX8 49 "CardBand" "threading" "LCardBand$Threading;") (by decide +kernel)) rfl rfl dX8_loom_58 ?_
    obtain ⟨g14, h⟩ := ob_g h
    replace g14 := of_decide_eq_true g14
    obtain ⟨μ16, e15, h⟩ := ob_I h
    refine jc_VM (As := [jR b ((gI μ12 0 6).toNat)]) (rest := []) ⟨hx, hb, hml, hown, hts⟩ hK hP hS (m_X7_begin l D b cs N kz_3 g14 e15) (cwV 1 hts gX8_loom_X7_begin rfl rfl rfl (by decide +kernel) ⟨Nat.le_of_ble_eq_true rfl, Nat.le_of_ble_eq_true rfl⟩) kz_3 (by decide) rfl rfl hl.1 rfl (Nat.le_of_ble_eq_true rfl) dX8_loom_61 ⟨Nat.zero_le _, Nat.zero_le _⟩ (fun H locs hP hS => ?_)
    refine j_aload_n hx hb dX8_loom_64 rfl (lv_at hl 2 rfl) ?_
    refine j_get (v := jR b 21) hx hb hts hinX8 hown hK hP kz_0 (by decide) rfl 3 (by decide) (hts (.fieldLink RX8 29 "CardBand" "deeds" "LCardBand$Deeds;") (by decide +kernel)) rfl rfl dX8_loom_65 ?_
    obtain ⟨μ18, e17, h⟩ := ob_I h
    refine jc_VM (As := []) (rest := []) ⟨hx, hb, hml, hown, hts⟩ hK hP hS (m_X1_forget l D b cs N e17) (cwV 0 hts gX8_loom_X1_forget rfl rfl rfl (by decide +kernel) ⟨Nat.le_of_ble_eq_true rfl, Nat.le_of_ble_eq_true rfl⟩) kz_21 (by decide) rfl rfl hl.1 rfl (Nat.le_of_ble_eq_true rfl) dX8_loom_68 ⟨Nat.zero_le _, Nat.zero_le _⟩ (fun H locs hP hS => ?_)
    refine j_aload_n hx hb dX8_loom_71 rfl (lv_at hl 2 rfl) ?_
    refine j_get (v := jR b 293) hx hb hts hinX8 hown hK hP kz_0 (by decide) rfl 4 (by decide) (hts (.fieldLink RX8 36 "CardBand" "notes" "LCardBand$Notes;") (by decide +kernel)) rfl rfl dX8_loom_72 ?_
    obtain ⟨μ20, e19, h⟩ := ob_I h
    refine jc_VM (As := []) (rest := []) ⟨hx, hb, hml, hown, hts⟩ hK hP hS (m_X3_forget l D b cs N e19) (cwV 0 hts gX8_loom_X3_forget rfl rfl rfl (by decide +kernel) ⟨Nat.le_of_ble_eq_true rfl, Nat.le_of_ble_eq_true rfl⟩) kz_293 (by decide) rfl rfl hl.1 rfl (Nat.le_of_ble_eq_true rfl) dX8_loom_75 ⟨Nat.zero_le _, Nat.zero_le _⟩ (fun H locs hP hS => ?_)
    refine j_aload_n hx hb dX8_loom_78 rfl (lv_at hl 2 rfl) ?_
    obtain ⟨μ22, e21, h⟩ := ob_I h
    refine jc_VM (As := []) (rest := []) ⟨hx, hb, hml, hown, hts⟩ hK hP hS (m_X8_forgetImages l D b cs N e21) (cwV 0 hts gX8_loom_X8_forgetImages rfl rfl rfl (by decide +kernel) ⟨Nat.le_of_ble_eq_true rfl, Nat.le_of_ble_eq_true rfl⟩) kz_0 (by decide) rfl rfl hl.1 rfl (Nat.le_of_ble_eq_true rfl) dX8_loom_79 ⟨Nat.zero_le _, Nat.zero_le _⟩ (fun H locs hP hS => ?_)
    refine j_aload_n hx hb dX8_loom_82 rfl (lv_at hl 2 rfl) ?_
    refine j_get (v := jR b ((gI μ22 0 6).toNat)) hx hb hts hinX8 hown hK hP kz_0 (by decide) rfl 6 (by decide) (hts (.fieldLink RX8 49 "CardBand" "threading" "LCardBand$Threading;") (by decide +kernel)) rfl rfl dX8_loom_83 ?_
    obtain ⟨g23, h⟩ := ob_g h
    replace g23 := of_decide_eq_true g23
    refine j_get (v := jI (gI μ22 ((gI μ22 0 6).toNat) 6)) hx hb hts hinX5 hown hK hP g23 (by decide) rfl 6 (by decide) (hts (.fieldLink RX8 85 "CardBand$Threading" "cards" "I") (by decide +kernel)) rfl (by rw [jI_g]; rfl) dX8_loom_86 ?_
    obtain ⟨e0, e1⟩ := Prod.mk.inj (Option.some.inj h)
    subst e1
    exact j_retI hx hb hK hP hS hr hlk e0 dX8_loom_89
  · replace h := (if_pos q7).symm.trans h
    refine j_bipush hx hb dX8_loom_24 (by decide) ?_
    refine j_aload_n hx hb dX8_loom_26 rfl (lv_at hl 1 rfl) ?_
    refine j_get (v := jR b 1) hx hb hts hinX8 hown hK hP kz_0 (by decide) rfl 0 (by decide) (hts (.fieldLink RX8 10 "CardBand" "text" "LCardBand$Telling;") (by decide +kernel)) rfl rfl dX8_loom_27 ?_
    refine j_get (v := jI (gI μ5 1 4)) hx hb hts hinX4 hown hK hP kz_1 (by decide) rfl 4 (by decide) (hts (.fieldLink RX8 71 "CardBand$Telling" "faultNumber" "I") (by decide +kernel)) rfl (by rw [jI_g]; rfl) dX8_loom_30 ?_
    refine j_isub hx hb dX8_loom_33 ?_
    obtain ⟨e0, e1⟩ := Prod.mk.inj (Option.some.inj h)
    subst e1
    exact j_retI hx hb hK hP hS hr hlk e0 dX8_loom_34
def fX8_pack (N : Nat) (y1 : Int) (μ : Mm) : Option (Int) :=
    gd (decide (kd ((gI μ 0 6).toNat) = 4)) (Option.bind (fX5_hasPack N ((gI μ 0 6).toNat) y1 μ) (fun v3 => if wr v3 = 0 then (some (-1000000001)) else (Option.bind (ldA μ (((gI μ 0 6).toNat) + 4) 4 y1) (fun v5 => some v5))))
abbrev rmX8_pack : Room := { frames := 1, cells := 0, slots := 0, locals := 21 }
set_option maxHeartbeats 4000000 in
set_option maxRecDepth 100000 in
theorem m_X8_pack (l : Launch) (D : va_G) (b : Nat) (cs : CS) (N : Nat) {μ : Mm} {y1 : Int} {r : Int} (h : fX8_pack N y1 μ = some r) : MI l yX8_pack wsX8_pack rmX8_pack D b cs [jR b 0, jI y1] μ μ r := by
  refine met_in (cc := cX8_pack) (maxL := 2) (ret := some .int) (lv0 := [(0, jR b 0), (1, jI y1)]) (by decide +kernel) rfl (Nat.le_of_ble_eq_true rfl) rfl ?_
  intro p e s m args below meth c hx hb hr hlk hml hown hts hP hK ls hl
  have hown : s.vm.findClass RX8 = some m.cls := hown
  have hS : va_S (bA b) s.heap s.heap [] := va_S.rf
  have hinX5 : ∀ w ∈ u_ws RX5 TX5 9, w ∈ wsX8_pack := by decide +kernel
  have hinX8 : ∀ w ∈ u_ws RX8 TX8 9, w ∈ wsX8_pack := by decide +kernel
  unfold fX8_pack at h
  refine j_aload_n hx hb dX8_pack_0 rfl (lv_at hl 0 rfl) ?_
  refine j_get (v := jR b ((gI μ 0 6).toNat)) hx hb hts hinX8 hown hK hP kz_0 (by decide) rfl 6 (by decide) (hts (.fieldLink RX8 49 "CardBand" "threading" "LCardBand$Threading;") (by decide +kernel)) rfl rfl dX8_pack_1 ?_
  refine j_iload_n hx hb dX8_pack_4 rfl (lv_at hl 1 rfl) ?_
  obtain ⟨g1, h⟩ := ob_g h
  replace g1 := of_decide_eq_true g1
  obtain ⟨v3, e2, h⟩ := ob_I h
  refine jc_VI (As := [jI y1]) (rest := []) ⟨hx, hb, hml, hown, hts⟩ hK hP hS (m_X5_hasPack l D b cs N g1 e2) (cwV 1 hts gX8_pack_X5_hasPack rfl rfl rfl (by decide +kernel) ⟨Nat.le_of_ble_eq_true rfl, Nat.le_of_ble_eq_true rfl⟩) g1 (by decide) rfl rfl hl.1 rfl (Nat.le_of_ble_eq_true rfl) dX8_pack_5 ⟨Nat.zero_le _, Nat.zero_le _⟩ (fun H locs hP hS => ?_)
  refine j_if_eq (A := wr v3) (tgt := 23) hx hb rfl dX8_pack_8 (by decide) (fun q4 => ?_) (fun q4 => ?_)
  · replace h := (if_pos q4).symm.trans h
    refine j_ldc (n := (-1000000001)) hx hb hown (hts (.constant RX8 136 (-1000000001)) (by decide +kernel)) (by decide) dX8_pack_23 ?_
    exact j_retI hx hb hK hP hS hr hlk (Option.some.inj h) dX8_pack_25
  · replace h := (if_neg q4).symm.trans h
    refine j_aload_n hx hb dX8_pack_11 rfl (lv_at hl 0 rfl) ?_
    refine j_get (v := jR b ((gI μ 0 6).toNat)) hx hb hts hinX8 hown hK hP kz_0 (by decide) rfl 6 (by decide) (hts (.fieldLink RX8 49 "CardBand" "threading" "LCardBand$Threading;") (by decide +kernel)) rfl rfl dX8_pack_12 ?_
    refine j_get (v := jR b (((gI μ 0 6).toNat) + 4)) hx hb hts hinX5 hown hK hP g1 (by decide) rfl 3 (by decide) (hts (.fieldLink RX8 163 "CardBand$Threading" "packSets" "[I") (by decide +kernel)) rfl rfl dX8_pack_15 ?_
    refine j_iload_n hx hb dX8_pack_18 rfl (lv_at hl 1 rfl) ?_
    obtain ⟨v5, e6, h⟩ := ob_I h
    refine j_iaload hx hb hK hP (kX5_4 g1) e6 dX8_pack_19 ?_
    refine j_goto (tgt := 25) hx hb dX8_pack_20 (by decide) ?_
    exact j_retI hx hb hK hP hS hr hlk (Option.some.inj h) dX8_pack_25
def fX8_pick_l66 (N : Nat) (y1 : Int) (y2 : Int) : Nat → Int → Mm → Option (Int × Mm)
  | 0, _, _ => none
  | n15 + 1, x3_16, μ17 =>
    if wr y2 ≤ wr x3_16 then (some ((gI μ17 3 8), μ17)) else (Option.bind (fX1_remember N 3 μ17) (fun μ20 => gd (decide (kd ((gI μ20 0 6).toNat) = 4)) (bP (fX7_weaveOnce N 3 ((gI μ20 0 6).toNat) y1 μ20) (fun v23 μ24 => (fX8_pick_l66 N y1 y2 n15) (x3_16 + 1) μ24))))
def fX8_pick (N : Nat) (y1 : Int) (y2 : Int) (μ : Mm) : Option (Int × Mm) :=
    gd (decide (kd ((gI μ 0 6).toNat) = 4)) (Option.bind (fX5_takesMoves N ((gI μ 0 6).toNat) y1 μ) (fun v3 => if wr v3 = 0 then (some ((-1000000002), μ)) else (if wr y2 < 1 then (some ((-1000000002), μ)) else (if wr y2 ≤ 30 then (Option.bind (fX5_isMade N ((gI μ 0 6).toNat) μ) (fun v8 => if wr v8 = 0 then (some ((-1000000003), μ)) else (bP (fX8_countPicks N y1 y2 μ) (fun v11 μ12 => if wr y2 ≤ wr v11 then (if wr (gI μ12 3 8) ≤ 9000 then (fX8_pick_l66 N y1 y2 N 0 μ12) else (some ((-1000000004), μ12))) else (some ((-1000000003), μ12)))))) else (some ((-1000000002), μ))))))
abbrev rmX8_pick : Room := { frames := 6, cells := 0, slots := 0, locals := 137 }
set_option maxHeartbeats 4000000 in
set_option maxRecDepth 100000 in
theorem m_X8_pick (l : Launch) (D : va_G) (b : Nat) (cs : CS) (N : Nat) {μ μ0 : Mm} {y1 y2 : Int} {r : Int} (h : fX8_pick N y1 y2 μ = some (r, μ0)) : MI l yX8_pick wsX8_pick rmX8_pick D b cs [jR b 0, jI y1, jI y2] μ μ0 r := by
  refine met_in (cc := cX8_pick) (maxL := 4) (ret := some .int) (lv0 := [(0, jR b 0), (1, jI y1), (2, jI y2)]) (by decide +kernel) rfl (Nat.le_of_ble_eq_true rfl) rfl ?_
  intro p e s m args below meth c hx hb hr hlk hml hown hts hP hK ls hl
  have hown : s.vm.findClass RX8 = some m.cls := hown
  have hS : va_S (bA b) s.heap s.heap [] := va_S.rf
  have hinX7 : ∀ w ∈ u_ws RX7 TX7 9, w ∈ wsX8_pick := by decide +kernel
  have hinX8 : ∀ w ∈ u_ws RX8 TX8 9, w ∈ wsX8_pick := by decide +kernel
  unfold fX8_pick at h
  refine j_aload_n hx hb dX8_pick_0 rfl (lv_at hl 0 rfl) ?_
  refine j_get (v := jR b ((gI μ 0 6).toNat)) hx hb hts hinX8 hown hK hP kz_0 (by decide) rfl 6 (by decide) (hts (.fieldLink RX8 49 "CardBand" "threading" "LCardBand$Threading;") (by decide +kernel)) rfl rfl dX8_pick_1 ?_
  refine j_iload_n hx hb dX8_pick_4 rfl (lv_at hl 1 rfl) ?_
  obtain ⟨g1, h⟩ := ob_g h
  replace g1 := of_decide_eq_true g1
  obtain ⟨v3, e2, h⟩ := ob_I h
  refine jc_VI (As := [jI y1]) (rest := []) ⟨hx, hb, hml, hown, hts⟩ hK hP hS (m_X5_takesMoves l D b cs N g1 e2) (cwV 1 hts gX8_pick_X5_takesMoves rfl rfl rfl (by decide +kernel) ⟨Nat.le_of_ble_eq_true rfl, Nat.le_of_ble_eq_true rfl⟩) g1 (by decide) rfl rfl hl.1 rfl (Nat.le_of_ble_eq_true rfl) dX8_pick_5 ⟨Nat.zero_le _, Nat.zero_le _⟩ (fun H locs hP hS => ?_)
  refine j_if_eq (A := wr v3) (tgt := 22) hx hb rfl dX8_pick_8 (by decide) (fun q4 => ?_) (fun q4 => ?_)
  · replace h := (if_pos q4).symm.trans h
    refine j_ldc (n := (-1000000002)) hx hb hown (hts (.constant RX8 57 (-1000000002)) (by decide +kernel)) (by decide) dX8_pick_22 ?_
    obtain ⟨e0, e1⟩ := Prod.mk.inj (Option.some.inj h)
    subst e1
    exact j_retI hx hb hK hP hS hr hlk e0 dX8_pick_24
  · replace h := (if_neg q4).symm.trans h
    refine j_iload_n hx hb dX8_pick_11 rfl (lv_at hl 2 rfl) ?_
    refine j_iconst hx hb dX8_pick_12 ?_
    refine j_icmp_lt (A := wr y2) (B := 1) (tgt := 22) hx hb rfl (by decide) dX8_pick_13 (by decide) (fun q5 => ?_) (fun q5 => ?_)
    · replace h := (if_pos q5).symm.trans h
      refine j_ldc (n := (-1000000002)) hx hb hown (hts (.constant RX8 57 (-1000000002)) (by decide +kernel)) (by decide) dX8_pick_22 ?_
      obtain ⟨e0, e1⟩ := Prod.mk.inj (Option.some.inj h)
      subst e1
      exact j_retI hx hb hK hP hS hr hlk e0 dX8_pick_24
    · replace h := (if_neg q5).symm.trans h
      refine j_iload_n hx hb dX8_pick_16 rfl (lv_at hl 2 rfl) ?_
      refine j_bipush hx hb dX8_pick_17 (by decide) ?_
      refine j_icmp_le (A := wr y2) (B := 30) (tgt := 25) hx hb rfl (by decide) dX8_pick_19 (by decide) (fun q6 => ?_) (fun q6 => ?_)
      · replace h := (if_pos q6).symm.trans h
        refine j_aload_n hx hb dX8_pick_25 rfl (lv_at hl 0 rfl) ?_
        refine j_get (v := jR b ((gI μ 0 6).toNat)) hx hb hts hinX8 hown hK hP kz_0 (by decide) rfl 6 (by decide) (hts (.fieldLink RX8 49 "CardBand" "threading" "LCardBand$Threading;") (by decide +kernel)) rfl rfl dX8_pick_26 ?_
        obtain ⟨v8, e7, h⟩ := ob_I h
        refine jc_VI (As := []) (rest := []) ⟨hx, hb, hml, hown, hts⟩ hK hP hS (m_X5_isMade l D b cs N g1 e7) (cwV 0 hts gX8_pick_X5_isMade rfl rfl rfl (by decide +kernel) ⟨Nat.le_of_ble_eq_true rfl, Nat.le_of_ble_eq_true rfl⟩) g1 (by decide) rfl rfl hl.1 rfl (Nat.le_of_ble_eq_true rfl) dX8_pick_29 ⟨Nat.zero_le _, Nat.zero_le _⟩ (fun H locs hP hS => ?_)
        refine j_if_eq (A := wr v8) (tgt := 45) hx hb rfl dX8_pick_32 (by decide) (fun q9 => ?_) (fun q9 => ?_)
        · replace h := (if_pos q9).symm.trans h
          refine j_ldc (n := (-1000000003)) hx hb hown (hts (.constant RX8 185 (-1000000003)) (by decide +kernel)) (by decide) dX8_pick_45 ?_
          obtain ⟨e0, e1⟩ := Prod.mk.inj (Option.some.inj h)
          subst e1
          exact j_retI hx hb hK hP hS hr hlk e0 dX8_pick_47
        · replace h := (if_neg q9).symm.trans h
          refine j_aload_n hx hb dX8_pick_35 rfl (lv_at hl 0 rfl) ?_
          refine j_iload_n hx hb dX8_pick_36 rfl (lv_at hl 1 rfl) ?_
          refine j_iload_n hx hb dX8_pick_37 rfl (lv_at hl 2 rfl) ?_
          obtain ⟨v11, μ12, e10, h⟩ := ob_P h
          refine jc_VI (As := [jI y1, jI y2]) (rest := []) ⟨hx, hb, hml, hown, hts⟩ hK hP hS (m_X8_countPicks l D b cs N e10) (cwV 2 hts gX8_pick_X8_countPicks rfl rfl rfl (by decide +kernel) ⟨Nat.le_of_ble_eq_true rfl, Nat.le_of_ble_eq_true rfl⟩) kz_0 (by decide) rfl rfl hl.1 rfl (Nat.le_of_ble_eq_true rfl) dX8_pick_38 ⟨Nat.zero_le _, Nat.zero_le _⟩ (fun H locs hP hS => ?_)
          refine j_iload_n hx hb dX8_pick_41 rfl (lv_at hl 2 rfl) ?_
          refine j_icmp_ge (A := wr v11) (B := wr y2) (tgt := 48) hx hb rfl rfl dX8_pick_42 (by decide) (fun q13 => ?_) (fun q13 => ?_)
          · replace h := (if_pos q13).symm.trans h
            refine j_aload_n hx hb dX8_pick_48 rfl (lv_at hl 0 rfl) ?_
            refine j_get (v := jR b 3) hx hb hts hinX8 hown hK hP kz_0 (by decide) rfl 1 (by decide) (hts (.fieldLink RX8 19 "CardBand" "weave" "LCardBand$Weave;") (by decide +kernel)) rfl rfl dX8_pick_49 ?_
            refine j_get (v := jI (gI μ12 3 8)) hx hb hts hinX7 hown hK hP kz_3 (by decide) rfl 8 (by decide) (hts (.fieldLink RX8 97 "CardBand$Weave" "picks" "I") (by decide +kernel)) rfl (by rw [jI_g]; rfl) dX8_pick_52 ?_
            refine j_sipush hx hb dX8_pick_55 (by decide) ?_
            refine j_icmp_le (A := wr (gI μ12 3 8)) (B := 9000) (tgt := 64) hx hb rfl (by decide) dX8_pick_58 (by decide) (fun q14 => ?_) (fun q14 => ?_)
            · replace h := (if_pos q14).symm.trans h
              refine j_iconst hx hb dX8_pick_64 ?_
              refine j_istore_n (lv2 := [(3, jI 0), (0, jR b 0), (1, jI y1), (2, jI y2)]) hx hb dX8_pick_65 rfl hl (by decide) rfl (fun ls hl => ?_)
              have hl66_15 : ∀ (n0 : Nat) (x3_16 : Int) (μ17 : Mm) (H : Heap) (locs : List Loc) (ls : Array Slot), va_P D vwCl (wl b cs μ17) H → va_S (bA b) s.heap H locs → lv_has ls 4 [(0, jR b 0), (1, jI y1), (2, jI y2), (3, jI x3_16)] → fX8_pick_l66 N y1 y2 n0 x3_16 μ17 = some (r, μ0) → W p l e rmX8_pick s m args below meth c H locs 0 0 (MQ below (QI D b cs μ0 r) args s 0 0 (bA b)) (F0 m 66 ls []) := by
                intro n0
                induction n0 with
                | zero => intro x3_16 μ17 H locs ls hP hS hl h; rw [fX8_pick_l66] at h; cases h
                | succ n15 ih66_15 =>
                  intro x3_16 μ17 H locs ls hP hS hl h
                  rw [fX8_pick_l66] at h
                  refine j_iload_n hx hb dX8_pick_66 rfl (lv_at hl 3 rfl) ?_
                  refine j_iload_n hx hb dX8_pick_67 rfl (lv_at hl 2 rfl) ?_
                  refine j_icmp_ge (A := wr x3_16) (B := wr y2) (tgt := 101) hx hb rfl rfl dX8_pick_68 (by decide) (fun q18 => ?_) (fun q18 => ?_)
                  · replace h := (if_pos q18).symm.trans h
                    refine j_aload_n hx hb dX8_pick_101 rfl (lv_at hl 0 rfl) ?_
                    refine j_get (v := jR b 3) hx hb hts hinX8 hown hK hP kz_0 (by decide) rfl 1 (by decide) (hts (.fieldLink RX8 19 "CardBand" "weave" "LCardBand$Weave;") (by decide +kernel)) rfl rfl dX8_pick_102 ?_
                    refine j_get (v := jI (gI μ17 3 8)) hx hb hts hinX7 hown hK hP kz_3 (by decide) rfl 8 (by decide) (hts (.fieldLink RX8 97 "CardBand$Weave" "picks" "I") (by decide +kernel)) rfl (by rw [jI_g]; rfl) dX8_pick_105 ?_
                    obtain ⟨e0, e1⟩ := Prod.mk.inj (Option.some.inj h)
                    subst e1
                    exact j_retI hx hb hK hP hS hr hlk e0 dX8_pick_108
                  · replace h := (if_neg q18).symm.trans h
                    refine j_aload_n hx hb dX8_pick_71 rfl (lv_at hl 0 rfl) ?_
                    refine j_get (v := jR b 21) hx hb hts hinX8 hown hK hP kz_0 (by decide) rfl 3 (by decide) (hts (.fieldLink RX8 29 "CardBand" "deeds" "LCardBand$Deeds;") (by decide +kernel)) rfl rfl dX8_pick_72 ?_
                    refine j_aload_n hx hb dX8_pick_75 rfl (lv_at hl 0 rfl) ?_
                    refine j_get (v := jR b 3) hx hb hts hinX8 hown hK hP kz_0 (by decide) rfl 1 (by decide) (hts (.fieldLink RX8 19 "CardBand" "weave" "LCardBand$Weave;") (by decide +kernel)) rfl rfl dX8_pick_76 ?_
                    obtain ⟨μ20, e19, h⟩ := ob_I h
                    refine jc_VM (As := [jR b 3]) (rest := []) ⟨hx, hb, hml, hown, hts⟩ hK hP hS (m_X1_remember l D b cs N kz_3 e19) (cwV 1 hts gX8_pick_X1_remember rfl rfl rfl (by decide +kernel) ⟨Nat.le_of_ble_eq_true rfl, Nat.le_of_ble_eq_true rfl⟩) kz_21 (by decide) rfl rfl hl.1 rfl (Nat.le_of_ble_eq_true rfl) dX8_pick_79 ⟨Nat.zero_le _, Nat.zero_le _⟩ (fun H locs hP hS => ?_)
                    refine j_aload_n hx hb dX8_pick_82 rfl (lv_at hl 0 rfl) ?_
                    refine j_get (v := jR b 3) hx hb hts hinX8 hown hK hP kz_0 (by decide) rfl 1 (by decide) (hts (.fieldLink RX8 19 "CardBand" "weave" "LCardBand$Weave;") (by decide +kernel)) rfl rfl dX8_pick_83 ?_
                    refine j_aload_n hx hb dX8_pick_86 rfl (lv_at hl 0 rfl) ?_
                    refine j_get (v := jR b ((gI μ20 0 6).toNat)) hx hb hts hinX8 hown hK hP kz_0 (by decide) rfl 6 (by decide) (hts (.fieldLink RX8 49 "CardBand" "threading" "LCardBand$Threading;") (by decide +kernel)) rfl rfl dX8_pick_87 ?_
                    refine j_iload_n hx hb dX8_pick_90 rfl (lv_at hl 1 rfl) ?_
                    obtain ⟨g21, h⟩ := ob_g h
                    replace g21 := of_decide_eq_true g21
                    obtain ⟨v23, μ24, e22, h⟩ := ob_P h
                    refine jc_VI (As := [jR b ((gI μ20 0 6).toNat), jI y1]) (rest := []) ⟨hx, hb, hml, hown, hts⟩ hK hP hS (m_X7_weaveOnce l D b cs N kz_3 g21 e22) (cwV 2 hts gX8_pick_X7_weaveOnce rfl rfl rfl (by decide +kernel) ⟨Nat.le_of_ble_eq_true rfl, Nat.le_of_ble_eq_true rfl⟩) kz_3 (by decide) rfl rfl hl.1 rfl (Nat.le_of_ble_eq_true rfl) dX8_pick_91 ⟨Nat.zero_le _, Nat.zero_le _⟩ (fun H locs hP hS => ?_)
                    refine j_pop hx hb dX8_pick_94 rfl ?_
                    refine j_iinc (k := 3) (lv2 := [(3, jI (x3_16 + 1)), (0, jR b 0), (1, jI y1), (2, jI y2)]) hx hb dX8_pick_95 hl rfl (by decide) rfl (fun ls hl => ?_)
                    refine j_goto (tgt := 66) hx hb dX8_pick_98 (by decide) ?_
                    exact ih66_15 _ _ _ _ _ hP hS (lv_sub hl [1, 2, 3, 0] rfl) h
              exact hl66_15 N _ _ _ _ _ hP hS (lv_sub hl [1, 2, 3, 0] rfl) h
            · replace h := (if_neg q14).symm.trans h
              refine j_ldc (n := (-1000000004)) hx hb hown (hts (.constant RX8 62 (-1000000004)) (by decide +kernel)) (by decide) dX8_pick_61 ?_
              obtain ⟨e0, e1⟩ := Prod.mk.inj (Option.some.inj h)
              subst e1
              exact j_retI hx hb hK hP hS hr hlk e0 dX8_pick_63
          · replace h := (if_neg q13).symm.trans h
            refine j_ldc (n := (-1000000003)) hx hb hown (hts (.constant RX8 185 (-1000000003)) (by decide +kernel)) (by decide) dX8_pick_45 ?_
            obtain ⟨e0, e1⟩ := Prod.mk.inj (Option.some.inj h)
            subst e1
            exact j_retI hx hb hK hP hS hr hlk e0 dX8_pick_47
      · replace h := (if_neg q6).symm.trans h
        refine j_ldc (n := (-1000000002)) hx hb hown (hts (.constant RX8 57 (-1000000002)) (by decide +kernel)) (by decide) dX8_pick_22 ?_
        obtain ⟨e0, e1⟩ := Prod.mk.inj (Option.some.inj h)
        subst e1
        exact j_retI hx hb hK hP hS hr hlk e0 dX8_pick_24
def fX8_plain_l30 (N : Nat) (y1 : Int) (y2 : Int) : Nat → Int → Int → Option (Int)
  | 0, _, _ => none
  | n5 + 1, x3_6, x5_7 =>
    if wr y1 ≤ wr x5_7 then (some x3_6) else ((fX8_plain_l30 N y1 y2 n5) (dvL (x3_6 * (wr y2)) 100) (x5_7 + 1))
def fX8_plain (N : Nat) (y1 : Int) (y2 : Int) (μ : Mm) : Option (Int) :=
    if wr y1 < 0 then (some (-1000000002)) else (if 60 < wr y1 then (some (-1000000002)) else (if wr y2 < 0 then (some (-1000000002)) else (if wr y2 ≤ 100 then (fX8_plain_l30 N y1 y2 N 1000000000 0) else (some (-1000000002)))))
abbrev rmX8_plain : Room := { frames := 0, cells := 0, slots := 0, locals := 0 }
set_option maxHeartbeats 4000000 in
set_option maxRecDepth 100000 in
theorem m_X8_plain (l : Launch) (D : va_G) (b : Nat) (cs : CS) (N : Nat) {μ : Mm} {y1 y2 : Int} {r : Int} (h : fX8_plain N y1 y2 μ = some r) : MI l yX8_plain wsX8_plain rmX8_plain D b cs [jR b 0, jI y1, jI y2] μ μ r := by
  refine met_in (cc := cX8_plain) (maxL := 6) (ret := some .int) (lv0 := [(0, jR b 0), (1, jI y1), (2, jI y2)]) (by decide +kernel) rfl (Nat.le_of_ble_eq_true rfl) rfl ?_
  intro p e s m args below meth c hx hb hr hlk hml hown hts hP hK ls hl
  have hown : s.vm.findClass RX8 = some m.cls := hown
  have hS : va_S (bA b) s.heap s.heap [] := va_S.rf
  unfold fX8_plain at h
  refine j_iload_n hx hb dX8_plain_0 rfl (lv_at hl 1 rfl) ?_
  refine j_if_lt (A := wr y1) (tgt := 20) hx hb rfl dX8_plain_1 (by decide) (fun q1 => ?_) (fun q1 => ?_)
  · replace h := (if_pos q1).symm.trans h
    refine j_ldc (n := (-1000000002)) hx hb hown (hts (.constant RX8 57 (-1000000002)) (by decide +kernel)) (by decide) dX8_plain_20 ?_
    exact j_retI hx hb hK hP hS hr hlk (Option.some.inj h) dX8_plain_22
  · replace h := (if_neg q1).symm.trans h
    refine j_iload_n hx hb dX8_plain_4 rfl (lv_at hl 1 rfl) ?_
    refine j_bipush hx hb dX8_plain_5 (by decide) ?_
    refine j_icmp_gt (A := wr y1) (B := 60) (tgt := 20) hx hb rfl (by decide) dX8_plain_7 (by decide) (fun q2 => ?_) (fun q2 => ?_)
    · replace h := (if_pos q2).symm.trans h
      refine j_ldc (n := (-1000000002)) hx hb hown (hts (.constant RX8 57 (-1000000002)) (by decide +kernel)) (by decide) dX8_plain_20 ?_
      exact j_retI hx hb hK hP hS hr hlk (Option.some.inj h) dX8_plain_22
    · replace h := (if_neg q2).symm.trans h
      refine j_iload_n hx hb dX8_plain_10 rfl (lv_at hl 2 rfl) ?_
      refine j_if_lt (A := wr y2) (tgt := 20) hx hb rfl dX8_plain_11 (by decide) (fun q3 => ?_) (fun q3 => ?_)
      · replace h := (if_pos q3).symm.trans h
        refine j_ldc (n := (-1000000002)) hx hb hown (hts (.constant RX8 57 (-1000000002)) (by decide +kernel)) (by decide) dX8_plain_20 ?_
        exact j_retI hx hb hK hP hS hr hlk (Option.some.inj h) dX8_plain_22
      · replace h := (if_neg q3).symm.trans h
        refine j_iload_n hx hb dX8_plain_14 rfl (lv_at hl 2 rfl) ?_
        refine j_bipush hx hb dX8_plain_15 (by decide) ?_
        refine j_icmp_le (A := wr y2) (B := 100) (tgt := 23) hx hb rfl (by decide) dX8_plain_17 (by decide) (fun q4 => ?_) (fun q4 => ?_)
        · replace h := (if_pos q4).symm.trans h
          refine j_ldc2 (n := 1000000000) hx hb hown (hts (.constantLong RX8 265 (1000000000)) (by decide +kernel)) (by decide) dX8_plain_23 ?_
          refine j_lstore_n (lv2 := [(3, jL 1000000000), (0, jR b 0), (1, jI y1), (2, jI y2)]) hx hb dX8_plain_26 rfl hl (by decide) rfl (fun ls hl => ?_)
          refine j_iconst hx hb dX8_plain_27 ?_
          refine j_istore (lv2 := [(5, jI 0), (3, jL 1000000000), (0, jR b 0), (1, jI y1), (2, jI y2)]) hx hb dX8_plain_28 hl (by decide) rfl (fun ls hl => ?_)
          have hl30_5 : ∀ (n0 : Nat) (x3_6 : Int) (x5_7 : Int) (H : Heap) (locs : List Loc) (ls : Array Slot), va_P D vwCl (wl b cs μ) H → va_S (bA b) s.heap H locs → lv_has ls 6 [(1, jI y1), (2, jI y2), (3, jL x3_6), (5, jI x5_7)] → fX8_plain_l30 N y1 y2 n0 x3_6 x5_7 = some r → W p l e rmX8_plain s m args below meth c H locs 0 0 (MQ below (QI D b cs μ r) args s 0 0 (bA b)) (F0 m 30 ls []) := by
            intro n0
            induction n0 with
            | zero => intro x3_6 x5_7 H locs ls hP hS hl h; rw [fX8_plain_l30] at h; cases h
            | succ n5 ih30_5 =>
              intro x3_6 x5_7 H locs ls hP hS hl h
              rw [fX8_plain_l30] at h
              refine j_iload hx hb dX8_plain_30 (lv_at hl 3 rfl) ?_
              refine j_iload_n hx hb dX8_plain_32 rfl (lv_at hl 0 rfl) ?_
              refine j_icmp_ge (A := wr x5_7) (B := wr y1) (tgt := 51) hx hb rfl rfl dX8_plain_33 (by decide) (fun q8 => ?_) (fun q8 => ?_)
              · replace h := (if_pos q8).symm.trans h
                refine j_lload_n hx hb dX8_plain_51 rfl (lv_at hl 2 rfl) ?_
                refine j_l2i hx hb dX8_plain_52 ?_
                exact j_retI hx hb hK hP hS hr hlk (Option.some.inj h) dX8_plain_53
              · replace h := (if_neg q8).symm.trans h
                refine j_lload_n hx hb dX8_plain_36 rfl (lv_at hl 2 rfl) ?_
                refine j_iload_n hx hb dX8_plain_37 rfl (lv_at hl 1 rfl) ?_
                refine j_i2l hx hb dX8_plain_38 ?_
                refine j_lmul hx hb dX8_plain_39 ?_
                refine j_ldc2 (n := 100) hx hb hown (hts (.constantLong RX8 267 (100)) (by decide +kernel)) (by decide) dX8_plain_40 ?_
                refine j_ldiv hx hb dX8_plain_43 (by decide) ?_
                refine j_lstore_n (lv2 := [(3, jL (dvL (x3_6 * (wr y2)) 100)), (1, jI y1), (2, jI y2), (5, jI x5_7)]) hx hb dX8_plain_44 rfl hl (by decide) rfl (fun ls hl => ?_)
                refine j_iinc (k := 3) (lv2 := [(5, jI (x5_7 + 1)), (3, jL (dvL (x3_6 * (wr y2)) 100)), (1, jI y1), (2, jI y2)]) hx hb dX8_plain_45 hl rfl (by decide) rfl (fun ls hl => ?_)
                refine j_goto (tgt := 30) hx hb dX8_plain_48 (by decide) ?_
                exact ih30_5 _ _ _ _ _ hP hS (lv_sub hl [2, 3, 1, 0] rfl) h
          exact hl30_5 N _ _ _ _ _ hP hS (lv_sub hl [3, 4, 1, 0] rfl) h
        · replace h := (if_neg q4).symm.trans h
          refine j_ldc (n := (-1000000002)) hx hb hown (hts (.constant RX8 57 (-1000000002)) (by decide +kernel)) (by decide) dX8_plain_20 ?_
          exact j_retI hx hb hK hP hS hr hlk (Option.some.inj h) dX8_plain_22
def fX8_repeat (N : Nat) (μ : Mm) : Option (Int) :=
    gd (decide (kd ((gI μ 0 6).toNat) = 4)) (Option.bind (fX5_isMade N ((gI μ 0 6).toNat) μ) (fun v3 => if wr v3 = 0 then (some (-1000000003)) else (Option.bind (fX5_isSameAfter N ((gI μ 0 6).toNat) 1 μ) (fun v6 => if wr v6 = 0 then (Option.bind (fX5_isSameAfter N ((gI μ 0 6).toNat) 2 μ) (fun v9 => if wr v9 = 0 then (some 4) else (some 2))) else (some 1)))))
abbrev rmX8_repeat : Room := { frames := 3, cells := 0, slots := 0, locals := 66 }
set_option maxHeartbeats 4000000 in
set_option maxRecDepth 100000 in
theorem m_X8_repeat (l : Launch) (D : va_G) (b : Nat) (cs : CS) (N : Nat) {μ : Mm} {r : Int} (h : fX8_repeat N μ = some r) : MI l yX8_repeat wsX8_repeat rmX8_repeat D b cs [jR b 0] μ μ r := by
  refine met_in (cc := cX8_repeat) (maxL := 1) (ret := some .int) (lv0 := [(0, jR b 0)]) (by decide +kernel) rfl (Nat.le_of_ble_eq_true rfl) rfl ?_
  intro p e s m args below meth c hx hb hr hlk hml hown hts hP hK ls hl
  have hown : s.vm.findClass RX8 = some m.cls := hown
  have hS : va_S (bA b) s.heap s.heap [] := va_S.rf
  have hinX8 : ∀ w ∈ u_ws RX8 TX8 9, w ∈ wsX8_repeat := by decide +kernel
  unfold fX8_repeat at h
  refine j_aload_n hx hb dX8_repeat_0 rfl (lv_at hl 0 rfl) ?_
  refine j_get (v := jR b ((gI μ 0 6).toNat)) hx hb hts hinX8 hown hK hP kz_0 (by decide) rfl 6 (by decide) (hts (.fieldLink RX8 49 "CardBand" "threading" "LCardBand$Threading;") (by decide +kernel)) rfl rfl dX8_repeat_1 ?_
  obtain ⟨g1, h⟩ := ob_g h
  replace g1 := of_decide_eq_true g1
  obtain ⟨v3, e2, h⟩ := ob_I h
  refine jc_VI (As := []) (rest := []) ⟨hx, hb, hml, hown, hts⟩ hK hP hS (m_X5_isMade l D b cs N g1 e2) (cwV 0 hts gX8_repeat_X5_isMade rfl rfl rfl (by decide +kernel) ⟨Nat.le_of_ble_eq_true rfl, Nat.le_of_ble_eq_true rfl⟩) g1 (by decide) rfl rfl hl.1 rfl (Nat.le_of_ble_eq_true rfl) dX8_repeat_4 ⟨Nat.zero_le _, Nat.zero_le _⟩ (fun H locs hP hS => ?_)
  refine j_if_ne (A := wr v3) (tgt := 13) hx hb rfl dX8_repeat_7 (by decide) (fun q4 => ?_) (fun q4 => ?_)
  · replace h := (if_neg q4).symm.trans h
    refine j_aload_n hx hb dX8_repeat_13 rfl (lv_at hl 0 rfl) ?_
    refine j_get (v := jR b ((gI μ 0 6).toNat)) hx hb hts hinX8 hown hK hP kz_0 (by decide) rfl 6 (by decide) (hts (.fieldLink RX8 49 "CardBand" "threading" "LCardBand$Threading;") (by decide +kernel)) rfl rfl dX8_repeat_14 ?_
    refine j_iconst hx hb dX8_repeat_17 ?_
    obtain ⟨v6, e5, h⟩ := ob_I h
    refine jc_VI (As := [jI 1]) (rest := []) ⟨hx, hb, hml, hown, hts⟩ hK hP hS (m_X5_isSameAfter l D b cs N g1 e5) (cwV 1 hts gX8_repeat_X5_isSameAfter rfl rfl rfl (by decide +kernel) ⟨Nat.le_of_ble_eq_true rfl, Nat.le_of_ble_eq_true rfl⟩) g1 (by decide) rfl rfl hl.1 rfl (Nat.le_of_ble_eq_true rfl) dX8_repeat_18 ⟨Nat.zero_le _, Nat.zero_le _⟩ (fun H locs hP hS => ?_)
    refine j_if_eq (A := wr v6) (tgt := 26) hx hb rfl dX8_repeat_21 (by decide) (fun q7 => ?_) (fun q7 => ?_)
    · replace h := (if_pos q7).symm.trans h
      refine j_aload_n hx hb dX8_repeat_26 rfl (lv_at hl 0 rfl) ?_
      refine j_get (v := jR b ((gI μ 0 6).toNat)) hx hb hts hinX8 hown hK hP kz_0 (by decide) rfl 6 (by decide) (hts (.fieldLink RX8 49 "CardBand" "threading" "LCardBand$Threading;") (by decide +kernel)) rfl rfl dX8_repeat_27 ?_
      refine j_iconst hx hb dX8_repeat_30 ?_
      obtain ⟨v9, e8, h⟩ := ob_I h
      refine jc_VI (As := [jI 2]) (rest := []) ⟨hx, hb, hml, hown, hts⟩ hK hP hS (m_X5_isSameAfter l D b cs N g1 e8) (cwV 1 hts gX8_repeat_X5_isSameAfter rfl rfl rfl (by decide +kernel) ⟨Nat.le_of_ble_eq_true rfl, Nat.le_of_ble_eq_true rfl⟩) g1 (by decide) rfl rfl hl.1 rfl (Nat.le_of_ble_eq_true rfl) dX8_repeat_31 ⟨Nat.zero_le _, Nat.zero_le _⟩ (fun H locs hP hS => ?_)
      refine j_if_eq (A := wr v9) (tgt := 41) hx hb rfl dX8_repeat_34 (by decide) (fun q10 => ?_) (fun q10 => ?_)
      · replace h := (if_pos q10).symm.trans h
        refine j_iconst hx hb dX8_repeat_41 ?_
        exact j_retI hx hb hK hP hS hr hlk (Option.some.inj h) dX8_repeat_42
      · replace h := (if_neg q10).symm.trans h
        refine j_iconst hx hb dX8_repeat_37 ?_
        refine j_goto (tgt := 42) hx hb dX8_repeat_38 (by decide) ?_
        exact j_retI hx hb hK hP hS hr hlk (Option.some.inj h) dX8_repeat_42
    · replace h := (if_neg q7).symm.trans h
      refine j_iconst hx hb dX8_repeat_24 ?_
      exact j_retI hx hb hK hP hS hr hlk (Option.some.inj h) dX8_repeat_25
  · replace h := (if_pos q4).symm.trans h
    refine j_ldc (n := (-1000000003)) hx hb hown (hts (.constant RX8 185 (-1000000003)) (by decide +kernel)) (by decide) dX8_repeat_10 ?_
    exact j_retI hx hb hK hP hS hr hlk (Option.some.inj h) dX8_repeat_12
def fX8_row (N : Nat) (y1 : Int) (y2 : Int) (μ : Mm) : Option (Int) :=
    gd (decide (kd ((gI μ 0 6).toNat) = 4)) (Option.bind (fX5_hasCard N ((gI μ 0 6).toNat) y2 μ) (fun v3 => if wr v3 = 0 then (some (-1000000001)) else (Option.bind (fX7_showedAt N 3 y1 y2 μ) (fun v6 => some v6))))
abbrev rmX8_row : Room := { frames := 3, cells := 0, slots := 0, locals := 64 }
set_option maxHeartbeats 4000000 in
set_option maxRecDepth 100000 in
theorem m_X8_row (l : Launch) (D : va_G) (b : Nat) (cs : CS) (N : Nat) {μ : Mm} {y1 y2 : Int} {r : Int} (h : fX8_row N y1 y2 μ = some r) : MI l yX8_row wsX8_row rmX8_row D b cs [jR b 0, jI y1, jI y2] μ μ r := by
  refine met_in (cc := cX8_row) (maxL := 3) (ret := some .int) (lv0 := [(0, jR b 0), (1, jI y1), (2, jI y2)]) (by decide +kernel) rfl (Nat.le_of_ble_eq_true rfl) rfl ?_
  intro p e s m args below meth c hx hb hr hlk hml hown hts hP hK ls hl
  have hown : s.vm.findClass RX8 = some m.cls := hown
  have hS : va_S (bA b) s.heap s.heap [] := va_S.rf
  have hinX8 : ∀ w ∈ u_ws RX8 TX8 9, w ∈ wsX8_row := by decide +kernel
  unfold fX8_row at h
  refine j_aload_n hx hb dX8_row_0 rfl (lv_at hl 0 rfl) ?_
  refine j_get (v := jR b ((gI μ 0 6).toNat)) hx hb hts hinX8 hown hK hP kz_0 (by decide) rfl 6 (by decide) (hts (.fieldLink RX8 49 "CardBand" "threading" "LCardBand$Threading;") (by decide +kernel)) rfl rfl dX8_row_1 ?_
  refine j_iload_n hx hb dX8_row_4 rfl (lv_at hl 2 rfl) ?_
  obtain ⟨g1, h⟩ := ob_g h
  replace g1 := of_decide_eq_true g1
  obtain ⟨v3, e2, h⟩ := ob_I h
  refine jc_VI (As := [jI y2]) (rest := []) ⟨hx, hb, hml, hown, hts⟩ hK hP hS (m_X5_hasCard l D b cs N g1 e2) (cwV 1 hts gX8_row_X5_hasCard rfl rfl rfl (by decide +kernel) ⟨Nat.le_of_ble_eq_true rfl, Nat.le_of_ble_eq_true rfl⟩) g1 (by decide) rfl rfl hl.1 rfl (Nat.le_of_ble_eq_true rfl) dX8_row_5 ⟨Nat.zero_le _, Nat.zero_le _⟩ (fun H locs hP hS => ?_)
  refine j_if_eq (A := wr v3) (tgt := 23) hx hb rfl dX8_row_8 (by decide) (fun q4 => ?_) (fun q4 => ?_)
  · replace h := (if_pos q4).symm.trans h
    refine j_ldc (n := (-1000000001)) hx hb hown (hts (.constant RX8 136 (-1000000001)) (by decide +kernel)) (by decide) dX8_row_23 ?_
    exact j_retI hx hb hK hP hS hr hlk (Option.some.inj h) dX8_row_25
  · replace h := (if_neg q4).symm.trans h
    refine j_aload_n hx hb dX8_row_11 rfl (lv_at hl 0 rfl) ?_
    refine j_get (v := jR b 3) hx hb hts hinX8 hown hK hP kz_0 (by decide) rfl 1 (by decide) (hts (.fieldLink RX8 19 "CardBand" "weave" "LCardBand$Weave;") (by decide +kernel)) rfl rfl dX8_row_12 ?_
    refine j_iload_n hx hb dX8_row_15 rfl (lv_at hl 1 rfl) ?_
    refine j_iload_n hx hb dX8_row_16 rfl (lv_at hl 2 rfl) ?_
    obtain ⟨v6, e5, h⟩ := ob_I h
    refine jc_VI (As := [jI y1, jI y2]) (rest := []) ⟨hx, hb, hml, hown, hts⟩ hK hP hS (m_X7_showedAt l D b cs N kz_3 e5) (cwV 2 hts gX8_row_X7_showedAt rfl rfl rfl (by decide +kernel) ⟨Nat.le_of_ble_eq_true rfl, Nat.le_of_ble_eq_true rfl⟩) kz_3 (by decide) rfl rfl hl.1 rfl (Nat.le_of_ble_eq_true rfl) dX8_row_17 ⟨Nat.zero_le _, Nat.zero_le _⟩ (fun H locs hP hS => ?_)
    refine j_goto (tgt := 25) hx hb dX8_row_20 (by decide) ?_
    exact j_retI hx hb hK hP hS hr hlk (Option.some.inj h) dX8_row_25
def fX8_see (N : Nat) (y1 : Int) (y2 : Int) (y3 : Int) (μ : Mm) : Option (Int × Mm) :=
    gd (decide (kd ((gI μ 0 6).toNat) = 4)) (Option.bind (fX5_hasCard N ((gI μ 0 6).toNat) y1 μ) (fun v3 => if wr v3 = 0 then (some ((-1000000001), μ)) else (Option.bind (fX5_hasColour N ((gI μ 0 6).toNat) y3 μ) (fun v6 => if wr v6 = 0 then (some ((-1000000001), μ)) else (if wr y2 < 1 then (some ((-1000000002), μ)) else (if wr y2 ≤ 99 then (bP (fX3_addSeen N y1 y2 y3 μ) (fun v11 μ12 => if wr v11 = 0 then (some ((-1000000004), μ12)) else (some ((gI μ12 293 5), μ12)))) else (some ((-1000000002), μ))))))))
abbrev rmX8_see : Room := { frames := 1, cells := 0, slots := 0, locals := 23 }
set_option maxHeartbeats 4000000 in
set_option maxRecDepth 100000 in
theorem m_X8_see (l : Launch) (D : va_G) (b : Nat) (cs : CS) (N : Nat) {μ μ0 : Mm} {y1 y2 y3 : Int} {r : Int} (h : fX8_see N y1 y2 y3 μ = some (r, μ0)) : MI l yX8_see wsX8_see rmX8_see D b cs [jR b 0, jI y1, jI y2, jI y3] μ μ0 r := by
  refine met_in (cc := cX8_see) (maxL := 4) (ret := some .int) (lv0 := [(0, jR b 0), (1, jI y1), (2, jI y2), (3, jI y3)]) (by decide +kernel) rfl (Nat.le_of_ble_eq_true rfl) rfl ?_
  intro p e s m args below meth c hx hb hr hlk hml hown hts hP hK ls hl
  have hown : s.vm.findClass RX8 = some m.cls := hown
  have hS : va_S (bA b) s.heap s.heap [] := va_S.rf
  have hinX3 : ∀ w ∈ u_ws RX3 TX3 7, w ∈ wsX8_see := by decide +kernel
  have hinX8 : ∀ w ∈ u_ws RX8 TX8 9, w ∈ wsX8_see := by decide +kernel
  unfold fX8_see at h
  refine j_aload_n hx hb dX8_see_0 rfl (lv_at hl 0 rfl) ?_
  refine j_get (v := jR b ((gI μ 0 6).toNat)) hx hb hts hinX8 hown hK hP kz_0 (by decide) rfl 6 (by decide) (hts (.fieldLink RX8 49 "CardBand" "threading" "LCardBand$Threading;") (by decide +kernel)) rfl rfl dX8_see_1 ?_
  refine j_iload_n hx hb dX8_see_4 rfl (lv_at hl 1 rfl) ?_
  obtain ⟨g1, h⟩ := ob_g h
  replace g1 := of_decide_eq_true g1
  obtain ⟨v3, e2, h⟩ := ob_I h
  refine jc_VI (As := [jI y1]) (rest := []) ⟨hx, hb, hml, hown, hts⟩ hK hP hS (m_X5_hasCard l D b cs N g1 e2) (cwV 1 hts gX8_see_X5_hasCard rfl rfl rfl (by decide +kernel) ⟨Nat.le_of_ble_eq_true rfl, Nat.le_of_ble_eq_true rfl⟩) g1 (by decide) rfl rfl hl.1 rfl (Nat.le_of_ble_eq_true rfl) dX8_see_5 ⟨Nat.zero_le _, Nat.zero_le _⟩ (fun H locs hP hS => ?_)
  refine j_if_eq (A := wr v3) (tgt := 22) hx hb rfl dX8_see_8 (by decide) (fun q4 => ?_) (fun q4 => ?_)
  · replace h := (if_pos q4).symm.trans h
    refine j_ldc (n := (-1000000001)) hx hb hown (hts (.constant RX8 136 (-1000000001)) (by decide +kernel)) (by decide) dX8_see_22 ?_
    obtain ⟨e0, e1⟩ := Prod.mk.inj (Option.some.inj h)
    subst e1
    exact j_retI hx hb hK hP hS hr hlk e0 dX8_see_24
  · replace h := (if_neg q4).symm.trans h
    refine j_aload_n hx hb dX8_see_11 rfl (lv_at hl 0 rfl) ?_
    refine j_get (v := jR b ((gI μ 0 6).toNat)) hx hb hts hinX8 hown hK hP kz_0 (by decide) rfl 6 (by decide) (hts (.fieldLink RX8 49 "CardBand" "threading" "LCardBand$Threading;") (by decide +kernel)) rfl rfl dX8_see_12 ?_
    refine j_iload_n hx hb dX8_see_15 rfl (lv_at hl 3 rfl) ?_
    obtain ⟨v6, e5, h⟩ := ob_I h
    refine jc_VI (As := [jI y3]) (rest := []) ⟨hx, hb, hml, hown, hts⟩ hK hP hS (m_X5_hasColour l D b cs N g1 e5) (cwV 1 hts gX8_see_X5_hasColour rfl rfl rfl (by decide +kernel) ⟨Nat.le_of_ble_eq_true rfl, Nat.le_of_ble_eq_true rfl⟩) g1 (by decide) rfl rfl hl.1 rfl (Nat.le_of_ble_eq_true rfl) dX8_see_16 ⟨Nat.zero_le _, Nat.zero_le _⟩ (fun H locs hP hS => ?_)
    refine j_if_ne (A := wr v6) (tgt := 25) hx hb rfl dX8_see_19 (by decide) (fun q7 => ?_) (fun q7 => ?_)
    · replace h := (if_neg q7).symm.trans h
      refine j_iload_n hx hb dX8_see_25 rfl (lv_at hl 2 rfl) ?_
      refine j_iconst hx hb dX8_see_26 ?_
      refine j_icmp_lt (A := wr y2) (B := 1) (tgt := 36) hx hb rfl (by decide) dX8_see_27 (by decide) (fun q8 => ?_) (fun q8 => ?_)
      · replace h := (if_pos q8).symm.trans h
        refine j_ldc (n := (-1000000002)) hx hb hown (hts (.constant RX8 57 (-1000000002)) (by decide +kernel)) (by decide) dX8_see_36 ?_
        obtain ⟨e0, e1⟩ := Prod.mk.inj (Option.some.inj h)
        subst e1
        exact j_retI hx hb hK hP hS hr hlk e0 dX8_see_38
      · replace h := (if_neg q8).symm.trans h
        refine j_iload_n hx hb dX8_see_30 rfl (lv_at hl 2 rfl) ?_
        refine j_bipush hx hb dX8_see_31 (by decide) ?_
        refine j_icmp_le (A := wr y2) (B := 99) (tgt := 39) hx hb rfl (by decide) dX8_see_33 (by decide) (fun q9 => ?_) (fun q9 => ?_)
        · replace h := (if_pos q9).symm.trans h
          refine j_aload_n hx hb dX8_see_39 rfl (lv_at hl 0 rfl) ?_
          refine j_get (v := jR b 293) hx hb hts hinX8 hown hK hP kz_0 (by decide) rfl 4 (by decide) (hts (.fieldLink RX8 36 "CardBand" "notes" "LCardBand$Notes;") (by decide +kernel)) rfl rfl dX8_see_40 ?_
          refine j_iload_n hx hb dX8_see_43 rfl (lv_at hl 1 rfl) ?_
          refine j_iload_n hx hb dX8_see_44 rfl (lv_at hl 2 rfl) ?_
          refine j_iload_n hx hb dX8_see_45 rfl (lv_at hl 3 rfl) ?_
          obtain ⟨v11, μ12, e10, h⟩ := ob_P h
          refine jc_VI (As := [jI y1, jI y2, jI y3]) (rest := []) ⟨hx, hb, hml, hown, hts⟩ hK hP hS (m_X3_addSeen l D b cs N e10) (cwV 3 hts gX8_see_X3_addSeen rfl rfl rfl (by decide +kernel) ⟨Nat.le_of_ble_eq_true rfl, Nat.le_of_ble_eq_true rfl⟩) kz_293 (by decide) rfl rfl hl.1 rfl (Nat.le_of_ble_eq_true rfl) dX8_see_46 ⟨Nat.zero_le _, Nat.zero_le _⟩ (fun H locs hP hS => ?_)
          refine j_if_eq (A := wr v11) (tgt := 62) hx hb rfl dX8_see_49 (by decide) (fun q13 => ?_) (fun q13 => ?_)
          · replace h := (if_pos q13).symm.trans h
            refine j_ldc (n := (-1000000004)) hx hb hown (hts (.constant RX8 62 (-1000000004)) (by decide +kernel)) (by decide) dX8_see_62 ?_
            obtain ⟨e0, e1⟩ := Prod.mk.inj (Option.some.inj h)
            subst e1
            exact j_retI hx hb hK hP hS hr hlk e0 dX8_see_64
          · replace h := (if_neg q13).symm.trans h
            refine j_aload_n hx hb dX8_see_52 rfl (lv_at hl 0 rfl) ?_
            refine j_get (v := jR b 293) hx hb hts hinX8 hown hK hP kz_0 (by decide) rfl 4 (by decide) (hts (.fieldLink RX8 36 "CardBand" "notes" "LCardBand$Notes;") (by decide +kernel)) rfl rfl dX8_see_53 ?_
            refine j_get (v := jI (gI μ12 293 5)) hx hb hts hinX3 hown hK hP kz_293 (by decide) rfl 5 (by decide) (hts (.fieldLink RX8 124 "CardBand$Notes" "seenCount" "I") (by decide +kernel)) rfl (by rw [jI_g]; rfl) dX8_see_56 ?_
            refine j_goto (tgt := 64) hx hb dX8_see_59 (by decide) ?_
            obtain ⟨e0, e1⟩ := Prod.mk.inj (Option.some.inj h)
            subst e1
            exact j_retI hx hb hK hP hS hr hlk e0 dX8_see_64
        · replace h := (if_neg q9).symm.trans h
          refine j_ldc (n := (-1000000002)) hx hb hown (hts (.constant RX8 57 (-1000000002)) (by decide +kernel)) (by decide) dX8_see_36 ?_
          obtain ⟨e0, e1⟩ := Prod.mk.inj (Option.some.inj h)
          subst e1
          exact j_retI hx hb hK hP hS hr hlk e0 dX8_see_38
    · replace h := (if_pos q7).symm.trans h
      refine j_ldc (n := (-1000000001)) hx hb hown (hts (.constant RX8 136 (-1000000001)) (by decide +kernel)) (by decide) dX8_see_22 ?_
      obtain ⟨e0, e1⟩ := Prod.mk.inj (Option.some.inj h)
      subst e1
      exact j_retI hx hb hK hP hS hr hlk e0 dX8_see_24
def fX8_seed (N : Nat) (y1 : Int) (μ : Mm) : Option (Int × Mm) :=
    if 0 ≤ wr y1 then (gd (decide (-2147483648 ≤ (wr y1) ∧ (wr y1) < 2147483648)) (Option.bind (some (pI μ 0 8 (wr y1))) (fun μ3 => some ((gI μ 0 8), μ3)))) else (some ((-1000000002), μ))
abbrev rmX8_seed : Room := { frames := 0, cells := 0, slots := 0, locals := 0 }
set_option maxHeartbeats 4000000 in
set_option maxRecDepth 100000 in
theorem m_X8_seed (l : Launch) (D : va_G) (b : Nat) (cs : CS) (N : Nat) {μ μ0 : Mm} {y1 : Int} {r : Int} (h : fX8_seed N y1 μ = some (r, μ0)) : MI l yX8_seed wsX8_seed rmX8_seed D b cs [jR b 0, jI y1] μ μ0 r := by
  refine met_in (cc := cX8_seed) (maxL := 3) (ret := some .int) (lv0 := [(0, jR b 0), (1, jI y1)]) (by decide +kernel) rfl (Nat.le_of_ble_eq_true rfl) rfl ?_
  intro p e s m args below meth c hx hb hr hlk hml hown hts hP hK ls hl
  have hown : s.vm.findClass RX8 = some m.cls := hown
  have hS : va_S (bA b) s.heap s.heap [] := va_S.rf
  have hinX8 : ∀ w ∈ u_ws RX8 TX8 9, w ∈ wsX8_seed := by decide +kernel
  unfold fX8_seed at h
  refine j_iload_n hx hb dX8_seed_0 rfl (lv_at hl 1 rfl) ?_
  refine j_if_ge (A := wr y1) (tgt := 7) hx hb rfl dX8_seed_1 (by decide) (fun q1 => ?_) (fun q1 => ?_)
  · replace h := (if_pos q1).symm.trans h
    refine j_aload_n hx hb dX8_seed_7 rfl (lv_at hl 0 rfl) ?_
    refine j_get (v := jL (gI μ 0 8)) hx hb hts hinX8 hown hK hP kz_0 (by decide) rfl 8 (by decide) (hts (.fieldLink RX8 287 "CardBand" "drawn" "J") (by decide +kernel)) rfl (by rw [jL_g]; rfl) dX8_seed_8 ?_
    refine j_l2i hx hb dX8_seed_11 ?_
    refine j_istore_n (lv2 := [(2, jI (gI μ 0 8)), (0, jR b 0), (1, jI y1)]) hx hb dX8_seed_12 rfl hl (by decide) rfl (fun ls hl => ?_)
    refine j_aload_n hx hb dX8_seed_13 rfl (lv_at hl 1 rfl) ?_
    refine j_iload_n hx hb dX8_seed_14 rfl (lv_at hl 2 rfl) ?_
    refine j_i2l hx hb dX8_seed_15 ?_
    obtain ⟨g2, h⟩ := ob_g h
    replace g2 := of_decide_eq_true g2
    obtain ⟨μ3, e4, h⟩ := ob_I h
    refine j_put (ty := .long) (z := (wr y1)) hx hb hts hinX8 tyX8 tyX8_ok nmX8 hown hK hP hS kz_0 (by decide) rfl 8 (by decide) (hts (.fieldLink RX8 287 "CardBand" "drawn" "J") (by decide +kernel)) rfl rfl (by decide +kernel) rfl rfl (by simp [flds]) (set_J6 g2) dX8_seed_16 (Option.some.inj e4) (fun H locs hP hS => ?_)
    refine j_iload_n hx hb dX8_seed_19 rfl (lv_at hl 0 rfl) ?_
    obtain ⟨e0, e1⟩ := Prod.mk.inj (Option.some.inj h)
    subst e1
    exact j_retI hx hb hK hP hS hr hlk e0 dX8_seed_20
  · replace h := (if_neg q1).symm.trans h
    refine j_ldc (n := (-1000000002)) hx hb hown (hts (.constant RX8 57 (-1000000002)) (by decide +kernel)) (by decide) dX8_seed_4 ?_
    obtain ⟨e0, e1⟩ := Prod.mk.inj (Option.some.inj h)
    subst e1
    exact j_retI hx hb hK hP hS hr hlk e0 dX8_seed_6
def fX8_share (N : Nat) (y1 : Int) (y2 : Int) (μ : Mm) : Option (Int) :=
    if wr y2 = (-1) then (if wr y1 < 0 then (some (-1000000002)) else (if wr y1 ≤ 999 then (if wr y2 = (-1) then (gd (decide (kd ((gI μ 0 6).toNat) = 4)) (Option.bind (fX5_countLeftOver N ((gI μ 0 6).toNat) y1 μ) (fun v10 => some v10))) else (gd (decide (kd ((gI μ 0 6).toNat) = 4)) (Option.bind (fX5_shareOf N ((gI μ 0 6).toNat) y1 y2 μ) (fun v7 => some v7)))) else (some (-1000000002)))) else (gd (decide (kd ((gI μ 0 6).toNat) = 4)) (Option.bind (fX5_hasColour N ((gI μ 0 6).toNat) y2 μ) (fun v13 => if wr v13 = 0 then (some (-1000000001)) else (if wr y1 < 0 then (some (-1000000002)) else (if wr y1 ≤ 999 then (if wr y2 = (-1) then (Option.bind (fX5_countLeftOver N ((gI μ 0 6).toNat) y1 μ) (fun v21 => some v21)) else (Option.bind (fX5_shareOf N ((gI μ 0 6).toNat) y1 y2 μ) (fun v19 => some v19))) else (some (-1000000002)))))))
abbrev rmX8_share : Room := { frames := 2, cells := 0, slots := 0, locals := 47 }
set_option maxHeartbeats 4000000 in
set_option maxRecDepth 100000 in
theorem m_X8_share (l : Launch) (D : va_G) (b : Nat) (cs : CS) (N : Nat) {μ : Mm} {y1 y2 : Int} {r : Int} (h : fX8_share N y1 y2 μ = some r) : MI l yX8_share wsX8_share rmX8_share D b cs [jR b 0, jI y1, jI y2] μ μ r := by
  refine met_in (cc := cX8_share) (maxL := 3) (ret := some .int) (lv0 := [(0, jR b 0), (1, jI y1), (2, jI y2)]) (by decide +kernel) rfl (Nat.le_of_ble_eq_true rfl) rfl ?_
  intro p e s m args below meth c hx hb hr hlk hml hown hts hP hK ls hl
  have hown : s.vm.findClass RX8 = some m.cls := hown
  have hS : va_S (bA b) s.heap s.heap [] := va_S.rf
  have hinX8 : ∀ w ∈ u_ws RX8 TX8 9, w ∈ wsX8_share := by decide +kernel
  unfold fX8_share at h
  refine j_iload_n hx hb dX8_share_0 rfl (lv_at hl 2 rfl) ?_
  refine j_iconst hx hb dX8_share_1 ?_
  refine j_icmp_eq (A := wr y2) (B := (-1)) (tgt := 19) hx hb rfl (by decide) dX8_share_2 (by decide) (fun q1 => ?_) (fun q1 => ?_)
  · replace h := (if_pos q1).symm.trans h
    refine j_iload_n hx hb dX8_share_19 rfl (lv_at hl 1 rfl) ?_
    refine j_if_lt (A := wr y1) (tgt := 30) hx hb rfl dX8_share_20 (by decide) (fun q2 => ?_) (fun q2 => ?_)
    · replace h := (if_pos q2).symm.trans h
      refine j_ldc (n := (-1000000002)) hx hb hown (hts (.constant RX8 57 (-1000000002)) (by decide +kernel)) (by decide) dX8_share_30 ?_
      exact j_retI hx hb hK hP hS hr hlk (Option.some.inj h) dX8_share_32
    · replace h := (if_neg q2).symm.trans h
      refine j_iload_n hx hb dX8_share_23 rfl (lv_at hl 1 rfl) ?_
      refine j_sipush hx hb dX8_share_24 (by decide) ?_
      refine j_icmp_le (A := wr y1) (B := 999) (tgt := 33) hx hb rfl (by decide) dX8_share_27 (by decide) (fun q3 => ?_) (fun q3 => ?_)
      · replace h := (if_pos q3).symm.trans h
        refine j_iload_n hx hb dX8_share_33 rfl (lv_at hl 2 rfl) ?_
        refine j_iconst hx hb dX8_share_34 ?_
        refine j_icmp_ne (A := wr y2) (B := (-1)) (tgt := 49) hx hb rfl (by decide) dX8_share_35 (by decide) (fun q4 => ?_) (fun q4 => ?_)
        · replace h := (if_neg q4).symm.trans h
          refine j_aload_n hx hb dX8_share_49 rfl (lv_at hl 0 rfl) ?_
          refine j_get (v := jR b ((gI μ 0 6).toNat)) hx hb hts hinX8 hown hK hP kz_0 (by decide) rfl 6 (by decide) (hts (.fieldLink RX8 49 "CardBand" "threading" "LCardBand$Threading;") (by decide +kernel)) rfl rfl dX8_share_50 ?_
          refine j_iload_n hx hb dX8_share_53 rfl (lv_at hl 1 rfl) ?_
          refine j_iload_n hx hb dX8_share_54 rfl (lv_at hl 2 rfl) ?_
          obtain ⟨g5, h⟩ := ob_g h
          replace g5 := of_decide_eq_true g5
          obtain ⟨v7, e6, h⟩ := ob_I h
          refine jc_VI (As := [jI y1, jI y2]) (rest := []) ⟨hx, hb, hml, hown, hts⟩ hK hP hS (m_X5_shareOf l D b cs N g5 e6) (cwV 2 hts gX8_share_X5_shareOf rfl rfl rfl (by decide +kernel) ⟨Nat.le_of_ble_eq_true rfl, Nat.le_of_ble_eq_true rfl⟩) g5 (by decide) rfl rfl hl.1 rfl (Nat.le_of_ble_eq_true rfl) dX8_share_55 ⟨Nat.zero_le _, Nat.zero_le _⟩ (fun H locs hP hS => ?_)
          exact j_retI hx hb hK hP hS hr hlk (Option.some.inj h) dX8_share_58
        · replace h := (if_pos q4).symm.trans h
          refine j_aload_n hx hb dX8_share_38 rfl (lv_at hl 0 rfl) ?_
          refine j_get (v := jR b ((gI μ 0 6).toNat)) hx hb hts hinX8 hown hK hP kz_0 (by decide) rfl 6 (by decide) (hts (.fieldLink RX8 49 "CardBand" "threading" "LCardBand$Threading;") (by decide +kernel)) rfl rfl dX8_share_39 ?_
          refine j_iload_n hx hb dX8_share_42 rfl (lv_at hl 1 rfl) ?_
          obtain ⟨g8, h⟩ := ob_g h
          replace g8 := of_decide_eq_true g8
          obtain ⟨v10, e9, h⟩ := ob_I h
          refine jc_VI (As := [jI y1]) (rest := []) ⟨hx, hb, hml, hown, hts⟩ hK hP hS (m_X5_countLeftOver l D b cs N g8 e9) (cwV 1 hts gX8_share_X5_countLeftOver rfl rfl rfl (by decide +kernel) ⟨Nat.le_of_ble_eq_true rfl, Nat.le_of_ble_eq_true rfl⟩) g8 (by decide) rfl rfl hl.1 rfl (Nat.le_of_ble_eq_true rfl) dX8_share_43 ⟨Nat.zero_le _, Nat.zero_le _⟩ (fun H locs hP hS => ?_)
          refine j_goto (tgt := 58) hx hb dX8_share_46 (by decide) ?_
          exact j_retI hx hb hK hP hS hr hlk (Option.some.inj h) dX8_share_58
      · replace h := (if_neg q3).symm.trans h
        refine j_ldc (n := (-1000000002)) hx hb hown (hts (.constant RX8 57 (-1000000002)) (by decide +kernel)) (by decide) dX8_share_30 ?_
        exact j_retI hx hb hK hP hS hr hlk (Option.some.inj h) dX8_share_32
  · replace h := (if_neg q1).symm.trans h
    refine j_aload_n hx hb dX8_share_5 rfl (lv_at hl 0 rfl) ?_
    refine j_get (v := jR b ((gI μ 0 6).toNat)) hx hb hts hinX8 hown hK hP kz_0 (by decide) rfl 6 (by decide) (hts (.fieldLink RX8 49 "CardBand" "threading" "LCardBand$Threading;") (by decide +kernel)) rfl rfl dX8_share_6 ?_
    refine j_iload_n hx hb dX8_share_9 rfl (lv_at hl 2 rfl) ?_
    obtain ⟨g11, h⟩ := ob_g h
    replace g11 := of_decide_eq_true g11
    obtain ⟨v13, e12, h⟩ := ob_I h
    refine jc_VI (As := [jI y2]) (rest := []) ⟨hx, hb, hml, hown, hts⟩ hK hP hS (m_X5_hasColour l D b cs N g11 e12) (cwV 1 hts gX8_share_X5_hasColour rfl rfl rfl (by decide +kernel) ⟨Nat.le_of_ble_eq_true rfl, Nat.le_of_ble_eq_true rfl⟩) g11 (by decide) rfl rfl hl.1 rfl (Nat.le_of_ble_eq_true rfl) dX8_share_10 ⟨Nat.zero_le _, Nat.zero_le _⟩ (fun H locs hP hS => ?_)
    refine j_if_ne (A := wr v13) (tgt := 19) hx hb rfl dX8_share_13 (by decide) (fun q14 => ?_) (fun q14 => ?_)
    · replace h := (if_neg q14).symm.trans h
      refine j_iload_n hx hb dX8_share_19 rfl (lv_at hl 1 rfl) ?_
      refine j_if_lt (A := wr y1) (tgt := 30) hx hb rfl dX8_share_20 (by decide) (fun q15 => ?_) (fun q15 => ?_)
      · replace h := (if_pos q15).symm.trans h
        refine j_ldc (n := (-1000000002)) hx hb hown (hts (.constant RX8 57 (-1000000002)) (by decide +kernel)) (by decide) dX8_share_30 ?_
        exact j_retI hx hb hK hP hS hr hlk (Option.some.inj h) dX8_share_32
      · replace h := (if_neg q15).symm.trans h
        refine j_iload_n hx hb dX8_share_23 rfl (lv_at hl 1 rfl) ?_
        refine j_sipush hx hb dX8_share_24 (by decide) ?_
        refine j_icmp_le (A := wr y1) (B := 999) (tgt := 33) hx hb rfl (by decide) dX8_share_27 (by decide) (fun q16 => ?_) (fun q16 => ?_)
        · replace h := (if_pos q16).symm.trans h
          refine j_iload_n hx hb dX8_share_33 rfl (lv_at hl 2 rfl) ?_
          refine j_iconst hx hb dX8_share_34 ?_
          refine j_icmp_ne (A := wr y2) (B := (-1)) (tgt := 49) hx hb rfl (by decide) dX8_share_35 (by decide) (fun q17 => ?_) (fun q17 => ?_)
          · replace h := (if_neg q17).symm.trans h
            refine j_aload_n hx hb dX8_share_49 rfl (lv_at hl 0 rfl) ?_
            refine j_get (v := jR b ((gI μ 0 6).toNat)) hx hb hts hinX8 hown hK hP kz_0 (by decide) rfl 6 (by decide) (hts (.fieldLink RX8 49 "CardBand" "threading" "LCardBand$Threading;") (by decide +kernel)) rfl rfl dX8_share_50 ?_
            refine j_iload_n hx hb dX8_share_53 rfl (lv_at hl 1 rfl) ?_
            refine j_iload_n hx hb dX8_share_54 rfl (lv_at hl 2 rfl) ?_
            obtain ⟨v19, e18, h⟩ := ob_I h
            refine jc_VI (As := [jI y1, jI y2]) (rest := []) ⟨hx, hb, hml, hown, hts⟩ hK hP hS (m_X5_shareOf l D b cs N g11 e18) (cwV 2 hts gX8_share_X5_shareOf rfl rfl rfl (by decide +kernel) ⟨Nat.le_of_ble_eq_true rfl, Nat.le_of_ble_eq_true rfl⟩) g11 (by decide) rfl rfl hl.1 rfl (Nat.le_of_ble_eq_true rfl) dX8_share_55 ⟨Nat.zero_le _, Nat.zero_le _⟩ (fun H locs hP hS => ?_)
            exact j_retI hx hb hK hP hS hr hlk (Option.some.inj h) dX8_share_58
          · replace h := (if_pos q17).symm.trans h
            refine j_aload_n hx hb dX8_share_38 rfl (lv_at hl 0 rfl) ?_
            refine j_get (v := jR b ((gI μ 0 6).toNat)) hx hb hts hinX8 hown hK hP kz_0 (by decide) rfl 6 (by decide) (hts (.fieldLink RX8 49 "CardBand" "threading" "LCardBand$Threading;") (by decide +kernel)) rfl rfl dX8_share_39 ?_
            refine j_iload_n hx hb dX8_share_42 rfl (lv_at hl 1 rfl) ?_
            obtain ⟨v21, e20, h⟩ := ob_I h
            refine jc_VI (As := [jI y1]) (rest := []) ⟨hx, hb, hml, hown, hts⟩ hK hP hS (m_X5_countLeftOver l D b cs N g11 e20) (cwV 1 hts gX8_share_X5_countLeftOver rfl rfl rfl (by decide +kernel) ⟨Nat.le_of_ble_eq_true rfl, Nat.le_of_ble_eq_true rfl⟩) g11 (by decide) rfl rfl hl.1 rfl (Nat.le_of_ble_eq_true rfl) dX8_share_43 ⟨Nat.zero_le _, Nat.zero_le _⟩ (fun H locs hP hS => ?_)
            refine j_goto (tgt := 58) hx hb dX8_share_46 (by decide) ?_
            exact j_retI hx hb hK hP hS hr hlk (Option.some.inj h) dX8_share_58
        · replace h := (if_neg q16).symm.trans h
          refine j_ldc (n := (-1000000002)) hx hb hown (hts (.constant RX8 57 (-1000000002)) (by decide +kernel)) (by decide) dX8_share_30 ?_
          exact j_retI hx hb hK hP hS hr hlk (Option.some.inj h) dX8_share_32
    · replace h := (if_pos q14).symm.trans h
      refine j_ldc (n := (-1000000001)) hx hb hown (hts (.constant RX8 136 (-1000000001)) (by decide +kernel)) (by decide) dX8_share_16 ?_
      exact j_retI hx hb hK hP hS hr hlk (Option.some.inj h) dX8_share_18
def fX8_shift (N : Nat) (y1 : Int) (y2 : Int) (μ : Mm) : Option (Int × Mm) :=
    gd (decide (kd ((gI μ 0 6).toNat) = 4)) (Option.bind (fX5_hasCard N ((gI μ 0 6).toNat) y1 μ) (fun v3 => if wr v3 = 0 then (some ((-1000000001), μ)) else (if wr y2 < 0 then (some ((-1000000002), μ)) else (if wr y2 < 4 then (Option.bind (fX1_remember N 3 μ) (fun μ8 => Option.bind (ldA μ8 5 8 y1) (fun v9 => Option.bind (stA μ8 5 8 y1 (andI (v9 + y2) 3)) (fun μ11 => Option.bind (ldA μ11 5 8 y1) (fun v13 => some (v13, μ11)))))) else (some ((-1000000002), μ))))))
abbrev rmX8_shift : Room := { frames := 3, cells := 0, slots := 0, locals := 69 }
set_option maxHeartbeats 4000000 in
set_option maxRecDepth 100000 in
theorem m_X8_shift (l : Launch) (D : va_G) (b : Nat) (cs : CS) (N : Nat) {μ μ0 : Mm} {y1 y2 : Int} {r : Int} (h : fX8_shift N y1 y2 μ = some (r, μ0)) : MI l yX8_shift wsX8_shift rmX8_shift D b cs [jR b 0, jI y1, jI y2] μ μ0 r := by
  refine met_in (cc := cX8_shift) (maxL := 3) (ret := some .int) (lv0 := [(0, jR b 0), (1, jI y1), (2, jI y2)]) (by decide +kernel) rfl (Nat.le_of_ble_eq_true rfl) rfl ?_
  intro p e s m args below meth c hx hb hr hlk hml hown hts hP hK ls hl
  have hown : s.vm.findClass RX8 = some m.cls := hown
  have hS : va_S (bA b) s.heap s.heap [] := va_S.rf
  have hinX7 : ∀ w ∈ u_ws RX7 TX7 9, w ∈ wsX8_shift := by decide +kernel
  have hinX8 : ∀ w ∈ u_ws RX8 TX8 9, w ∈ wsX8_shift := by decide +kernel
  unfold fX8_shift at h
  refine j_aload_n hx hb dX8_shift_0 rfl (lv_at hl 0 rfl) ?_
  refine j_get (v := jR b ((gI μ 0 6).toNat)) hx hb hts hinX8 hown hK hP kz_0 (by decide) rfl 6 (by decide) (hts (.fieldLink RX8 49 "CardBand" "threading" "LCardBand$Threading;") (by decide +kernel)) rfl rfl dX8_shift_1 ?_
  refine j_iload_n hx hb dX8_shift_4 rfl (lv_at hl 1 rfl) ?_
  obtain ⟨g1, h⟩ := ob_g h
  replace g1 := of_decide_eq_true g1
  obtain ⟨v3, e2, h⟩ := ob_I h
  refine jc_VI (As := [jI y1]) (rest := []) ⟨hx, hb, hml, hown, hts⟩ hK hP hS (m_X5_hasCard l D b cs N g1 e2) (cwV 1 hts gX8_shift_X5_hasCard rfl rfl rfl (by decide +kernel) ⟨Nat.le_of_ble_eq_true rfl, Nat.le_of_ble_eq_true rfl⟩) g1 (by decide) rfl rfl hl.1 rfl (Nat.le_of_ble_eq_true rfl) dX8_shift_5 ⟨Nat.zero_le _, Nat.zero_le _⟩ (fun H locs hP hS => ?_)
  refine j_if_ne (A := wr v3) (tgt := 14) hx hb rfl dX8_shift_8 (by decide) (fun q4 => ?_) (fun q4 => ?_)
  · replace h := (if_neg q4).symm.trans h
    refine j_iload_n hx hb dX8_shift_14 rfl (lv_at hl 2 rfl) ?_
    refine j_if_lt (A := wr y2) (tgt := 23) hx hb rfl dX8_shift_15 (by decide) (fun q5 => ?_) (fun q5 => ?_)
    · replace h := (if_pos q5).symm.trans h
      refine j_ldc (n := (-1000000002)) hx hb hown (hts (.constant RX8 57 (-1000000002)) (by decide +kernel)) (by decide) dX8_shift_23 ?_
      obtain ⟨e0, e1⟩ := Prod.mk.inj (Option.some.inj h)
      subst e1
      exact j_retI hx hb hK hP hS hr hlk e0 dX8_shift_25
    · replace h := (if_neg q5).symm.trans h
      refine j_iload_n hx hb dX8_shift_18 rfl (lv_at hl 2 rfl) ?_
      refine j_iconst hx hb dX8_shift_19 ?_
      refine j_icmp_lt (A := wr y2) (B := 4) (tgt := 26) hx hb rfl (by decide) dX8_shift_20 (by decide) (fun q6 => ?_) (fun q6 => ?_)
      · replace h := (if_pos q6).symm.trans h
        refine j_aload_n hx hb dX8_shift_26 rfl (lv_at hl 0 rfl) ?_
        refine j_get (v := jR b 21) hx hb hts hinX8 hown hK hP kz_0 (by decide) rfl 3 (by decide) (hts (.fieldLink RX8 29 "CardBand" "deeds" "LCardBand$Deeds;") (by decide +kernel)) rfl rfl dX8_shift_27 ?_
        refine j_aload_n hx hb dX8_shift_30 rfl (lv_at hl 0 rfl) ?_
        refine j_get (v := jR b 3) hx hb hts hinX8 hown hK hP kz_0 (by decide) rfl 1 (by decide) (hts (.fieldLink RX8 19 "CardBand" "weave" "LCardBand$Weave;") (by decide +kernel)) rfl rfl dX8_shift_31 ?_
        obtain ⟨μ8, e7, h⟩ := ob_I h
        refine jc_VM (As := [jR b 3]) (rest := []) ⟨hx, hb, hml, hown, hts⟩ hK hP hS (m_X1_remember l D b cs N kz_3 e7) (cwV 1 hts gX8_shift_X1_remember rfl rfl rfl (by decide +kernel) ⟨Nat.le_of_ble_eq_true rfl, Nat.le_of_ble_eq_true rfl⟩) kz_21 (by decide) rfl rfl hl.1 rfl (Nat.le_of_ble_eq_true rfl) dX8_shift_34 ⟨Nat.zero_le _, Nat.zero_le _⟩ (fun H locs hP hS => ?_)
        refine j_aload_n hx hb dX8_shift_37 rfl (lv_at hl 0 rfl) ?_
        refine j_get (v := jR b 3) hx hb hts hinX8 hown hK hP kz_0 (by decide) rfl 1 (by decide) (hts (.fieldLink RX8 19 "CardBand" "weave" "LCardBand$Weave;") (by decide +kernel)) rfl rfl dX8_shift_38 ?_
        refine j_get (v := jR b 5) hx hb hts hinX7 hown hK hP kz_3 (by decide) rfl 1 (by decide) (hts (.fieldLink RX8 145 "CardBand$Weave" "stands" "[I") (by decide +kernel)) rfl rfl dX8_shift_41 ?_
        refine j_iload_n hx hb dX8_shift_44 rfl (lv_at hl 1 rfl) ?_
        refine j_aload_n hx hb dX8_shift_45 rfl (lv_at hl 0 rfl) ?_
        refine j_get (v := jR b 3) hx hb hts hinX8 hown hK hP kz_0 (by decide) rfl 1 (by decide) (hts (.fieldLink RX8 19 "CardBand" "weave" "LCardBand$Weave;") (by decide +kernel)) rfl rfl dX8_shift_46 ?_
        refine j_get (v := jR b 5) hx hb hts hinX7 hown hK hP kz_3 (by decide) rfl 1 (by decide) (hts (.fieldLink RX8 145 "CardBand$Weave" "stands" "[I") (by decide +kernel)) rfl rfl dX8_shift_49 ?_
        refine j_iload_n hx hb dX8_shift_52 rfl (lv_at hl 1 rfl) ?_
        obtain ⟨v9, e10, h⟩ := ob_I h
        refine j_iaload hx hb hK hP kz_5 e10 dX8_shift_53 ?_
        refine j_iload_n hx hb dX8_shift_54 rfl (lv_at hl 2 rfl) ?_
        refine j_iadd hx hb dX8_shift_55 ?_
        refine j_iconst hx hb dX8_shift_56 ?_
        refine j_iand hx hb dX8_shift_57 ?_
        obtain ⟨μ11, e12, h⟩ := ob_I h
        refine j_iastore hx hb hK hP hS kz_5 e12 dX8_shift_58 (fun H locs hP hS => ?_)
        refine j_aload_n hx hb dX8_shift_59 rfl (lv_at hl 0 rfl) ?_
        refine j_get (v := jR b 3) hx hb hts hinX8 hown hK hP kz_0 (by decide) rfl 1 (by decide) (hts (.fieldLink RX8 19 "CardBand" "weave" "LCardBand$Weave;") (by decide +kernel)) rfl rfl dX8_shift_60 ?_
        refine j_get (v := jR b 5) hx hb hts hinX7 hown hK hP kz_3 (by decide) rfl 1 (by decide) (hts (.fieldLink RX8 145 "CardBand$Weave" "stands" "[I") (by decide +kernel)) rfl rfl dX8_shift_63 ?_
        refine j_iload_n hx hb dX8_shift_66 rfl (lv_at hl 1 rfl) ?_
        obtain ⟨v13, e14, h⟩ := ob_I h
        refine j_iaload hx hb hK hP kz_5 e14 dX8_shift_67 ?_
        obtain ⟨e0, e1⟩ := Prod.mk.inj (Option.some.inj h)
        subst e1
        exact j_retI hx hb hK hP hS hr hlk e0 dX8_shift_68
      · replace h := (if_neg q6).symm.trans h
        refine j_ldc (n := (-1000000002)) hx hb hown (hts (.constant RX8 57 (-1000000002)) (by decide +kernel)) (by decide) dX8_shift_23 ?_
        obtain ⟨e0, e1⟩ := Prod.mk.inj (Option.some.inj h)
        subst e1
        exact j_retI hx hb hK hP hS hr hlk e0 dX8_shift_25
  · replace h := (if_pos q4).symm.trans h
    refine j_ldc (n := (-1000000001)) hx hb hown (hts (.constant RX8 136 (-1000000001)) (by decide +kernel)) (by decide) dX8_shift_11 ?_
    obtain ⟨e0, e1⟩ := Prod.mk.inj (Option.some.inj h)
    subst e1
    exact j_retI hx hb hK hP hS hr hlk e0 dX8_shift_13
def fX8_shown (N : Nat) (y1 : Int) (μ : Mm) : Option (Int) :=
    gd (decide (kd ((gI μ 0 6).toNat) = 4)) (Option.bind (fX5_hasColour N ((gI μ 0 6).toNat) y1 μ) (fun v3 => if wr v3 = 0 then (some (-1000000001)) else (Option.bind (fX0_countShown N 3 (gI μ ((gI μ 0 6).toNat) 6) y1 μ) (fun v6 => some v6))))
abbrev rmX8_shown : Room := { frames := 4, cells := 0, slots := 0, locals := 89 }
set_option maxHeartbeats 4000000 in
set_option maxRecDepth 100000 in
theorem m_X8_shown (l : Launch) (D : va_G) (b : Nat) (cs : CS) (N : Nat) {μ : Mm} {y1 : Int} {r : Int} (h : fX8_shown N y1 μ = some r) : MI l yX8_shown wsX8_shown rmX8_shown D b cs [jR b 0, jI y1] μ μ r := by
  refine met_in (cc := cX8_shown) (maxL := 2) (ret := some .int) (lv0 := [(0, jR b 0), (1, jI y1)]) (by decide +kernel) rfl (Nat.le_of_ble_eq_true rfl) rfl ?_
  intro p e s m args below meth c hx hb hr hlk hml hown hts hP hK ls hl
  have hown : s.vm.findClass RX8 = some m.cls := hown
  have hS : va_S (bA b) s.heap s.heap [] := va_S.rf
  have hinX5 : ∀ w ∈ u_ws RX5 TX5 9, w ∈ wsX8_shown := by decide +kernel
  have hinX8 : ∀ w ∈ u_ws RX8 TX8 9, w ∈ wsX8_shown := by decide +kernel
  unfold fX8_shown at h
  refine j_aload_n hx hb dX8_shown_0 rfl (lv_at hl 0 rfl) ?_
  refine j_get (v := jR b ((gI μ 0 6).toNat)) hx hb hts hinX8 hown hK hP kz_0 (by decide) rfl 6 (by decide) (hts (.fieldLink RX8 49 "CardBand" "threading" "LCardBand$Threading;") (by decide +kernel)) rfl rfl dX8_shown_1 ?_
  refine j_iload_n hx hb dX8_shown_4 rfl (lv_at hl 1 rfl) ?_
  obtain ⟨g1, h⟩ := ob_g h
  replace g1 := of_decide_eq_true g1
  obtain ⟨v3, e2, h⟩ := ob_I h
  refine jc_VI (As := [jI y1]) (rest := []) ⟨hx, hb, hml, hown, hts⟩ hK hP hS (m_X5_hasColour l D b cs N g1 e2) (cwV 1 hts gX8_shown_X5_hasColour rfl rfl rfl (by decide +kernel) ⟨Nat.le_of_ble_eq_true rfl, Nat.le_of_ble_eq_true rfl⟩) g1 (by decide) rfl rfl hl.1 rfl (Nat.le_of_ble_eq_true rfl) dX8_shown_5 ⟨Nat.zero_le _, Nat.zero_le _⟩ (fun H locs hP hS => ?_)
  refine j_if_eq (A := wr v3) (tgt := 29) hx hb rfl dX8_shown_8 (by decide) (fun q4 => ?_) (fun q4 => ?_)
  · replace h := (if_pos q4).symm.trans h
    refine j_ldc (n := (-1000000001)) hx hb hown (hts (.constant RX8 136 (-1000000001)) (by decide +kernel)) (by decide) dX8_shown_29 ?_
    exact j_retI hx hb hK hP hS hr hlk (Option.some.inj h) dX8_shown_31
  · replace h := (if_neg q4).symm.trans h
    refine j_aload_n hx hb dX8_shown_11 rfl (lv_at hl 0 rfl) ?_
    refine j_get (v := jR b 3) hx hb hts hinX8 hown hK hP kz_0 (by decide) rfl 1 (by decide) (hts (.fieldLink RX8 19 "CardBand" "weave" "LCardBand$Weave;") (by decide +kernel)) rfl rfl dX8_shown_12 ?_
    refine j_aload_n hx hb dX8_shown_15 rfl (lv_at hl 0 rfl) ?_
    refine j_get (v := jR b ((gI μ 0 6).toNat)) hx hb hts hinX8 hown hK hP kz_0 (by decide) rfl 6 (by decide) (hts (.fieldLink RX8 49 "CardBand" "threading" "LCardBand$Threading;") (by decide +kernel)) rfl rfl dX8_shown_16 ?_
    refine j_get (v := jI (gI μ ((gI μ 0 6).toNat) 6)) hx hb hts hinX5 hown hK hP g1 (by decide) rfl 6 (by decide) (hts (.fieldLink RX8 85 "CardBand$Threading" "cards" "I") (by decide +kernel)) rfl (by rw [jI_g]; rfl) dX8_shown_19 ?_
    refine j_iload_n hx hb dX8_shown_22 rfl (lv_at hl 1 rfl) ?_
    obtain ⟨v6, e5, h⟩ := ob_I h
    refine jc_SI (As := [jR b 3, jI (gI μ ((gI μ 0 6).toNat) 6), jI y1]) (rest := []) ⟨hx, hb, hml, hown, hts⟩ hK hP hS (m_X0_countShown l D b cs N kz_3 e5) (va_cwS 3 hts gX8_shown_X0_countShown rfl rfl rfl (by decide +kernel) ⟨Nat.le_of_ble_eq_true rfl, Nat.le_of_ble_eq_true rfl⟩) rfl hl.1 rfl (Nat.le_of_ble_eq_true rfl) dX8_shown_23 ⟨Nat.zero_le _, Nat.zero_le _⟩ (fun H locs hP hS => ?_)
    refine j_goto (tgt := 31) hx hb dX8_shown_26 (by decide) ?_
    exact j_retI hx hb hK hP hS hr hlk (Option.some.inj h) dX8_shown_31
def fX8_tear (N : Nat) (μ : Mm) : Option (Int × Mm) :=
    Option.bind (fX3_forget N μ) (fun μ2 => some (((gI μ 293 5) + (gI μ 293 6)), μ2))
abbrev rmX8_tear : Room := { frames := 1, cells := 0, slots := 0, locals := 20 }
set_option maxHeartbeats 4000000 in
set_option maxRecDepth 100000 in
theorem m_X8_tear (l : Launch) (D : va_G) (b : Nat) (cs : CS) (N : Nat) {μ μ0 : Mm} {r : Int} (h : fX8_tear N μ = some (r, μ0)) : MI l yX8_tear wsX8_tear rmX8_tear D b cs [jR b 0] μ μ0 r := by
  refine met_in (cc := cX8_tear) (maxL := 2) (ret := some .int) (lv0 := [(0, jR b 0)]) (by decide +kernel) rfl (Nat.le_of_ble_eq_true rfl) rfl ?_
  intro p e s m args below meth c hx hb hr hlk hml hown hts hP hK ls hl
  have hown : s.vm.findClass RX8 = some m.cls := hown
  have hS : va_S (bA b) s.heap s.heap [] := va_S.rf
  have hinX3 : ∀ w ∈ u_ws RX3 TX3 7, w ∈ wsX8_tear := by decide +kernel
  have hinX8 : ∀ w ∈ u_ws RX8 TX8 9, w ∈ wsX8_tear := by decide +kernel
  unfold fX8_tear at h
  refine j_aload_n hx hb dX8_tear_0 rfl (lv_at hl 0 rfl) ?_
  refine j_get (v := jR b 293) hx hb hts hinX8 hown hK hP kz_0 (by decide) rfl 4 (by decide) (hts (.fieldLink RX8 36 "CardBand" "notes" "LCardBand$Notes;") (by decide +kernel)) rfl rfl dX8_tear_1 ?_
  refine j_get (v := jI (gI μ 293 5)) hx hb hts hinX3 hown hK hP kz_293 (by decide) rfl 5 (by decide) (hts (.fieldLink RX8 124 "CardBand$Notes" "seenCount" "I") (by decide +kernel)) rfl (by rw [jI_g]; rfl) dX8_tear_4 ?_
  refine j_aload_n hx hb dX8_tear_7 rfl (lv_at hl 0 rfl) ?_
  refine j_get (v := jR b 293) hx hb hts hinX8 hown hK hP kz_0 (by decide) rfl 4 (by decide) (hts (.fieldLink RX8 36 "CardBand" "notes" "LCardBand$Notes;") (by decide +kernel)) rfl rfl dX8_tear_8 ?_
  refine j_get (v := jI (gI μ 293 6)) hx hb hts hinX3 hown hK hP kz_293 (by decide) rfl 6 (by decide) (hts (.fieldLink RX8 127 "CardBand$Notes" "bookCount" "I") (by decide +kernel)) rfl (by rw [jI_g]; rfl) dX8_tear_11 ?_
  refine j_iadd hx hb dX8_tear_14 ?_
  refine j_istore_n (lv2 := [(1, jI ((gI μ 293 5) + (gI μ 293 6))), (0, jR b 0)]) hx hb dX8_tear_15 rfl hl (by decide) rfl (fun ls hl => ?_)
  refine j_aload_n hx hb dX8_tear_16 rfl (lv_at hl 1 rfl) ?_
  refine j_get (v := jR b 293) hx hb hts hinX8 hown hK hP kz_0 (by decide) rfl 4 (by decide) (hts (.fieldLink RX8 36 "CardBand" "notes" "LCardBand$Notes;") (by decide +kernel)) rfl rfl dX8_tear_17 ?_
  obtain ⟨μ2, e1, h⟩ := ob_I h
  refine jc_VM (As := []) (rest := []) ⟨hx, hb, hml, hown, hts⟩ hK hP hS (m_X3_forget l D b cs N e1) (cwV 0 hts gX8_tear_X3_forget rfl rfl rfl (by decide +kernel) ⟨Nat.le_of_ble_eq_true rfl, Nat.le_of_ble_eq_true rfl⟩) kz_293 (by decide) rfl rfl hl.1 rfl (Nat.le_of_ble_eq_true rfl) dX8_tear_20 ⟨Nat.zero_le _, Nat.zero_le _⟩ (fun H locs hP hS => ?_)
  refine j_iload_n hx hb dX8_tear_23 rfl (lv_at hl 0 rfl) ?_
  obtain ⟨e0, e1⟩ := Prod.mk.inj (Option.some.inj h)
  subst e1
  exact j_retI hx hb hK hP hS hr hlk e0 dX8_tear_24
def fX8_together (N : Nat) (y1 : Int) (y2 : Int) (y3 : Int) (μ : Mm) : Option (Int) :=
    gd (decide (kd ((gI μ 0 6).toNat) = 4)) (Option.bind (fX5_hasCards N ((gI μ 0 6).toNat) y1 μ) (fun v3 => if wr v3 = 0 then (some (-1000000001)) else (Option.bind (fX5_hasColour N ((gI μ 0 6).toNat) y2 μ) (fun v6 => if wr v6 = 0 then (some (-1000000001)) else (Option.bind (fX8_isHowOrMoves N y3 μ) (fun v9 => if wr v9 = 0 then (some (-1000000002)) else (Option.bind (fX5_isMade N ((gI μ 0 6).toNat) μ) (fun v12 => if wr v12 = 0 then (some (-1000000003)) else (Option.bind (fX6_countTogether N 3 ((gI μ 0 6).toNat) y1 y2 μ) (fun v15 => if wr y3 = 0 then (some v15) else (if wr v15 = (-1) then (some v15) else (Option.bind (fX6_firstTogether N 3 ((gI μ 0 6).toNat) y1 y2 v15 μ) (fun v19 => some v19)))))))))))))
abbrev rmX8_together : Room := { frames := 5, cells := 0, slots := 0, locals := 120 }
set_option maxHeartbeats 4000000 in
set_option maxRecDepth 100000 in
theorem m_X8_together (l : Launch) (D : va_G) (b : Nat) (cs : CS) (N : Nat) {μ : Mm} {y1 y2 y3 : Int} {r : Int} (h : fX8_together N y1 y2 y3 μ = some r) : MI l yX8_together wsX8_together rmX8_together D b cs [jR b 0, jI y1, jI y2, jI y3] μ μ r := by
  refine met_in (cc := cX8_together) (maxL := 5) (ret := some .int) (lv0 := [(0, jR b 0), (1, jI y1), (2, jI y2), (3, jI y3)]) (by decide +kernel) rfl (Nat.le_of_ble_eq_true rfl) rfl ?_
  intro p e s m args below meth c hx hb hr hlk hml hown hts hP hK ls hl
  have hown : s.vm.findClass RX8 = some m.cls := hown
  have hS : va_S (bA b) s.heap s.heap [] := va_S.rf
  have hinX8 : ∀ w ∈ u_ws RX8 TX8 9, w ∈ wsX8_together := by decide +kernel
  unfold fX8_together at h
  refine j_aload_n hx hb dX8_together_0 rfl (lv_at hl 0 rfl) ?_
  refine j_get (v := jR b ((gI μ 0 6).toNat)) hx hb hts hinX8 hown hK hP kz_0 (by decide) rfl 6 (by decide) (hts (.fieldLink RX8 49 "CardBand" "threading" "LCardBand$Threading;") (by decide +kernel)) rfl rfl dX8_together_1 ?_
  refine j_iload_n hx hb dX8_together_4 rfl (lv_at hl 1 rfl) ?_
  obtain ⟨g1, h⟩ := ob_g h
  replace g1 := of_decide_eq_true g1
  obtain ⟨v3, e2, h⟩ := ob_I h
  refine jc_VI (As := [jI y1]) (rest := []) ⟨hx, hb, hml, hown, hts⟩ hK hP hS (m_X5_hasCards l D b cs N g1 e2) (cwV 1 hts gX8_together_X5_hasCards rfl rfl rfl (by decide +kernel) ⟨Nat.le_of_ble_eq_true rfl, Nat.le_of_ble_eq_true rfl⟩) g1 (by decide) rfl rfl hl.1 rfl (Nat.le_of_ble_eq_true rfl) dX8_together_5 ⟨Nat.zero_le _, Nat.zero_le _⟩ (fun H locs hP hS => ?_)
  refine j_if_eq (A := wr v3) (tgt := 22) hx hb rfl dX8_together_8 (by decide) (fun q4 => ?_) (fun q4 => ?_)
  · replace h := (if_pos q4).symm.trans h
    refine j_ldc (n := (-1000000001)) hx hb hown (hts (.constant RX8 136 (-1000000001)) (by decide +kernel)) (by decide) dX8_together_22 ?_
    exact j_retI hx hb hK hP hS hr hlk (Option.some.inj h) dX8_together_24
  · replace h := (if_neg q4).symm.trans h
    refine j_aload_n hx hb dX8_together_11 rfl (lv_at hl 0 rfl) ?_
    refine j_get (v := jR b ((gI μ 0 6).toNat)) hx hb hts hinX8 hown hK hP kz_0 (by decide) rfl 6 (by decide) (hts (.fieldLink RX8 49 "CardBand" "threading" "LCardBand$Threading;") (by decide +kernel)) rfl rfl dX8_together_12 ?_
    refine j_iload_n hx hb dX8_together_15 rfl (lv_at hl 2 rfl) ?_
    obtain ⟨v6, e5, h⟩ := ob_I h
    refine jc_VI (As := [jI y2]) (rest := []) ⟨hx, hb, hml, hown, hts⟩ hK hP hS (m_X5_hasColour l D b cs N g1 e5) (cwV 1 hts gX8_together_X5_hasColour rfl rfl rfl (by decide +kernel) ⟨Nat.le_of_ble_eq_true rfl, Nat.le_of_ble_eq_true rfl⟩) g1 (by decide) rfl rfl hl.1 rfl (Nat.le_of_ble_eq_true rfl) dX8_together_16 ⟨Nat.zero_le _, Nat.zero_le _⟩ (fun H locs hP hS => ?_)
    refine j_if_ne (A := wr v6) (tgt := 25) hx hb rfl dX8_together_19 (by decide) (fun q7 => ?_) (fun q7 => ?_)
    · replace h := (if_neg q7).symm.trans h
      refine j_iload_n hx hb dX8_together_25 rfl (lv_at hl 3 rfl) ?_
      obtain ⟨v9, e8, h⟩ := ob_I h
      refine jc_SI (As := [jI y3]) (rest := []) ⟨hx, hb, hml, hown, hts⟩ hK hP hS (m_X8_isHowOrMoves l D b cs N e8) (va_cwS 1 hts gX8_together_X8_isHowOrMoves rfl rfl rfl (by decide +kernel) ⟨Nat.le_of_ble_eq_true rfl, Nat.le_of_ble_eq_true rfl⟩) rfl hl.1 rfl (Nat.le_of_ble_eq_true rfl) dX8_together_26 ⟨Nat.zero_le _, Nat.zero_le _⟩ (fun H locs hP hS => ?_)
      refine j_if_ne (A := wr v9) (tgt := 35) hx hb rfl dX8_together_29 (by decide) (fun q10 => ?_) (fun q10 => ?_)
      · replace h := (if_neg q10).symm.trans h
        refine j_aload_n hx hb dX8_together_35 rfl (lv_at hl 0 rfl) ?_
        refine j_get (v := jR b ((gI μ 0 6).toNat)) hx hb hts hinX8 hown hK hP kz_0 (by decide) rfl 6 (by decide) (hts (.fieldLink RX8 49 "CardBand" "threading" "LCardBand$Threading;") (by decide +kernel)) rfl rfl dX8_together_36 ?_
        obtain ⟨v12, e11, h⟩ := ob_I h
        refine jc_VI (As := []) (rest := []) ⟨hx, hb, hml, hown, hts⟩ hK hP hS (m_X5_isMade l D b cs N g1 e11) (cwV 0 hts gX8_together_X5_isMade rfl rfl rfl (by decide +kernel) ⟨Nat.le_of_ble_eq_true rfl, Nat.le_of_ble_eq_true rfl⟩) g1 (by decide) rfl rfl hl.1 rfl (Nat.le_of_ble_eq_true rfl) dX8_together_39 ⟨Nat.zero_le _, Nat.zero_le _⟩ (fun H locs hP hS => ?_)
        refine j_if_ne (A := wr v12) (tgt := 48) hx hb rfl dX8_together_42 (by decide) (fun q13 => ?_) (fun q13 => ?_)
        · replace h := (if_neg q13).symm.trans h
          refine j_aload_n hx hb dX8_together_48 rfl (lv_at hl 0 rfl) ?_
          refine j_get (v := jR b 3) hx hb hts hinX8 hown hK hP kz_0 (by decide) rfl 1 (by decide) (hts (.fieldLink RX8 19 "CardBand" "weave" "LCardBand$Weave;") (by decide +kernel)) rfl rfl dX8_together_49 ?_
          refine j_aload_n hx hb dX8_together_52 rfl (lv_at hl 0 rfl) ?_
          refine j_get (v := jR b ((gI μ 0 6).toNat)) hx hb hts hinX8 hown hK hP kz_0 (by decide) rfl 6 (by decide) (hts (.fieldLink RX8 49 "CardBand" "threading" "LCardBand$Threading;") (by decide +kernel)) rfl rfl dX8_together_53 ?_
          refine j_iload_n hx hb dX8_together_56 rfl (lv_at hl 1 rfl) ?_
          refine j_iload_n hx hb dX8_together_57 rfl (lv_at hl 2 rfl) ?_
          obtain ⟨v15, e14, h⟩ := ob_I h
          refine jc_SI (As := [jR b 3, jR b ((gI μ 0 6).toNat), jI y1, jI y2]) (rest := []) ⟨hx, hb, hml, hown, hts⟩ hK hP hS (m_X6_countTogether l D b cs N kz_3 g1 e14) (va_cwS 4 hts gX8_together_X6_countTogether rfl rfl rfl (by decide +kernel) ⟨Nat.le_of_ble_eq_true rfl, Nat.le_of_ble_eq_true rfl⟩) rfl hl.1 rfl (Nat.le_of_ble_eq_true rfl) dX8_together_58 ⟨Nat.zero_le _, Nat.zero_le _⟩ (fun H locs hP hS => ?_)
          refine j_istore (lv2 := [(4, jI v15), (0, jR b 0), (1, jI y1), (2, jI y2), (3, jI y3)]) hx hb dX8_together_61 hl (by decide) rfl (fun ls hl => ?_)
          refine j_iload_n hx hb dX8_together_63 rfl (lv_at hl 4 rfl) ?_
          refine j_if_eq (A := wr y3) (tgt := 73) hx hb rfl dX8_together_64 (by decide) (fun q16 => ?_) (fun q16 => ?_)
          · replace h := (if_pos q16).symm.trans h
            refine j_iload hx hb dX8_together_73 (lv_at hl 0 rfl) ?_
            exact j_retI hx hb hK hP hS hr hlk (Option.some.inj h) dX8_together_75
          · replace h := (if_neg q16).symm.trans h
            refine j_iload hx hb dX8_together_67 (lv_at hl 0 rfl) ?_
            refine j_iconst hx hb dX8_together_69 ?_
            refine j_icmp_ne (A := wr v15) (B := (-1)) (tgt := 76) hx hb rfl (by decide) dX8_together_70 (by decide) (fun q17 => ?_) (fun q17 => ?_)
            · replace h := (if_neg q17).symm.trans h
              refine j_aload_n hx hb dX8_together_76 rfl (lv_at hl 1 rfl) ?_
              refine j_get (v := jR b 3) hx hb hts hinX8 hown hK hP kz_0 (by decide) rfl 1 (by decide) (hts (.fieldLink RX8 19 "CardBand" "weave" "LCardBand$Weave;") (by decide +kernel)) rfl rfl dX8_together_77 ?_
              refine j_aload_n hx hb dX8_together_80 rfl (lv_at hl 1 rfl) ?_
              refine j_get (v := jR b ((gI μ 0 6).toNat)) hx hb hts hinX8 hown hK hP kz_0 (by decide) rfl 6 (by decide) (hts (.fieldLink RX8 49 "CardBand" "threading" "LCardBand$Threading;") (by decide +kernel)) rfl rfl dX8_together_81 ?_
              refine j_iload_n hx hb dX8_together_84 rfl (lv_at hl 2 rfl) ?_
              refine j_iload_n hx hb dX8_together_85 rfl (lv_at hl 3 rfl) ?_
              refine j_iload hx hb dX8_together_86 (lv_at hl 0 rfl) ?_
              obtain ⟨v19, e18, h⟩ := ob_I h
              refine jc_SI (As := [jR b 3, jR b ((gI μ 0 6).toNat), jI y1, jI y2, jI v15]) (rest := []) ⟨hx, hb, hml, hown, hts⟩ hK hP hS (m_X6_firstTogether l D b cs N kz_3 g1 e18) (va_cwS 5 hts gX8_together_X6_firstTogether rfl rfl rfl (by decide +kernel) ⟨Nat.le_of_ble_eq_true rfl, Nat.le_of_ble_eq_true rfl⟩) rfl hl.1 rfl (Nat.le_of_ble_eq_true rfl) dX8_together_88 ⟨Nat.zero_le _, Nat.zero_le _⟩ (fun H locs hP hS => ?_)
              exact j_retI hx hb hK hP hS hr hlk (Option.some.inj h) dX8_together_91
            · replace h := (if_pos q17).symm.trans h
              refine j_iload hx hb dX8_together_73 (lv_at hl 0 rfl) ?_
              exact j_retI hx hb hK hP hS hr hlk (Option.some.inj h) dX8_together_75
        · replace h := (if_pos q13).symm.trans h
          refine j_ldc (n := (-1000000003)) hx hb hown (hts (.constant RX8 185 (-1000000003)) (by decide +kernel)) (by decide) dX8_together_45 ?_
          exact j_retI hx hb hK hP hS hr hlk (Option.some.inj h) dX8_together_47
      · replace h := (if_pos q10).symm.trans h
        refine j_ldc (n := (-1000000002)) hx hb hown (hts (.constant RX8 57 (-1000000002)) (by decide +kernel)) (by decide) dX8_together_32 ?_
        exact j_retI hx hb hK hP hS hr hlk (Option.some.inj h) dX8_together_34
    · replace h := (if_pos q7).symm.trans h
      refine j_ldc (n := (-1000000001)) hx hb hown (hts (.constant RX8 136 (-1000000001)) (by decide +kernel)) (by decide) dX8_together_22 ?_
      exact j_retI hx hb hK hP hS hr hlk (Option.some.inj h) dX8_together_24
def fX8_told (N : Nat) (y1 : Int) (μ : Mm) : Option (Int) :=
    if wr y1 = 0 then (gd (decide (kd ((gI μ 0 6).toNat) = 4)) (some (gI μ ((gI μ 0 6).toNat) 5))) else (if wr y1 = 1 then (gd (decide (kd ((gI μ 0 6).toNat) = 4)) (some (gI μ ((gI μ 0 6).toNat) 6))) else (if wr y1 = 2 then (gd (decide (kd ((gI μ 0 6).toNat) = 4)) (some (gI μ ((gI μ 0 6).toNat) 7))) else (if wr y1 = 3 then (some (gI μ 1 1)) else (if wr y1 = 4 then (some (gI μ 3 8)) else (if wr y1 = 5 then (Option.bind (fX7_countRows N 3 μ) (fun v11 => some v11)) else (if wr y1 = 6 then (gd (decide (kd ((gI μ 0 6).toNat) = 4)) (Option.bind (fX0_countMirrored N 3 (gI μ ((gI μ 0 6).toNat) 6) μ) (fun v15 => some v15))) else (if wr y1 = 7 then (gd (decide (kd ((gI μ 0 6).toNat) = 4)) (Option.bind (fX0_findPeriod N 3 (gI μ ((gI μ 0 6).toNat) 6) μ) (fun v19 => some v19))) else (if wr y1 = 8 then (gd (decide (kd ((gI μ 0 6).toNat) = 4)) (Option.bind (fX0_findLongest N 3 (gI μ ((gI μ 0 6).toNat) 6) μ) (fun v23 => some v23))) else (if wr y1 = 9 then (gd (decide (kd ((gI μ 0 6).toNat) = 4)) (Option.bind (fX0_findMost N 3 ((gI μ 0 6).toNat) μ) (fun v27 => some v27))) else (if wr y1 = 10 then (gd (decide (kd ((gI μ 0 6).toNat) = 4)) (Option.bind (fX7_sumYarn N 3 (gI μ ((gI μ 0 6).toNat) 5) μ) (fun v31 => some v31))) else (if wr y1 = 11 then (some (gI μ 293 5)) else (if wr y1 = 12 then (some (gI μ 293 6)) else (if wr y1 = 13 then (some (gI μ 21 2)) else (some (-1000000002)))))))))))))))
abbrev rmX8_told : Room := { frames := 5, cells := 0, slots := 0, locals := 114 }
set_option maxHeartbeats 4000000 in
set_option maxRecDepth 100000 in
theorem m_X8_told (l : Launch) (D : va_G) (b : Nat) (cs : CS) (N : Nat) {μ : Mm} {y1 : Int} {r : Int} (h : fX8_told N y1 μ = some r) : MI l yX8_told wsX8_told rmX8_told D b cs [jR b 0, jI y1] μ μ r := by
  refine met_in (cc := cX8_told) (maxL := 2) (ret := some .int) (lv0 := [(0, jR b 0), (1, jI y1)]) (by decide +kernel) rfl (Nat.le_of_ble_eq_true rfl) rfl ?_
  intro p e s m args below meth c hx hb hr hlk hml hown hts hP hK ls hl
  have hown : s.vm.findClass RX8 = some m.cls := hown
  have hS : va_S (bA b) s.heap s.heap [] := va_S.rf
  have hinX1 : ∀ w ∈ u_ws RX1 TX1 3, w ∈ wsX8_told := by decide +kernel
  have hinX3 : ∀ w ∈ u_ws RX3 TX3 7, w ∈ wsX8_told := by decide +kernel
  have hinX4 : ∀ w ∈ u_ws RX4 TX4 6, w ∈ wsX8_told := by decide +kernel
  have hinX5 : ∀ w ∈ u_ws RX5 TX5 9, w ∈ wsX8_told := by decide +kernel
  have hinX7 : ∀ w ∈ u_ws RX7 TX7 9, w ∈ wsX8_told := by decide +kernel
  have hinX8 : ∀ w ∈ u_ws RX8 TX8 9, w ∈ wsX8_told := by decide +kernel
  unfold fX8_told at h
  refine j_iload_n hx hb dX8_told_0 rfl (lv_at hl 1 rfl) ?_
  by_cases q1 : wr y1 = 0
  · replace h := (if_pos q1).symm.trans h
    refine j_tabIn (A := wr y1) (off := 71) (tgt := 72) hx hb rfl dX8_told_1 (by rw [q1]; decide) (by rw [q1]; decide) (by rw [q1]; rfl) (by decide) ?_
    refine j_aload_n hx hb dX8_told_72 rfl (lv_at hl 0 rfl) ?_
    refine j_get (v := jR b ((gI μ 0 6).toNat)) hx hb hts hinX8 hown hK hP kz_0 (by decide) rfl 6 (by decide) (hts (.fieldLink RX8 49 "CardBand" "threading" "LCardBand$Threading;") (by decide +kernel)) rfl rfl dX8_told_73 ?_
    obtain ⟨g2, h⟩ := ob_g h
    replace g2 := of_decide_eq_true g2
    refine j_get (v := jI (gI μ ((gI μ 0 6).toNat) 5)) hx hb hts hinX5 hown hK hP g2 (by decide) rfl 5 (by decide) (hts (.fieldLink RX8 91 "CardBand$Threading" "colours" "I") (by decide +kernel)) rfl (by rw [jI_g]; rfl) dX8_told_76 ?_
    exact j_retI hx hb hK hP hS hr hlk (Option.some.inj h) dX8_told_79
  · replace h := (if_neg q1).symm.trans h
    by_cases q3 : wr y1 = 1
    · replace h := (if_pos q3).symm.trans h
      refine j_tabIn (A := wr y1) (off := 79) (tgt := 80) hx hb rfl dX8_told_1 (by rw [q3]; decide) (by rw [q3]; decide) (by rw [q3]; rfl) (by decide) ?_
      refine j_aload_n hx hb dX8_told_80 rfl (lv_at hl 0 rfl) ?_
      refine j_get (v := jR b ((gI μ 0 6).toNat)) hx hb hts hinX8 hown hK hP kz_0 (by decide) rfl 6 (by decide) (hts (.fieldLink RX8 49 "CardBand" "threading" "LCardBand$Threading;") (by decide +kernel)) rfl rfl dX8_told_81 ?_
      obtain ⟨g4, h⟩ := ob_g h
      replace g4 := of_decide_eq_true g4
      refine j_get (v := jI (gI μ ((gI μ 0 6).toNat) 6)) hx hb hts hinX5 hown hK hP g4 (by decide) rfl 6 (by decide) (hts (.fieldLink RX8 85 "CardBand$Threading" "cards" "I") (by decide +kernel)) rfl (by rw [jI_g]; rfl) dX8_told_84 ?_
      exact j_retI hx hb hK hP hS hr hlk (Option.some.inj h) dX8_told_87
    · replace h := (if_neg q3).symm.trans h
      by_cases q5 : wr y1 = 2
      · replace h := (if_pos q5).symm.trans h
        refine j_tabIn (A := wr y1) (off := 87) (tgt := 88) hx hb rfl dX8_told_1 (by rw [q5]; decide) (by rw [q5]; decide) (by rw [q5]; rfl) (by decide) ?_
        refine j_aload_n hx hb dX8_told_88 rfl (lv_at hl 0 rfl) ?_
        refine j_get (v := jR b ((gI μ 0 6).toNat)) hx hb hts hinX8 hown hK hP kz_0 (by decide) rfl 6 (by decide) (hts (.fieldLink RX8 49 "CardBand" "threading" "LCardBand$Threading;") (by decide +kernel)) rfl rfl dX8_told_89 ?_
        obtain ⟨g6, h⟩ := ob_g h
        replace g6 := of_decide_eq_true g6
        refine j_get (v := jI (gI μ ((gI μ 0 6).toNat) 7)) hx hb hts hinX5 hown hK hP g6 (by decide) rfl 7 (by decide) (hts (.fieldLink RX8 94 "CardBand$Threading" "packs" "I") (by decide +kernel)) rfl (by rw [jI_g]; rfl) dX8_told_92 ?_
        exact j_retI hx hb hK hP hS hr hlk (Option.some.inj h) dX8_told_95
      · replace h := (if_neg q5).symm.trans h
        by_cases q7 : wr y1 = 3
        · replace h := (if_pos q7).symm.trans h
          refine j_tabIn (A := wr y1) (off := 95) (tgt := 96) hx hb rfl dX8_told_1 (by rw [q7]; decide) (by rw [q7]; decide) (by rw [q7]; rfl) (by decide) ?_
          refine j_aload_n hx hb dX8_told_96 rfl (lv_at hl 0 rfl) ?_
          refine j_get (v := jR b 1) hx hb hts hinX8 hown hK hP kz_0 (by decide) rfl 0 (by decide) (hts (.fieldLink RX8 10 "CardBand" "text" "LCardBand$Telling;") (by decide +kernel)) rfl rfl dX8_told_97 ?_
          refine j_get (v := jI (gI μ 1 1)) hx hb hts hinX4 hown hK hP kz_1 (by decide) rfl 1 (by decide) (hts (.fieldLink RX8 63 "CardBand$Telling" "length" "I") (by decide +kernel)) rfl (by rw [jI_g]; rfl) dX8_told_100 ?_
          exact j_retI hx hb hK hP hS hr hlk (Option.some.inj h) dX8_told_103
        · replace h := (if_neg q7).symm.trans h
          by_cases q8 : wr y1 = 4
          · replace h := (if_pos q8).symm.trans h
            refine j_tabIn (A := wr y1) (off := 103) (tgt := 104) hx hb rfl dX8_told_1 (by rw [q8]; decide) (by rw [q8]; decide) (by rw [q8]; rfl) (by decide) ?_
            refine j_aload_n hx hb dX8_told_104 rfl (lv_at hl 0 rfl) ?_
            refine j_get (v := jR b 3) hx hb hts hinX8 hown hK hP kz_0 (by decide) rfl 1 (by decide) (hts (.fieldLink RX8 19 "CardBand" "weave" "LCardBand$Weave;") (by decide +kernel)) rfl rfl dX8_told_105 ?_
            refine j_get (v := jI (gI μ 3 8)) hx hb hts hinX7 hown hK hP kz_3 (by decide) rfl 8 (by decide) (hts (.fieldLink RX8 97 "CardBand$Weave" "picks" "I") (by decide +kernel)) rfl (by rw [jI_g]; rfl) dX8_told_108 ?_
            exact j_retI hx hb hK hP hS hr hlk (Option.some.inj h) dX8_told_111
          · replace h := (if_neg q8).symm.trans h
            by_cases q9 : wr y1 = 5
            · replace h := (if_pos q9).symm.trans h
              refine j_tabIn (A := wr y1) (off := 111) (tgt := 112) hx hb rfl dX8_told_1 (by rw [q9]; decide) (by rw [q9]; decide) (by rw [q9]; rfl) (by decide) ?_
              refine j_aload_n hx hb dX8_told_112 rfl (lv_at hl 0 rfl) ?_
              refine j_get (v := jR b 3) hx hb hts hinX8 hown hK hP kz_0 (by decide) rfl 1 (by decide) (hts (.fieldLink RX8 19 "CardBand" "weave" "LCardBand$Weave;") (by decide +kernel)) rfl rfl dX8_told_113 ?_
              obtain ⟨v11, e10, h⟩ := ob_I h
              refine jc_VI (As := []) (rest := []) ⟨hx, hb, hml, hown, hts⟩ hK hP hS (m_X7_countRows l D b cs N kz_3 e10) (cwV 0 hts gX8_told_X7_countRows rfl rfl rfl (by decide +kernel) ⟨Nat.le_of_ble_eq_true rfl, Nat.le_of_ble_eq_true rfl⟩) kz_3 (by decide) rfl rfl hl.1 rfl (Nat.le_of_ble_eq_true rfl) dX8_told_116 ⟨Nat.zero_le _, Nat.zero_le _⟩ (fun H locs hP hS => ?_)
              exact j_retI hx hb hK hP hS hr hlk (Option.some.inj h) dX8_told_119
            · replace h := (if_neg q9).symm.trans h
              by_cases q12 : wr y1 = 6
              · replace h := (if_pos q12).symm.trans h
                refine j_tabIn (A := wr y1) (off := 119) (tgt := 120) hx hb rfl dX8_told_1 (by rw [q12]; decide) (by rw [q12]; decide) (by rw [q12]; rfl) (by decide) ?_
                refine j_aload_n hx hb dX8_told_120 rfl (lv_at hl 0 rfl) ?_
                refine j_get (v := jR b 3) hx hb hts hinX8 hown hK hP kz_0 (by decide) rfl 1 (by decide) (hts (.fieldLink RX8 19 "CardBand" "weave" "LCardBand$Weave;") (by decide +kernel)) rfl rfl dX8_told_121 ?_
                refine j_aload_n hx hb dX8_told_124 rfl (lv_at hl 0 rfl) ?_
                refine j_get (v := jR b ((gI μ 0 6).toNat)) hx hb hts hinX8 hown hK hP kz_0 (by decide) rfl 6 (by decide) (hts (.fieldLink RX8 49 "CardBand" "threading" "LCardBand$Threading;") (by decide +kernel)) rfl rfl dX8_told_125 ?_
                obtain ⟨g13, h⟩ := ob_g h
                replace g13 := of_decide_eq_true g13
                refine j_get (v := jI (gI μ ((gI μ 0 6).toNat) 6)) hx hb hts hinX5 hown hK hP g13 (by decide) rfl 6 (by decide) (hts (.fieldLink RX8 85 "CardBand$Threading" "cards" "I") (by decide +kernel)) rfl (by rw [jI_g]; rfl) dX8_told_128 ?_
                obtain ⟨v15, e14, h⟩ := ob_I h
                refine jc_SI (As := [jR b 3, jI (gI μ ((gI μ 0 6).toNat) 6)]) (rest := []) ⟨hx, hb, hml, hown, hts⟩ hK hP hS (m_X0_countMirrored l D b cs N kz_3 e14) (va_cwS 2 hts gX8_told_X0_countMirrored rfl rfl rfl (by decide +kernel) ⟨Nat.le_of_ble_eq_true rfl, Nat.le_of_ble_eq_true rfl⟩) rfl hl.1 rfl (Nat.le_of_ble_eq_true rfl) dX8_told_131 ⟨Nat.zero_le _, Nat.zero_le _⟩ (fun H locs hP hS => ?_)
                exact j_retI hx hb hK hP hS hr hlk (Option.some.inj h) dX8_told_134
              · replace h := (if_neg q12).symm.trans h
                by_cases q16 : wr y1 = 7
                · replace h := (if_pos q16).symm.trans h
                  refine j_tabIn (A := wr y1) (off := 134) (tgt := 135) hx hb rfl dX8_told_1 (by rw [q16]; decide) (by rw [q16]; decide) (by rw [q16]; rfl) (by decide) ?_
                  refine j_aload_n hx hb dX8_told_135 rfl (lv_at hl 0 rfl) ?_
                  refine j_get (v := jR b 3) hx hb hts hinX8 hown hK hP kz_0 (by decide) rfl 1 (by decide) (hts (.fieldLink RX8 19 "CardBand" "weave" "LCardBand$Weave;") (by decide +kernel)) rfl rfl dX8_told_136 ?_
                  refine j_aload_n hx hb dX8_told_139 rfl (lv_at hl 0 rfl) ?_
                  refine j_get (v := jR b ((gI μ 0 6).toNat)) hx hb hts hinX8 hown hK hP kz_0 (by decide) rfl 6 (by decide) (hts (.fieldLink RX8 49 "CardBand" "threading" "LCardBand$Threading;") (by decide +kernel)) rfl rfl dX8_told_140 ?_
                  obtain ⟨g17, h⟩ := ob_g h
                  replace g17 := of_decide_eq_true g17
                  refine j_get (v := jI (gI μ ((gI μ 0 6).toNat) 6)) hx hb hts hinX5 hown hK hP g17 (by decide) rfl 6 (by decide) (hts (.fieldLink RX8 85 "CardBand$Threading" "cards" "I") (by decide +kernel)) rfl (by rw [jI_g]; rfl) dX8_told_143 ?_
                  obtain ⟨v19, e18, h⟩ := ob_I h
                  refine jc_SI (As := [jR b 3, jI (gI μ ((gI μ 0 6).toNat) 6)]) (rest := []) ⟨hx, hb, hml, hown, hts⟩ hK hP hS (m_X0_findPeriod l D b cs N kz_3 e18) (va_cwS 2 hts gX8_told_X0_findPeriod rfl rfl rfl (by decide +kernel) ⟨Nat.le_of_ble_eq_true rfl, Nat.le_of_ble_eq_true rfl⟩) rfl hl.1 rfl (Nat.le_of_ble_eq_true rfl) dX8_told_146 ⟨Nat.zero_le _, Nat.zero_le _⟩ (fun H locs hP hS => ?_)
                  exact j_retI hx hb hK hP hS hr hlk (Option.some.inj h) dX8_told_149
                · replace h := (if_neg q16).symm.trans h
                  by_cases q20 : wr y1 = 8
                  · replace h := (if_pos q20).symm.trans h
                    refine j_tabIn (A := wr y1) (off := 149) (tgt := 150) hx hb rfl dX8_told_1 (by rw [q20]; decide) (by rw [q20]; decide) (by rw [q20]; rfl) (by decide) ?_
                    refine j_aload_n hx hb dX8_told_150 rfl (lv_at hl 0 rfl) ?_
                    refine j_get (v := jR b 3) hx hb hts hinX8 hown hK hP kz_0 (by decide) rfl 1 (by decide) (hts (.fieldLink RX8 19 "CardBand" "weave" "LCardBand$Weave;") (by decide +kernel)) rfl rfl dX8_told_151 ?_
                    refine j_aload_n hx hb dX8_told_154 rfl (lv_at hl 0 rfl) ?_
                    refine j_get (v := jR b ((gI μ 0 6).toNat)) hx hb hts hinX8 hown hK hP kz_0 (by decide) rfl 6 (by decide) (hts (.fieldLink RX8 49 "CardBand" "threading" "LCardBand$Threading;") (by decide +kernel)) rfl rfl dX8_told_155 ?_
                    obtain ⟨g21, h⟩ := ob_g h
                    replace g21 := of_decide_eq_true g21
                    refine j_get (v := jI (gI μ ((gI μ 0 6).toNat) 6)) hx hb hts hinX5 hown hK hP g21 (by decide) rfl 6 (by decide) (hts (.fieldLink RX8 85 "CardBand$Threading" "cards" "I") (by decide +kernel)) rfl (by rw [jI_g]; rfl) dX8_told_158 ?_
                    obtain ⟨v23, e22, h⟩ := ob_I h
                    refine jc_SI (As := [jR b 3, jI (gI μ ((gI μ 0 6).toNat) 6)]) (rest := []) ⟨hx, hb, hml, hown, hts⟩ hK hP hS (m_X0_findLongest l D b cs N kz_3 e22) (va_cwS 2 hts gX8_told_X0_findLongest rfl rfl rfl (by decide +kernel) ⟨Nat.le_of_ble_eq_true rfl, Nat.le_of_ble_eq_true rfl⟩) rfl hl.1 rfl (Nat.le_of_ble_eq_true rfl) dX8_told_161 ⟨Nat.zero_le _, Nat.zero_le _⟩ (fun H locs hP hS => ?_)
                    exact j_retI hx hb hK hP hS hr hlk (Option.some.inj h) dX8_told_164
                  · replace h := (if_neg q20).symm.trans h
                    by_cases q24 : wr y1 = 9
                    · replace h := (if_pos q24).symm.trans h
                      refine j_tabIn (A := wr y1) (off := 164) (tgt := 165) hx hb rfl dX8_told_1 (by rw [q24]; decide) (by rw [q24]; decide) (by rw [q24]; rfl) (by decide) ?_
                      refine j_aload_n hx hb dX8_told_165 rfl (lv_at hl 0 rfl) ?_
                      refine j_get (v := jR b 3) hx hb hts hinX8 hown hK hP kz_0 (by decide) rfl 1 (by decide) (hts (.fieldLink RX8 19 "CardBand" "weave" "LCardBand$Weave;") (by decide +kernel)) rfl rfl dX8_told_166 ?_
                      refine j_aload_n hx hb dX8_told_169 rfl (lv_at hl 0 rfl) ?_
                      refine j_get (v := jR b ((gI μ 0 6).toNat)) hx hb hts hinX8 hown hK hP kz_0 (by decide) rfl 6 (by decide) (hts (.fieldLink RX8 49 "CardBand" "threading" "LCardBand$Threading;") (by decide +kernel)) rfl rfl dX8_told_170 ?_
                      obtain ⟨g25, h⟩ := ob_g h
                      replace g25 := of_decide_eq_true g25
                      obtain ⟨v27, e26, h⟩ := ob_I h
                      refine jc_SI (As := [jR b 3, jR b ((gI μ 0 6).toNat)]) (rest := []) ⟨hx, hb, hml, hown, hts⟩ hK hP hS (m_X0_findMost l D b cs N kz_3 g25 e26) (va_cwS 2 hts gX8_told_X0_findMost rfl rfl rfl (by decide +kernel) ⟨Nat.le_of_ble_eq_true rfl, Nat.le_of_ble_eq_true rfl⟩) rfl hl.1 rfl (Nat.le_of_ble_eq_true rfl) dX8_told_173 ⟨Nat.zero_le _, Nat.zero_le _⟩ (fun H locs hP hS => ?_)
                      exact j_retI hx hb hK hP hS hr hlk (Option.some.inj h) dX8_told_176
                    · replace h := (if_neg q24).symm.trans h
                      by_cases q28 : wr y1 = 10
                      · replace h := (if_pos q28).symm.trans h
                        refine j_tabIn (A := wr y1) (off := 176) (tgt := 177) hx hb rfl dX8_told_1 (by rw [q28]; decide) (by rw [q28]; decide) (by rw [q28]; rfl) (by decide) ?_
                        refine j_aload_n hx hb dX8_told_177 rfl (lv_at hl 0 rfl) ?_
                        refine j_get (v := jR b 3) hx hb hts hinX8 hown hK hP kz_0 (by decide) rfl 1 (by decide) (hts (.fieldLink RX8 19 "CardBand" "weave" "LCardBand$Weave;") (by decide +kernel)) rfl rfl dX8_told_178 ?_
                        refine j_aload_n hx hb dX8_told_181 rfl (lv_at hl 0 rfl) ?_
                        refine j_get (v := jR b ((gI μ 0 6).toNat)) hx hb hts hinX8 hown hK hP kz_0 (by decide) rfl 6 (by decide) (hts (.fieldLink RX8 49 "CardBand" "threading" "LCardBand$Threading;") (by decide +kernel)) rfl rfl dX8_told_182 ?_
                        obtain ⟨g29, h⟩ := ob_g h
                        replace g29 := of_decide_eq_true g29
                        refine j_get (v := jI (gI μ ((gI μ 0 6).toNat) 5)) hx hb hts hinX5 hown hK hP g29 (by decide) rfl 5 (by decide) (hts (.fieldLink RX8 91 "CardBand$Threading" "colours" "I") (by decide +kernel)) rfl (by rw [jI_g]; rfl) dX8_told_185 ?_
                        obtain ⟨v31, e30, h⟩ := ob_I h
                        refine jc_VI (As := [jI (gI μ ((gI μ 0 6).toNat) 5)]) (rest := []) ⟨hx, hb, hml, hown, hts⟩ hK hP hS (m_X7_sumYarn l D b cs N kz_3 e30) (cwV 1 hts gX8_told_X7_sumYarn rfl rfl rfl (by decide +kernel) ⟨Nat.le_of_ble_eq_true rfl, Nat.le_of_ble_eq_true rfl⟩) kz_3 (by decide) rfl rfl hl.1 rfl (Nat.le_of_ble_eq_true rfl) dX8_told_188 ⟨Nat.zero_le _, Nat.zero_le _⟩ (fun H locs hP hS => ?_)
                        exact j_retI hx hb hK hP hS hr hlk (Option.some.inj h) dX8_told_191
                      · replace h := (if_neg q28).symm.trans h
                        by_cases q32 : wr y1 = 11
                        · replace h := (if_pos q32).symm.trans h
                          refine j_tabIn (A := wr y1) (off := 191) (tgt := 192) hx hb rfl dX8_told_1 (by rw [q32]; decide) (by rw [q32]; decide) (by rw [q32]; rfl) (by decide) ?_
                          refine j_aload_n hx hb dX8_told_192 rfl (lv_at hl 0 rfl) ?_
                          refine j_get (v := jR b 293) hx hb hts hinX8 hown hK hP kz_0 (by decide) rfl 4 (by decide) (hts (.fieldLink RX8 36 "CardBand" "notes" "LCardBand$Notes;") (by decide +kernel)) rfl rfl dX8_told_193 ?_
                          refine j_get (v := jI (gI μ 293 5)) hx hb hts hinX3 hown hK hP kz_293 (by decide) rfl 5 (by decide) (hts (.fieldLink RX8 124 "CardBand$Notes" "seenCount" "I") (by decide +kernel)) rfl (by rw [jI_g]; rfl) dX8_told_196 ?_
                          exact j_retI hx hb hK hP hS hr hlk (Option.some.inj h) dX8_told_199
                        · replace h := (if_neg q32).symm.trans h
                          by_cases q33 : wr y1 = 12
                          · replace h := (if_pos q33).symm.trans h
                            refine j_tabIn (A := wr y1) (off := 199) (tgt := 200) hx hb rfl dX8_told_1 (by rw [q33]; decide) (by rw [q33]; decide) (by rw [q33]; rfl) (by decide) ?_
                            refine j_aload_n hx hb dX8_told_200 rfl (lv_at hl 0 rfl) ?_
                            refine j_get (v := jR b 293) hx hb hts hinX8 hown hK hP kz_0 (by decide) rfl 4 (by decide) (hts (.fieldLink RX8 36 "CardBand" "notes" "LCardBand$Notes;") (by decide +kernel)) rfl rfl dX8_told_201 ?_
                            refine j_get (v := jI (gI μ 293 6)) hx hb hts hinX3 hown hK hP kz_293 (by decide) rfl 6 (by decide) (hts (.fieldLink RX8 127 "CardBand$Notes" "bookCount" "I") (by decide +kernel)) rfl (by rw [jI_g]; rfl) dX8_told_204 ?_
                            exact j_retI hx hb hK hP hS hr hlk (Option.some.inj h) dX8_told_207
                          · replace h := (if_neg q33).symm.trans h
                            by_cases q34 : wr y1 = 13
                            · replace h := (if_pos q34).symm.trans h
                              refine j_tabIn (A := wr y1) (off := 207) (tgt := 208) hx hb rfl dX8_told_1 (by rw [q34]; decide) (by rw [q34]; decide) (by rw [q34]; rfl) (by decide) ?_
                              refine j_aload_n hx hb dX8_told_208 rfl (lv_at hl 0 rfl) ?_
                              refine j_get (v := jR b 21) hx hb hts hinX8 hown hK hP kz_0 (by decide) rfl 3 (by decide) (hts (.fieldLink RX8 29 "CardBand" "deeds" "LCardBand$Deeds;") (by decide +kernel)) rfl rfl dX8_told_209 ?_
                              refine j_get (v := jI (gI μ 21 2)) hx hb hts hinX1 hown hK hP kz_21 (by decide) rfl 2 (by decide) (hts (.fieldLink RX8 130 "CardBand$Deeds" "count" "I") (by decide +kernel)) rfl (by rw [jI_g]; rfl) dX8_told_212 ?_
                              exact j_retI hx hb hK hP hS hr hlk (Option.some.inj h) dX8_told_215
                            · replace h := (if_neg q34).symm.trans h
                              refine j_tabOut (A := wr y1) (tgt := 216) hx hb rfl dX8_told_1 (by omega) (by decide) ?_
                              refine j_ldc (n := (-1000000002)) hx hb hown (hts (.constant RX8 57 (-1000000002)) (by decide +kernel)) (by decide) dX8_told_216 ?_
                              exact j_retI hx hb hK hP hS hr hlk (Option.some.inj h) dX8_told_218
def fX8_turned (N : Nat) (y1 : Int) (y2 : Int) (μ : Mm) : Option (Int) :=
    gd (decide (kd ((gI μ 0 6).toNat) = 4)) (Option.bind (fX5_hasCard N ((gI μ 0 6).toNat) y1 μ) (fun v3 => if wr v3 = 0 then (some (-1000000001)) else (if wr y2 < 0 then (some (-1000000002)) else (if wr y2 ≤ 22 then (Option.bind (fX7_countRows N 3 μ) (fun v8 => if wr (y2 + 1) < wr v8 then (Option.bind (fX7_showedAt N 3 y2 y1 μ) (fun v11 => Option.bind (fX7_showedAt N 3 (y2 + 1) y1 μ) (fun v13 => Option.bind (fX0_findTurns N ((gI μ 0 6).toNat) y1 v11 v13 μ) (fun v15 => some v15)))) else (some (-1000000003)))) else (some (-1000000002))))))
abbrev rmX8_turned : Room := { frames := 3, cells := 0, slots := 0, locals := 69 }
set_option maxHeartbeats 4000000 in
set_option maxRecDepth 100000 in
theorem m_X8_turned (l : Launch) (D : va_G) (b : Nat) (cs : CS) (N : Nat) {μ : Mm} {y1 y2 : Int} {r : Int} (h : fX8_turned N y1 y2 μ = some r) : MI l yX8_turned wsX8_turned rmX8_turned D b cs [jR b 0, jI y1, jI y2] μ μ r := by
  refine met_in (cc := cX8_turned) (maxL := 3) (ret := some .int) (lv0 := [(0, jR b 0), (1, jI y1), (2, jI y2)]) (by decide +kernel) rfl (Nat.le_of_ble_eq_true rfl) rfl ?_
  intro p e s m args below meth c hx hb hr hlk hml hown hts hP hK ls hl
  have hown : s.vm.findClass RX8 = some m.cls := hown
  have hS : va_S (bA b) s.heap s.heap [] := va_S.rf
  have hinX8 : ∀ w ∈ u_ws RX8 TX8 9, w ∈ wsX8_turned := by decide +kernel
  unfold fX8_turned at h
  refine j_aload_n hx hb dX8_turned_0 rfl (lv_at hl 0 rfl) ?_
  refine j_get (v := jR b ((gI μ 0 6).toNat)) hx hb hts hinX8 hown hK hP kz_0 (by decide) rfl 6 (by decide) (hts (.fieldLink RX8 49 "CardBand" "threading" "LCardBand$Threading;") (by decide +kernel)) rfl rfl dX8_turned_1 ?_
  refine j_iload_n hx hb dX8_turned_4 rfl (lv_at hl 1 rfl) ?_
  obtain ⟨g1, h⟩ := ob_g h
  replace g1 := of_decide_eq_true g1
  obtain ⟨v3, e2, h⟩ := ob_I h
  refine jc_VI (As := [jI y1]) (rest := []) ⟨hx, hb, hml, hown, hts⟩ hK hP hS (m_X5_hasCard l D b cs N g1 e2) (cwV 1 hts gX8_turned_X5_hasCard rfl rfl rfl (by decide +kernel) ⟨Nat.le_of_ble_eq_true rfl, Nat.le_of_ble_eq_true rfl⟩) g1 (by decide) rfl rfl hl.1 rfl (Nat.le_of_ble_eq_true rfl) dX8_turned_5 ⟨Nat.zero_le _, Nat.zero_le _⟩ (fun H locs hP hS => ?_)
  refine j_if_ne (A := wr v3) (tgt := 14) hx hb rfl dX8_turned_8 (by decide) (fun q4 => ?_) (fun q4 => ?_)
  · replace h := (if_neg q4).symm.trans h
    refine j_iload_n hx hb dX8_turned_14 rfl (lv_at hl 2 rfl) ?_
    refine j_if_lt (A := wr y2) (tgt := 24) hx hb rfl dX8_turned_15 (by decide) (fun q5 => ?_) (fun q5 => ?_)
    · replace h := (if_pos q5).symm.trans h
      refine j_ldc (n := (-1000000002)) hx hb hown (hts (.constant RX8 57 (-1000000002)) (by decide +kernel)) (by decide) dX8_turned_24 ?_
      exact j_retI hx hb hK hP hS hr hlk (Option.some.inj h) dX8_turned_26
    · replace h := (if_neg q5).symm.trans h
      refine j_iload_n hx hb dX8_turned_18 rfl (lv_at hl 2 rfl) ?_
      refine j_bipush hx hb dX8_turned_19 (by decide) ?_
      refine j_icmp_le (A := wr y2) (B := 22) (tgt := 27) hx hb rfl (by decide) dX8_turned_21 (by decide) (fun q6 => ?_) (fun q6 => ?_)
      · replace h := (if_pos q6).symm.trans h
        refine j_iload_n hx hb dX8_turned_27 rfl (lv_at hl 2 rfl) ?_
        refine j_iconst hx hb dX8_turned_28 ?_
        refine j_iadd hx hb dX8_turned_29 ?_
        refine j_aload_n hx hb dX8_turned_30 rfl (lv_at hl 0 rfl) ?_
        refine j_get (v := jR b 3) hx hb hts hinX8 hown hK hP kz_0 (by decide) rfl 1 (by decide) (hts (.fieldLink RX8 19 "CardBand" "weave" "LCardBand$Weave;") (by decide +kernel)) rfl rfl dX8_turned_31 ?_
        obtain ⟨v8, e7, h⟩ := ob_I h
        refine jc_VI (As := []) (rest := [jI (y2 + 1)]) ⟨hx, hb, hml, hown, hts⟩ hK hP hS (m_X7_countRows l D b cs N kz_3 e7) (cwV 0 hts gX8_turned_X7_countRows rfl rfl rfl (by decide +kernel) ⟨Nat.le_of_ble_eq_true rfl, Nat.le_of_ble_eq_true rfl⟩) kz_3 (by decide) rfl rfl hl.1 rfl (Nat.le_of_ble_eq_true rfl) dX8_turned_34 ⟨Nat.zero_le _, Nat.zero_le _⟩ (fun H locs hP hS => ?_)
        refine j_icmp_lt (A := wr (y2 + 1)) (B := wr v8) (tgt := 43) hx hb rfl rfl dX8_turned_37 (by decide) (fun q9 => ?_) (fun q9 => ?_)
        · replace h := (if_pos q9).symm.trans h
          refine j_aload_n hx hb dX8_turned_43 rfl (lv_at hl 0 rfl) ?_
          refine j_get (v := jR b ((gI μ 0 6).toNat)) hx hb hts hinX8 hown hK hP kz_0 (by decide) rfl 6 (by decide) (hts (.fieldLink RX8 49 "CardBand" "threading" "LCardBand$Threading;") (by decide +kernel)) rfl rfl dX8_turned_44 ?_
          refine j_iload_n hx hb dX8_turned_47 rfl (lv_at hl 1 rfl) ?_
          refine j_aload_n hx hb dX8_turned_48 rfl (lv_at hl 0 rfl) ?_
          refine j_get (v := jR b 3) hx hb hts hinX8 hown hK hP kz_0 (by decide) rfl 1 (by decide) (hts (.fieldLink RX8 19 "CardBand" "weave" "LCardBand$Weave;") (by decide +kernel)) rfl rfl dX8_turned_49 ?_
          refine j_iload_n hx hb dX8_turned_52 rfl (lv_at hl 2 rfl) ?_
          refine j_iload_n hx hb dX8_turned_53 rfl (lv_at hl 1 rfl) ?_
          obtain ⟨v11, e10, h⟩ := ob_I h
          refine jc_VI (As := [jI y2, jI y1]) (rest := [jI y1, jR b ((gI μ 0 6).toNat)]) ⟨hx, hb, hml, hown, hts⟩ hK hP hS (m_X7_showedAt l D b cs N kz_3 e10) (cwV 2 hts gX8_turned_X7_showedAt rfl rfl rfl (by decide +kernel) ⟨Nat.le_of_ble_eq_true rfl, Nat.le_of_ble_eq_true rfl⟩) kz_3 (by decide) rfl rfl hl.1 rfl (Nat.le_of_ble_eq_true rfl) dX8_turned_54 ⟨Nat.zero_le _, Nat.zero_le _⟩ (fun H locs hP hS => ?_)
          refine j_aload_n hx hb dX8_turned_57 rfl (lv_at hl 0 rfl) ?_
          refine j_get (v := jR b 3) hx hb hts hinX8 hown hK hP kz_0 (by decide) rfl 1 (by decide) (hts (.fieldLink RX8 19 "CardBand" "weave" "LCardBand$Weave;") (by decide +kernel)) rfl rfl dX8_turned_58 ?_
          refine j_iload_n hx hb dX8_turned_61 rfl (lv_at hl 2 rfl) ?_
          refine j_iconst hx hb dX8_turned_62 ?_
          refine j_iadd hx hb dX8_turned_63 ?_
          refine j_iload_n hx hb dX8_turned_64 rfl (lv_at hl 1 rfl) ?_
          obtain ⟨v13, e12, h⟩ := ob_I h
          refine jc_VI (As := [jI (y2 + 1), jI y1]) (rest := [jI v11, jI y1, jR b ((gI μ 0 6).toNat)]) ⟨hx, hb, hml, hown, hts⟩ hK hP hS (m_X7_showedAt l D b cs N kz_3 e12) (cwV 2 hts gX8_turned_X7_showedAt rfl rfl rfl (by decide +kernel) ⟨Nat.le_of_ble_eq_true rfl, Nat.le_of_ble_eq_true rfl⟩) kz_3 (by decide) rfl rfl hl.1 rfl (Nat.le_of_ble_eq_true rfl) dX8_turned_65 ⟨Nat.zero_le _, Nat.zero_le _⟩ (fun H locs hP hS => ?_)
          obtain ⟨v15, e14, h⟩ := ob_I h
          refine jc_SI (As := [jR b ((gI μ 0 6).toNat), jI y1, jI v11, jI v13]) (rest := []) ⟨hx, hb, hml, hown, hts⟩ hK hP hS (m_X0_findTurns l D b cs N g1 e14) (va_cwS 4 hts gX8_turned_X0_findTurns rfl rfl rfl (by decide +kernel) ⟨Nat.le_of_ble_eq_true rfl, Nat.le_of_ble_eq_true rfl⟩) rfl hl.1 rfl (Nat.le_of_ble_eq_true rfl) dX8_turned_68 ⟨Nat.zero_le _, Nat.zero_le _⟩ (fun H locs hP hS => ?_)
          exact j_retI hx hb hK hP hS hr hlk (Option.some.inj h) dX8_turned_71
        · replace h := (if_neg q9).symm.trans h
          refine j_ldc (n := (-1000000003)) hx hb hown (hts (.constant RX8 185 (-1000000003)) (by decide +kernel)) (by decide) dX8_turned_40 ?_
          exact j_retI hx hb hK hP hS hr hlk (Option.some.inj h) dX8_turned_42
      · replace h := (if_neg q6).symm.trans h
        refine j_ldc (n := (-1000000002)) hx hb hown (hts (.constant RX8 57 (-1000000002)) (by decide +kernel)) (by decide) dX8_turned_24 ?_
        exact j_retI hx hb hK hP hS hr hlk (Option.some.inj h) dX8_turned_26
  · replace h := (if_pos q4).symm.trans h
    refine j_ldc (n := (-1000000001)) hx hb hown (hts (.constant RX8 136 (-1000000001)) (by decide +kernel)) (by decide) dX8_turned_11 ?_
    exact j_retI hx hb hK hP hS hr hlk (Option.some.inj h) dX8_turned_13
def fX8_undo (N : Nat) (y1 : Int) (μ : Mm) : Option (Int × Mm) :=
    if wr y1 < 1 then (some ((-1000000002), μ)) else (if wr y1 ≤ 30 then (bP (fX1_takeBack N y1 3 μ) (fun v4 μ5 => if wr v4 = 0 then (some ((-1000000003), μ5)) else (some ((gI μ5 3 8), μ5)))) else (some ((-1000000002), μ)))
abbrev rmX8_undo : Room := { frames := 3, cells := 0, slots := 0, locals := 71 }
set_option maxHeartbeats 4000000 in
set_option maxRecDepth 100000 in
theorem m_X8_undo (l : Launch) (D : va_G) (b : Nat) (cs : CS) (N : Nat) {μ μ0 : Mm} {y1 : Int} {r : Int} (h : fX8_undo N y1 μ = some (r, μ0)) : MI l yX8_undo wsX8_undo rmX8_undo D b cs [jR b 0, jI y1] μ μ0 r := by
  refine met_in (cc := cX8_undo) (maxL := 2) (ret := some .int) (lv0 := [(0, jR b 0), (1, jI y1)]) (by decide +kernel) rfl (Nat.le_of_ble_eq_true rfl) rfl ?_
  intro p e s m args below meth c hx hb hr hlk hml hown hts hP hK ls hl
  have hown : s.vm.findClass RX8 = some m.cls := hown
  have hS : va_S (bA b) s.heap s.heap [] := va_S.rf
  have hinX7 : ∀ w ∈ u_ws RX7 TX7 9, w ∈ wsX8_undo := by decide +kernel
  have hinX8 : ∀ w ∈ u_ws RX8 TX8 9, w ∈ wsX8_undo := by decide +kernel
  unfold fX8_undo at h
  refine j_iload_n hx hb dX8_undo_0 rfl (lv_at hl 1 rfl) ?_
  refine j_iconst hx hb dX8_undo_1 ?_
  refine j_icmp_lt (A := wr y1) (B := 1) (tgt := 11) hx hb rfl (by decide) dX8_undo_2 (by decide) (fun q1 => ?_) (fun q1 => ?_)
  · replace h := (if_pos q1).symm.trans h
    refine j_ldc (n := (-1000000002)) hx hb hown (hts (.constant RX8 57 (-1000000002)) (by decide +kernel)) (by decide) dX8_undo_11 ?_
    obtain ⟨e0, e1⟩ := Prod.mk.inj (Option.some.inj h)
    subst e1
    exact j_retI hx hb hK hP hS hr hlk e0 dX8_undo_13
  · replace h := (if_neg q1).symm.trans h
    refine j_iload_n hx hb dX8_undo_5 rfl (lv_at hl 1 rfl) ?_
    refine j_bipush hx hb dX8_undo_6 (by decide) ?_
    refine j_icmp_le (A := wr y1) (B := 30) (tgt := 14) hx hb rfl (by decide) dX8_undo_8 (by decide) (fun q2 => ?_) (fun q2 => ?_)
    · replace h := (if_pos q2).symm.trans h
      refine j_aload_n hx hb dX8_undo_14 rfl (lv_at hl 0 rfl) ?_
      refine j_get (v := jR b 21) hx hb hts hinX8 hown hK hP kz_0 (by decide) rfl 3 (by decide) (hts (.fieldLink RX8 29 "CardBand" "deeds" "LCardBand$Deeds;") (by decide +kernel)) rfl rfl dX8_undo_15 ?_
      refine j_iload_n hx hb dX8_undo_18 rfl (lv_at hl 1 rfl) ?_
      refine j_aload_n hx hb dX8_undo_19 rfl (lv_at hl 0 rfl) ?_
      refine j_get (v := jR b 3) hx hb hts hinX8 hown hK hP kz_0 (by decide) rfl 1 (by decide) (hts (.fieldLink RX8 19 "CardBand" "weave" "LCardBand$Weave;") (by decide +kernel)) rfl rfl dX8_undo_20 ?_
      obtain ⟨v4, μ5, e3, h⟩ := ob_P h
      refine jc_VI (As := [jI y1, jR b 3]) (rest := []) ⟨hx, hb, hml, hown, hts⟩ hK hP hS (m_X1_takeBack l D b cs N kz_3 e3) (cwV 2 hts gX8_undo_X1_takeBack rfl rfl rfl (by decide +kernel) ⟨Nat.le_of_ble_eq_true rfl, Nat.le_of_ble_eq_true rfl⟩) kz_21 (by decide) rfl rfl hl.1 rfl (Nat.le_of_ble_eq_true rfl) dX8_undo_23 ⟨Nat.zero_le _, Nat.zero_le _⟩ (fun H locs hP hS => ?_)
      refine j_if_eq (A := wr v4) (tgt := 39) hx hb rfl dX8_undo_26 (by decide) (fun q6 => ?_) (fun q6 => ?_)
      · replace h := (if_pos q6).symm.trans h
        refine j_ldc (n := (-1000000003)) hx hb hown (hts (.constant RX8 185 (-1000000003)) (by decide +kernel)) (by decide) dX8_undo_39 ?_
        obtain ⟨e0, e1⟩ := Prod.mk.inj (Option.some.inj h)
        subst e1
        exact j_retI hx hb hK hP hS hr hlk e0 dX8_undo_41
      · replace h := (if_neg q6).symm.trans h
        refine j_aload_n hx hb dX8_undo_29 rfl (lv_at hl 0 rfl) ?_
        refine j_get (v := jR b 3) hx hb hts hinX8 hown hK hP kz_0 (by decide) rfl 1 (by decide) (hts (.fieldLink RX8 19 "CardBand" "weave" "LCardBand$Weave;") (by decide +kernel)) rfl rfl dX8_undo_30 ?_
        refine j_get (v := jI (gI μ5 3 8)) hx hb hts hinX7 hown hK hP kz_3 (by decide) rfl 8 (by decide) (hts (.fieldLink RX8 97 "CardBand$Weave" "picks" "I") (by decide +kernel)) rfl (by rw [jI_g]; rfl) dX8_undo_33 ?_
        refine j_goto (tgt := 41) hx hb dX8_undo_36 (by decide) ?_
        obtain ⟨e0, e1⟩ := Prod.mk.inj (Option.some.inj h)
        subst e1
        exact j_retI hx hb hK hP hS hr hlk e0 dX8_undo_41
    · replace h := (if_neg q2).symm.trans h
      refine j_ldc (n := (-1000000002)) hx hb hown (hts (.constant RX8 57 (-1000000002)) (by decide +kernel)) (by decide) dX8_undo_11 ?_
      obtain ⟨e0, e1⟩ := Prod.mk.inj (Option.some.inj h)
      subst e1
      exact j_retI hx hb hK hP hS hr hlk e0 dX8_undo_13
def fX8_untwist (N : Nat) (y1 : Int) (μ : Mm) : Option (Int) :=
    Option.bind (fX8_isHowOrMoves N y1 μ) (fun v2 => if wr v2 = 0 then (some (-1000000002)) else (gd (decide (kd ((gI μ 0 6).toNat) = 4)) (Option.bind (fX5_isMade N ((gI μ 0 6).toNat) μ) (fun v6 => if wr v6 = 0 then (some (-1000000003)) else (if wr y1 = 0 then (Option.bind (fX6_countUntwist N 3 ((gI μ 0 6).toNat) μ) (fun v12 => some v12)) else (Option.bind (fX6_firstUntwist N 3 ((gI μ 0 6).toNat) μ) (fun v10 => some v10)))))))
abbrev rmX8_untwist : Room := { frames := 4, cells := 0, slots := 0, locals := 91 }
set_option maxHeartbeats 4000000 in
set_option maxRecDepth 100000 in
theorem m_X8_untwist (l : Launch) (D : va_G) (b : Nat) (cs : CS) (N : Nat) {μ : Mm} {y1 : Int} {r : Int} (h : fX8_untwist N y1 μ = some r) : MI l yX8_untwist wsX8_untwist rmX8_untwist D b cs [jR b 0, jI y1] μ μ r := by
  refine met_in (cc := cX8_untwist) (maxL := 2) (ret := some .int) (lv0 := [(0, jR b 0), (1, jI y1)]) (by decide +kernel) rfl (Nat.le_of_ble_eq_true rfl) rfl ?_
  intro p e s m args below meth c hx hb hr hlk hml hown hts hP hK ls hl
  have hown : s.vm.findClass RX8 = some m.cls := hown
  have hS : va_S (bA b) s.heap s.heap [] := va_S.rf
  have hinX8 : ∀ w ∈ u_ws RX8 TX8 9, w ∈ wsX8_untwist := by decide +kernel
  unfold fX8_untwist at h
  refine j_iload_n hx hb dX8_untwist_0 rfl (lv_at hl 1 rfl) ?_
  obtain ⟨v2, e1, h⟩ := ob_I h
  refine jc_SI (As := [jI y1]) (rest := []) ⟨hx, hb, hml, hown, hts⟩ hK hP hS (m_X8_isHowOrMoves l D b cs N e1) (va_cwS 1 hts gX8_untwist_X8_isHowOrMoves rfl rfl rfl (by decide +kernel) ⟨Nat.le_of_ble_eq_true rfl, Nat.le_of_ble_eq_true rfl⟩) rfl hl.1 rfl (Nat.le_of_ble_eq_true rfl) dX8_untwist_1 ⟨Nat.zero_le _, Nat.zero_le _⟩ (fun H locs hP hS => ?_)
  refine j_if_ne (A := wr v2) (tgt := 10) hx hb rfl dX8_untwist_4 (by decide) (fun q3 => ?_) (fun q3 => ?_)
  · replace h := (if_neg q3).symm.trans h
    refine j_aload_n hx hb dX8_untwist_10 rfl (lv_at hl 0 rfl) ?_
    refine j_get (v := jR b ((gI μ 0 6).toNat)) hx hb hts hinX8 hown hK hP kz_0 (by decide) rfl 6 (by decide) (hts (.fieldLink RX8 49 "CardBand" "threading" "LCardBand$Threading;") (by decide +kernel)) rfl rfl dX8_untwist_11 ?_
    obtain ⟨g4, h⟩ := ob_g h
    replace g4 := of_decide_eq_true g4
    obtain ⟨v6, e5, h⟩ := ob_I h
    refine jc_VI (As := []) (rest := []) ⟨hx, hb, hml, hown, hts⟩ hK hP hS (m_X5_isMade l D b cs N g4 e5) (cwV 0 hts gX8_untwist_X5_isMade rfl rfl rfl (by decide +kernel) ⟨Nat.le_of_ble_eq_true rfl, Nat.le_of_ble_eq_true rfl⟩) g4 (by decide) rfl rfl hl.1 rfl (Nat.le_of_ble_eq_true rfl) dX8_untwist_14 ⟨Nat.zero_le _, Nat.zero_le _⟩ (fun H locs hP hS => ?_)
    refine j_if_ne (A := wr v6) (tgt := 23) hx hb rfl dX8_untwist_17 (by decide) (fun q7 => ?_) (fun q7 => ?_)
    · replace h := (if_neg q7).symm.trans h
      refine j_iload_n hx hb dX8_untwist_23 rfl (lv_at hl 1 rfl) ?_
      refine j_if_ne (A := wr y1) (tgt := 41) hx hb rfl dX8_untwist_24 (by decide) (fun q8 => ?_) (fun q8 => ?_)
      · replace h := (if_neg q8).symm.trans h
        refine j_aload_n hx hb dX8_untwist_41 rfl (lv_at hl 0 rfl) ?_
        refine j_get (v := jR b 3) hx hb hts hinX8 hown hK hP kz_0 (by decide) rfl 1 (by decide) (hts (.fieldLink RX8 19 "CardBand" "weave" "LCardBand$Weave;") (by decide +kernel)) rfl rfl dX8_untwist_42 ?_
        refine j_aload_n hx hb dX8_untwist_45 rfl (lv_at hl 0 rfl) ?_
        refine j_get (v := jR b ((gI μ 0 6).toNat)) hx hb hts hinX8 hown hK hP kz_0 (by decide) rfl 6 (by decide) (hts (.fieldLink RX8 49 "CardBand" "threading" "LCardBand$Threading;") (by decide +kernel)) rfl rfl dX8_untwist_46 ?_
        obtain ⟨v10, e9, h⟩ := ob_I h
        refine jc_SI (As := [jR b 3, jR b ((gI μ 0 6).toNat)]) (rest := []) ⟨hx, hb, hml, hown, hts⟩ hK hP hS (m_X6_firstUntwist l D b cs N kz_3 g4 e9) (va_cwS 2 hts gX8_untwist_X6_firstUntwist rfl rfl rfl (by decide +kernel) ⟨Nat.le_of_ble_eq_true rfl, Nat.le_of_ble_eq_true rfl⟩) rfl hl.1 rfl (Nat.le_of_ble_eq_true rfl) dX8_untwist_49 ⟨Nat.zero_le _, Nat.zero_le _⟩ (fun H locs hP hS => ?_)
        exact j_retI hx hb hK hP hS hr hlk (Option.some.inj h) dX8_untwist_52
      · replace h := (if_pos q8).symm.trans h
        refine j_aload_n hx hb dX8_untwist_27 rfl (lv_at hl 0 rfl) ?_
        refine j_get (v := jR b 3) hx hb hts hinX8 hown hK hP kz_0 (by decide) rfl 1 (by decide) (hts (.fieldLink RX8 19 "CardBand" "weave" "LCardBand$Weave;") (by decide +kernel)) rfl rfl dX8_untwist_28 ?_
        refine j_aload_n hx hb dX8_untwist_31 rfl (lv_at hl 0 rfl) ?_
        refine j_get (v := jR b ((gI μ 0 6).toNat)) hx hb hts hinX8 hown hK hP kz_0 (by decide) rfl 6 (by decide) (hts (.fieldLink RX8 49 "CardBand" "threading" "LCardBand$Threading;") (by decide +kernel)) rfl rfl dX8_untwist_32 ?_
        obtain ⟨v12, e11, h⟩ := ob_I h
        refine jc_SI (As := [jR b 3, jR b ((gI μ 0 6).toNat)]) (rest := []) ⟨hx, hb, hml, hown, hts⟩ hK hP hS (m_X6_countUntwist l D b cs N kz_3 g4 e11) (va_cwS 2 hts gX8_untwist_X6_countUntwist rfl rfl rfl (by decide +kernel) ⟨Nat.le_of_ble_eq_true rfl, Nat.le_of_ble_eq_true rfl⟩) rfl hl.1 rfl (Nat.le_of_ble_eq_true rfl) dX8_untwist_35 ⟨Nat.zero_le _, Nat.zero_le _⟩ (fun H locs hP hS => ?_)
        refine j_goto (tgt := 52) hx hb dX8_untwist_38 (by decide) ?_
        exact j_retI hx hb hK hP hS hr hlk (Option.some.inj h) dX8_untwist_52
    · replace h := (if_pos q7).symm.trans h
      refine j_ldc (n := (-1000000003)) hx hb hown (hts (.constant RX8 185 (-1000000003)) (by decide +kernel)) (by decide) dX8_untwist_20 ?_
      exact j_retI hx hb hK hP hS hr hlk (Option.some.inj h) dX8_untwist_22
  · replace h := (if_pos q3).symm.trans h
    refine j_ldc (n := (-1000000002)) hx hb hown (hts (.constant RX8 57 (-1000000002)) (by decide +kernel)) (by decide) dX8_untwist_7 ?_
    exact j_retI hx hb hK hP hS hr hlk (Option.some.inj h) dX8_untwist_9
def fX8_write (N : Nat) (y1 : Int) (y2 : Int) (μ : Mm) : Option (Int × Mm) :=
    gd (decide (kd ((gI μ 0 6).toNat) = 4)) (Option.bind (fX5_hasCard N ((gI μ 0 6).toNat) y1 μ) (fun v3 => if wr v3 = 0 then (some ((-1000000001), μ)) else (if wr y2 = (-1) then (bP (fX3_addEntry N y1 y2 μ) (fun v7 μ8 => if wr v7 = 0 then (some ((-1000000004), μ8)) else (some ((gI μ8 293 6), μ8)))) else (Option.bind (fX5_hasColour N ((gI μ 0 6).toNat) y2 μ) (fun v11 => if wr v11 = 0 then (some ((-1000000001), μ)) else (bP (fX3_addEntry N y1 y2 μ) (fun v14 μ15 => if wr v14 = 0 then (some ((-1000000004), μ15)) else (some ((gI μ15 293 6), μ15)))))))))
abbrev rmX8_write : Room := { frames := 1, cells := 0, slots := 0, locals := 22 }
set_option maxHeartbeats 4000000 in
set_option maxRecDepth 100000 in
theorem m_X8_write (l : Launch) (D : va_G) (b : Nat) (cs : CS) (N : Nat) {μ μ0 : Mm} {y1 y2 : Int} {r : Int} (h : fX8_write N y1 y2 μ = some (r, μ0)) : MI l yX8_write wsX8_write rmX8_write D b cs [jR b 0, jI y1, jI y2] μ μ0 r := by
  refine met_in (cc := cX8_write) (maxL := 3) (ret := some .int) (lv0 := [(0, jR b 0), (1, jI y1), (2, jI y2)]) (by decide +kernel) rfl (Nat.le_of_ble_eq_true rfl) rfl ?_
  intro p e s m args below meth c hx hb hr hlk hml hown hts hP hK ls hl
  have hown : s.vm.findClass RX8 = some m.cls := hown
  have hS : va_S (bA b) s.heap s.heap [] := va_S.rf
  have hinX3 : ∀ w ∈ u_ws RX3 TX3 7, w ∈ wsX8_write := by decide +kernel
  have hinX8 : ∀ w ∈ u_ws RX8 TX8 9, w ∈ wsX8_write := by decide +kernel
  unfold fX8_write at h
  refine j_aload_n hx hb dX8_write_0 rfl (lv_at hl 0 rfl) ?_
  refine j_get (v := jR b ((gI μ 0 6).toNat)) hx hb hts hinX8 hown hK hP kz_0 (by decide) rfl 6 (by decide) (hts (.fieldLink RX8 49 "CardBand" "threading" "LCardBand$Threading;") (by decide +kernel)) rfl rfl dX8_write_1 ?_
  refine j_iload_n hx hb dX8_write_4 rfl (lv_at hl 1 rfl) ?_
  obtain ⟨g1, h⟩ := ob_g h
  replace g1 := of_decide_eq_true g1
  obtain ⟨v3, e2, h⟩ := ob_I h
  refine jc_VI (As := [jI y1]) (rest := []) ⟨hx, hb, hml, hown, hts⟩ hK hP hS (m_X5_hasCard l D b cs N g1 e2) (cwV 1 hts gX8_write_X5_hasCard rfl rfl rfl (by decide +kernel) ⟨Nat.le_of_ble_eq_true rfl, Nat.le_of_ble_eq_true rfl⟩) g1 (by decide) rfl rfl hl.1 rfl (Nat.le_of_ble_eq_true rfl) dX8_write_5 ⟨Nat.zero_le _, Nat.zero_le _⟩ (fun H locs hP hS => ?_)
  refine j_if_eq (A := wr v3) (tgt := 27) hx hb rfl dX8_write_8 (by decide) (fun q4 => ?_) (fun q4 => ?_)
  · replace h := (if_pos q4).symm.trans h
    refine j_ldc (n := (-1000000001)) hx hb hown (hts (.constant RX8 136 (-1000000001)) (by decide +kernel)) (by decide) dX8_write_27 ?_
    obtain ⟨e0, e1⟩ := Prod.mk.inj (Option.some.inj h)
    subst e1
    exact j_retI hx hb hK hP hS hr hlk e0 dX8_write_29
  · replace h := (if_neg q4).symm.trans h
    refine j_iload_n hx hb dX8_write_11 rfl (lv_at hl 2 rfl) ?_
    refine j_iconst hx hb dX8_write_12 ?_
    refine j_icmp_eq (A := wr y2) (B := (-1)) (tgt := 30) hx hb rfl (by decide) dX8_write_13 (by decide) (fun q5 => ?_) (fun q5 => ?_)
    · replace h := (if_pos q5).symm.trans h
      refine j_aload_n hx hb dX8_write_30 rfl (lv_at hl 0 rfl) ?_
      refine j_get (v := jR b 293) hx hb hts hinX8 hown hK hP kz_0 (by decide) rfl 4 (by decide) (hts (.fieldLink RX8 36 "CardBand" "notes" "LCardBand$Notes;") (by decide +kernel)) rfl rfl dX8_write_31 ?_
      refine j_iload_n hx hb dX8_write_34 rfl (lv_at hl 1 rfl) ?_
      refine j_iload_n hx hb dX8_write_35 rfl (lv_at hl 2 rfl) ?_
      obtain ⟨v7, μ8, e6, h⟩ := ob_P h
      refine jc_VI (As := [jI y1, jI y2]) (rest := []) ⟨hx, hb, hml, hown, hts⟩ hK hP hS (m_X3_addEntry l D b cs N e6) (cwV 2 hts gX8_write_X3_addEntry rfl rfl rfl (by decide +kernel) ⟨Nat.le_of_ble_eq_true rfl, Nat.le_of_ble_eq_true rfl⟩) kz_293 (by decide) rfl rfl hl.1 rfl (Nat.le_of_ble_eq_true rfl) dX8_write_36 ⟨Nat.zero_le _, Nat.zero_le _⟩ (fun H locs hP hS => ?_)
      refine j_if_eq (A := wr v7) (tgt := 52) hx hb rfl dX8_write_39 (by decide) (fun q9 => ?_) (fun q9 => ?_)
      · replace h := (if_pos q9).symm.trans h
        refine j_ldc (n := (-1000000004)) hx hb hown (hts (.constant RX8 62 (-1000000004)) (by decide +kernel)) (by decide) dX8_write_52 ?_
        obtain ⟨e0, e1⟩ := Prod.mk.inj (Option.some.inj h)
        subst e1
        exact j_retI hx hb hK hP hS hr hlk e0 dX8_write_54
      · replace h := (if_neg q9).symm.trans h
        refine j_aload_n hx hb dX8_write_42 rfl (lv_at hl 0 rfl) ?_
        refine j_get (v := jR b 293) hx hb hts hinX8 hown hK hP kz_0 (by decide) rfl 4 (by decide) (hts (.fieldLink RX8 36 "CardBand" "notes" "LCardBand$Notes;") (by decide +kernel)) rfl rfl dX8_write_43 ?_
        refine j_get (v := jI (gI μ8 293 6)) hx hb hts hinX3 hown hK hP kz_293 (by decide) rfl 6 (by decide) (hts (.fieldLink RX8 127 "CardBand$Notes" "bookCount" "I") (by decide +kernel)) rfl (by rw [jI_g]; rfl) dX8_write_46 ?_
        refine j_goto (tgt := 54) hx hb dX8_write_49 (by decide) ?_
        obtain ⟨e0, e1⟩ := Prod.mk.inj (Option.some.inj h)
        subst e1
        exact j_retI hx hb hK hP hS hr hlk e0 dX8_write_54
    · replace h := (if_neg q5).symm.trans h
      refine j_aload_n hx hb dX8_write_16 rfl (lv_at hl 0 rfl) ?_
      refine j_get (v := jR b ((gI μ 0 6).toNat)) hx hb hts hinX8 hown hK hP kz_0 (by decide) rfl 6 (by decide) (hts (.fieldLink RX8 49 "CardBand" "threading" "LCardBand$Threading;") (by decide +kernel)) rfl rfl dX8_write_17 ?_
      refine j_iload_n hx hb dX8_write_20 rfl (lv_at hl 2 rfl) ?_
      obtain ⟨v11, e10, h⟩ := ob_I h
      refine jc_VI (As := [jI y2]) (rest := []) ⟨hx, hb, hml, hown, hts⟩ hK hP hS (m_X5_hasColour l D b cs N g1 e10) (cwV 1 hts gX8_write_X5_hasColour rfl rfl rfl (by decide +kernel) ⟨Nat.le_of_ble_eq_true rfl, Nat.le_of_ble_eq_true rfl⟩) g1 (by decide) rfl rfl hl.1 rfl (Nat.le_of_ble_eq_true rfl) dX8_write_21 ⟨Nat.zero_le _, Nat.zero_le _⟩ (fun H locs hP hS => ?_)
      refine j_if_ne (A := wr v11) (tgt := 30) hx hb rfl dX8_write_24 (by decide) (fun q12 => ?_) (fun q12 => ?_)
      · replace h := (if_neg q12).symm.trans h
        refine j_aload_n hx hb dX8_write_30 rfl (lv_at hl 0 rfl) ?_
        refine j_get (v := jR b 293) hx hb hts hinX8 hown hK hP kz_0 (by decide) rfl 4 (by decide) (hts (.fieldLink RX8 36 "CardBand" "notes" "LCardBand$Notes;") (by decide +kernel)) rfl rfl dX8_write_31 ?_
        refine j_iload_n hx hb dX8_write_34 rfl (lv_at hl 1 rfl) ?_
        refine j_iload_n hx hb dX8_write_35 rfl (lv_at hl 2 rfl) ?_
        obtain ⟨v14, μ15, e13, h⟩ := ob_P h
        refine jc_VI (As := [jI y1, jI y2]) (rest := []) ⟨hx, hb, hml, hown, hts⟩ hK hP hS (m_X3_addEntry l D b cs N e13) (cwV 2 hts gX8_write_X3_addEntry rfl rfl rfl (by decide +kernel) ⟨Nat.le_of_ble_eq_true rfl, Nat.le_of_ble_eq_true rfl⟩) kz_293 (by decide) rfl rfl hl.1 rfl (Nat.le_of_ble_eq_true rfl) dX8_write_36 ⟨Nat.zero_le _, Nat.zero_le _⟩ (fun H locs hP hS => ?_)
        refine j_if_eq (A := wr v14) (tgt := 52) hx hb rfl dX8_write_39 (by decide) (fun q16 => ?_) (fun q16 => ?_)
        · replace h := (if_pos q16).symm.trans h
          refine j_ldc (n := (-1000000004)) hx hb hown (hts (.constant RX8 62 (-1000000004)) (by decide +kernel)) (by decide) dX8_write_52 ?_
          obtain ⟨e0, e1⟩ := Prod.mk.inj (Option.some.inj h)
          subst e1
          exact j_retI hx hb hK hP hS hr hlk e0 dX8_write_54
        · replace h := (if_neg q16).symm.trans h
          refine j_aload_n hx hb dX8_write_42 rfl (lv_at hl 0 rfl) ?_
          refine j_get (v := jR b 293) hx hb hts hinX8 hown hK hP kz_0 (by decide) rfl 4 (by decide) (hts (.fieldLink RX8 36 "CardBand" "notes" "LCardBand$Notes;") (by decide +kernel)) rfl rfl dX8_write_43 ?_
          refine j_get (v := jI (gI μ15 293 6)) hx hb hts hinX3 hown hK hP kz_293 (by decide) rfl 6 (by decide) (hts (.fieldLink RX8 127 "CardBand$Notes" "bookCount" "I") (by decide +kernel)) rfl (by rw [jI_g]; rfl) dX8_write_46 ?_
          refine j_goto (tgt := 54) hx hb dX8_write_49 (by decide) ?_
          obtain ⟨e0, e1⟩ := Prod.mk.inj (Option.some.inj h)
          subst e1
          exact j_retI hx hb hK hP hS hr hlk e0 dX8_write_54
      · replace h := (if_pos q12).symm.trans h
        refine j_ldc (n := (-1000000001)) hx hb hown (hts (.constant RX8 136 (-1000000001)) (by decide +kernel)) (by decide) dX8_write_27 ?_
        obtain ⟨e0, e1⟩ := Prod.mk.inj (Option.some.inj h)
        subst e1
        exact j_retI hx hb hK hP hS hr hlk e0 dX8_write_29
def fX8_yarn (N : Nat) (y1 : Int) (μ : Mm) : Option (Int) :=
    gd (decide (kd ((gI μ 0 6).toNat) = 4)) (Option.bind (fX5_hasColour N ((gI μ 0 6).toNat) y1 μ) (fun v3 => if wr v3 = 0 then (some (-1000000001)) else (Option.bind (ldA μ 9 8 y1) (fun v5 => some v5))))
abbrev rmX8_yarn : Room := { frames := 1, cells := 0, slots := 0, locals := 21 }
set_option maxHeartbeats 4000000 in
set_option maxRecDepth 100000 in
theorem m_X8_yarn (l : Launch) (D : va_G) (b : Nat) (cs : CS) (N : Nat) {μ : Mm} {y1 : Int} {r : Int} (h : fX8_yarn N y1 μ = some r) : MI l yX8_yarn wsX8_yarn rmX8_yarn D b cs [jR b 0, jI y1] μ μ r := by
  refine met_in (cc := cX8_yarn) (maxL := 2) (ret := some .int) (lv0 := [(0, jR b 0), (1, jI y1)]) (by decide +kernel) rfl (Nat.le_of_ble_eq_true rfl) rfl ?_
  intro p e s m args below meth c hx hb hr hlk hml hown hts hP hK ls hl
  have hown : s.vm.findClass RX8 = some m.cls := hown
  have hS : va_S (bA b) s.heap s.heap [] := va_S.rf
  have hinX7 : ∀ w ∈ u_ws RX7 TX7 9, w ∈ wsX8_yarn := by decide +kernel
  have hinX8 : ∀ w ∈ u_ws RX8 TX8 9, w ∈ wsX8_yarn := by decide +kernel
  unfold fX8_yarn at h
  refine j_aload_n hx hb dX8_yarn_0 rfl (lv_at hl 0 rfl) ?_
  refine j_get (v := jR b ((gI μ 0 6).toNat)) hx hb hts hinX8 hown hK hP kz_0 (by decide) rfl 6 (by decide) (hts (.fieldLink RX8 49 "CardBand" "threading" "LCardBand$Threading;") (by decide +kernel)) rfl rfl dX8_yarn_1 ?_
  refine j_iload_n hx hb dX8_yarn_4 rfl (lv_at hl 1 rfl) ?_
  obtain ⟨g1, h⟩ := ob_g h
  replace g1 := of_decide_eq_true g1
  obtain ⟨v3, e2, h⟩ := ob_I h
  refine jc_VI (As := [jI y1]) (rest := []) ⟨hx, hb, hml, hown, hts⟩ hK hP hS (m_X5_hasColour l D b cs N g1 e2) (cwV 1 hts gX8_yarn_X5_hasColour rfl rfl rfl (by decide +kernel) ⟨Nat.le_of_ble_eq_true rfl, Nat.le_of_ble_eq_true rfl⟩) g1 (by decide) rfl rfl hl.1 rfl (Nat.le_of_ble_eq_true rfl) dX8_yarn_5 ⟨Nat.zero_le _, Nat.zero_le _⟩ (fun H locs hP hS => ?_)
  refine j_if_eq (A := wr v3) (tgt := 23) hx hb rfl dX8_yarn_8 (by decide) (fun q4 => ?_) (fun q4 => ?_)
  · replace h := (if_pos q4).symm.trans h
    refine j_ldc (n := (-1000000001)) hx hb hown (hts (.constant RX8 136 (-1000000001)) (by decide +kernel)) (by decide) dX8_yarn_23 ?_
    exact j_retI hx hb hK hP hS hr hlk (Option.some.inj h) dX8_yarn_25
  · replace h := (if_neg q4).symm.trans h
    refine j_aload_n hx hb dX8_yarn_11 rfl (lv_at hl 0 rfl) ?_
    refine j_get (v := jR b 3) hx hb hts hinX8 hown hK hP kz_0 (by decide) rfl 1 (by decide) (hts (.fieldLink RX8 19 "CardBand" "weave" "LCardBand$Weave;") (by decide +kernel)) rfl rfl dX8_yarn_12 ?_
    refine j_get (v := jR b 9) hx hb hts hinX7 hown hK hP kz_3 (by decide) rfl 5 (by decide) (hts (.fieldLink RX8 169 "CardBand$Weave" "yarns" "[I") (by decide +kernel)) rfl rfl dX8_yarn_15 ?_
    refine j_iload_n hx hb dX8_yarn_18 rfl (lv_at hl 1 rfl) ?_
    obtain ⟨v5, e6, h⟩ := ob_I h
    refine j_iaload hx hb hK hP kz_9 e6 dX8_yarn_19 ?_
    refine j_goto (tgt := 25) hx hb dX8_yarn_20 (by decide) ?_
    exact j_retI hx hb hK hP hS hr hlk (Option.some.inj h) dX8_yarn_25
