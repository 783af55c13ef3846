def fX9_in (N : Nat) (y0 : Int) (y2 : Int) (y4 : Int) (μ : Mm) : Option (Int) :=
    if wr (lcI y0 y2) < 0 then (some 0) else (if 0 < wr (lcI y0 y4) then (some 0) else (some 1))
abbrev rmX9_in : Room := { frames := 0, cells := 0, slots := 0, locals := 0 }
set_option maxHeartbeats 4000000 in
set_option maxRecDepth 100000 in
theorem m_X9_in (l : Launch) (D : va_G) (b : Nat) (cs : CS) (N : Nat) {μ : Mm} {y0 y2 y4 : Int} {r : Int} (h : fX9_in N y0 y2 y4 μ = some r) : MI l yX9_in wsX9_in rmX9_in D b cs [jL y0, jL y2, jL y4] μ μ r := by
  refine met_in (cc := cX9_in) (maxL := 6) (ret := some .boolean) (lv0 := [(0, jL y0), (2, jL y2), (4, jL y4)]) (by decide +kernel) rfl (Nat.le_of_ble_eq_true rfl) rfl ?_
  intro p e s m args below meth c hx hb hr hlk hml hown hts hP hK ls hl
  have hown : s.vm.findClass RX9 = some m.cls := hown
  have hS : va_S (bA b) s.heap s.heap [] := va_S.rf
  unfold fX9_in at h
  refine j_lload_n hx hb dX9_in_0 rfl (lv_at hl 0 rfl) ?_
  refine j_lload_n hx hb dX9_in_1 rfl (lv_at hl 1 rfl) ?_
  refine j_lcmp hx hb dX9_in_2 ?_
  refine j_if_lt (A := wr (lcI y0 y2)) (tgt := 17) hx hb rfl dX9_in_3 (by decide) (fun q1 => ?_) (fun q1 => ?_)
  · replace h := (if_pos q1).symm.trans h
    refine j_iconst hx hb dX9_in_17 ?_
    exact j_retZ hx hb hK hP hS hr hlk (by decide) (Option.some.inj h) dX9_in_18
  · replace h := (if_neg q1).symm.trans h
    refine j_lload_n hx hb dX9_in_6 rfl (lv_at hl 0 rfl) ?_
    refine j_lload hx hb dX9_in_7 (lv_at hl 2 rfl) ?_
    refine j_lcmp hx hb dX9_in_9 ?_
    refine j_if_gt (A := wr (lcI y0 y4)) (tgt := 17) hx hb rfl dX9_in_10 (by decide) (fun q2 => ?_) (fun q2 => ?_)
    · replace h := (if_pos q2).symm.trans h
      refine j_iconst hx hb dX9_in_17 ?_
      exact j_retZ hx hb hK hP hS hr hlk (by decide) (Option.some.inj h) dX9_in_18
    · replace h := (if_neg q2).symm.trans h
      refine j_iconst hx hb dX9_in_13 ?_
      refine j_goto (tgt := 18) hx hb dX9_in_14 (by decide) ?_
      exact j_retZ hx hb hK hP hS hr hlk (by decide) (Option.some.inj h) dX9_in_18
def fX9_isCard (N : Nat) (y1 : Int) (μ : Mm) : Option (Int) :=
    Option.bind (fX9_in N (wr y1) 0 (wr ((gI μ 332 6) - 1)) μ) (fun v2 => gd (decide (v2 = 0 ∨ v2 = 1)) (some v2))
abbrev rmX9_isCard : Room := { frames := 1, cells := 0, slots := 0, locals := 25 }
set_option maxHeartbeats 4000000 in
set_option maxRecDepth 100000 in
theorem m_X9_isCard (l : Launch) (D : va_G) (b : Nat) (cs : CS) (N : Nat) {μ : Mm} {y1 : Int} {r : Int} (h : fX9_isCard N y1 μ = some r) : MI l yX9_isCard wsX9_isCard rmX9_isCard D b cs [jR b 332, jI y1] μ μ r := by
  refine met_in (cc := cX9_isCard) (maxL := 2) (ret := some .boolean) (lv0 := [(0, jR b 332), (1, jI y1)]) (by decide +kernel) rfl (Nat.le_of_ble_eq_true rfl) rfl ?_
  intro p e s m args below meth c hx hb hr hlk hml hown hts hP hK ls hl
  have hown : s.vm.findClass RX9 = some m.cls := hown
  have hS : va_S (bA b) s.heap s.heap [] := va_S.rf
  have hinX9 : ∀ w ∈ u_ws RX9 TX9 27, w ∈ wsX9_isCard := by decide +kernel
  unfold fX9_isCard at h
  refine j_iload_n hx hb dX9_isCard_0 rfl (lv_at hl 1 rfl) ?_
  refine j_i2l hx hb dX9_isCard_1 ?_
  refine j_lconst (n := 0) hx hb dX9_isCard_2 (by decide) ?_
  refine j_aload_n hx hb dX9_isCard_3 rfl (lv_at hl 0 rfl) ?_
  refine j_get (v := jI (gI μ 332 6)) hx hb hts hinX9 hown hK hP kz_332 (by decide) rfl 6 (by decide) (hts (.fieldLink RX9 122 "CardBandModel" "cards" "I") (by decide +kernel)) rfl (by rw [jI_g]; rfl) dX9_isCard_4 ?_
  refine j_iconst hx hb dX9_isCard_7 ?_
  refine j_isub hx hb dX9_isCard_8 ?_
  refine j_i2l hx hb dX9_isCard_9 ?_
  obtain ⟨v2, e1, h⟩ := ob_I h
  refine jc_SI (As := [jL (wr y1), jL 0, jL (wr ((gI μ 332 6) - 1))]) (rest := []) ⟨hx, hb, hml, hown, hts⟩ hK hP hS (m_X9_in l D b cs N e1) (va_cwS 3 hts gX9_isCard_X9_in rfl rfl rfl (by decide +kernel) ⟨Nat.le_of_ble_eq_true rfl, Nat.le_of_ble_eq_true rfl⟩) rfl hl.1 rfl (Nat.le_of_ble_eq_true rfl) dX9_isCard_10 ⟨Nat.zero_le _, Nat.zero_le _⟩ (fun H locs hP hS => ?_)
  obtain ⟨g3, h⟩ := ob_g h
  replace g3 := of_decide_eq_true g3
  exact j_retZ hx hb hK hP hS hr hlk g3 (Option.some.inj h) dX9_isCard_13
def fX9_colourOf (N : Nat) (y1 : Int) (y2 : Int) (μ : Mm) : Option (Int) :=
    Option.bind (ldA μ 335 64 ((4 * y1) + (andI y2 3))) (fun v1 => some v1)
abbrev rmX9_colourOf : Room := { frames := 0, cells := 0, slots := 0, locals := 0 }
set_option maxHeartbeats 4000000 in
set_option maxRecDepth 100000 in
theorem m_X9_colourOf (l : Launch) (D : va_G) (b : Nat) (cs : CS) (N : Nat) {μ : Mm} {y1 y2 : Int} {r : Int} (h : fX9_colourOf N y1 y2 μ = some r) : MI l yX9_colourOf wsX9_colourOf rmX9_colourOf D b cs [jR b 332, jI y1, jI y2] μ μ r := by
  refine met_in (cc := cX9_colourOf) (maxL := 3) (ret := some .int) (lv0 := [(0, jR b 332), (1, jI y1), (2, jI y2)]) (by decide +kernel) rfl (Nat.le_of_ble_eq_true rfl) rfl ?_
  intro p e s m args below meth c hx hb hr hlk hml hown hts hP hK ls hl
  have hown : s.vm.findClass RX9 = some m.cls := hown
  have hS : va_S (bA b) s.heap s.heap [] := va_S.rf
  have hinX9 : ∀ w ∈ u_ws RX9 TX9 27, w ∈ wsX9_colourOf := by decide +kernel
  unfold fX9_colourOf at h
  refine j_aload_n hx hb dX9_colourOf_0 rfl (lv_at hl 0 rfl) ?_
  refine j_get (v := jR b 335) hx hb hts hinX9 hown hK hP kz_332 (by decide) rfl 4 (by decide) (hts (.fieldLink RX9 17 "CardBandModel" "hole" "[I") (by decide +kernel)) rfl rfl dX9_colourOf_1 ?_
  refine j_iconst hx hb dX9_colourOf_4 ?_
  refine j_iload_n hx hb dX9_colourOf_5 rfl (lv_at hl 1 rfl) ?_
  refine j_imul hx hb dX9_colourOf_6 ?_
  refine j_iload_n hx hb dX9_colourOf_7 rfl (lv_at hl 2 rfl) ?_
  refine j_iconst hx hb dX9_colourOf_8 ?_
  refine j_iand hx hb dX9_colourOf_9 ?_
  refine j_iadd hx hb dX9_colourOf_10 ?_
  obtain ⟨v1, e2, h⟩ := ob_I h
  refine j_iaload hx hb hK hP kz_335 e2 dX9_colourOf_11 ?_
  exact j_retI hx hb hK hP hS hr hlk (Option.some.inj h) dX9_colourOf_12
def fX9_ahead_j67 (N : Nat) (y1 : Int) (μ : Mm) : Int → Option (Int) := fun s11 =>
    Option.bind (fX9_colourOf N y1 s11 μ) (fun v13 => some v13)
def fX9_ahead (N : Nat) (y1 : Int) (y2 : Int) (y3 : Int) (μ : Mm) : Option (Int) :=
    Option.bind (fX9_isCard N y1 μ) (fun v2 => if wr v2 = 0 then (some (-1000000001)) else (Option.bind (fX9_in N (wr y2) 1 99 μ) (fun v5 => if wr v5 = 0 then (some (-1000000002)) else (Option.bind (fX9_in N (wr y3) 0 1 μ) (fun v8 => if wr v8 = 0 then (some (-1000000002)) else (if wr y3 = 0 then (Option.bind (ldA μ 333 8262 y1) (fun v17 => fX9_ahead_j67 N y1 μ ((v17 + y2) - 1))) else (Option.bind (ldA μ 333 8262 y1) (fun v15 => fX9_ahead_j67 N y1 μ ((v15 - y2) + 400)))))))))
abbrev rmX9_ahead : Room := { frames := 2, cells := 0, slots := 0, locals := 46 }
set_option maxHeartbeats 4000000 in
set_option maxRecDepth 100000 in
theorem m_X9_ahead (l : Launch) (D : va_G) (b : Nat) (cs : CS) (N : Nat) {μ : Mm} {y1 y2 y3 : Int} {r : Int} (h : fX9_ahead N y1 y2 y3 μ = some r) : MI l yX9_ahead wsX9_ahead rmX9_ahead D b cs [jR b 332, jI y1, jI y2, jI y3] μ μ r := by
  refine met_in (cc := cX9_ahead) (maxL := 4) (ret := some .int) (lv0 := [(0, jR b 332), (1, jI y1), (2, jI y2), (3, jI y3)]) (by decide +kernel) rfl (Nat.le_of_ble_eq_true rfl) rfl ?_
  intro p e s m args below meth c hx hb hr hlk hml hown hts hP hK ls hl
  have hown : s.vm.findClass RX9 = some m.cls := hown
  have hS : va_S (bA b) s.heap s.heap [] := va_S.rf
  have hinX9 : ∀ w ∈ u_ws RX9 TX9 27, w ∈ wsX9_ahead := by decide +kernel
  unfold fX9_ahead at h
  refine j_aload_n hx hb dX9_ahead_0 rfl (lv_at hl 0 rfl) ?_
  refine j_iload_n hx hb dX9_ahead_1 rfl (lv_at hl 1 rfl) ?_
  obtain ⟨v2, e1, h⟩ := ob_I h
  refine jc_VI (As := [jI y1]) (rest := []) ⟨hx, hb, hml, hown, hts⟩ hK hP hS (m_X9_isCard l D b cs N e1) (cwV 1 hts gX9_ahead_X9_isCard rfl rfl rfl (by decide +kernel) ⟨Nat.le_of_ble_eq_true rfl, Nat.le_of_ble_eq_true rfl⟩) kz_332 (by decide) rfl rfl hl.1 rfl (Nat.le_of_ble_eq_true rfl) dX9_ahead_2 ⟨Nat.zero_le _, Nat.zero_le _⟩ (fun H locs hP hS => ?_)
  refine j_if_ne (A := wr v2) (tgt := 11) hx hb rfl dX9_ahead_5 (by decide) (fun q3 => ?_) (fun q3 => ?_)
  · replace h := (if_neg q3).symm.trans h
    refine j_iload_n hx hb dX9_ahead_11 rfl (lv_at hl 2 rfl) ?_
    refine j_i2l hx hb dX9_ahead_12 ?_
    refine j_lconst (n := 1) hx hb dX9_ahead_13 (by decide) ?_
    refine j_ldc2 (n := 99) hx hb hown (hts (.constantLong RX9 255 (99)) (by decide +kernel)) (by decide) dX9_ahead_14 ?_
    obtain ⟨v5, e4, h⟩ := ob_I h
    refine jc_SI (As := [jL (wr y2), jL 1, jL 99]) (rest := []) ⟨hx, hb, hml, hown, hts⟩ hK hP hS (m_X9_in l D b cs N e4) (va_cwS 3 hts gX9_ahead_X9_in rfl rfl rfl (by decide +kernel) ⟨Nat.le_of_ble_eq_true rfl, Nat.le_of_ble_eq_true rfl⟩) rfl hl.1 rfl (Nat.le_of_ble_eq_true rfl) dX9_ahead_17 ⟨Nat.zero_le _, Nat.zero_le _⟩ (fun H locs hP hS => ?_)
    refine j_if_eq (A := wr v5) (tgt := 33) hx hb rfl dX9_ahead_20 (by decide) (fun q6 => ?_) (fun q6 => ?_)
    · replace h := (if_pos q6).symm.trans h
      refine j_ldc (n := (-1000000002)) hx hb hown (hts (.constant RX9 60 (-1000000002)) (by decide +kernel)) (by decide) dX9_ahead_33 ?_
      exact j_retI hx hb hK hP hS hr hlk (Option.some.inj h) dX9_ahead_35
    · replace h := (if_neg q6).symm.trans h
      refine j_iload_n hx hb dX9_ahead_23 rfl (lv_at hl 3 rfl) ?_
      refine j_i2l hx hb dX9_ahead_24 ?_
      refine j_lconst (n := 0) hx hb dX9_ahead_25 (by decide) ?_
      refine j_lconst (n := 1) hx hb dX9_ahead_26 (by decide) ?_
      obtain ⟨v8, e7, h⟩ := ob_I h
      refine jc_SI (As := [jL (wr y3), jL 0, jL 1]) (rest := []) ⟨hx, hb, hml, hown, hts⟩ hK hP hS (m_X9_in l D b cs N e7) (va_cwS 3 hts gX9_ahead_X9_in rfl rfl rfl (by decide +kernel) ⟨Nat.le_of_ble_eq_true rfl, Nat.le_of_ble_eq_true rfl⟩) rfl hl.1 rfl (Nat.le_of_ble_eq_true rfl) dX9_ahead_27 ⟨Nat.zero_le _, Nat.zero_le _⟩ (fun H locs hP hS => ?_)
      refine j_if_ne (A := wr v8) (tgt := 36) hx hb rfl dX9_ahead_30 (by decide) (fun q9 => ?_) (fun q9 => ?_)
      · replace h := (if_neg q9).symm.trans h
        refine j_aload_n hx hb dX9_ahead_36 rfl (lv_at hl 0 rfl) ?_
        refine j_iload_n hx hb dX9_ahead_37 rfl (lv_at hl 1 rfl) ?_
        refine j_iload_n hx hb dX9_ahead_38 rfl (lv_at hl 3 rfl) ?_
        have hj67_10 : ∀ (s11 : Int) (H : Heap) (locs : List Loc) (ls : Array Slot), va_P D vwCl (wl b cs μ) H → va_S (bA b) s.heap H locs → lv_has ls 4 [] → fX9_ahead_j67 N y1 μ s11 = some r → W p l e rmX9_ahead s m args below meth c H locs 0 0 (MQ below (QI D b cs μ r) args s 0 0 (bA b)) (F0 m 67 ls [jI s11, jI y1, jR b 332]) := by
          intro s11 H locs ls hP hS hl h
          unfold fX9_ahead_j67 at h
          obtain ⟨v13, e12, h⟩ := ob_I h
          refine jc_VI (As := [jI y1, jI s11]) (rest := []) ⟨hx, hb, hml, hown, hts⟩ hK hP hS (m_X9_colourOf l D b cs N e12) (cwV 2 hts gX9_ahead_X9_colourOf rfl rfl rfl (by decide +kernel) ⟨Nat.le_of_ble_eq_true rfl, Nat.le_of_ble_eq_true rfl⟩) kz_332 (by decide) rfl rfl hl.1 rfl (Nat.le_of_ble_eq_true rfl) dX9_ahead_67 ⟨Nat.zero_le _, Nat.zero_le _⟩ (fun H locs hP hS => ?_)
          exact j_retI hx hb hK hP hS hr hlk (Option.some.inj h) dX9_ahead_70
        refine j_if_ne (A := wr y3) (tgt := 55) hx hb rfl dX9_ahead_39 (by decide) (fun q14 => ?_) (fun q14 => ?_)
        · replace h := (if_neg q14).symm.trans h
          refine j_aload_n hx hb dX9_ahead_55 rfl (lv_at hl 0 rfl) ?_
          refine j_get (v := jR b 333) hx hb hts hinX9 hown hK hP kz_332 (by decide) rfl 0 (by decide) (hts (.fieldLink RX9 7 "CardBandModel" "w" "[I") (by decide +kernel)) rfl rfl dX9_ahead_56 ?_
          refine j_iload_n hx hb dX9_ahead_59 rfl (lv_at hl 1 rfl) ?_
          obtain ⟨v15, e16, h⟩ := ob_I h
          refine j_iaload hx hb hK hP kz_333 e16 dX9_ahead_60 ?_
          refine j_iload_n hx hb dX9_ahead_61 rfl (lv_at hl 2 rfl) ?_
          refine j_isub hx hb dX9_ahead_62 ?_
          refine j_sipush hx hb dX9_ahead_63 (by decide) ?_
          refine j_iadd hx hb dX9_ahead_66 ?_
          exact hj67_10 _ _ _ _ hP hS (lv_sub hl [] rfl) h
        · replace h := (if_pos q14).symm.trans h
          refine j_aload_n hx hb dX9_ahead_42 rfl (lv_at hl 0 rfl) ?_
          refine j_get (v := jR b 333) hx hb hts hinX9 hown hK hP kz_332 (by decide) rfl 0 (by decide) (hts (.fieldLink RX9 7 "CardBandModel" "w" "[I") (by decide +kernel)) rfl rfl dX9_ahead_43 ?_
          refine j_iload_n hx hb dX9_ahead_46 rfl (lv_at hl 1 rfl) ?_
          obtain ⟨v17, e18, h⟩ := ob_I h
          refine j_iaload hx hb hK hP kz_333 e18 dX9_ahead_47 ?_
          refine j_iload_n hx hb dX9_ahead_48 rfl (lv_at hl 2 rfl) ?_
          refine j_iadd hx hb dX9_ahead_49 ?_
          refine j_iconst hx hb dX9_ahead_50 ?_
          refine j_isub hx hb dX9_ahead_51 ?_
          refine j_goto (tgt := 67) hx hb dX9_ahead_52 (by decide) ?_
          exact hj67_10 _ _ _ _ hP hS (lv_sub hl [] rfl) h
      · replace h := (if_pos q9).symm.trans h
        refine j_ldc (n := (-1000000002)) hx hb hown (hts (.constant RX9 60 (-1000000002)) (by decide +kernel)) (by decide) dX9_ahead_33 ?_
        exact j_retI hx hb hK hP hS hr hlk (Option.some.inj h) dX9_ahead_35
  · replace h := (if_pos q3).symm.trans h
    refine j_ldc (n := (-1000000001)) hx hb hown (hts (.constant RX9 183 (-1000000001)) (by decide +kernel)) (by decide) dX9_ahead_8 ?_
    exact j_retI hx hb hK hP hS hr hlk (Option.some.inj h) dX9_ahead_10
def fX9_was (N : Nat) (y1 : Int) (y2 : Int) (μ : Mm) : Option (Int) :=
    Option.bind (ldA μ 333 8262 49) (fun v1 => Option.bind (ldA μ 333 8262 ((50 + (8 * ((v1 - 1) - y1))) + y2)) (fun v3 => some v3))
abbrev rmX9_was : Room := { frames := 0, cells := 0, slots := 0, locals := 0 }
set_option maxHeartbeats 4000000 in
set_option maxRecDepth 100000 in
theorem m_X9_was (l : Launch) (D : va_G) (b : Nat) (cs : CS) (N : Nat) {μ : Mm} {y1 y2 : Int} {r : Int} (h : fX9_was N y1 y2 μ = some r) : MI l yX9_was wsX9_was rmX9_was D b cs [jR b 332, jI y1, jI y2] μ μ r := by
  refine met_in (cc := cX9_was) (maxL := 3) (ret := some .int) (lv0 := [(0, jR b 332), (1, jI y1), (2, jI y2)]) (by decide +kernel) rfl (Nat.le_of_ble_eq_true rfl) rfl ?_
  intro p e s m args below meth c hx hb hr hlk hml hown hts hP hK ls hl
  have hown : s.vm.findClass RX9 = some m.cls := hown
  have hS : va_S (bA b) s.heap s.heap [] := va_S.rf
  have hinX9 : ∀ w ∈ u_ws RX9 TX9 27, w ∈ wsX9_was := by decide +kernel
  unfold fX9_was at h
  refine j_aload_n hx hb dX9_was_0 rfl (lv_at hl 0 rfl) ?_
  refine j_get (v := jR b 333) hx hb hts hinX9 hown hK hP kz_332 (by decide) rfl 0 (by decide) (hts (.fieldLink RX9 7 "CardBandModel" "w" "[I") (by decide +kernel)) rfl rfl dX9_was_1 ?_
  refine j_bipush hx hb dX9_was_4 (by decide) ?_
  refine j_bipush hx hb dX9_was_6 (by decide) ?_
  refine j_aload_n hx hb dX9_was_8 rfl (lv_at hl 0 rfl) ?_
  refine j_get (v := jR b 333) hx hb hts hinX9 hown hK hP kz_332 (by decide) rfl 0 (by decide) (hts (.fieldLink RX9 7 "CardBandModel" "w" "[I") (by decide +kernel)) rfl rfl dX9_was_9 ?_
  refine j_bipush hx hb dX9_was_12 (by decide) ?_
  obtain ⟨v1, e2, h⟩ := ob_I h
  refine j_iaload hx hb hK hP kz_333 e2 dX9_was_14 ?_
  refine j_iconst hx hb dX9_was_15 ?_
  refine j_isub hx hb dX9_was_16 ?_
  refine j_iload_n hx hb dX9_was_17 rfl (lv_at hl 1 rfl) ?_
  refine j_isub hx hb dX9_was_18 ?_
  refine j_imul hx hb dX9_was_19 ?_
  refine j_iadd hx hb dX9_was_20 ?_
  refine j_iload_n hx hb dX9_was_21 rfl (lv_at hl 2 rfl) ?_
  refine j_iadd hx hb dX9_was_22 ?_
  obtain ⟨v3, e4, h⟩ := ob_I h
  refine j_iaload hx hb hK hP kz_333 e4 dX9_was_23 ?_
  exact j_retI hx hb hK hP hS hr hlk (Option.some.inj h) dX9_was_24
def fX9_areAlike_l5 (N : Nat) (y1 : Int) (y2 : Int) (μ : Mm) : Nat → Int → Int → Option (Int)
  | 0, _, _ => none
  | n1 + 1, x3_2, x4_3 =>
    Option.bind (ldA μ 333 8262 49) (fun v4 => if wr v4 ≤ wr x4_3 then (gd (decide (x3_2 = 0 ∨ x3_2 = 1)) (some x3_2)) else (if wr x3_2 = 0 then ((fX9_areAlike_l5 N y1 y2 μ n1) 0 (x4_3 + 1)) else (Option.bind (fX9_was N x4_3 y1 μ) (fun v10 => Option.bind (fX9_was N x4_3 y2 μ) (fun v12 => if wr v10 = wr v12 then ((fX9_areAlike_l5 N y1 y2 μ n1) 1 (x4_3 + 1)) else ((fX9_areAlike_l5 N y1 y2 μ n1) 0 (x4_3 + 1)))))))
def fX9_areAlike (N : Nat) (y1 : Int) (y2 : Int) (μ : Mm) : Option (Int) :=
    fX9_areAlike_l5 N y1 y2 μ N 1 0
abbrev rmX9_areAlike : Room := { frames := 1, cells := 0, slots := 0, locals := 22 }
set_option maxHeartbeats 4000000 in
set_option maxRecDepth 100000 in
theorem m_X9_areAlike (l : Launch) (D : va_G) (b : Nat) (cs : CS) (N : Nat) {μ : Mm} {y1 y2 : Int} {r : Int} (h : fX9_areAlike N y1 y2 μ = some r) : MI l yX9_areAlike wsX9_areAlike rmX9_areAlike D b cs [jR b 332, jI y1, jI y2] μ μ r := by
  refine met_in (cc := cX9_areAlike) (maxL := 5) (ret := some .boolean) (lv0 := [(0, jR b 332), (1, jI y1), (2, jI y2)]) (by decide +kernel) rfl (Nat.le_of_ble_eq_true rfl) rfl ?_
  intro p e s m args below meth c hx hb hr hlk hml hown hts hP hK ls hl
  have hown : s.vm.findClass RX9 = some m.cls := hown
  have hS : va_S (bA b) s.heap s.heap [] := va_S.rf
  have hinX9 : ∀ w ∈ u_ws RX9 TX9 27, w ∈ wsX9_areAlike := by decide +kernel
  unfold fX9_areAlike at h
  refine j_iconst hx hb dX9_areAlike_0 ?_
  refine j_istore_n (lv2 := [(3, jI 1), (0, jR b 332), (1, jI y1), (2, jI y2)]) hx hb dX9_areAlike_1 rfl hl (by decide) rfl (fun ls hl => ?_)
  refine j_iconst hx hb dX9_areAlike_2 ?_
  refine j_istore (lv2 := [(4, jI 0), (3, jI 1), (0, jR b 332), (1, jI y1), (2, jI y2)]) hx hb dX9_areAlike_3 hl (by decide) rfl (fun ls hl => ?_)
  have hl5_1 : ∀ (n0 : Nat) (x3_2 : Int) (x4_3 : Int) (H : Heap) (locs : List Loc) (ls : Array Slot), va_P D vwCl (wl b cs μ) H → va_S (bA b) s.heap H locs → lv_has ls 5 [(0, jR b 332), (1, jI y1), (2, jI y2), (3, jI x3_2), (4, jI x4_3)] → fX9_areAlike_l5 N y1 y2 μ n0 x3_2 x4_3 = some r → W p l e rmX9_areAlike s m args below meth c H locs 0 0 (MQ below (QI D b cs μ r) args s 0 0 (bA b)) (F0 m 5 ls []) := by
    intro n0
    induction n0 with
    | zero => intro x3_2 x4_3 H locs ls hP hS hl h; rw [fX9_areAlike_l5] at h; cases h
    | succ n1 ih5_1 =>
      intro x3_2 x4_3 H locs ls hP hS hl h
      rw [fX9_areAlike_l5] at h
      refine j_iload hx hb dX9_areAlike_5 (lv_at hl 4 rfl) ?_
      refine j_aload_n hx hb dX9_areAlike_7 rfl (lv_at hl 0 rfl) ?_
      refine j_get (v := jR b 333) hx hb hts hinX9 hown hK hP kz_332 (by decide) rfl 0 (by decide) (hts (.fieldLink RX9 7 "CardBandModel" "w" "[I") (by decide +kernel)) rfl rfl dX9_areAlike_8 ?_
      refine j_bipush hx hb dX9_areAlike_11 (by decide) ?_
      obtain ⟨v4, e5, h⟩ := ob_I h
      refine j_iaload hx hb hK hP kz_333 e5 dX9_areAlike_13 ?_
      refine j_icmp_ge (A := wr x4_3) (B := wr v4) (tgt := 50) hx hb rfl rfl dX9_areAlike_14 (by decide) (fun q6 => ?_) (fun q6 => ?_)
      · replace h := (if_pos q6).symm.trans h
        refine j_iload_n hx hb dX9_areAlike_50 rfl (lv_at hl 3 rfl) ?_
        obtain ⟨g7, h⟩ := ob_g h
        replace g7 := of_decide_eq_true g7
        exact j_retZ hx hb hK hP hS hr hlk g7 (Option.some.inj h) dX9_areAlike_51
      · replace h := (if_neg q6).symm.trans h
        refine j_iload_n hx hb dX9_areAlike_17 rfl (lv_at hl 3 rfl) ?_
        refine j_if_eq (A := wr x3_2) (tgt := 42) hx hb rfl dX9_areAlike_18 (by decide) (fun q8 => ?_) (fun q8 => ?_)
        · replace h := (if_pos q8).symm.trans h
          refine j_iconst hx hb dX9_areAlike_42 ?_
          refine j_istore_n (lv2 := [(3, jI 0), (0, jR b 332), (1, jI y1), (2, jI y2), (4, jI x4_3)]) hx hb dX9_areAlike_43 rfl hl (by decide) rfl (fun ls hl => ?_)
          refine j_iinc (k := 4) (lv2 := [(4, jI (x4_3 + 1)), (3, jI 0), (0, jR b 332), (1, jI y1), (2, jI y2)]) hx hb dX9_areAlike_44 hl rfl (by decide) rfl (fun ls hl => ?_)
          refine j_goto (tgt := 5) hx hb dX9_areAlike_47 (by decide) ?_
          exact ih5_1 _ _ _ _ _ hP hS (lv_sub hl [2, 3, 4, 1, 0] rfl) h
        · replace h := (if_neg q8).symm.trans h
          refine j_aload_n hx hb dX9_areAlike_21 rfl (lv_at hl 0 rfl) ?_
          refine j_iload hx hb dX9_areAlike_22 (lv_at hl 4 rfl) ?_
          refine j_iload_n hx hb dX9_areAlike_24 rfl (lv_at hl 1 rfl) ?_
          obtain ⟨v10, e9, h⟩ := ob_I h
          refine jc_VI (As := [jI x4_3, jI y1]) (rest := []) ⟨hx, hb, hml, hown, hts⟩ hK hP hS (m_X9_was l D b cs N e9) (cwV 2 hts gX9_areAlike_X9_was rfl rfl rfl (by decide +kernel) ⟨Nat.le_of_ble_eq_true rfl, Nat.le_of_ble_eq_true rfl⟩) kz_332 (by decide) rfl rfl hl.1 rfl (Nat.le_of_ble_eq_true rfl) dX9_areAlike_25 ⟨Nat.zero_le _, Nat.zero_le _⟩ (fun H locs hP hS => ?_)
          refine j_aload_n hx hb dX9_areAlike_28 rfl (lv_at hl 0 rfl) ?_
          refine j_iload hx hb dX9_areAlike_29 (lv_at hl 4 rfl) ?_
          refine j_iload_n hx hb dX9_areAlike_31 rfl (lv_at hl 2 rfl) ?_
          obtain ⟨v12, e11, h⟩ := ob_I h
          refine jc_VI (As := [jI x4_3, jI y2]) (rest := [jI v10]) ⟨hx, hb, hml, hown, hts⟩ hK hP hS (m_X9_was l D b cs N e11) (cwV 2 hts gX9_areAlike_X9_was rfl rfl rfl (by decide +kernel) ⟨Nat.le_of_ble_eq_true rfl, Nat.le_of_ble_eq_true rfl⟩) kz_332 (by decide) rfl rfl hl.1 rfl (Nat.le_of_ble_eq_true rfl) dX9_areAlike_32 ⟨Nat.zero_le _, Nat.zero_le _⟩ (fun H locs hP hS => ?_)
          refine j_icmp_ne (A := wr v10) (B := wr v12) (tgt := 42) hx hb rfl rfl dX9_areAlike_35 (by decide) (fun q13 => ?_) (fun q13 => ?_)
          · replace h := (if_neg q13).symm.trans h
            refine j_iconst hx hb dX9_areAlike_42 ?_
            refine j_istore_n (lv2 := [(3, jI 0), (0, jR b 332), (1, jI y1), (2, jI y2), (4, jI x4_3)]) hx hb dX9_areAlike_43 rfl hl (by decide) rfl (fun ls hl => ?_)
            refine j_iinc (k := 4) (lv2 := [(4, jI (x4_3 + 1)), (3, jI 0), (0, jR b 332), (1, jI y1), (2, jI y2)]) hx hb dX9_areAlike_44 hl rfl (by decide) rfl (fun ls hl => ?_)
            refine j_goto (tgt := 5) hx hb dX9_areAlike_47 (by decide) ?_
            exact ih5_1 _ _ _ _ _ hP hS (lv_sub hl [2, 3, 4, 1, 0] rfl) h
          · replace h := (if_pos q13).symm.trans h
            refine j_iconst hx hb dX9_areAlike_38 ?_
            refine j_goto (tgt := 43) hx hb dX9_areAlike_39 (by decide) ?_
            refine j_istore_n (lv2 := [(3, jI 1), (0, jR b 332), (1, jI y1), (2, jI y2), (4, jI x4_3)]) hx hb dX9_areAlike_43 rfl hl (by decide) rfl (fun ls hl => ?_)
            refine j_iinc (k := 4) (lv2 := [(4, jI (x4_3 + 1)), (3, jI 1), (0, jR b 332), (1, jI y1), (2, jI y2)]) hx hb dX9_areAlike_44 hl rfl (by decide) rfl (fun ls hl => ?_)
            refine j_goto (tgt := 5) hx hb dX9_areAlike_47 (by decide) ?_
            exact ih5_1 _ _ _ _ _ hP hS (lv_sub hl [2, 3, 4, 1, 0] rfl) h
  exact hl5_1 N _ _ _ _ _ hP hS (lv_sub hl [2, 3, 4, 1, 0] rfl) h
def fX9_alike_k75 (N : Nat) (y1 : Int) : Int → Int → Option (Int) := fun x2_2 x3_3 =>
    if wr y1 = (-1) then (some x2_2) else (some x3_3)
def fX9_alike_l22 (N : Nat) (y1 : Int) (μ : Mm) (x4_8 : Int) (rec7_5 : Int → Int → Int → Option (Int)) : Nat → Int → Int → Int → Option (Int)
  | 0, _, _, _ => none
  | n10 + 1, x2_11, x3_12, x5_13 =>
    if wr (gI μ 332 6) ≤ wr x5_13 then (rec7_5 x2_11 x3_12 (x4_8 + 1)) else (Option.bind (fX9_areAlike N x4_8 x5_13 μ) (fun v16 => if wr v16 = 0 then ((fX9_alike_l22 N y1 μ x4_8 rec7_5 n10) x2_11 x3_12 (x5_13 + 1)) else (if wr x2_11 = wr y1 then ((fX9_alike_l22 N y1 μ x4_8 rec7_5 n10) (x2_11 + 1) ((10 * x4_8) + x5_13) (x5_13 + 1)) else ((fX9_alike_l22 N y1 μ x4_8 rec7_5 n10) (x2_11 + 1) x3_12 (x5_13 + 1)))))
def fX9_alike_l7 (N : Nat) (y1 : Int) (μ : Mm) : Nat → Int → Int → Int → Option (Int)
  | 0, _, _, _ => none
  | n5 + 1, x2_6, x3_7, x4_8 =>
    if wr (gI μ 332 6) ≤ wr x4_8 then (fX9_alike_k75 N y1 x2_6 x3_7) else (fX9_alike_l22 N y1 μ x4_8 (fX9_alike_l7 N y1 μ n5) N x2_6 x3_7 (x4_8 + 1))
def fX9_alike (N : Nat) (y1 : Int) (μ : Mm) : Option (Int) :=
    fX9_alike_l7 N y1 μ N 0 (-1) 0
abbrev rmX9_alike : Room := { frames := 2, cells := 0, slots := 0, locals := 46 }
set_option maxHeartbeats 4000000 in
set_option maxRecDepth 100000 in
theorem m_X9_alike (l : Launch) (D : va_G) (b : Nat) (cs : CS) (N : Nat) {μ : Mm} {y1 : Int} {r : Int} (h : fX9_alike N y1 μ = some r) : MI l yX9_alike wsX9_alike rmX9_alike D b cs [jR b 332, jI y1] μ μ r := by
  refine met_in (cc := cX9_alike) (maxL := 6) (ret := some .int) (lv0 := [(0, jR b 332), (1, jI y1)]) (by decide +kernel) rfl (Nat.le_of_ble_eq_true rfl) rfl ?_
  intro p e s m args below meth c hx hb hr hlk hml hown hts hP hK ls hl
  have hown : s.vm.findClass RX9 = some m.cls := hown
  have hS : va_S (bA b) s.heap s.heap [] := va_S.rf
  have hinX9 : ∀ w ∈ u_ws RX9 TX9 27, w ∈ wsX9_alike := by decide +kernel
  unfold fX9_alike at h
  refine j_iconst hx hb dX9_alike_0 ?_
  refine j_istore_n (lv2 := [(2, jI 0), (0, jR b 332), (1, jI y1)]) hx hb dX9_alike_1 rfl hl (by decide) rfl (fun ls hl => ?_)
  refine j_iconst hx hb dX9_alike_2 ?_
  refine j_istore_n (lv2 := [(3, jI (-1)), (2, jI 0), (0, jR b 332), (1, jI y1)]) hx hb dX9_alike_3 rfl hl (by decide) rfl (fun ls hl => ?_)
  refine j_iconst hx hb dX9_alike_4 ?_
  refine j_istore (lv2 := [(4, jI 0), (3, jI (-1)), (2, jI 0), (0, jR b 332), (1, jI y1)]) hx hb dX9_alike_5 hl (by decide) rfl (fun ls hl => ?_)
  have hk75_1 : ∀ (x2_2 : Int) (x3_3 : Int) (H : Heap) (locs : List Loc) (ls : Array Slot), va_P D vwCl (wl b cs μ) H → va_S (bA b) s.heap H locs → lv_has ls 6 [(1, jI y1), (2, jI x2_2), (3, jI x3_3)] → fX9_alike_k75 N y1 x2_2 x3_3 = some r → W p l e rmX9_alike s m args below meth c H locs 0 0 (MQ below (QI D b cs μ r) args s 0 0 (bA b)) (F0 m 75 ls []) := by
    intro x2_2 x3_3 H locs ls hP hS hl h
    unfold fX9_alike_k75 at h
    refine j_iload_n hx hb dX9_alike_75 rfl (lv_at hl 0 rfl) ?_
    refine j_iconst hx hb dX9_alike_76 ?_
    refine j_icmp_ne (A := wr y1) (B := (-1)) (tgt := 84) hx hb rfl (by decide) dX9_alike_77 (by decide) (fun q4 => ?_) (fun q4 => ?_)
    · replace h := (if_neg q4).symm.trans h
      refine j_iload_n hx hb dX9_alike_84 rfl (lv_at hl 2 rfl) ?_
      exact j_retI hx hb hK hP hS hr hlk (Option.some.inj h) dX9_alike_85
    · replace h := (if_pos q4).symm.trans h
      refine j_iload_n hx hb dX9_alike_80 rfl (lv_at hl 1 rfl) ?_
      refine j_goto (tgt := 85) hx hb dX9_alike_81 (by decide) ?_
      exact j_retI hx hb hK hP hS hr hlk (Option.some.inj h) dX9_alike_85
  have hl7_5 : ∀ (n0 : Nat) (x2_6 : Int) (x3_7 : Int) (x4_8 : Int) (H : Heap) (locs : List Loc) (ls : Array Slot), va_P D vwCl (wl b cs μ) H → va_S (bA b) s.heap H locs → lv_has ls 6 [(0, jR b 332), (1, jI y1), (2, jI x2_6), (3, jI x3_7), (4, jI x4_8)] → fX9_alike_l7 N y1 μ n0 x2_6 x3_7 x4_8 = some r → W p l e rmX9_alike s m args below meth c H locs 0 0 (MQ below (QI D b cs μ r) args s 0 0 (bA b)) (F0 m 7 ls []) := by
    intro n0
    induction n0 with
    | zero => intro x2_6 x3_7 x4_8 H locs ls hP hS hl h; rw [fX9_alike_l7] at h; cases h
    | succ n5 ih7_5 =>
      intro x2_6 x3_7 x4_8 H locs ls hP hS hl h
      rw [fX9_alike_l7] at h
      refine j_iload hx hb dX9_alike_7 (lv_at hl 4 rfl) ?_
      refine j_aload_n hx hb dX9_alike_9 rfl (lv_at hl 0 rfl) ?_
      refine j_get (v := jI (gI μ 332 6)) hx hb hts hinX9 hown hK hP kz_332 (by decide) rfl 6 (by decide) (hts (.fieldLink RX9 122 "CardBandModel" "cards" "I") (by decide +kernel)) rfl (by rw [jI_g]; rfl) dX9_alike_10 ?_
      refine j_icmp_ge (A := wr x4_8) (B := wr (gI μ 332 6)) (tgt := 75) hx hb rfl rfl dX9_alike_13 (by decide) (fun q9 => ?_) (fun q9 => ?_)
      · replace h := (if_pos q9).symm.trans h
        exact hk75_1 _ _ _ _ _ hP hS (lv_sub hl [1, 2, 3] rfl) h
      · replace h := (if_neg q9).symm.trans h
        refine j_iload hx hb dX9_alike_16 (lv_at hl 4 rfl) ?_
        refine j_iconst hx hb dX9_alike_18 ?_
        refine j_iadd hx hb dX9_alike_19 ?_
        refine j_istore (lv2 := [(5, jI (x4_8 + 1)), (0, jR b 332), (1, jI y1), (2, jI x2_6), (3, jI x3_7), (4, jI x4_8)]) hx hb dX9_alike_20 hl (by decide) rfl (fun ls hl => ?_)
        have hl22_10 : ∀ (n0 : Nat) (x2_11 : Int) (x3_12 : Int) (x5_13 : Int) (H : Heap) (locs : List Loc) (ls : Array Slot), va_P D vwCl (wl b cs μ) H → va_S (bA b) s.heap H locs → lv_has ls 6 [(0, jR b 332), (1, jI y1), (2, jI x2_11), (3, jI x3_12), (4, jI x4_8), (5, jI x5_13)] → fX9_alike_l22 N y1 μ x4_8 (fX9_alike_l7 N y1 μ n5) n0 x2_11 x3_12 x5_13 = some r → W p l e rmX9_alike s m args below meth c H locs 0 0 (MQ below (QI D b cs μ r) args s 0 0 (bA b)) (F0 m 22 ls []) := by
          intro n0
          induction n0 with
          | zero => intro x2_11 x3_12 x5_13 H locs ls hP hS hl h; rw [fX9_alike_l22] at h; cases h
          | succ n10 ih22_10 =>
            intro x2_11 x3_12 x5_13 H locs ls hP hS hl h
            rw [fX9_alike_l22] at h
            refine j_iload hx hb dX9_alike_22 (lv_at hl 5 rfl) ?_
            refine j_aload_n hx hb dX9_alike_24 rfl (lv_at hl 0 rfl) ?_
            refine j_get (v := jI (gI μ 332 6)) hx hb hts hinX9 hown hK hP kz_332 (by decide) rfl 6 (by decide) (hts (.fieldLink RX9 122 "CardBandModel" "cards" "I") (by decide +kernel)) rfl (by rw [jI_g]; rfl) dX9_alike_25 ?_
            refine j_icmp_ge (A := wr x5_13) (B := wr (gI μ 332 6)) (tgt := 69) hx hb rfl rfl dX9_alike_28 (by decide) (fun q14 => ?_) (fun q14 => ?_)
            · replace h := (if_pos q14).symm.trans h
              refine j_iinc (k := 4) (lv2 := [(4, jI (x4_8 + 1)), (0, jR b 332), (1, jI y1), (2, jI x2_11), (3, jI x3_12), (5, jI x5_13)]) hx hb dX9_alike_69 hl rfl (by decide) rfl (fun ls hl => ?_)
              refine j_goto (tgt := 7) hx hb dX9_alike_72 (by decide) ?_
              exact ih7_5 _ _ _ _ _ _ hP hS (lv_sub hl [1, 2, 3, 4, 0] rfl) h
            · replace h := (if_neg q14).symm.trans h
              refine j_aload_n hx hb dX9_alike_31 rfl (lv_at hl 0 rfl) ?_
              refine j_iload hx hb dX9_alike_32 (lv_at hl 4 rfl) ?_
              refine j_iload hx hb dX9_alike_34 (lv_at hl 5 rfl) ?_
              obtain ⟨v16, e15, h⟩ := ob_I h
              refine jc_VI (As := [jI x4_8, jI x5_13]) (rest := []) ⟨hx, hb, hml, hown, hts⟩ hK hP hS (m_X9_areAlike l D b cs N e15) (cwV 2 hts gX9_alike_X9_areAlike rfl rfl rfl (by decide +kernel) ⟨Nat.le_of_ble_eq_true rfl, Nat.le_of_ble_eq_true rfl⟩) kz_332 (by decide) rfl rfl hl.1 rfl (Nat.le_of_ble_eq_true rfl) dX9_alike_36 ⟨Nat.zero_le _, Nat.zero_le _⟩ (fun H locs hP hS => ?_)
              refine j_if_eq (A := wr v16) (tgt := 63) hx hb rfl dX9_alike_39 (by decide) (fun q17 => ?_) (fun q17 => ?_)
              · replace h := (if_pos q17).symm.trans h
                refine j_iinc (k := 5) (lv2 := [(5, jI (x5_13 + 1)), (0, jR b 332), (1, jI y1), (2, jI x2_11), (3, jI x3_12), (4, jI x4_8)]) hx hb dX9_alike_63 hl rfl (by decide) rfl (fun ls hl => ?_)
                refine j_goto (tgt := 22) hx hb dX9_alike_66 (by decide) ?_
                exact ih22_10 _ _ _ _ _ _ hP hS (lv_sub hl [1, 2, 3, 4, 5, 0] rfl) h
              · replace h := (if_neg q17).symm.trans h
                refine j_iload_n hx hb dX9_alike_42 rfl (lv_at hl 2 rfl) ?_
                refine j_iload_n hx hb dX9_alike_43 rfl (lv_at hl 1 rfl) ?_
                refine j_icmp_ne (A := wr x2_11) (B := wr y1) (tgt := 58) hx hb rfl rfl dX9_alike_44 (by decide) (fun q18 => ?_) (fun q18 => ?_)
                · replace h := (if_neg q18).symm.trans h
                  refine j_iload_n hx hb dX9_alike_58 rfl (lv_at hl 3 rfl) ?_
                  refine j_istore_n (lv2 := [(3, jI x3_12), (0, jR b 332), (1, jI y1), (2, jI x2_11), (4, jI x4_8), (5, jI x5_13)]) hx hb dX9_alike_59 rfl hl (by decide) rfl (fun ls hl => ?_)
                  refine j_iinc (k := 3) (lv2 := [(2, jI (x2_11 + 1)), (3, jI x3_12), (0, jR b 332), (1, jI y1), (4, jI x4_8), (5, jI x5_13)]) hx hb dX9_alike_60 hl rfl (by decide) rfl (fun ls hl => ?_)
                  refine j_iinc (k := 5) (lv2 := [(5, jI (x5_13 + 1)), (2, jI (x2_11 + 1)), (3, jI x3_12), (0, jR b 332), (1, jI y1), (4, jI x4_8)]) hx hb dX9_alike_63 hl rfl (by decide) rfl (fun ls hl => ?_)
                  refine j_goto (tgt := 22) hx hb dX9_alike_66 (by decide) ?_
                  exact ih22_10 _ _ _ _ _ _ hP hS (lv_sub hl [3, 4, 1, 2, 5, 0] rfl) h
                · replace h := (if_pos q18).symm.trans h
                  refine j_bipush hx hb dX9_alike_47 (by decide) ?_
                  refine j_iload hx hb dX9_alike_49 (lv_at hl 4 rfl) ?_
                  refine j_imul hx hb dX9_alike_51 ?_
                  refine j_iload hx hb dX9_alike_52 (lv_at hl 5 rfl) ?_
                  refine j_iadd hx hb dX9_alike_54 ?_
                  refine j_goto (tgt := 59) hx hb dX9_alike_55 (by decide) ?_
                  refine j_istore_n (lv2 := [(3, jI ((10 * x4_8) + x5_13)), (0, jR b 332), (1, jI y1), (2, jI x2_11), (4, jI x4_8), (5, jI x5_13)]) hx hb dX9_alike_59 rfl hl (by decide) rfl (fun ls hl => ?_)
                  refine j_iinc (k := 3) (lv2 := [(2, jI (x2_11 + 1)), (3, jI ((10 * x4_8) + x5_13)), (0, jR b 332), (1, jI y1), (4, jI x4_8), (5, jI x5_13)]) hx hb dX9_alike_60 hl rfl (by decide) rfl (fun ls hl => ?_)
                  refine j_iinc (k := 5) (lv2 := [(5, jI (x5_13 + 1)), (2, jI (x2_11 + 1)), (3, jI ((10 * x4_8) + x5_13)), (0, jR b 332), (1, jI y1), (4, jI x4_8)]) hx hb dX9_alike_63 hl rfl (by decide) rfl (fun ls hl => ?_)
                  refine j_goto (tgt := 22) hx hb dX9_alike_66 (by decide) ?_
                  exact ih22_10 _ _ _ _ _ _ hP hS (lv_sub hl [3, 4, 1, 2, 5, 0] rfl) h
        exact hl22_10 N _ _ _ _ _ _ hP hS (lv_sub hl [1, 2, 3, 4, 5, 0] rfl) h
  exact hl7_5 N _ _ _ _ _ _ hP hS (lv_sub hl [3, 4, 2, 1, 0] rfl) h
def fX9_has (N : Nat) (y0 : Int) (y1 : Int) (μ : Mm) : Option (Int) :=
    if wr (andI (shrI y0 y1) 1) = 1 then (some 1) else (some 0)
abbrev rmX9_has : Room := { frames := 0, cells := 0, slots := 0, locals := 0 }
set_option maxHeartbeats 4000000 in
set_option maxRecDepth 100000 in
theorem m_X9_has (l : Launch) (D : va_G) (b : Nat) (cs : CS) (N : Nat) {μ : Mm} {y0 y1 : Int} {r : Int} (h : fX9_has N y0 y1 μ = some r) : MI l yX9_has wsX9_has rmX9_has D b cs [jI y0, jI y1] μ μ r := by
  refine met_in (cc := cX9_has) (maxL := 2) (ret := some .boolean) (lv0 := [(0, jI y0), (1, jI y1)]) (by decide +kernel) rfl (Nat.le_of_ble_eq_true rfl) rfl ?_
  intro p e s m args below meth c hx hb hr hlk hml hown hts hP hK ls hl
  have hown : s.vm.findClass RX9 = some m.cls := hown
  have hS : va_S (bA b) s.heap s.heap [] := va_S.rf
  unfold fX9_has at h
  refine j_iload_n hx hb dX9_has_0 rfl (lv_at hl 0 rfl) ?_
  refine j_iload_n hx hb dX9_has_1 rfl (lv_at hl 1 rfl) ?_
  refine j_ishr hx hb dX9_has_2 ?_
  refine j_iconst hx hb dX9_has_3 ?_
  refine j_iand hx hb dX9_has_4 ?_
  refine j_iconst hx hb dX9_has_5 ?_
  refine j_icmp_ne (A := wr (andI (shrI y0 y1) 1)) (B := 1) (tgt := 13) hx hb rfl (by decide) dX9_has_6 (by decide) (fun q1 => ?_) (fun q1 => ?_)
  · replace h := (if_neg q1).symm.trans h
    refine j_iconst hx hb dX9_has_13 ?_
    exact j_retZ hx hb hK hP hS hr hlk (by decide) (Option.some.inj h) dX9_has_14
  · replace h := (if_pos q1).symm.trans h
    refine j_iconst hx hb dX9_has_9 ?_
    refine j_goto (tgt := 14) hx hb dX9_has_10 (by decide) ?_
    exact j_retZ hx hb hK hP hS hr hlk (by decide) (Option.some.inj h) dX9_has_14
def fX9_allShow_j48 (N : Nat) (y1 : Int) (y2 : Int) (μ : Mm) (x4_2 : Int) (x5_3 : Int) (rec6_1 : Int → Int → Option (Int)) : Int → Option (Int) := fun s7 =>
    if wr x4_2 = 0 then (rec6_1 0 (x5_3 + 1)) else (Option.bind (fX9_has N y1 x5_3 μ) (fun v10 => if wr v10 = 0 then (rec6_1 1 (x5_3 + 1)) else (if wr s7 = wr y2 then (rec6_1 1 (x5_3 + 1)) else (rec6_1 0 (x5_3 + 1)))))
def fX9_allShow_l6 (N : Nat) (y1 : Int) (y2 : Int) (y3 : Int) (μ : Mm) : Nat → Int → Int → Option (Int)
  | 0, _, _ => none
  | n1 + 1, x4_2, x5_3 =>
    if wr (gI μ 332 6) ≤ wr x5_3 then (gd (decide (x4_2 = 0 ∨ x4_2 = 1)) (some x4_2)) else (if wr y3 = 4 then (Option.bind (ldA μ 333 8262 (16 + x5_3)) (fun v18 => fX9_allShow_j48 N y1 y2 μ x4_2 x5_3 (fX9_allShow_l6 N y1 y2 y3 μ n1) v18)) else (Option.bind (ldA μ 333 8262 x5_3) (fun v14 => Option.bind (fX9_colourOf N x5_3 (v14 + y3) μ) (fun v17 => fX9_allShow_j48 N y1 y2 μ x4_2 x5_3 (fX9_allShow_l6 N y1 y2 y3 μ n1) v17))))
def fX9_allShow (N : Nat) (y1 : Int) (y2 : Int) (y3 : Int) (μ : Mm) : Option (Int) :=
    fX9_allShow_l6 N y1 y2 y3 μ N 1 0
abbrev rmX9_allShow : Room := { frames := 1, cells := 0, slots := 0, locals := 22 }
set_option maxHeartbeats 4000000 in
set_option maxRecDepth 100000 in
theorem m_X9_allShow (l : Launch) (D : va_G) (b : Nat) (cs : CS) (N : Nat) {μ : Mm} {y1 y2 y3 : Int} {r : Int} (h : fX9_allShow N y1 y2 y3 μ = some r) : MI l yX9_allShow wsX9_allShow rmX9_allShow D b cs [jR b 332, jI y1, jI y2, jI y3] μ μ r := by
  refine met_in (cc := cX9_allShow) (maxL := 7) (ret := some .boolean) (lv0 := [(0, jR b 332), (1, jI y1), (2, jI y2), (3, jI y3)]) (by decide +kernel) rfl (Nat.le_of_ble_eq_true rfl) rfl ?_
  intro p e s m args below meth c hx hb hr hlk hml hown hts hP hK ls hl
  have hown : s.vm.findClass RX9 = some m.cls := hown
  have hS : va_S (bA b) s.heap s.heap [] := va_S.rf
  have hinX9 : ∀ w ∈ u_ws RX9 TX9 27, w ∈ wsX9_allShow := by decide +kernel
  unfold fX9_allShow at h
  refine j_iconst hx hb dX9_allShow_0 ?_
  refine j_istore (lv2 := [(4, jI 1), (0, jR b 332), (1, jI y1), (2, jI y2), (3, jI y3)]) hx hb dX9_allShow_1 hl (by decide) rfl (fun ls hl => ?_)
  refine j_iconst hx hb dX9_allShow_3 ?_
  refine j_istore (lv2 := [(5, jI 0), (4, jI 1), (0, jR b 332), (1, jI y1), (2, jI y2), (3, jI y3)]) hx hb dX9_allShow_4 hl (by decide) rfl (fun ls hl => ?_)
  have hl6_1 : ∀ (n0 : Nat) (x4_2 : Int) (x5_3 : Int) (H : Heap) (locs : List Loc) (ls : Array Slot), va_P D vwCl (wl b cs μ) H → va_S (bA b) s.heap H locs → lv_has ls 7 [(0, jR b 332), (1, jI y1), (2, jI y2), (3, jI y3), (4, jI x4_2), (5, jI x5_3)] → fX9_allShow_l6 N y1 y2 y3 μ n0 x4_2 x5_3 = some r → W p l e rmX9_allShow s m args below meth c H locs 0 0 (MQ below (QI D b cs μ r) args s 0 0 (bA b)) (F0 m 6 ls []) := by
    intro n0
    induction n0 with
    | zero => intro x4_2 x5_3 H locs ls hP hS hl h; rw [fX9_allShow_l6] at h; cases h
    | succ n1 ih6_1 =>
      intro x4_2 x5_3 H locs ls hP hS hl h
      rw [fX9_allShow_l6] at h
      refine j_iload hx hb dX9_allShow_6 (lv_at hl 5 rfl) ?_
      refine j_aload_n hx hb dX9_allShow_8 rfl (lv_at hl 0 rfl) ?_
      refine j_get (v := jI (gI μ 332 6)) hx hb hts hinX9 hown hK hP kz_332 (by decide) rfl 6 (by decide) (hts (.fieldLink RX9 122 "CardBandModel" "cards" "I") (by decide +kernel)) rfl (by rw [jI_g]; rfl) dX9_allShow_9 ?_
      refine j_icmp_ge (A := wr x5_3) (B := wr (gI μ 332 6)) (tgt := 83) hx hb rfl rfl dX9_allShow_12 (by decide) (fun q4 => ?_) (fun q4 => ?_)
      · replace h := (if_pos q4).symm.trans h
        refine j_iload hx hb dX9_allShow_83 (lv_at hl 4 rfl) ?_
        obtain ⟨g5, h⟩ := ob_g h
        replace g5 := of_decide_eq_true g5
        exact j_retZ hx hb hK hP hS hr hlk g5 (Option.some.inj h) dX9_allShow_85
      · replace h := (if_neg q4).symm.trans h
        refine j_iload_n hx hb dX9_allShow_15 rfl (lv_at hl 3 rfl) ?_
        refine j_iconst hx hb dX9_allShow_16 ?_
        have hj48_6 : ∀ (s7 : Int) (H : Heap) (locs : List Loc) (ls : Array Slot), va_P D vwCl (wl b cs μ) H → va_S (bA b) s.heap H locs → lv_has ls 7 [(0, jR b 332), (1, jI y1), (2, jI y2), (3, jI y3), (4, jI x4_2), (5, jI x5_3)] → fX9_allShow_j48 N y1 y2 μ x4_2 x5_3 (fX9_allShow_l6 N y1 y2 y3 μ n1) s7 = some r → W p l e rmX9_allShow s m args below meth c H locs 0 0 (MQ below (QI D b cs μ r) args s 0 0 (bA b)) (F0 m 48 ls [jI s7]) := by
          intro s7 H locs ls hP hS hl h
          unfold fX9_allShow_j48 at h
          refine j_istore (lv2 := [(6, jI s7), (0, jR b 332), (1, jI y1), (2, jI y2), (3, jI y3), (4, jI x4_2), (5, jI x5_3)]) hx hb dX9_allShow_48 hl (by decide) rfl (fun ls hl => ?_)
          refine j_iload hx hb dX9_allShow_50 (lv_at hl 5 rfl) ?_
          refine j_if_eq (A := wr x4_2) (tgt := 74) hx hb rfl dX9_allShow_52 (by decide) (fun q8 => ?_) (fun q8 => ?_)
          · replace h := (if_pos q8).symm.trans h
            refine j_iconst hx hb dX9_allShow_74 ?_
            refine j_istore (lv2 := [(4, jI 0), (6, jI s7), (0, jR b 332), (1, jI y1), (2, jI y2), (3, jI y3), (5, jI x5_3)]) hx hb dX9_allShow_75 hl (by decide) rfl (fun ls hl => ?_)
            refine j_iinc (k := 6) (lv2 := [(5, jI (x5_3 + 1)), (4, jI 0), (6, jI s7), (0, jR b 332), (1, jI y1), (2, jI y2), (3, jI y3)]) hx hb dX9_allShow_77 hl rfl (by decide) rfl (fun ls hl => ?_)
            refine j_goto (tgt := 6) hx hb dX9_allShow_80 (by decide) ?_
            exact ih6_1 _ _ _ _ _ hP hS (lv_sub hl [3, 4, 5, 6, 1, 0] rfl) h
          · replace h := (if_neg q8).symm.trans h
            refine j_iload_n hx hb dX9_allShow_55 rfl (lv_at hl 2 rfl) ?_
            refine j_iload hx hb dX9_allShow_56 (lv_at hl 6 rfl) ?_
            obtain ⟨v10, e9, h⟩ := ob_I h
            refine jc_SI (As := [jI y1, jI x5_3]) (rest := []) ⟨hx, hb, hml, hown, hts⟩ hK hP hS (m_X9_has l D b cs N e9) (va_cwS 2 hts gX9_allShow_X9_has rfl rfl rfl (by decide +kernel) ⟨Nat.le_of_ble_eq_true rfl, Nat.le_of_ble_eq_true rfl⟩) rfl hl.1 rfl (Nat.le_of_ble_eq_true rfl) dX9_allShow_58 ⟨Nat.zero_le _, Nat.zero_le _⟩ (fun H locs hP hS => ?_)
            refine j_if_eq (A := wr v10) (tgt := 70) hx hb rfl dX9_allShow_61 (by decide) (fun q11 => ?_) (fun q11 => ?_)
            · replace h := (if_pos q11).symm.trans h
              refine j_iconst hx hb dX9_allShow_70 ?_
              refine j_goto (tgt := 75) hx hb dX9_allShow_71 (by decide) ?_
              refine j_istore (lv2 := [(4, jI 1), (6, jI s7), (0, jR b 332), (1, jI y1), (2, jI y2), (3, jI y3), (5, jI x5_3)]) hx hb dX9_allShow_75 hl (by decide) rfl (fun ls hl => ?_)
              refine j_iinc (k := 6) (lv2 := [(5, jI (x5_3 + 1)), (4, jI 1), (6, jI s7), (0, jR b 332), (1, jI y1), (2, jI y2), (3, jI y3)]) hx hb dX9_allShow_77 hl rfl (by decide) rfl (fun ls hl => ?_)
              refine j_goto (tgt := 6) hx hb dX9_allShow_80 (by decide) ?_
              exact ih6_1 _ _ _ _ _ hP hS (lv_sub hl [3, 4, 5, 6, 1, 0] rfl) h
            · replace h := (if_neg q11).symm.trans h
              refine j_iload hx hb dX9_allShow_64 (lv_at hl 0 rfl) ?_
              refine j_iload_n hx hb dX9_allShow_66 rfl (lv_at hl 3 rfl) ?_
              refine j_icmp_ne (A := wr s7) (B := wr y2) (tgt := 74) hx hb rfl rfl dX9_allShow_67 (by decide) (fun q12 => ?_) (fun q12 => ?_)
              · replace h := (if_neg q12).symm.trans h
                refine j_iconst hx hb dX9_allShow_74 ?_
                refine j_istore (lv2 := [(4, jI 0), (6, jI s7), (0, jR b 332), (1, jI y1), (2, jI y2), (3, jI y3), (5, jI x5_3)]) hx hb dX9_allShow_75 hl (by decide) rfl (fun ls hl => ?_)
                refine j_iinc (k := 6) (lv2 := [(5, jI (x5_3 + 1)), (4, jI 0), (6, jI s7), (0, jR b 332), (1, jI y1), (2, jI y2), (3, jI y3)]) hx hb dX9_allShow_77 hl rfl (by decide) rfl (fun ls hl => ?_)
                refine j_goto (tgt := 6) hx hb dX9_allShow_80 (by decide) ?_
                exact ih6_1 _ _ _ _ _ hP hS (lv_sub hl [3, 4, 5, 6, 1, 0] rfl) h
              · replace h := (if_pos q12).symm.trans h
                refine j_iconst hx hb dX9_allShow_70 ?_
                refine j_goto (tgt := 75) hx hb dX9_allShow_71 (by decide) ?_
                refine j_istore (lv2 := [(4, jI 1), (6, jI s7), (0, jR b 332), (1, jI y1), (2, jI y2), (3, jI y3), (5, jI x5_3)]) hx hb dX9_allShow_75 hl (by decide) rfl (fun ls hl => ?_)
                refine j_iinc (k := 6) (lv2 := [(5, jI (x5_3 + 1)), (4, jI 1), (6, jI s7), (0, jR b 332), (1, jI y1), (2, jI y2), (3, jI y3)]) hx hb dX9_allShow_77 hl rfl (by decide) rfl (fun ls hl => ?_)
                refine j_goto (tgt := 6) hx hb dX9_allShow_80 (by decide) ?_
                exact ih6_1 _ _ _ _ _ hP hS (lv_sub hl [3, 4, 5, 6, 1, 0] rfl) h
        refine j_icmp_ne (A := wr y3) (B := 4) (tgt := 33) hx hb rfl (by decide) dX9_allShow_17 (by decide) (fun q13 => ?_) (fun q13 => ?_)
        · replace h := (if_neg q13).symm.trans h
          refine j_aload_n hx hb dX9_allShow_33 rfl (lv_at hl 0 rfl) ?_
          refine j_iload hx hb dX9_allShow_34 (lv_at hl 5 rfl) ?_
          refine j_aload_n hx hb dX9_allShow_36 rfl (lv_at hl 0 rfl) ?_
          refine j_get (v := jR b 333) hx hb hts hinX9 hown hK hP kz_332 (by decide) rfl 0 (by decide) (hts (.fieldLink RX9 7 "CardBandModel" "w" "[I") (by decide +kernel)) rfl rfl dX9_allShow_37 ?_
          refine j_iload hx hb dX9_allShow_40 (lv_at hl 5 rfl) ?_
          obtain ⟨v14, e15, h⟩ := ob_I h
          refine j_iaload hx hb hK hP kz_333 e15 dX9_allShow_42 ?_
          refine j_iload_n hx hb dX9_allShow_43 rfl (lv_at hl 3 rfl) ?_
          refine j_iadd hx hb dX9_allShow_44 ?_
          obtain ⟨v17, e16, h⟩ := ob_I h
          refine jc_VI (As := [jI x5_3, jI (v14 + y3)]) (rest := []) ⟨hx, hb, hml, hown, hts⟩ hK hP hS (m_X9_colourOf l D b cs N e16) (cwV 2 hts gX9_allShow_X9_colourOf rfl rfl rfl (by decide +kernel) ⟨Nat.le_of_ble_eq_true rfl, Nat.le_of_ble_eq_true rfl⟩) kz_332 (by decide) rfl rfl hl.1 rfl (Nat.le_of_ble_eq_true rfl) dX9_allShow_45 ⟨Nat.zero_le _, Nat.zero_le _⟩ (fun H locs hP hS => ?_)
          exact hj48_6 _ _ _ _ hP hS (lv_sub hl [0, 1, 2, 3, 4, 5] rfl) h
        · replace h := (if_pos q13).symm.trans h
          refine j_aload_n hx hb dX9_allShow_20 rfl (lv_at hl 0 rfl) ?_
          refine j_get (v := jR b 333) hx hb hts hinX9 hown hK hP kz_332 (by decide) rfl 0 (by decide) (hts (.fieldLink RX9 7 "CardBandModel" "w" "[I") (by decide +kernel)) rfl rfl dX9_allShow_21 ?_
          refine j_bipush hx hb dX9_allShow_24 (by decide) ?_
          refine j_iload hx hb dX9_allShow_26 (lv_at hl 5 rfl) ?_
          refine j_iadd hx hb dX9_allShow_28 ?_
          obtain ⟨v18, e19, h⟩ := ob_I h
          refine j_iaload hx hb hK hP kz_333 e19 dX9_allShow_29 ?_
          refine j_goto (tgt := 48) hx hb dX9_allShow_30 (by decide) ?_
          exact hj48_6 _ _ _ _ hP hS (lv_sub hl [0, 1, 2, 3, 4, 5] rfl) h
  exact hl6_1 N _ _ _ _ _ hP hS (lv_sub hl [2, 3, 4, 5, 1, 0] rfl) h
def fX9_allYarn_l4 (N : Nat) (μ : Mm) : Nat → Int → Int → Option (Int)
  | 0, _, _ => none
  | n1 + 1, x1_2, x2_3 =>
    if 8 ≤ wr x2_3 then (some x1_2) else (Option.bind (ldA μ 333 8262 (40 + x2_3)) (fun v5 => (fX9_allYarn_l4 N μ n1) (x1_2 + v5) (x2_3 + 1)))
def fX9_allYarn (N : Nat) (μ : Mm) : Option (Int) :=
    fX9_allYarn_l4 N μ N 0 0
abbrev rmX9_allYarn : Room := { frames := 0, cells := 0, slots := 0, locals := 0 }
set_option maxHeartbeats 4000000 in
set_option maxRecDepth 100000 in
theorem m_X9_allYarn (l : Launch) (D : va_G) (b : Nat) (cs : CS) (N : Nat) {μ : Mm} {r : Int} (h : fX9_allYarn N μ = some r) : MI l yX9_allYarn wsX9_allYarn rmX9_allYarn D b cs [jR b 332] μ μ r := by
  refine met_in (cc := cX9_allYarn) (maxL := 3) (ret := some .int) (lv0 := [(0, jR b 332)]) (by decide +kernel) rfl (Nat.le_of_ble_eq_true rfl) rfl ?_
  intro p e s m args below meth c hx hb hr hlk hml hown hts hP hK ls hl
  have hown : s.vm.findClass RX9 = some m.cls := hown
  have hS : va_S (bA b) s.heap s.heap [] := va_S.rf
  have hinX9 : ∀ w ∈ u_ws RX9 TX9 27, w ∈ wsX9_allYarn := by decide +kernel
  unfold fX9_allYarn at h
  refine j_iconst hx hb dX9_allYarn_0 ?_
  refine j_istore_n (lv2 := [(1, jI 0), (0, jR b 332)]) hx hb dX9_allYarn_1 rfl hl (by decide) rfl (fun ls hl => ?_)
  refine j_iconst hx hb dX9_allYarn_2 ?_
  refine j_istore_n (lv2 := [(2, jI 0), (1, jI 0), (0, jR b 332)]) hx hb dX9_allYarn_3 rfl hl (by decide) rfl (fun ls hl => ?_)
  have hl4_1 : ∀ (n0 : Nat) (x1_2 : Int) (x2_3 : Int) (H : Heap) (locs : List Loc) (ls : Array Slot), va_P D vwCl (wl b cs μ) H → va_S (bA b) s.heap H locs → lv_has ls 3 [(0, jR b 332), (1, jI x1_2), (2, jI x2_3)] → fX9_allYarn_l4 N μ n0 x1_2 x2_3 = some r → W p l e rmX9_allYarn s m args below meth c H locs 0 0 (MQ below (QI D b cs μ r) args s 0 0 (bA b)) (F0 m 4 ls []) := by
    intro n0
    induction n0 with
    | zero => intro x1_2 x2_3 H locs ls hP hS hl h; rw [fX9_allYarn_l4] at h; cases h
    | succ n1 ih4_1 =>
      intro x1_2 x2_3 H locs ls hP hS hl h
      rw [fX9_allYarn_l4] at h
      refine j_iload_n hx hb dX9_allYarn_4 rfl (lv_at hl 2 rfl) ?_
      refine j_bipush hx hb dX9_allYarn_5 (by decide) ?_
      refine j_icmp_ge (A := wr x2_3) (B := 8) (tgt := 28) hx hb rfl (by decide) dX9_allYarn_7 (by decide) (fun q4 => ?_) (fun q4 => ?_)
      · replace h := (if_pos q4).symm.trans h
        refine j_iload_n hx hb dX9_allYarn_28 rfl (lv_at hl 1 rfl) ?_
        exact j_retI hx hb hK hP hS hr hlk (Option.some.inj h) dX9_allYarn_29
      · replace h := (if_neg q4).symm.trans h
        refine j_iload_n hx hb dX9_allYarn_10 rfl (lv_at hl 1 rfl) ?_
        refine j_aload_n hx hb dX9_allYarn_11 rfl (lv_at hl 0 rfl) ?_
        refine j_get (v := jR b 333) hx hb hts hinX9 hown hK hP kz_332 (by decide) rfl 0 (by decide) (hts (.fieldLink RX9 7 "CardBandModel" "w" "[I") (by decide +kernel)) rfl rfl dX9_allYarn_12 ?_
        refine j_bipush hx hb dX9_allYarn_15 (by decide) ?_
        refine j_iload_n hx hb dX9_allYarn_17 rfl (lv_at hl 2 rfl) ?_
        refine j_iadd hx hb dX9_allYarn_18 ?_
        obtain ⟨v5, e6, h⟩ := ob_I h
        refine j_iaload hx hb hK hP kz_333 e6 dX9_allYarn_19 ?_
        refine j_iadd hx hb dX9_allYarn_20 ?_
        refine j_istore_n (lv2 := [(1, jI (x1_2 + v5)), (0, jR b 332), (2, jI x2_3)]) hx hb dX9_allYarn_21 rfl hl (by decide) rfl (fun ls hl => ?_)
        refine j_iinc (k := 2) (lv2 := [(2, jI (x2_3 + 1)), (1, jI (x1_2 + v5)), (0, jR b 332)]) hx hb dX9_allYarn_22 hl rfl (by decide) rfl (fun ls hl => ?_)
        refine j_goto (tgt := 4) hx hb dX9_allYarn_25 (by decide) ?_
        exact ih4_1 _ _ _ _ _ hP hS (lv_sub hl [2, 1, 0] rfl) h
  exact hl4_1 N _ _ _ _ _ hP hS (lv_sub hl [2, 1, 0] rfl) h
def fX9_isColour (N : Nat) (y1 : Int) (μ : Mm) : Option (Int) :=
    Option.bind (fX9_in N (wr y1) 0 (wr ((gI μ 332 2) - 1)) μ) (fun v2 => gd (decide (v2 = 0 ∨ v2 = 1)) (some v2))
abbrev rmX9_isColour : Room := { frames := 1, cells := 0, slots := 0, locals := 25 }
set_option maxHeartbeats 4000000 in
set_option maxRecDepth 100000 in
theorem m_X9_isColour (l : Launch) (D : va_G) (b : Nat) (cs : CS) (N : Nat) {μ : Mm} {y1 : Int} {r : Int} (h : fX9_isColour N y1 μ = some r) : MI l yX9_isColour wsX9_isColour rmX9_isColour D b cs [jR b 332, jI y1] μ μ r := by
  refine met_in (cc := cX9_isColour) (maxL := 2) (ret := some .boolean) (lv0 := [(0, jR b 332), (1, jI y1)]) (by decide +kernel) rfl (Nat.le_of_ble_eq_true rfl) rfl ?_
  intro p e s m args below meth c hx hb hr hlk hml hown hts hP hK ls hl
  have hown : s.vm.findClass RX9 = some m.cls := hown
  have hS : va_S (bA b) s.heap s.heap [] := va_S.rf
  have hinX9 : ∀ w ∈ u_ws RX9 TX9 27, w ∈ wsX9_isColour := by decide +kernel
  unfold fX9_isColour at h
  refine j_iload_n hx hb dX9_isColour_0 rfl (lv_at hl 1 rfl) ?_
  refine j_i2l hx hb dX9_isColour_1 ?_
  refine j_lconst (n := 0) hx hb dX9_isColour_2 (by decide) ?_
  refine j_aload_n hx hb dX9_isColour_3 rfl (lv_at hl 0 rfl) ?_
  refine j_get (v := jI (gI μ 332 2)) hx hb hts hinX9 hown hK hP kz_332 (by decide) rfl 2 (by decide) (hts (.fieldLink RX9 125 "CardBandModel" "colours" "I") (by decide +kernel)) rfl (by rw [jI_g]; rfl) dX9_isColour_4 ?_
  refine j_iconst hx hb dX9_isColour_7 ?_
  refine j_isub hx hb dX9_isColour_8 ?_
  refine j_i2l hx hb dX9_isColour_9 ?_
  obtain ⟨v2, e1, h⟩ := ob_I h
  refine jc_SI (As := [jL (wr y1), jL 0, jL (wr ((gI μ 332 2) - 1))]) (rest := []) ⟨hx, hb, hml, hown, hts⟩ hK hP hS (m_X9_in l D b cs N e1) (va_cwS 3 hts gX9_isColour_X9_in rfl rfl rfl (by decide +kernel) ⟨Nat.le_of_ble_eq_true rfl, Nat.le_of_ble_eq_true rfl⟩) rfl hl.1 rfl (Nat.le_of_ble_eq_true rfl) dX9_isColour_10 ⟨Nat.zero_le _, Nat.zero_le _⟩ (fun H locs hP hS => ?_)
  obtain ⟨g3, h⟩ := ob_g h
  replace g3 := of_decide_eq_true g3
  exact j_retZ hx hb hK hP hS hr hlk g3 (Option.some.inj h) dX9_isColour_13
def fX9_copy_l2 (N : Nat) (y1 : Int) (y2 : Int) : Nat → Int → Mm → Option (Mm)
  | 0, _, _ => none
  | n1 + 1, x3_2, μ3 =>
    if 243 ≤ wr x3_2 then (some μ3) else (Option.bind (ldA μ3 333 8262 (y1 + x3_2)) (fun v5 => Option.bind (stA μ3 333 8262 (y2 + x3_2) v5) (fun μ7 => (fX9_copy_l2 N y1 y2 n1) (x3_2 + 1) μ7)))
def fX9_copy (N : Nat) (y1 : Int) (y2 : Int) (μ : Mm) : Option (Mm) :=
    fX9_copy_l2 N y1 y2 N 0 μ
abbrev rmX9_copy : Room := { frames := 0, cells := 0, slots := 0, locals := 0 }
set_option maxHeartbeats 4000000 in
set_option maxRecDepth 100000 in
theorem m_X9_copy (l : Launch) (D : va_G) (b : Nat) (cs : CS) (N : Nat) {μ μ0 : Mm} {y1 y2 : Int} (h : fX9_copy N y1 y2 μ = some μ0) : MM l yX9_copy wsX9_copy rmX9_copy D b cs [jR b 332, jI y1, jI y2] μ μ0 := by
  refine met_in (cc := cX9_copy) (maxL := 4) (ret := none) (lv0 := [(0, jR b 332), (1, jI y1), (2, jI y2)]) (by decide +kernel) rfl (Nat.le_of_ble_eq_true rfl) rfl ?_
  intro p e s m args below meth c hx hb hr hlk hml hown hts hP hK ls hl
  have hown : s.vm.findClass RX9 = some m.cls := hown
  have hS : va_S (bA b) s.heap s.heap [] := va_S.rf
  have hinX9 : ∀ w ∈ u_ws RX9 TX9 27, w ∈ wsX9_copy := by decide +kernel
  unfold fX9_copy at h
  refine j_iconst hx hb dX9_copy_0 ?_
  refine j_istore_n (lv2 := [(3, jI 0), (0, jR b 332), (1, jI y1), (2, jI y2)]) hx hb dX9_copy_1 rfl hl (by decide) rfl (fun ls hl => ?_)
  have hl2_1 : ∀ (n0 : Nat) (x3_2 : Int) (μ3 : Mm) (H : Heap) (locs : List Loc) (ls : Array Slot), va_P D vwCl (wl b cs μ3) H → va_S (bA b) s.heap H locs → lv_has ls 4 [(0, jR b 332), (1, jI y1), (2, jI y2), (3, jI x3_2)] → fX9_copy_l2 N y1 y2 n0 x3_2 μ3 = some μ0 → W p l e rmX9_copy s m args below meth c H locs 0 0 (MQ below (QM D b cs μ0) args s 0 0 (bA b)) (F0 m 2 ls []) := by
    intro n0
    induction n0 with
    | zero => intro x3_2 μ3 H locs ls hP hS hl h; rw [fX9_copy_l2] at h; cases h
    | succ n1 ih2_1 =>
      intro x3_2 μ3 H locs ls hP hS hl h
      rw [fX9_copy_l2] at h
      refine j_iload_n hx hb dX9_copy_2 rfl (lv_at hl 3 rfl) ?_
      refine j_sipush hx hb dX9_copy_3 (by decide) ?_
      refine j_icmp_ge (A := wr x3_2) (B := 243) (tgt := 31) hx hb rfl (by decide) dX9_copy_6 (by decide) (fun q4 => ?_) (fun q4 => ?_)
      · replace h := (if_pos q4).symm.trans h
        have e0 := Option.some.inj h
        subst e0
        exact j_retM hx hb hK hP hS hr hlk dX9_copy_31
      · replace h := (if_neg q4).symm.trans h
        refine j_aload_n hx hb dX9_copy_9 rfl (lv_at hl 0 rfl) ?_
        refine j_get (v := jR b 333) hx hb hts hinX9 hown hK hP kz_332 (by decide) rfl 0 (by decide) (hts (.fieldLink RX9 7 "CardBandModel" "w" "[I") (by decide +kernel)) rfl rfl dX9_copy_10 ?_
        refine j_iload_n hx hb dX9_copy_13 rfl (lv_at hl 2 rfl) ?_
        refine j_iload_n hx hb dX9_copy_14 rfl (lv_at hl 3 rfl) ?_
        refine j_iadd hx hb dX9_copy_15 ?_
        refine j_aload_n hx hb dX9_copy_16 rfl (lv_at hl 0 rfl) ?_
        refine j_get (v := jR b 333) hx hb hts hinX9 hown hK hP kz_332 (by decide) rfl 0 (by decide) (hts (.fieldLink RX9 7 "CardBandModel" "w" "[I") (by decide +kernel)) rfl rfl dX9_copy_17 ?_
        refine j_iload_n hx hb dX9_copy_20 rfl (lv_at hl 1 rfl) ?_
        refine j_iload_n hx hb dX9_copy_21 rfl (lv_at hl 3 rfl) ?_
        refine j_iadd hx hb dX9_copy_22 ?_
        obtain ⟨v5, e6, h⟩ := ob_I h
        refine j_iaload hx hb hK hP kz_333 e6 dX9_copy_23 ?_
        obtain ⟨μ7, e8, h⟩ := ob_I h
        refine j_iastore hx hb hK hP hS kz_333 e8 dX9_copy_24 (fun H locs hP hS => ?_)
        refine j_iinc (k := 3) (lv2 := [(3, jI (x3_2 + 1)), (0, jR b 332), (1, jI y1), (2, jI y2)]) hx hb dX9_copy_25 hl rfl (by decide) rfl (fun ls hl => ?_)
        refine j_goto (tgt := 2) hx hb dX9_copy_28 (by decide) ?_
        exact ih2_1 _ _ _ _ _ hP hS (lv_sub hl [1, 2, 3, 0] rfl) h
  exact hl2_1 N _ _ _ _ _ hP hS (lv_sub hl [1, 2, 3, 0] rfl) h
def fX9_remember_j57 (N : Nat) : Mm → Option (Mm) := fun μ2 =>
    Option.bind (fX9_copy N 0 (972 + (243 * (gI μ2 332 18))) μ2) (fun μ4 => Option.bind (some (pI μ4 332 18 ((gI μ4 332 18) + 1))) (fun μ5 => some μ5))
def fX9_remember_k47 (N : Nat) : Mm → Option (Mm) := fun μ9 =>
    Option.bind (some (pI μ9 332 18 ((gI μ9 332 18) - 1))) (fun μ10 => fX9_remember_j57 N μ10)
def fX9_remember_l11 (N : Nat) : Nat → Int → Mm → Option (Mm)
  | 0, _, _ => none
  | n12 + 1, x1_13, μ14 =>
    if 30 ≤ wr x1_13 then (fX9_remember_k47 N μ14) else (Option.bind (fX9_copy N (972 + (243 * x1_13)) (972 + (243 * (x1_13 - 1))) μ14) (fun μ17 => (fX9_remember_l11 N n12) (x1_13 + 1) μ17))
def fX9_remember (N : Nat) (μ : Mm) : Option (Mm) :=
    if wr (gI μ 332 18) = 30 then (fX9_remember_l11 N N 1 μ) else (fX9_remember_j57 N μ)
abbrev rmX9_remember : Room := { frames := 1, cells := 0, slots := 0, locals := 23 }
set_option maxHeartbeats 4000000 in
set_option maxRecDepth 100000 in
theorem m_X9_remember (l : Launch) (D : va_G) (b : Nat) (cs : CS) (N : Nat) {μ μ0 : Mm} (h : fX9_remember N μ = some μ0) : MM l yX9_remember wsX9_remember rmX9_remember D b cs [jR b 332] μ μ0 := by
  refine met_in (cc := cX9_remember) (maxL := 2) (ret := none) (lv0 := [(0, jR b 332)]) (by decide +kernel) rfl (Nat.le_of_ble_eq_true rfl) rfl ?_
  intro p e s m args below meth c hx hb hr hlk hml hown hts hP hK ls hl
  have hown : s.vm.findClass RX9 = some m.cls := hown
  have hS : va_S (bA b) s.heap s.heap [] := va_S.rf
  have hinX9 : ∀ w ∈ u_ws RX9 TX9 27, w ∈ wsX9_remember := by decide +kernel
  unfold fX9_remember at h
  refine j_aload_n hx hb dX9_remember_0 rfl (lv_at hl 0 rfl) ?_
  refine j_get (v := jI (gI μ 332 18)) hx hb hts hinX9 hown hK hP kz_332 (by decide) rfl 18 (by decide) (hts (.fieldLink RX9 137 "CardBandModel" "undoMany" "I") (by decide +kernel)) rfl (by rw [jI_g]; rfl) dX9_remember_1 ?_
  refine j_bipush hx hb dX9_remember_4 (by decide) ?_
  have hj57_1 : ∀ (μ2 : Mm) (H : Heap) (locs : List Loc) (ls : Array Slot), va_P D vwCl (wl b cs μ2) H → va_S (bA b) s.heap H locs → lv_has ls 2 [(0, jR b 332)] → fX9_remember_j57 N μ2 = some μ0 → W p l e rmX9_remember s m args below meth c H locs 0 0 (MQ below (QM D b cs μ0) args s 0 0 (bA b)) (F0 m 57 ls []) := by
    intro μ2 H locs ls hP hS hl h
    unfold fX9_remember_j57 at h
    refine j_aload_n hx hb dX9_remember_57 rfl (lv_at hl 0 rfl) ?_
    refine j_iconst hx hb dX9_remember_58 ?_
    refine j_sipush hx hb dX9_remember_59 (by decide) ?_
    refine j_sipush hx hb dX9_remember_62 (by decide) ?_
    refine j_aload_n hx hb dX9_remember_65 rfl (lv_at hl 0 rfl) ?_
    refine j_get (v := jI (gI μ2 332 18)) hx hb hts hinX9 hown hK hP kz_332 (by decide) rfl 18 (by decide) (hts (.fieldLink RX9 137 "CardBandModel" "undoMany" "I") (by decide +kernel)) rfl (by rw [jI_g]; rfl) dX9_remember_66 ?_
    refine j_imul hx hb dX9_remember_69 ?_
    refine j_iadd hx hb dX9_remember_70 ?_
    obtain ⟨μ4, e3, h⟩ := ob_I h
    refine jc_VM (As := [jI 0, jI (972 + (243 * (gI μ2 332 18)))]) (rest := []) ⟨hx, hb, hml, hown, hts⟩ hK hP hS (m_X9_copy l D b cs N e3) (cwV 2 hts gX9_remember_X9_copy rfl rfl rfl (by decide +kernel) ⟨Nat.le_of_ble_eq_true rfl, Nat.le_of_ble_eq_true rfl⟩) kz_332 (by decide) rfl rfl hl.1 rfl (Nat.le_of_ble_eq_true rfl) dX9_remember_71 ⟨Nat.zero_le _, Nat.zero_le _⟩ (fun H locs hP hS => ?_)
    refine j_aload_n hx hb dX9_remember_74 rfl (lv_at hl 0 rfl) ?_
    refine j_dup hx hb dX9_remember_75 rfl ?_
    refine j_get (v := jI (gI μ4 332 18)) hx hb hts hinX9 hown hK hP kz_332 (by decide) rfl 18 (by decide) (hts (.fieldLink RX9 137 "CardBandModel" "undoMany" "I") (by decide +kernel)) rfl (by rw [jI_g]; rfl) dX9_remember_76 ?_
    refine j_iconst hx hb dX9_remember_79 ?_
    refine j_iadd hx hb dX9_remember_80 ?_
    obtain ⟨μ5, e6, h⟩ := ob_I h
    refine j_put (ty := .int) (z := ((gI μ4 332 18) + 1)) hx hb hts hinX9 tyX9 tyX9_ok nmX9 hown hK hP hS kz_332 (by decide) rfl 18 (by decide) (hts (.fieldLink RX9 137 "CardBandModel" "undoMany" "I") (by decide +kernel)) rfl rfl (by decide +kernel) rfl rfl (by simp [flds]) rfl dX9_remember_81 (Option.some.inj e6) (fun H locs hP hS => ?_)
    have e0 := Option.some.inj h
    subst e0
    exact j_retM hx hb hK hP hS hr hlk dX9_remember_84
  refine j_icmp_ne (A := wr (gI μ 332 18)) (B := 30) (tgt := 57) hx hb rfl (by decide) dX9_remember_6 (by decide) (fun q7 => ?_) (fun q7 => ?_)
  · replace h := (if_neg q7).symm.trans h
    exact hj57_1 _ _ _ _ hP hS (lv_sub hl [0] rfl) h
  · replace h := (if_pos q7).symm.trans h
    refine j_iconst hx hb dX9_remember_9 ?_
    refine j_istore_n (lv2 := [(1, jI 1), (0, jR b 332)]) hx hb dX9_remember_10 rfl hl (by decide) rfl (fun ls hl => ?_)
    have hk47_8 : ∀ (μ9 : Mm) (H : Heap) (locs : List Loc) (ls : Array Slot), va_P D vwCl (wl b cs μ9) H → va_S (bA b) s.heap H locs → lv_has ls 2 [(0, jR b 332)] → fX9_remember_k47 N μ9 = some μ0 → W p l e rmX9_remember s m args below meth c H locs 0 0 (MQ below (QM D b cs μ0) args s 0 0 (bA b)) (F0 m 47 ls []) := by
      intro μ9 H locs ls hP hS hl h
      unfold fX9_remember_k47 at h
      refine j_aload_n hx hb dX9_remember_47 rfl (lv_at hl 0 rfl) ?_
      refine j_dup hx hb dX9_remember_48 rfl ?_
      refine j_get (v := jI (gI μ9 332 18)) hx hb hts hinX9 hown hK hP kz_332 (by decide) rfl 18 (by decide) (hts (.fieldLink RX9 137 "CardBandModel" "undoMany" "I") (by decide +kernel)) rfl (by rw [jI_g]; rfl) dX9_remember_49 ?_
      refine j_iconst hx hb dX9_remember_52 ?_
      refine j_isub hx hb dX9_remember_53 ?_
      obtain ⟨μ10, e11, h⟩ := ob_I h
      refine j_put (ty := .int) (z := ((gI μ9 332 18) - 1)) hx hb hts hinX9 tyX9 tyX9_ok nmX9 hown hK hP hS kz_332 (by decide) rfl 18 (by decide) (hts (.fieldLink RX9 137 "CardBandModel" "undoMany" "I") (by decide +kernel)) rfl rfl (by decide +kernel) rfl rfl (by simp [flds]) rfl dX9_remember_54 (Option.some.inj e11) (fun H locs hP hS => ?_)
      exact hj57_1 _ _ _ _ hP hS (lv_sub hl [0] rfl) h
    have hl11_12 : ∀ (n0 : Nat) (x1_13 : Int) (μ14 : Mm) (H : Heap) (locs : List Loc) (ls : Array Slot), va_P D vwCl (wl b cs μ14) H → va_S (bA b) s.heap H locs → lv_has ls 2 [(0, jR b 332), (1, jI x1_13)] → fX9_remember_l11 N n0 x1_13 μ14 = some μ0 → W p l e rmX9_remember s m args below meth c H locs 0 0 (MQ below (QM D b cs μ0) args s 0 0 (bA b)) (F0 m 11 ls []) := by
      intro n0
      induction n0 with
      | zero => intro x1_13 μ14 H locs ls hP hS hl h; rw [fX9_remember_l11] at h; cases h
      | succ n12 ih11_12 =>
        intro x1_13 μ14 H locs ls hP hS hl h
        rw [fX9_remember_l11] at h
        refine j_iload_n hx hb dX9_remember_11 rfl (lv_at hl 1 rfl) ?_
        refine j_bipush hx hb dX9_remember_12 (by decide) ?_
        refine j_icmp_ge (A := wr x1_13) (B := 30) (tgt := 47) hx hb rfl (by decide) dX9_remember_14 (by decide) (fun q15 => ?_) (fun q15 => ?_)
        · replace h := (if_pos q15).symm.trans h
          exact hk47_8 _ _ _ _ hP hS (lv_sub hl [0] rfl) h
        · replace h := (if_neg q15).symm.trans h
          refine j_aload_n hx hb dX9_remember_17 rfl (lv_at hl 0 rfl) ?_
          refine j_sipush hx hb dX9_remember_18 (by decide) ?_
          refine j_sipush hx hb dX9_remember_21 (by decide) ?_
          refine j_iload_n hx hb dX9_remember_24 rfl (lv_at hl 1 rfl) ?_
          refine j_imul hx hb dX9_remember_25 ?_
          refine j_iadd hx hb dX9_remember_26 ?_
          refine j_sipush hx hb dX9_remember_27 (by decide) ?_
          refine j_sipush hx hb dX9_remember_30 (by decide) ?_
          refine j_iload_n hx hb dX9_remember_33 rfl (lv_at hl 1 rfl) ?_
          refine j_iconst hx hb dX9_remember_34 ?_
          refine j_isub hx hb dX9_remember_35 ?_
          refine j_imul hx hb dX9_remember_36 ?_
          refine j_iadd hx hb dX9_remember_37 ?_
          obtain ⟨μ17, e16, h⟩ := ob_I h
          refine jc_VM (As := [jI (972 + (243 * x1_13)), jI (972 + (243 * (x1_13 - 1)))]) (rest := []) ⟨hx, hb, hml, hown, hts⟩ hK hP hS (m_X9_copy l D b cs N e16) (cwV 2 hts gX9_remember_X9_copy rfl rfl rfl (by decide +kernel) ⟨Nat.le_of_ble_eq_true rfl, Nat.le_of_ble_eq_true rfl⟩) kz_332 (by decide) rfl rfl hl.1 rfl (Nat.le_of_ble_eq_true rfl) dX9_remember_38 ⟨Nat.zero_le _, Nat.zero_le _⟩ (fun H locs hP hS => ?_)
          refine j_iinc (k := 1) (lv2 := [(1, jI (x1_13 + 1)), (0, jR b 332)]) hx hb dX9_remember_41 hl rfl (by decide) rfl (fun ls hl => ?_)
          refine j_goto (tgt := 11) hx hb dX9_remember_44 (by decide) ?_
          exact ih11_12 _ _ _ _ _ hP hS (lv_sub hl [1, 0] rfl) h
    exact hl11_12 N _ _ _ _ _ hP hS (lv_sub hl [1, 0] rfl) h
def fX9_least (N : Nat) (y0 : Int) (y1 : Int) (μ : Mm) : Option (Int) :=
    if wr y1 ≤ wr y0 then (some y1) else (some y0)
abbrev rmX9_least : Room := { frames := 0, cells := 0, slots := 0, locals := 0 }
set_option maxHeartbeats 4000000 in
set_option maxRecDepth 100000 in
theorem m_X9_least (l : Launch) (D : va_G) (b : Nat) (cs : CS) (N : Nat) {μ : Mm} {y0 y1 : Int} {r : Int} (h : fX9_least N y0 y1 μ = some r) : MI l yX9_least wsX9_least rmX9_least D b cs [jI y0, jI y1] μ μ r := by
  refine met_in (cc := cX9_least) (maxL := 2) (ret := some .int) (lv0 := [(0, jI y0), (1, jI y1)]) (by decide +kernel) rfl (Nat.le_of_ble_eq_true rfl) rfl ?_
  intro p e s m args below meth c hx hb hr hlk hml hown hts hP hK ls hl
  have hown : s.vm.findClass RX9 = some m.cls := hown
  have hS : va_S (bA b) s.heap s.heap [] := va_S.rf
  unfold fX9_least at h
  refine j_iload_n hx hb dX9_least_0 rfl (lv_at hl 0 rfl) ?_
  refine j_iload_n hx hb dX9_least_1 rfl (lv_at hl 1 rfl) ?_
  refine j_icmp_ge (A := wr y0) (B := wr y1) (tgt := 9) hx hb rfl rfl dX9_least_2 (by decide) (fun q1 => ?_) (fun q1 => ?_)
  · replace h := (if_pos q1).symm.trans h
    refine j_iload_n hx hb dX9_least_9 rfl (lv_at hl 1 rfl) ?_
    exact j_retI hx hb hK hP hS hr hlk (Option.some.inj h) dX9_least_10
  · replace h := (if_neg q1).symm.trans h
    refine j_iload_n hx hb dX9_least_5 rfl (lv_at hl 0 rfl) ?_
    refine j_goto (tgt := 10) hx hb dX9_least_6 (by decide) ?_
    exact j_retI hx hb hK hP hS hr hlk (Option.some.inj h) dX9_least_10
def fX9_buy (N : Nat) (y1 : Int) (y2 : Int) (μ : Mm) : Option (Int × Mm) :=
    Option.bind (fX9_isColour N y1 μ) (fun v2 => if wr v2 = 0 then (some ((-1000000001), μ)) else (Option.bind (fX9_in N (wr y2) 1 999 μ) (fun v5 => if wr v5 = 0 then (some ((-1000000002), μ)) else (Option.bind (fX9_remember N μ) (fun μ8 => Option.bind (ldA μ8 333 8262 (40 + y1)) (fun v9 => Option.bind (fX9_least N 999 (v9 + y2) μ8) (fun v12 => Option.bind (stA μ8 333 8262 (40 + y1) v12) (fun μ13 => Option.bind (ldA μ13 333 8262 (40 + y1)) (fun v15 => some (v15, μ13))))))))))
abbrev rmX9_buy : Room := { frames := 2, cells := 0, slots := 0, locals := 46 }
set_option maxHeartbeats 4000000 in
set_option maxRecDepth 100000 in
theorem m_X9_buy (l : Launch) (D : va_G) (b : Nat) (cs : CS) (N : Nat) {μ μ0 : Mm} {y1 y2 : Int} {r : Int} (h : fX9_buy N y1 y2 μ = some (r, μ0)) : MI l yX9_buy wsX9_buy rmX9_buy D b cs [jR b 332, jI y1, jI y2] μ μ0 r := by
  refine met_in (cc := cX9_buy) (maxL := 3) (ret := some .int) (lv0 := [(0, jR b 332), (1, jI y1), (2, jI y2)]) (by decide +kernel) rfl (Nat.le_of_ble_eq_true rfl) rfl ?_
  intro p e s m args below meth c hx hb hr hlk hml hown hts hP hK ls hl
  have hown : s.vm.findClass RX9 = some m.cls := hown
  have hS : va_S (bA b) s.heap s.heap [] := va_S.rf
  have hinX9 : ∀ w ∈ u_ws RX9 TX9 27, w ∈ wsX9_buy := by decide +kernel
  unfold fX9_buy at h
  refine j_aload_n hx hb dX9_buy_0 rfl (lv_at hl 0 rfl) ?_
  refine j_iload_n hx hb dX9_buy_1 rfl (lv_at hl 1 rfl) ?_
  obtain ⟨v2, e1, h⟩ := ob_I h
  refine jc_VI (As := [jI y1]) (rest := []) ⟨hx, hb, hml, hown, hts⟩ hK hP hS (m_X9_isColour l D b cs N e1) (cwV 1 hts gX9_buy_X9_isColour rfl rfl rfl (by decide +kernel) ⟨Nat.le_of_ble_eq_true rfl, Nat.le_of_ble_eq_true rfl⟩) kz_332 (by decide) rfl rfl hl.1 rfl (Nat.le_of_ble_eq_true rfl) dX9_buy_2 ⟨Nat.zero_le _, Nat.zero_le _⟩ (fun H locs hP hS => ?_)
  refine j_if_ne (A := wr v2) (tgt := 11) hx hb rfl dX9_buy_5 (by decide) (fun q3 => ?_) (fun q3 => ?_)
  · replace h := (if_neg q3).symm.trans h
    refine j_iload_n hx hb dX9_buy_11 rfl (lv_at hl 2 rfl) ?_
    refine j_i2l hx hb dX9_buy_12 ?_
    refine j_lconst (n := 1) hx hb dX9_buy_13 (by decide) ?_
    refine j_ldc2 (n := 999) hx hb hown (hts (.constantLong RX9 237 (999)) (by decide +kernel)) (by decide) dX9_buy_14 ?_
    obtain ⟨v5, e4, h⟩ := ob_I h
    refine jc_SI (As := [jL (wr y2), jL 1, jL 999]) (rest := []) ⟨hx, hb, hml, hown, hts⟩ hK hP hS (m_X9_in l D b cs N e4) (va_cwS 3 hts gX9_buy_X9_in rfl rfl rfl (by decide +kernel) ⟨Nat.le_of_ble_eq_true rfl, Nat.le_of_ble_eq_true rfl⟩) rfl hl.1 rfl (Nat.le_of_ble_eq_true rfl) dX9_buy_17 ⟨Nat.zero_le _, Nat.zero_le _⟩ (fun H locs hP hS => ?_)
    refine j_if_ne (A := wr v5) (tgt := 26) hx hb rfl dX9_buy_20 (by decide) (fun q6 => ?_) (fun q6 => ?_)
    · replace h := (if_neg q6).symm.trans h
      refine j_aload_n hx hb dX9_buy_26 rfl (lv_at hl 0 rfl) ?_
      obtain ⟨μ8, e7, h⟩ := ob_I h
      refine jc_VM (As := []) (rest := []) ⟨hx, hb, hml, hown, hts⟩ hK hP hS (m_X9_remember l D b cs N e7) (cwV 0 hts gX9_buy_X9_remember rfl rfl rfl (by decide +kernel) ⟨Nat.le_of_ble_eq_true rfl, Nat.le_of_ble_eq_true rfl⟩) kz_332 (by decide) rfl rfl hl.1 rfl (Nat.le_of_ble_eq_true rfl) dX9_buy_27 ⟨Nat.zero_le _, Nat.zero_le _⟩ (fun H locs hP hS => ?_)
      refine j_aload_n hx hb dX9_buy_30 rfl (lv_at hl 0 rfl) ?_
      refine j_get (v := jR b 333) hx hb hts hinX9 hown hK hP kz_332 (by decide) rfl 0 (by decide) (hts (.fieldLink RX9 7 "CardBandModel" "w" "[I") (by decide +kernel)) rfl rfl dX9_buy_31 ?_
      refine j_bipush hx hb dX9_buy_34 (by decide) ?_
      refine j_iload_n hx hb dX9_buy_36 rfl (lv_at hl 1 rfl) ?_
      refine j_iadd hx hb dX9_buy_37 ?_
      refine j_sipush hx hb dX9_buy_38 (by decide) ?_
      refine j_aload_n hx hb dX9_buy_41 rfl (lv_at hl 0 rfl) ?_
      refine j_get (v := jR b 333) hx hb hts hinX9 hown hK hP kz_332 (by decide) rfl 0 (by decide) (hts (.fieldLink RX9 7 "CardBandModel" "w" "[I") (by decide +kernel)) rfl rfl dX9_buy_42 ?_
      refine j_bipush hx hb dX9_buy_45 (by decide) ?_
      refine j_iload_n hx hb dX9_buy_47 rfl (lv_at hl 1 rfl) ?_
      refine j_iadd hx hb dX9_buy_48 ?_
      obtain ⟨v9, e10, h⟩ := ob_I h
      refine j_iaload hx hb hK hP kz_333 e10 dX9_buy_49 ?_
      refine j_iload_n hx hb dX9_buy_50 rfl (lv_at hl 2 rfl) ?_
      refine j_iadd hx hb dX9_buy_51 ?_
      obtain ⟨v12, e11, h⟩ := ob_I h
      refine jc_SI (As := [jI 999, jI (v9 + y2)]) (rest := [jI (40 + y1), jR b 333]) ⟨hx, hb, hml, hown, hts⟩ hK hP hS (m_X9_least l D b cs N e11) (va_cwS 2 hts gX9_buy_X9_least rfl rfl rfl (by decide +kernel) ⟨Nat.le_of_ble_eq_true rfl, Nat.le_of_ble_eq_true rfl⟩) rfl hl.1 rfl (Nat.le_of_ble_eq_true rfl) dX9_buy_52 ⟨Nat.zero_le _, Nat.zero_le _⟩ (fun H locs hP hS => ?_)
      obtain ⟨μ13, e14, h⟩ := ob_I h
      refine j_iastore hx hb hK hP hS kz_333 e14 dX9_buy_55 (fun H locs hP hS => ?_)
      refine j_aload_n hx hb dX9_buy_56 rfl (lv_at hl 0 rfl) ?_
      refine j_get (v := jR b 333) hx hb hts hinX9 hown hK hP kz_332 (by decide) rfl 0 (by decide) (hts (.fieldLink RX9 7 "CardBandModel" "w" "[I") (by decide +kernel)) rfl rfl dX9_buy_57 ?_
      refine j_bipush hx hb dX9_buy_60 (by decide) ?_
      refine j_iload_n hx hb dX9_buy_62 rfl (lv_at hl 1 rfl) ?_
      refine j_iadd hx hb dX9_buy_63 ?_
      obtain ⟨v15, e16, h⟩ := ob_I h
      refine j_iaload hx hb hK hP kz_333 e16 dX9_buy_64 ?_
      obtain ⟨e0, e1⟩ := Prod.mk.inj (Option.some.inj h)
      subst e1
      exact j_retI hx hb hK hP hS hr hlk e0 dX9_buy_65
    · replace h := (if_pos q6).symm.trans h
      refine j_ldc (n := (-1000000002)) hx hb hown (hts (.constant RX9 60 (-1000000002)) (by decide +kernel)) (by decide) dX9_buy_23 ?_
      obtain ⟨e0, e1⟩ := Prod.mk.inj (Option.some.inj h)
      subst e1
      exact j_retI hx hb hK hP hS hr hlk e0 dX9_buy_25
  · replace h := (if_pos q3).symm.trans h
    refine j_ldc (n := (-1000000001)) hx hb hown (hts (.constant RX9 183 (-1000000001)) (by decide +kernel)) (by decide) dX9_buy_8 ?_
    obtain ⟨e0, e1⟩ := Prod.mk.inj (Option.some.inj h)
    subst e1
    exact j_retI hx hb hK hP hS hr hlk e0 dX9_buy_10
def fX9_packOf_l4 (N : Nat) (y1 : Int) (μ : Mm) : Nat → Int → Int → Option (Int)
  | 0, _, _ => none
  | n1 + 1, x2_2, x3_3 =>
    if wr (gI μ 332 9) ≤ wr x3_3 then (some x2_2) else (Option.bind (ldA μ 337 8 x3_3) (fun v5 => Option.bind (fX9_has N v5 y1 μ) (fun v8 => if wr v8 = 0 then ((fX9_packOf_l4 N y1 μ n1) x2_2 (x3_3 + 1)) else ((fX9_packOf_l4 N y1 μ n1) x3_3 (x3_3 + 1)))))
def fX9_packOf (N : Nat) (y1 : Int) (μ : Mm) : Option (Int) :=
    fX9_packOf_l4 N y1 μ N (-1) 0
abbrev rmX9_packOf : Room := { frames := 1, cells := 0, slots := 0, locals := 21 }
set_option maxHeartbeats 4000000 in
set_option maxRecDepth 100000 in
theorem m_X9_packOf (l : Launch) (D : va_G) (b : Nat) (cs : CS) (N : Nat) {μ : Mm} {y1 : Int} {r : Int} (h : fX9_packOf N y1 μ = some r) : MI l yX9_packOf wsX9_packOf rmX9_packOf D b cs [jR b 332, jI y1] μ μ r := by
  refine met_in (cc := cX9_packOf) (maxL := 4) (ret := some .int) (lv0 := [(0, jR b 332), (1, jI y1)]) (by decide +kernel) rfl (Nat.le_of_ble_eq_true rfl) rfl ?_
  intro p e s m args below meth c hx hb hr hlk hml hown hts hP hK ls hl
  have hown : s.vm.findClass RX9 = some m.cls := hown
  have hS : va_S (bA b) s.heap s.heap [] := va_S.rf
  have hinX9 : ∀ w ∈ u_ws RX9 TX9 27, w ∈ wsX9_packOf := by decide +kernel
  unfold fX9_packOf at h
  refine j_iconst hx hb dX9_packOf_0 ?_
  refine j_istore_n (lv2 := [(2, jI (-1)), (0, jR b 332), (1, jI y1)]) hx hb dX9_packOf_1 rfl hl (by decide) rfl (fun ls hl => ?_)
  refine j_iconst hx hb dX9_packOf_2 ?_
  refine j_istore_n (lv2 := [(3, jI 0), (2, jI (-1)), (0, jR b 332), (1, jI y1)]) hx hb dX9_packOf_3 rfl hl (by decide) rfl (fun ls hl => ?_)
  have hl4_1 : ∀ (n0 : Nat) (x2_2 : Int) (x3_3 : Int) (H : Heap) (locs : List Loc) (ls : Array Slot), va_P D vwCl (wl b cs μ) H → va_S (bA b) s.heap H locs → lv_has ls 4 [(0, jR b 332), (1, jI y1), (2, jI x2_2), (3, jI x3_3)] → fX9_packOf_l4 N y1 μ n0 x2_2 x3_3 = some r → W p l e rmX9_packOf s m args below meth c H locs 0 0 (MQ below (QI D b cs μ r) args s 0 0 (bA b)) (F0 m 4 ls []) := by
    intro n0
    induction n0 with
    | zero => intro x2_2 x3_3 H locs ls hP hS hl h; rw [fX9_packOf_l4] at h; cases h
    | succ n1 ih4_1 =>
      intro x2_2 x3_3 H locs ls hP hS hl h
      rw [fX9_packOf_l4] at h
      refine j_iload_n hx hb dX9_packOf_4 rfl (lv_at hl 3 rfl) ?_
      refine j_aload_n hx hb dX9_packOf_5 rfl (lv_at hl 0 rfl) ?_
      refine j_get (v := jI (gI μ 332 9)) hx hb hts hinX9 hown hK hP kz_332 (by decide) rfl 9 (by decide) (hts (.fieldLink RX9 128 "CardBandModel" "packs" "I") (by decide +kernel)) rfl (by rw [jI_g]; rfl) dX9_packOf_6 ?_
      refine j_icmp_ge (A := wr x3_3) (B := wr (gI μ 332 9)) (tgt := 37) hx hb rfl rfl dX9_packOf_9 (by decide) (fun q4 => ?_) (fun q4 => ?_)
      · replace h := (if_pos q4).symm.trans h
        refine j_iload_n hx hb dX9_packOf_37 rfl (lv_at hl 2 rfl) ?_
        exact j_retI hx hb hK hP hS hr hlk (Option.some.inj h) dX9_packOf_38
      · replace h := (if_neg q4).symm.trans h
        refine j_aload_n hx hb dX9_packOf_12 rfl (lv_at hl 0 rfl) ?_
        refine j_get (v := jR b 337) hx hb hts hinX9 hown hK hP kz_332 (by decide) rfl 8 (by decide) (hts (.fieldLink RX9 23 "CardBandModel" "pack" "[I") (by decide +kernel)) rfl rfl dX9_packOf_13 ?_
        refine j_iload_n hx hb dX9_packOf_16 rfl (lv_at hl 3 rfl) ?_
        obtain ⟨v5, e6, h⟩ := ob_I h
        refine j_iaload hx hb hK hP kz_337 e6 dX9_packOf_17 ?_
        refine j_iload_n hx hb dX9_packOf_18 rfl (lv_at hl 1 rfl) ?_
        obtain ⟨v8, e7, h⟩ := ob_I h
        refine jc_SI (As := [jI v5, jI y1]) (rest := []) ⟨hx, hb, hml, hown, hts⟩ hK hP hS (m_X9_has l D b cs N e7) (va_cwS 2 hts gX9_packOf_X9_has rfl rfl rfl (by decide +kernel) ⟨Nat.le_of_ble_eq_true rfl, Nat.le_of_ble_eq_true rfl⟩) rfl hl.1 rfl (Nat.le_of_ble_eq_true rfl) dX9_packOf_19 ⟨Nat.zero_le _, Nat.zero_le _⟩ (fun H locs hP hS => ?_)
        refine j_if_eq (A := wr v8) (tgt := 29) hx hb rfl dX9_packOf_22 (by decide) (fun q9 => ?_) (fun q9 => ?_)
        · replace h := (if_pos q9).symm.trans h
          refine j_iload_n hx hb dX9_packOf_29 rfl (lv_at hl 2 rfl) ?_
          refine j_istore_n (lv2 := [(2, jI x2_2), (0, jR b 332), (1, jI y1), (3, jI x3_3)]) hx hb dX9_packOf_30 rfl hl (by decide) rfl (fun ls hl => ?_)
          refine j_iinc (k := 3) (lv2 := [(3, jI (x3_3 + 1)), (2, jI x2_2), (0, jR b 332), (1, jI y1)]) hx hb dX9_packOf_31 hl rfl (by decide) rfl (fun ls hl => ?_)
          refine j_goto (tgt := 4) hx hb dX9_packOf_34 (by decide) ?_
          exact ih4_1 _ _ _ _ _ hP hS (lv_sub hl [2, 3, 1, 0] rfl) h
        · replace h := (if_neg q9).symm.trans h
          refine j_iload_n hx hb dX9_packOf_25 rfl (lv_at hl 3 rfl) ?_
          refine j_goto (tgt := 30) hx hb dX9_packOf_26 (by decide) ?_
          refine j_istore_n (lv2 := [(2, jI x3_3), (0, jR b 332), (1, jI y1), (3, jI x3_3)]) hx hb dX9_packOf_30 rfl hl (by decide) rfl (fun ls hl => ?_)
          refine j_iinc (k := 3) (lv2 := [(3, jI (x3_3 + 1)), (2, jI x3_3), (0, jR b 332), (1, jI y1)]) hx hb dX9_packOf_31 hl rfl (by decide) rfl (fun ls hl => ?_)
          refine j_goto (tgt := 4) hx hb dX9_packOf_34 (by decide) ?_
          exact ih4_1 _ _ _ _ _ hP hS (lv_sub hl [2, 3, 1, 0] rfl) h
  exact hl4_1 N _ _ _ _ _ hP hS (lv_sub hl [2, 3, 1, 0] rfl) h
def fX9_figureOf_l4 (N : Nat) (y1 : Int) : Nat → Int → Int → Option (Int)
  | 0, _, _ => none
  | n1 + 1, x2_2, x3_3 =>
    if wr y1 ≤ wr x3_3 then (some (rmI x2_2 3)) else ((fX9_figureOf_l4 N y1 n1) (dvI x2_2 3) (x3_3 + 1))
def fX9_figureOf (N : Nat) (y0 : Int) (y1 : Int) (μ : Mm) : Option (Int) :=
    fX9_figureOf_l4 N y1 N y0 0
abbrev rmX9_figureOf : Room := { frames := 0, cells := 0, slots := 0, locals := 0 }
set_option maxHeartbeats 4000000 in
set_option maxRecDepth 100000 in
theorem m_X9_figureOf (l : Launch) (D : va_G) (b : Nat) (cs : CS) (N : Nat) {μ : Mm} {y0 y1 : Int} {r : Int} (h : fX9_figureOf N y0 y1 μ = some r) : MI l yX9_figureOf wsX9_figureOf rmX9_figureOf D b cs [jI y0, jI y1] μ μ r := by
  refine met_in (cc := cX9_figureOf) (maxL := 4) (ret := some .int) (lv0 := [(0, jI y0), (1, jI y1)]) (by decide +kernel) rfl (Nat.le_of_ble_eq_true rfl) rfl ?_
  intro p e s m args below meth c hx hb hr hlk hml hown hts hP hK ls hl
  have hown : s.vm.findClass RX9 = some m.cls := hown
  have hS : va_S (bA b) s.heap s.heap [] := va_S.rf
  unfold fX9_figureOf at h
  refine j_iload_n hx hb dX9_figureOf_0 rfl (lv_at hl 0 rfl) ?_
  refine j_istore_n (lv2 := [(2, jI y0), (0, jI y0), (1, jI y1)]) hx hb dX9_figureOf_1 rfl hl (by decide) rfl (fun ls hl => ?_)
  refine j_iconst hx hb dX9_figureOf_2 ?_
  refine j_istore_n (lv2 := [(3, jI 0), (2, jI y0), (0, jI y0), (1, jI y1)]) hx hb dX9_figureOf_3 rfl hl (by decide) rfl (fun ls hl => ?_)
  have hl4_1 : ∀ (n0 : Nat) (x2_2 : Int) (x3_3 : Int) (H : Heap) (locs : List Loc) (ls : Array Slot), va_P D vwCl (wl b cs μ) H → va_S (bA b) s.heap H locs → lv_has ls 4 [(1, jI y1), (2, jI x2_2), (3, jI x3_3)] → fX9_figureOf_l4 N y1 n0 x2_2 x3_3 = some r → W p l e rmX9_figureOf s m args below meth c H locs 0 0 (MQ below (QI D b cs μ r) args s 0 0 (bA b)) (F0 m 4 ls []) := by
    intro n0
    induction n0 with
    | zero => intro x2_2 x3_3 H locs ls hP hS hl h; rw [fX9_figureOf_l4] at h; cases h
    | succ n1 ih4_1 =>
      intro x2_2 x3_3 H locs ls hP hS hl h
      rw [fX9_figureOf_l4] at h
      refine j_iload_n hx hb dX9_figureOf_4 rfl (lv_at hl 2 rfl) ?_
      refine j_iload_n hx hb dX9_figureOf_5 rfl (lv_at hl 0 rfl) ?_
      refine j_icmp_ge (A := wr x3_3) (B := wr y1) (tgt := 19) hx hb rfl rfl dX9_figureOf_6 (by decide) (fun q4 => ?_) (fun q4 => ?_)
      · replace h := (if_pos q4).symm.trans h
        refine j_iload_n hx hb dX9_figureOf_19 rfl (lv_at hl 1 rfl) ?_
        refine j_iconst hx hb dX9_figureOf_20 ?_
        refine j_irem hx hb dX9_figureOf_21 (by decide) ?_
        exact j_retI hx hb hK hP hS hr hlk (Option.some.inj h) dX9_figureOf_22
      · replace h := (if_neg q4).symm.trans h
        refine j_iload_n hx hb dX9_figureOf_9 rfl (lv_at hl 1 rfl) ?_
        refine j_iconst hx hb dX9_figureOf_10 ?_
        refine j_idiv hx hb dX9_figureOf_11 (by decide) ?_
        refine j_istore_n (lv2 := [(2, jI (dvI x2_2 3)), (1, jI y1), (3, jI x3_3)]) hx hb dX9_figureOf_12 rfl hl (by decide) rfl (fun ls hl => ?_)
        refine j_iinc (k := 2) (lv2 := [(3, jI (x3_3 + 1)), (2, jI (dvI x2_2 3)), (1, jI y1)]) hx hb dX9_figureOf_13 hl rfl (by decide) rfl (fun ls hl => ?_)
        refine j_goto (tgt := 4) hx hb dX9_figureOf_16 (by decide) ?_
        exact ih4_1 _ _ _ _ _ hP hS (lv_sub hl [2, 1, 0] rfl) h
  exact hl4_1 N _ _ _ _ _ hP hS (lv_sub hl [3, 1, 0] rfl) h
def fX9_turn_j144 (N : Nat) (y1 : Int) (y2 : Int) (v6 : Int) (μ15 : Mm) : Int → Option (Mm) := fun s18 =>
    Option.bind (stA μ15 333 8262 ((y1 + 24) + y2) s18) (fun μ19 => Option.bind (ldA μ19 333 8262 ((y1 + 40) + v6)) (fun v21 => Option.bind (stA μ19 333 8262 ((y1 + 40) + v6) (v21 - 1)) (fun μ23 => some μ23)))
def fX9_turn_j87 (N : Nat) (y1 : Int) (y2 : Int) (y3 : Int) (v6 : Int) (μ8 : Mm) (v9 : Int) : Int → Option (Mm) := fun s12 =>
    Option.bind (stA μ8 333 8262 ((y1 + 8) + y2) (v9 + s12)) (fun μ13 => Option.bind (stA μ13 333 8262 ((y1 + 16) + y2) v6) (fun μ15 => if wr y3 = 1 then (Option.bind (ldA μ15 333 8262 ((y1 + 32) + y2)) (fun v28 => fX9_turn_j144 N y1 y2 v6 μ15 v28)) else (Option.bind (ldA μ15 333 8262 ((y1 + 32) + y2)) (fun v26 => fX9_turn_j144 N y1 y2 v6 μ15 (1 - v26)))))
def fX9_turn_j65 (N : Nat) (y1 : Int) (y2 : Int) (y3 : Int) (v6 : Int) : Mm → Option (Mm) := fun μ8 =>
    Option.bind (ldA μ8 333 8262 ((y1 + 8) + y2)) (fun v9 => if wr y3 = 1 then (fX9_turn_j87 N y1 y2 y3 v6 μ8 v9 1) else (fX9_turn_j87 N y1 y2 y3 v6 μ8 v9 (-1)))
def fX9_turn_j25 (N : Nat) (y1 : Int) (y2 : Int) (y3 : Int) : Mm → Option (Mm) := fun μ2 =>
    Option.bind (ldA μ2 333 8262 (y1 + y2)) (fun v3 => Option.bind (fX9_colourOf N y2 v3 μ2) (fun v6 => if wr y3 = 1 then (Option.bind (ldA μ2 333 8262 (y1 + y2)) (fun v32 => Option.bind (stA μ2 333 8262 (y1 + y2) (rmI (v32 + 1) 4)) (fun μ34 => fX9_turn_j65 N y1 y2 y3 v6 μ34))) else (fX9_turn_j65 N y1 y2 y3 v6 μ2)))
def fX9_turn (N : Nat) (y1 : Int) (y2 : Int) (y3 : Int) (μ : Mm) : Option (Mm) :=
    if wr y3 = 2 then (Option.bind (ldA μ 333 8262 (y1 + y2)) (fun v37 => Option.bind (stA μ 333 8262 (y1 + y2) (rmI (v37 + 3) 4)) (fun μ39 => fX9_turn_j25 N y1 y2 y3 μ39))) else (fX9_turn_j25 N y1 y2 y3 μ)
abbrev rmX9_turn : Room := { frames := 1, cells := 0, slots := 0, locals := 22 }
set_option maxHeartbeats 4000000 in
set_option maxRecDepth 100000 in
theorem m_X9_turn (l : Launch) (D : va_G) (b : Nat) (cs : CS) (N : Nat) {μ μ0 : Mm} {y1 y2 y3 : Int} (h : fX9_turn N y1 y2 y3 μ = some μ0) : MM l yX9_turn wsX9_turn rmX9_turn D b cs [jR b 332, jI y1, jI y2, jI y3] μ μ0 := by
  refine met_in (cc := cX9_turn) (maxL := 5) (ret := none) (lv0 := [(0, jR b 332), (1, jI y1), (2, jI y2), (3, jI y3)]) (by decide +kernel) rfl (Nat.le_of_ble_eq_true rfl) rfl ?_
  intro p e s m args below meth c hx hb hr hlk hml hown hts hP hK ls hl
  have hown : s.vm.findClass RX9 = some m.cls := hown
  have hS : va_S (bA b) s.heap s.heap [] := va_S.rf
  have hinX9 : ∀ w ∈ u_ws RX9 TX9 27, w ∈ wsX9_turn := by decide +kernel
  unfold fX9_turn at h
  refine j_iload_n hx hb dX9_turn_0 rfl (lv_at hl 3 rfl) ?_
  refine j_iconst hx hb dX9_turn_1 ?_
  have hj25_1 : ∀ (μ2 : Mm) (H : Heap) (locs : List Loc) (ls : Array Slot), va_P D vwCl (wl b cs μ2) H → va_S (bA b) s.heap H locs → lv_has ls 5 [(0, jR b 332), (1, jI y1), (2, jI y2), (3, jI y3)] → fX9_turn_j25 N y1 y2 y3 μ2 = some μ0 → W p l e rmX9_turn s m args below meth c H locs 0 0 (MQ below (QM D b cs μ0) args s 0 0 (bA b)) (F0 m 25 ls []) := by
    intro μ2 H locs ls hP hS hl h
    unfold fX9_turn_j25 at h
    refine j_aload_n hx hb dX9_turn_25 rfl (lv_at hl 0 rfl) ?_
    refine j_iload_n hx hb dX9_turn_26 rfl (lv_at hl 2 rfl) ?_
    refine j_aload_n hx hb dX9_turn_27 rfl (lv_at hl 0 rfl) ?_
    refine j_get (v := jR b 333) hx hb hts hinX9 hown hK hP kz_332 (by decide) rfl 0 (by decide) (hts (.fieldLink RX9 7 "CardBandModel" "w" "[I") (by decide +kernel)) rfl rfl dX9_turn_28 ?_
    refine j_iload_n hx hb dX9_turn_31 rfl (lv_at hl 1 rfl) ?_
    refine j_iload_n hx hb dX9_turn_32 rfl (lv_at hl 2 rfl) ?_
    refine j_iadd hx hb dX9_turn_33 ?_
    obtain ⟨v3, e4, h⟩ := ob_I h
    refine j_iaload hx hb hK hP kz_333 e4 dX9_turn_34 ?_
    obtain ⟨v6, e5, h⟩ := ob_I h
    refine jc_VI (As := [jI y2, jI v3]) (rest := []) ⟨hx, hb, hml, hown, hts⟩ hK hP hS (m_X9_colourOf l D b cs N e5) (cwV 2 hts gX9_turn_X9_colourOf rfl rfl rfl (by decide +kernel) ⟨Nat.le_of_ble_eq_true rfl, Nat.le_of_ble_eq_true rfl⟩) kz_332 (by decide) rfl rfl hl.1 rfl (Nat.le_of_ble_eq_true rfl) dX9_turn_35 ⟨Nat.zero_le _, Nat.zero_le _⟩ (fun H locs hP hS => ?_)
    refine j_istore (lv2 := [(4, jI v6), (0, jR b 332), (1, jI y1), (2, jI y2), (3, jI y3)]) hx hb dX9_turn_38 hl (by decide) rfl (fun ls hl => ?_)
    refine j_iload_n hx hb dX9_turn_40 rfl (lv_at hl 4 rfl) ?_
    refine j_iconst hx hb dX9_turn_41 ?_
    have hj65_7 : ∀ (μ8 : Mm) (H : Heap) (locs : List Loc) (ls : Array Slot), va_P D vwCl (wl b cs μ8) H → va_S (bA b) s.heap H locs → lv_has ls 5 [(0, jR b 332), (1, jI y1), (2, jI y2), (3, jI y3), (4, jI v6)] → fX9_turn_j65 N y1 y2 y3 v6 μ8 = some μ0 → W p l e rmX9_turn s m args below meth c H locs 0 0 (MQ below (QM D b cs μ0) args s 0 0 (bA b)) (F0 m 65 ls []) := by
      intro μ8 H locs ls hP hS hl h
      unfold fX9_turn_j65 at h
      refine j_aload_n hx hb dX9_turn_65 rfl (lv_at hl 0 rfl) ?_
      refine j_get (v := jR b 333) hx hb hts hinX9 hown hK hP kz_332 (by decide) rfl 0 (by decide) (hts (.fieldLink RX9 7 "CardBandModel" "w" "[I") (by decide +kernel)) rfl rfl dX9_turn_66 ?_
      refine j_iload_n hx hb dX9_turn_69 rfl (lv_at hl 1 rfl) ?_
      refine j_bipush hx hb dX9_turn_70 (by decide) ?_
      refine j_iadd hx hb dX9_turn_72 ?_
      refine j_iload_n hx hb dX9_turn_73 rfl (lv_at hl 2 rfl) ?_
      refine j_iadd hx hb dX9_turn_74 ?_
      refine j_dup2 hx hb dX9_turn_75 rfl rfl ?_
      obtain ⟨v9, e10, h⟩ := ob_I h
      refine j_iaload hx hb hK hP kz_333 e10 dX9_turn_76 ?_
      refine j_iload_n hx hb dX9_turn_77 rfl (lv_at hl 3 rfl) ?_
      refine j_iconst hx hb dX9_turn_78 ?_
      have hj87_11 : ∀ (s12 : Int) (H : Heap) (locs : List Loc) (ls : Array Slot), va_P D vwCl (wl b cs μ8) H → va_S (bA b) s.heap H locs → lv_has ls 5 [(0, jR b 332), (1, jI y1), (2, jI y2), (3, jI y3), (4, jI v6)] → fX9_turn_j87 N y1 y2 y3 v6 μ8 v9 s12 = some μ0 → W p l e rmX9_turn s m args below meth c H locs 0 0 (MQ below (QM D b cs μ0) args s 0 0 (bA b)) (F0 m 87 ls [jI s12, jI v9, jI ((y1 + 8) + y2), jR b 333]) := by
        intro s12 H locs ls hP hS hl h
        unfold fX9_turn_j87 at h
        refine j_iadd hx hb dX9_turn_87 ?_
        obtain ⟨μ13, e14, h⟩ := ob_I h
        refine j_iastore hx hb hK hP hS kz_333 e14 dX9_turn_88 (fun H locs hP hS => ?_)
        refine j_aload_n hx hb dX9_turn_89 rfl (lv_at hl 0 rfl) ?_
        refine j_get (v := jR b 333) hx hb hts hinX9 hown hK hP kz_332 (by decide) rfl 0 (by decide) (hts (.fieldLink RX9 7 "CardBandModel" "w" "[I") (by decide +kernel)) rfl rfl dX9_turn_90 ?_
        refine j_iload_n hx hb dX9_turn_93 rfl (lv_at hl 1 rfl) ?_
        refine j_bipush hx hb dX9_turn_94 (by decide) ?_
        refine j_iadd hx hb dX9_turn_96 ?_
        refine j_iload_n hx hb dX9_turn_97 rfl (lv_at hl 2 rfl) ?_
        refine j_iadd hx hb dX9_turn_98 ?_
        refine j_iload hx hb dX9_turn_99 (lv_at hl 4 rfl) ?_
        obtain ⟨μ15, e16, h⟩ := ob_I h
        refine j_iastore hx hb hK hP hS kz_333 e16 dX9_turn_101 (fun H locs hP hS => ?_)
        refine j_aload_n hx hb dX9_turn_102 rfl (lv_at hl 0 rfl) ?_
        refine j_get (v := jR b 333) hx hb hts hinX9 hown hK hP kz_332 (by decide) rfl 0 (by decide) (hts (.fieldLink RX9 7 "CardBandModel" "w" "[I") (by decide +kernel)) rfl rfl dX9_turn_103 ?_
        refine j_iload_n hx hb dX9_turn_106 rfl (lv_at hl 1 rfl) ?_
        refine j_bipush hx hb dX9_turn_107 (by decide) ?_
        refine j_iadd hx hb dX9_turn_109 ?_
        refine j_iload_n hx hb dX9_turn_110 rfl (lv_at hl 2 rfl) ?_
        refine j_iadd hx hb dX9_turn_111 ?_
        refine j_iload_n hx hb dX9_turn_112 rfl (lv_at hl 3 rfl) ?_
        refine j_iconst hx hb dX9_turn_113 ?_
        have hj144_17 : ∀ (s18 : Int) (H : Heap) (locs : List Loc) (ls : Array Slot), va_P D vwCl (wl b cs μ15) H → va_S (bA b) s.heap H locs → lv_has ls 5 [(0, jR b 332), (1, jI y1), (4, jI v6)] → fX9_turn_j144 N y1 y2 v6 μ15 s18 = some μ0 → W p l e rmX9_turn s m args below meth c H locs 0 0 (MQ below (QM D b cs μ0) args s 0 0 (bA b)) (F0 m 144 ls [jI s18, jI ((y1 + 24) + y2), jR b 333]) := by
          intro s18 H locs ls hP hS hl h
          unfold fX9_turn_j144 at h
          obtain ⟨μ19, e20, h⟩ := ob_I h
          refine j_iastore hx hb hK hP hS kz_333 e20 dX9_turn_144 (fun H locs hP hS => ?_)
          refine j_aload_n hx hb dX9_turn_145 rfl (lv_at hl 0 rfl) ?_
          refine j_get (v := jR b 333) hx hb hts hinX9 hown hK hP kz_332 (by decide) rfl 0 (by decide) (hts (.fieldLink RX9 7 "CardBandModel" "w" "[I") (by decide +kernel)) rfl rfl dX9_turn_146 ?_
          refine j_iload_n hx hb dX9_turn_149 rfl (lv_at hl 1 rfl) ?_
          refine j_bipush hx hb dX9_turn_150 (by decide) ?_
          refine j_iadd hx hb dX9_turn_152 ?_
          refine j_iload hx hb dX9_turn_153 (lv_at hl 2 rfl) ?_
          refine j_iadd hx hb dX9_turn_155 ?_
          refine j_dup2 hx hb dX9_turn_156 rfl rfl ?_
          obtain ⟨v21, e22, h⟩ := ob_I h
          refine j_iaload hx hb hK hP kz_333 e22 dX9_turn_157 ?_
          refine j_iconst hx hb dX9_turn_158 ?_
          refine j_isub hx hb dX9_turn_159 ?_
          obtain ⟨μ23, e24, h⟩ := ob_I h
          refine j_iastore hx hb hK hP hS kz_333 e24 dX9_turn_160 (fun H locs hP hS => ?_)
          have e0 := Option.some.inj h
          subst e0
          exact j_retM hx hb hK hP hS hr hlk dX9_turn_161
        refine j_icmp_ne (A := wr y3) (B := 1) (tgt := 131) hx hb rfl (by decide) dX9_turn_114 (by decide) (fun q25 => ?_) (fun q25 => ?_)
        · replace h := (if_neg q25).symm.trans h
          refine j_iconst hx hb dX9_turn_131 ?_
          refine j_aload_n hx hb dX9_turn_132 rfl (lv_at hl 0 rfl) ?_
          refine j_get (v := jR b 333) hx hb hts hinX9 hown hK hP kz_332 (by decide) rfl 0 (by decide) (hts (.fieldLink RX9 7 "CardBandModel" "w" "[I") (by decide +kernel)) rfl rfl dX9_turn_133 ?_
          refine j_iload_n hx hb dX9_turn_136 rfl (lv_at hl 1 rfl) ?_
          refine j_bipush hx hb dX9_turn_137 (by decide) ?_
          refine j_iadd hx hb dX9_turn_139 ?_
          refine j_iload_n hx hb dX9_turn_140 rfl (lv_at hl 2 rfl) ?_
          refine j_iadd hx hb dX9_turn_141 ?_
          obtain ⟨v26, e27, h⟩ := ob_I h
          refine j_iaload hx hb hK hP kz_333 e27 dX9_turn_142 ?_
          refine j_isub hx hb dX9_turn_143 ?_
          exact hj144_17 _ _ _ _ hP hS (lv_sub hl [0, 1, 4] rfl) h
        · replace h := (if_pos q25).symm.trans h
          refine j_aload_n hx hb dX9_turn_117 rfl (lv_at hl 0 rfl) ?_
          refine j_get (v := jR b 333) hx hb hts hinX9 hown hK hP kz_332 (by decide) rfl 0 (by decide) (hts (.fieldLink RX9 7 "CardBandModel" "w" "[I") (by decide +kernel)) rfl rfl dX9_turn_118 ?_
          refine j_iload_n hx hb dX9_turn_121 rfl (lv_at hl 1 rfl) ?_
          refine j_bipush hx hb dX9_turn_122 (by decide) ?_
          refine j_iadd hx hb dX9_turn_124 ?_
          refine j_iload_n hx hb dX9_turn_125 rfl (lv_at hl 2 rfl) ?_
          refine j_iadd hx hb dX9_turn_126 ?_
          obtain ⟨v28, e29, h⟩ := ob_I h
          refine j_iaload hx hb hK hP kz_333 e29 dX9_turn_127 ?_
          refine j_goto (tgt := 144) hx hb dX9_turn_128 (by decide) ?_
          exact hj144_17 _ _ _ _ hP hS (lv_sub hl [0, 1, 4] rfl) h
      refine j_icmp_ne (A := wr y3) (B := 1) (tgt := 86) hx hb rfl (by decide) dX9_turn_79 (by decide) (fun q30 => ?_) (fun q30 => ?_)
      · replace h := (if_neg q30).symm.trans h
        refine j_iconst hx hb dX9_turn_86 ?_
        exact hj87_11 _ _ _ _ hP hS (lv_sub hl [0, 1, 2, 3, 4] rfl) h
      · replace h := (if_pos q30).symm.trans h
        refine j_iconst hx hb dX9_turn_82 ?_
        refine j_goto (tgt := 87) hx hb dX9_turn_83 (by decide) ?_
        exact hj87_11 _ _ _ _ hP hS (lv_sub hl [0, 1, 2, 3, 4] rfl) h
    refine j_icmp_ne (A := wr y3) (B := 1) (tgt := 65) hx hb rfl (by decide) dX9_turn_42 (by decide) (fun q31 => ?_) (fun q31 => ?_)
    · replace h := (if_neg q31).symm.trans h
      exact hj65_7 _ _ _ _ hP hS (lv_sub hl [1, 2, 3, 4, 0] rfl) h
    · replace h := (if_pos q31).symm.trans h
      refine j_aload_n hx hb dX9_turn_45 rfl (lv_at hl 1 rfl) ?_
      refine j_get (v := jR b 333) hx hb hts hinX9 hown hK hP kz_332 (by decide) rfl 0 (by decide) (hts (.fieldLink RX9 7 "CardBandModel" "w" "[I") (by decide +kernel)) rfl rfl dX9_turn_46 ?_
      refine j_iload_n hx hb dX9_turn_49 rfl (lv_at hl 2 rfl) ?_
      refine j_iload_n hx hb dX9_turn_50 rfl (lv_at hl 3 rfl) ?_
      refine j_iadd hx hb dX9_turn_51 ?_
      refine j_aload_n hx hb dX9_turn_52 rfl (lv_at hl 1 rfl) ?_
      refine j_get (v := jR b 333) hx hb hts hinX9 hown hK hP kz_332 (by decide) rfl 0 (by decide) (hts (.fieldLink RX9 7 "CardBandModel" "w" "[I") (by decide +kernel)) rfl rfl dX9_turn_53 ?_
      refine j_iload_n hx hb dX9_turn_56 rfl (lv_at hl 2 rfl) ?_
      refine j_iload_n hx hb dX9_turn_57 rfl (lv_at hl 3 rfl) ?_
      refine j_iadd hx hb dX9_turn_58 ?_
      obtain ⟨v32, e33, h⟩ := ob_I h
      refine j_iaload hx hb hK hP kz_333 e33 dX9_turn_59 ?_
      refine j_iconst hx hb dX9_turn_60 ?_
      refine j_iadd hx hb dX9_turn_61 ?_
      refine j_iconst hx hb dX9_turn_62 ?_
      refine j_irem hx hb dX9_turn_63 (by decide) ?_
      obtain ⟨μ34, e35, h⟩ := ob_I h
      refine j_iastore hx hb hK hP hS kz_333 e35 dX9_turn_64 (fun H locs hP hS => ?_)
      exact hj65_7 _ _ _ _ hP hS (lv_sub hl [1, 2, 3, 4, 0] rfl) h
  refine j_icmp_ne (A := wr y3) (B := 2) (tgt := 25) hx hb rfl (by decide) dX9_turn_2 (by decide) (fun q36 => ?_) (fun q36 => ?_)
  · replace h := (if_neg q36).symm.trans h
    exact hj25_1 _ _ _ _ hP hS (lv_sub hl [0, 1, 2, 3] rfl) h
  · replace h := (if_pos q36).symm.trans h
    refine j_aload_n hx hb dX9_turn_5 rfl (lv_at hl 0 rfl) ?_
    refine j_get (v := jR b 333) hx hb hts hinX9 hown hK hP kz_332 (by decide) rfl 0 (by decide) (hts (.fieldLink RX9 7 "CardBandModel" "w" "[I") (by decide +kernel)) rfl rfl dX9_turn_6 ?_
    refine j_iload_n hx hb dX9_turn_9 rfl (lv_at hl 1 rfl) ?_
    refine j_iload_n hx hb dX9_turn_10 rfl (lv_at hl 2 rfl) ?_
    refine j_iadd hx hb dX9_turn_11 ?_
    refine j_aload_n hx hb dX9_turn_12 rfl (lv_at hl 0 rfl) ?_
    refine j_get (v := jR b 333) hx hb hts hinX9 hown hK hP kz_332 (by decide) rfl 0 (by decide) (hts (.fieldLink RX9 7 "CardBandModel" "w" "[I") (by decide +kernel)) rfl rfl dX9_turn_13 ?_
    refine j_iload_n hx hb dX9_turn_16 rfl (lv_at hl 1 rfl) ?_
    refine j_iload_n hx hb dX9_turn_17 rfl (lv_at hl 2 rfl) ?_
    refine j_iadd hx hb dX9_turn_18 ?_
    obtain ⟨v37, e38, h⟩ := ob_I h
    refine j_iaload hx hb hK hP kz_333 e38 dX9_turn_19 ?_
    refine j_iconst hx hb dX9_turn_20 ?_
    refine j_iadd hx hb dX9_turn_21 ?_
    refine j_iconst hx hb dX9_turn_22 ?_
    refine j_irem hx hb dX9_turn_23 (by decide) ?_
    obtain ⟨μ39, e40, h⟩ := ob_I h
    refine j_iastore hx hb hK hP hS kz_333 e40 dX9_turn_24 (fun H locs hP hS => ?_)
    exact hj25_1 _ _ _ _ hP hS (lv_sub hl [0, 1, 2, 3] rfl) h
def fX9_lay_k117 (N : Nat) (y1 : Int) : Mm → Option (Mm) := fun μ6 =>
    Option.bind (ldA μ6 333 8262 (y1 + 49)) (fun v7 => Option.bind (stA μ6 333 8262 (y1 + 49) (v7 + 1)) (fun μ9 => Option.bind (ldA μ9 333 8262 (y1 + 48)) (fun v11 => Option.bind (stA μ9 333 8262 (y1 + 48) (v11 + 1)) (fun μ13 => some μ13))))
def fX9_lay_l70 (N : Nat) (y1 : Int) : Nat → Int → Mm → Option (Mm)
  | 0, _, _ => none
  | n15 + 1, x2_16, μ17 =>
    if 8 ≤ wr x2_16 then (fX9_lay_k117 N y1 μ17) else (Option.bind (ldA μ17 333 8262 (y1 + 49)) (fun v19 => Option.bind (ldA μ17 333 8262 ((y1 + 16) + x2_16)) (fun v21 => Option.bind (stA μ17 333 8262 (((y1 + 50) + (8 * v19)) + x2_16) v21) (fun μ23 => (fX9_lay_l70 N y1 n15) (x2_16 + 1) μ23))))
def fX9_lay_j68 (N : Nat) (y1 : Int) : Mm → Option (Mm) := fun μ4 =>
    fX9_lay_l70 N y1 N 0 μ4
def fX9_lay_k55 (N : Nat) (y1 : Int) : Mm → Option (Mm) := fun μ27 =>
    Option.bind (ldA μ27 333 8262 (y1 + 49)) (fun v28 => Option.bind (stA μ27 333 8262 (y1 + 49) (v28 - 1)) (fun μ30 => fX9_lay_j68 N y1 μ30))
def fX9_lay_l17 (N : Nat) (y1 : Int) : Nat → Int → Mm → Option (Mm)
  | 0, _, _ => none
  | n32 + 1, x2_33, μ34 =>
    if 192 ≤ wr x2_33 then (fX9_lay_k55 N y1 μ34) else (Option.bind (ldA μ34 333 8262 ((y1 + 50) + x2_33)) (fun v36 => Option.bind (stA μ34 333 8262 (((y1 + 50) + x2_33) - 8) v36) (fun μ38 => (fX9_lay_l17 N y1 n32) (x2_33 + 1) μ38)))
def fX9_lay (N : Nat) (y1 : Int) (μ : Mm) : Option (Mm) :=
    Option.bind (ldA μ 333 8262 (y1 + 49)) (fun v1 => if wr v1 = 24 then (fX9_lay_l17 N y1 N 8 μ) else (fX9_lay_j68 N y1 μ))
abbrev rmX9_lay : Room := { frames := 0, cells := 0, slots := 0, locals := 0 }
set_option maxHeartbeats 4000000 in
set_option maxRecDepth 100000 in
theorem m_X9_lay (l : Launch) (D : va_G) (b : Nat) (cs : CS) (N : Nat) {μ μ0 : Mm} {y1 : Int} (h : fX9_lay N y1 μ = some μ0) : MM l yX9_lay wsX9_lay rmX9_lay D b cs [jR b 332, jI y1] μ μ0 := by
  refine met_in (cc := cX9_lay) (maxL := 3) (ret := none) (lv0 := [(0, jR b 332), (1, jI y1)]) (by decide +kernel) rfl (Nat.le_of_ble_eq_true rfl) rfl ?_
  intro p e s m args below meth c hx hb hr hlk hml hown hts hP hK ls hl
  have hown : s.vm.findClass RX9 = some m.cls := hown
  have hS : va_S (bA b) s.heap s.heap [] := va_S.rf
  have hinX9 : ∀ w ∈ u_ws RX9 TX9 27, w ∈ wsX9_lay := by decide +kernel
  unfold fX9_lay at h
  refine j_aload_n hx hb dX9_lay_0 rfl (lv_at hl 0 rfl) ?_
  refine j_get (v := jR b 333) hx hb hts hinX9 hown hK hP kz_332 (by decide) rfl 0 (by decide) (hts (.fieldLink RX9 7 "CardBandModel" "w" "[I") (by decide +kernel)) rfl rfl dX9_lay_1 ?_
  refine j_iload_n hx hb dX9_lay_4 rfl (lv_at hl 1 rfl) ?_
  refine j_bipush hx hb dX9_lay_5 (by decide) ?_
  refine j_iadd hx hb dX9_lay_7 ?_
  obtain ⟨v1, e2, h⟩ := ob_I h
  refine j_iaload hx hb hK hP kz_333 e2 dX9_lay_8 ?_
  refine j_bipush hx hb dX9_lay_9 (by decide) ?_
  have hj68_3 : ∀ (μ4 : Mm) (H : Heap) (locs : List Loc) (ls : Array Slot), va_P D vwCl (wl b cs μ4) H → va_S (bA b) s.heap H locs → lv_has ls 3 [(0, jR b 332), (1, jI y1)] → fX9_lay_j68 N y1 μ4 = some μ0 → W p l e rmX9_lay s m args below meth c H locs 0 0 (MQ below (QM D b cs μ0) args s 0 0 (bA b)) (F0 m 68 ls []) := by
    intro μ4 H locs ls hP hS hl h
    unfold fX9_lay_j68 at h
    refine j_iconst hx hb dX9_lay_68 ?_
    refine j_istore_n (lv2 := [(2, jI 0), (0, jR b 332), (1, jI y1)]) hx hb dX9_lay_69 rfl hl (by decide) rfl (fun ls hl => ?_)
    have hk117_5 : ∀ (μ6 : Mm) (H : Heap) (locs : List Loc) (ls : Array Slot), va_P D vwCl (wl b cs μ6) H → va_S (bA b) s.heap H locs → lv_has ls 3 [(0, jR b 332), (1, jI y1)] → fX9_lay_k117 N y1 μ6 = some μ0 → W p l e rmX9_lay s m args below meth c H locs 0 0 (MQ below (QM D b cs μ0) args s 0 0 (bA b)) (F0 m 117 ls []) := by
      intro μ6 H locs ls hP hS hl h
      unfold fX9_lay_k117 at h
      refine j_aload_n hx hb dX9_lay_117 rfl (lv_at hl 0 rfl) ?_
      refine j_get (v := jR b 333) hx hb hts hinX9 hown hK hP kz_332 (by decide) rfl 0 (by decide) (hts (.fieldLink RX9 7 "CardBandModel" "w" "[I") (by decide +kernel)) rfl rfl dX9_lay_118 ?_
      refine j_iload_n hx hb dX9_lay_121 rfl (lv_at hl 1 rfl) ?_
      refine j_bipush hx hb dX9_lay_122 (by decide) ?_
      refine j_iadd hx hb dX9_lay_124 ?_
      refine j_dup2 hx hb dX9_lay_125 rfl rfl ?_
      obtain ⟨v7, e8, h⟩ := ob_I h
      refine j_iaload hx hb hK hP kz_333 e8 dX9_lay_126 ?_
      refine j_iconst hx hb dX9_lay_127 ?_
      refine j_iadd hx hb dX9_lay_128 ?_
      obtain ⟨μ9, e10, h⟩ := ob_I h
      refine j_iastore hx hb hK hP hS kz_333 e10 dX9_lay_129 (fun H locs hP hS => ?_)
      refine j_aload_n hx hb dX9_lay_130 rfl (lv_at hl 0 rfl) ?_
      refine j_get (v := jR b 333) hx hb hts hinX9 hown hK hP kz_332 (by decide) rfl 0 (by decide) (hts (.fieldLink RX9 7 "CardBandModel" "w" "[I") (by decide +kernel)) rfl rfl dX9_lay_131 ?_
      refine j_iload_n hx hb dX9_lay_134 rfl (lv_at hl 1 rfl) ?_
      refine j_bipush hx hb dX9_lay_135 (by decide) ?_
      refine j_iadd hx hb dX9_lay_137 ?_
      refine j_dup2 hx hb dX9_lay_138 rfl rfl ?_
      obtain ⟨v11, e12, h⟩ := ob_I h
      refine j_iaload hx hb hK hP kz_333 e12 dX9_lay_139 ?_
      refine j_iconst hx hb dX9_lay_140 ?_
      refine j_iadd hx hb dX9_lay_141 ?_
      obtain ⟨μ13, e14, h⟩ := ob_I h
      refine j_iastore hx hb hK hP hS kz_333 e14 dX9_lay_142 (fun H locs hP hS => ?_)
      have e0 := Option.some.inj h
      subst e0
      exact j_retM hx hb hK hP hS hr hlk dX9_lay_143
    have hl70_15 : ∀ (n0 : Nat) (x2_16 : Int) (μ17 : Mm) (H : Heap) (locs : List Loc) (ls : Array Slot), va_P D vwCl (wl b cs μ17) H → va_S (bA b) s.heap H locs → lv_has ls 3 [(0, jR b 332), (1, jI y1), (2, jI x2_16)] → fX9_lay_l70 N y1 n0 x2_16 μ17 = some μ0 → W p l e rmX9_lay s m args below meth c H locs 0 0 (MQ below (QM D b cs μ0) args s 0 0 (bA b)) (F0 m 70 ls []) := by
      intro n0
      induction n0 with
      | zero => intro x2_16 μ17 H locs ls hP hS hl h; rw [fX9_lay_l70] at h; cases h
      | succ n15 ih70_15 =>
        intro x2_16 μ17 H locs ls hP hS hl h
        rw [fX9_lay_l70] at h
        refine j_iload_n hx hb dX9_lay_70 rfl (lv_at hl 2 rfl) ?_
        refine j_bipush hx hb dX9_lay_71 (by decide) ?_
        refine j_icmp_ge (A := wr x2_16) (B := 8) (tgt := 117) hx hb rfl (by decide) dX9_lay_73 (by decide) (fun q18 => ?_) (fun q18 => ?_)
        · replace h := (if_pos q18).symm.trans h
          exact hk117_5 _ _ _ _ hP hS (lv_sub hl [0, 1] rfl) h
        · replace h := (if_neg q18).symm.trans h
          refine j_aload_n hx hb dX9_lay_76 rfl (lv_at hl 0 rfl) ?_
          refine j_get (v := jR b 333) hx hb hts hinX9 hown hK hP kz_332 (by decide) rfl 0 (by decide) (hts (.fieldLink RX9 7 "CardBandModel" "w" "[I") (by decide +kernel)) rfl rfl dX9_lay_77 ?_
          refine j_iload_n hx hb dX9_lay_80 rfl (lv_at hl 1 rfl) ?_
          refine j_bipush hx hb dX9_lay_81 (by decide) ?_
          refine j_iadd hx hb dX9_lay_83 ?_
          refine j_bipush hx hb dX9_lay_84 (by decide) ?_
          refine j_aload_n hx hb dX9_lay_86 rfl (lv_at hl 0 rfl) ?_
          refine j_get (v := jR b 333) hx hb hts hinX9 hown hK hP kz_332 (by decide) rfl 0 (by decide) (hts (.fieldLink RX9 7 "CardBandModel" "w" "[I") (by decide +kernel)) rfl rfl dX9_lay_87 ?_
          refine j_iload_n hx hb dX9_lay_90 rfl (lv_at hl 1 rfl) ?_
          refine j_bipush hx hb dX9_lay_91 (by decide) ?_
          refine j_iadd hx hb dX9_lay_93 ?_
          obtain ⟨v19, e20, h⟩ := ob_I h
          refine j_iaload hx hb hK hP kz_333 e20 dX9_lay_94 ?_
          refine j_imul hx hb dX9_lay_95 ?_
          refine j_iadd hx hb dX9_lay_96 ?_
          refine j_iload_n hx hb dX9_lay_97 rfl (lv_at hl 2 rfl) ?_
          refine j_iadd hx hb dX9_lay_98 ?_
          refine j_aload_n hx hb dX9_lay_99 rfl (lv_at hl 0 rfl) ?_
          refine j_get (v := jR b 333) hx hb hts hinX9 hown hK hP kz_332 (by decide) rfl 0 (by decide) (hts (.fieldLink RX9 7 "CardBandModel" "w" "[I") (by decide +kernel)) rfl rfl dX9_lay_100 ?_
          refine j_iload_n hx hb dX9_lay_103 rfl (lv_at hl 1 rfl) ?_
          refine j_bipush hx hb dX9_lay_104 (by decide) ?_
          refine j_iadd hx hb dX9_lay_106 ?_
          refine j_iload_n hx hb dX9_lay_107 rfl (lv_at hl 2 rfl) ?_
          refine j_iadd hx hb dX9_lay_108 ?_
          obtain ⟨v21, e22, h⟩ := ob_I h
          refine j_iaload hx hb hK hP kz_333 e22 dX9_lay_109 ?_
          obtain ⟨μ23, e24, h⟩ := ob_I h
          refine j_iastore hx hb hK hP hS kz_333 e24 dX9_lay_110 (fun H locs hP hS => ?_)
          refine j_iinc (k := 2) (lv2 := [(2, jI (x2_16 + 1)), (0, jR b 332), (1, jI y1)]) hx hb dX9_lay_111 hl rfl (by decide) rfl (fun ls hl => ?_)
          refine j_goto (tgt := 70) hx hb dX9_lay_114 (by decide) ?_
          exact ih70_15 _ _ _ _ _ hP hS (lv_sub hl [1, 2, 0] rfl) h
    exact hl70_15 N _ _ _ _ _ hP hS (lv_sub hl [1, 2, 0] rfl) h
  refine j_icmp_ne (A := wr v1) (B := 24) (tgt := 68) hx hb rfl (by decide) dX9_lay_11 (by decide) (fun q25 => ?_) (fun q25 => ?_)
  · replace h := (if_neg q25).symm.trans h
    exact hj68_3 _ _ _ _ hP hS (lv_sub hl [0, 1] rfl) h
  · replace h := (if_pos q25).symm.trans h
    refine j_bipush hx hb dX9_lay_14 (by decide) ?_
    refine j_istore_n (lv2 := [(2, jI 8), (0, jR b 332), (1, jI y1)]) hx hb dX9_lay_16 rfl hl (by decide) rfl (fun ls hl => ?_)
    have hk55_26 : ∀ (μ27 : Mm) (H : Heap) (locs : List Loc) (ls : Array Slot), va_P D vwCl (wl b cs μ27) H → va_S (bA b) s.heap H locs → lv_has ls 3 [(0, jR b 332), (1, jI y1)] → fX9_lay_k55 N y1 μ27 = some μ0 → W p l e rmX9_lay s m args below meth c H locs 0 0 (MQ below (QM D b cs μ0) args s 0 0 (bA b)) (F0 m 55 ls []) := by
      intro μ27 H locs ls hP hS hl h
      unfold fX9_lay_k55 at h
      refine j_aload_n hx hb dX9_lay_55 rfl (lv_at hl 0 rfl) ?_
      refine j_get (v := jR b 333) hx hb hts hinX9 hown hK hP kz_332 (by decide) rfl 0 (by decide) (hts (.fieldLink RX9 7 "CardBandModel" "w" "[I") (by decide +kernel)) rfl rfl dX9_lay_56 ?_
      refine j_iload_n hx hb dX9_lay_59 rfl (lv_at hl 1 rfl) ?_
      refine j_bipush hx hb dX9_lay_60 (by decide) ?_
      refine j_iadd hx hb dX9_lay_62 ?_
      refine j_dup2 hx hb dX9_lay_63 rfl rfl ?_
      obtain ⟨v28, e29, h⟩ := ob_I h
      refine j_iaload hx hb hK hP kz_333 e29 dX9_lay_64 ?_
      refine j_iconst hx hb dX9_lay_65 ?_
      refine j_isub hx hb dX9_lay_66 ?_
      obtain ⟨μ30, e31, h⟩ := ob_I h
      refine j_iastore hx hb hK hP hS kz_333 e31 dX9_lay_67 (fun H locs hP hS => ?_)
      exact hj68_3 _ _ _ _ hP hS (lv_sub hl [0, 1] rfl) h
    have hl17_32 : ∀ (n0 : Nat) (x2_33 : Int) (μ34 : Mm) (H : Heap) (locs : List Loc) (ls : Array Slot), va_P D vwCl (wl b cs μ34) H → va_S (bA b) s.heap H locs → lv_has ls 3 [(0, jR b 332), (1, jI y1), (2, jI x2_33)] → fX9_lay_l17 N y1 n0 x2_33 μ34 = some μ0 → W p l e rmX9_lay s m args below meth c H locs 0 0 (MQ below (QM D b cs μ0) args s 0 0 (bA b)) (F0 m 17 ls []) := by
      intro n0
      induction n0 with
      | zero => intro x2_33 μ34 H locs ls hP hS hl h; rw [fX9_lay_l17] at h; cases h
      | succ n32 ih17_32 =>
        intro x2_33 μ34 H locs ls hP hS hl h
        rw [fX9_lay_l17] at h
        refine j_iload_n hx hb dX9_lay_17 rfl (lv_at hl 2 rfl) ?_
        refine j_sipush hx hb dX9_lay_18 (by decide) ?_
        refine j_icmp_ge (A := wr x2_33) (B := 192) (tgt := 55) hx hb rfl (by decide) dX9_lay_21 (by decide) (fun q35 => ?_) (fun q35 => ?_)
        · replace h := (if_pos q35).symm.trans h
          exact hk55_26 _ _ _ _ hP hS (lv_sub hl [0, 1] rfl) h
        · replace h := (if_neg q35).symm.trans h
          refine j_aload_n hx hb dX9_lay_24 rfl (lv_at hl 0 rfl) ?_
          refine j_get (v := jR b 333) hx hb hts hinX9 hown hK hP kz_332 (by decide) rfl 0 (by decide) (hts (.fieldLink RX9 7 "CardBandModel" "w" "[I") (by decide +kernel)) rfl rfl dX9_lay_25 ?_
          refine j_iload_n hx hb dX9_lay_28 rfl (lv_at hl 1 rfl) ?_
          refine j_bipush hx hb dX9_lay_29 (by decide) ?_
          refine j_iadd hx hb dX9_lay_31 ?_
          refine j_iload_n hx hb dX9_lay_32 rfl (lv_at hl 2 rfl) ?_
          refine j_iadd hx hb dX9_lay_33 ?_
          refine j_bipush hx hb dX9_lay_34 (by decide) ?_
          refine j_isub hx hb dX9_lay_36 ?_
          refine j_aload_n hx hb dX9_lay_37 rfl (lv_at hl 0 rfl) ?_
          refine j_get (v := jR b 333) hx hb hts hinX9 hown hK hP kz_332 (by decide) rfl 0 (by decide) (hts (.fieldLink RX9 7 "CardBandModel" "w" "[I") (by decide +kernel)) rfl rfl dX9_lay_38 ?_
          refine j_iload_n hx hb dX9_lay_41 rfl (lv_at hl 1 rfl) ?_
          refine j_bipush hx hb dX9_lay_42 (by decide) ?_
          refine j_iadd hx hb dX9_lay_44 ?_
          refine j_iload_n hx hb dX9_lay_45 rfl (lv_at hl 2 rfl) ?_
          refine j_iadd hx hb dX9_lay_46 ?_
          obtain ⟨v36, e37, h⟩ := ob_I h
          refine j_iaload hx hb hK hP kz_333 e37 dX9_lay_47 ?_
          obtain ⟨μ38, e39, h⟩ := ob_I h
          refine j_iastore hx hb hK hP hS kz_333 e39 dX9_lay_48 (fun H locs hP hS => ?_)
          refine j_iinc (k := 2) (lv2 := [(2, jI (x2_33 + 1)), (0, jR b 332), (1, jI y1)]) hx hb dX9_lay_49 hl rfl (by decide) rfl (fun ls hl => ?_)
          refine j_goto (tgt := 17) hx hb dX9_lay_52 (by decide) ?_
          exact ih17_32 _ _ _ _ _ hP hS (lv_sub hl [1, 2, 0] rfl) h
    exact hl17_32 N _ _ _ _ _ hP hS (lv_sub hl [1, 2, 0] rfl) h
def fX9_pickIn_k54 (N : Nat) (y1 : Int) : Mm → Option (Mm) := fun μ2 =>
    Option.bind (fX9_lay N y1 μ2) (fun μ4 => some μ4)
def fX9_pickIn_j33 (N : Nat) (y1 : Int) (x3_6 : Int) (μ7 : Mm) (rec2_5 : Int → Mm → Option (Mm)) : Int → Option (Mm) := fun s12 =>
    if wr s12 ≤ 0 then (rec2_5 (x3_6 + 1) μ7) else (Option.bind (fX9_turn N y1 x3_6 s12 μ7) (fun μ15 => rec2_5 (x3_6 + 1) μ15))
def fX9_pickIn_l2 (N : Nat) (y1 : Int) (y2 : Int) : Nat → Int → Mm → Option (Mm)
  | 0, _, _ => none
  | n5 + 1, x3_6, μ7 =>
    if wr (gI μ7 332 6) ≤ wr x3_6 then (fX9_pickIn_k54 N y1 μ7) else (Option.bind (fX9_packOf N x3_6 μ7) (fun v10 => if wr v10 = (-1) then (fX9_pickIn_j33 N y1 x3_6 μ7 (fX9_pickIn_l2 N y1 y2 n5) 0) else (Option.bind (fX9_figureOf N y2 v10 μ7) (fun v18 => fX9_pickIn_j33 N y1 x3_6 μ7 (fX9_pickIn_l2 N y1 y2 n5) v18))))
def fX9_pickIn (N : Nat) (y1 : Int) (y2 : Int) (μ : Mm) : Option (Mm) :=
    fX9_pickIn_l2 N y1 y2 N 0 μ
abbrev rmX9_pickIn : Room := { frames := 2, cells := 0, slots := 0, locals := 46 }
set_option maxHeartbeats 4000000 in
set_option maxRecDepth 100000 in
theorem m_X9_pickIn (l : Launch) (D : va_G) (b : Nat) (cs : CS) (N : Nat) {μ μ0 : Mm} {y1 y2 : Int} (h : fX9_pickIn N y1 y2 μ = some μ0) : MM l yX9_pickIn wsX9_pickIn rmX9_pickIn D b cs [jR b 332, jI y1, jI y2] μ μ0 := by
  refine met_in (cc := cX9_pickIn) (maxL := 6) (ret := none) (lv0 := [(0, jR b 332), (1, jI y1), (2, jI y2)]) (by decide +kernel) rfl (Nat.le_of_ble_eq_true rfl) rfl ?_
  intro p e s m args below meth c hx hb hr hlk hml hown hts hP hK ls hl
  have hown : s.vm.findClass RX9 = some m.cls := hown
  have hS : va_S (bA b) s.heap s.heap [] := va_S.rf
  have hinX9 : ∀ w ∈ u_ws RX9 TX9 27, w ∈ wsX9_pickIn := by decide +kernel
  unfold fX9_pickIn at h
  refine j_iconst hx hb dX9_pickIn_0 ?_
  refine j_istore_n (lv2 := [(3, jI 0), (0, jR b 332), (1, jI y1), (2, jI y2)]) hx hb dX9_pickIn_1 rfl hl (by decide) rfl (fun ls hl => ?_)
  have hk54_1 : ∀ (μ2 : Mm) (H : Heap) (locs : List Loc) (ls : Array Slot), va_P D vwCl (wl b cs μ2) H → va_S (bA b) s.heap H locs → lv_has ls 6 [(0, jR b 332), (1, jI y1)] → fX9_pickIn_k54 N y1 μ2 = some μ0 → W p l e rmX9_pickIn s m args below meth c H locs 0 0 (MQ below (QM D b cs μ0) args s 0 0 (bA b)) (F0 m 54 ls []) := by
    intro μ2 H locs ls hP hS hl h
    unfold fX9_pickIn_k54 at h
    refine j_aload_n hx hb dX9_pickIn_54 rfl (lv_at hl 0 rfl) ?_
    refine j_iload_n hx hb dX9_pickIn_55 rfl (lv_at hl 1 rfl) ?_
    obtain ⟨μ4, e3, h⟩ := ob_I h
    refine jc_VM (As := [jI y1]) (rest := []) ⟨hx, hb, hml, hown, hts⟩ hK hP hS (m_X9_lay l D b cs N e3) (cwV 1 hts gX9_pickIn_X9_lay rfl rfl rfl (by decide +kernel) ⟨Nat.le_of_ble_eq_true rfl, Nat.le_of_ble_eq_true rfl⟩) kz_332 (by decide) rfl rfl hl.1 rfl (Nat.le_of_ble_eq_true rfl) dX9_pickIn_56 ⟨Nat.zero_le _, Nat.zero_le _⟩ (fun H locs hP hS => ?_)
    have e0 := Option.some.inj h
    subst e0
    exact j_retM hx hb hK hP hS hr hlk dX9_pickIn_59
  have hl2_5 : ∀ (n0 : Nat) (x3_6 : Int) (μ7 : Mm) (H : Heap) (locs : List Loc) (ls : Array Slot), va_P D vwCl (wl b cs μ7) H → va_S (bA b) s.heap H locs → lv_has ls 6 [(0, jR b 332), (1, jI y1), (2, jI y2), (3, jI x3_6)] → fX9_pickIn_l2 N y1 y2 n0 x3_6 μ7 = some μ0 → W p l e rmX9_pickIn s m args below meth c H locs 0 0 (MQ below (QM D b cs μ0) args s 0 0 (bA b)) (F0 m 2 ls []) := by
    intro n0
    induction n0 with
    | zero => intro x3_6 μ7 H locs ls hP hS hl h; rw [fX9_pickIn_l2] at h; cases h
    | succ n5 ih2_5 =>
      intro x3_6 μ7 H locs ls hP hS hl h
      rw [fX9_pickIn_l2] at h
      refine j_iload_n hx hb dX9_pickIn_2 rfl (lv_at hl 3 rfl) ?_
      refine j_aload_n hx hb dX9_pickIn_3 rfl (lv_at hl 0 rfl) ?_
      refine j_get (v := jI (gI μ7 332 6)) hx hb hts hinX9 hown hK hP kz_332 (by decide) rfl 6 (by decide) (hts (.fieldLink RX9 122 "CardBandModel" "cards" "I") (by decide +kernel)) rfl (by rw [jI_g]; rfl) dX9_pickIn_4 ?_
      refine j_icmp_ge (A := wr x3_6) (B := wr (gI μ7 332 6)) (tgt := 54) hx hb rfl rfl dX9_pickIn_7 (by decide) (fun q8 => ?_) (fun q8 => ?_)
      · replace h := (if_pos q8).symm.trans h
        exact hk54_1 _ _ _ _ hP hS (lv_sub hl [0, 1] rfl) h
      · replace h := (if_neg q8).symm.trans h
        refine j_aload_n hx hb dX9_pickIn_10 rfl (lv_at hl 0 rfl) ?_
        refine j_iload_n hx hb dX9_pickIn_11 rfl (lv_at hl 3 rfl) ?_
        obtain ⟨v10, e9, h⟩ := ob_I h
        refine jc_VI (As := [jI x3_6]) (rest := []) ⟨hx, hb, hml, hown, hts⟩ hK hP hS (m_X9_packOf l D b cs N e9) (cwV 1 hts gX9_pickIn_X9_packOf rfl rfl rfl (by decide +kernel) ⟨Nat.le_of_ble_eq_true rfl, Nat.le_of_ble_eq_true rfl⟩) kz_332 (by decide) rfl rfl hl.1 rfl (Nat.le_of_ble_eq_true rfl) dX9_pickIn_12 ⟨Nat.zero_le _, Nat.zero_le _⟩ (fun H locs hP hS => ?_)
        refine j_istore (lv2 := [(4, jI v10), (0, jR b 332), (1, jI y1), (2, jI y2), (3, jI x3_6)]) hx hb dX9_pickIn_15 hl (by decide) rfl (fun ls hl => ?_)
        refine j_iload hx hb dX9_pickIn_17 (lv_at hl 0 rfl) ?_
        refine j_iconst hx hb dX9_pickIn_19 ?_
        have hj33_11 : ∀ (s12 : Int) (H : Heap) (locs : List Loc) (ls : Array Slot), va_P D vwCl (wl b cs μ7) H → va_S (bA b) s.heap H locs → lv_has ls 6 [(0, jR b 332), (1, jI y1), (2, jI y2), (3, jI x3_6)] → fX9_pickIn_j33 N y1 x3_6 μ7 (fX9_pickIn_l2 N y1 y2 n5) s12 = some μ0 → W p l e rmX9_pickIn s m args below meth c H locs 0 0 (MQ below (QM D b cs μ0) args s 0 0 (bA b)) (F0 m 33 ls [jI s12]) := by
          intro s12 H locs ls hP hS hl h
          unfold fX9_pickIn_j33 at h
          refine j_istore (lv2 := [(5, jI s12), (0, jR b 332), (1, jI y1), (2, jI y2), (3, jI x3_6)]) hx hb dX9_pickIn_33 hl (by decide) rfl (fun ls hl => ?_)
          refine j_iload hx hb dX9_pickIn_35 (lv_at hl 0 rfl) ?_
          refine j_if_le (A := wr s12) (tgt := 48) hx hb rfl dX9_pickIn_37 (by decide) (fun q13 => ?_) (fun q13 => ?_)
          · replace h := (if_pos q13).symm.trans h
            refine j_iinc (k := 4) (lv2 := [(3, jI (x3_6 + 1)), (5, jI s12), (0, jR b 332), (1, jI y1), (2, jI y2)]) hx hb dX9_pickIn_48 hl rfl (by decide) rfl (fun ls hl => ?_)
            refine j_goto (tgt := 2) hx hb dX9_pickIn_51 (by decide) ?_
            exact ih2_5 _ _ _ _ _ hP hS (lv_sub hl [2, 3, 4, 0] rfl) h
          · replace h := (if_neg q13).symm.trans h
            refine j_aload_n hx hb dX9_pickIn_40 rfl (lv_at hl 1 rfl) ?_
            refine j_iload_n hx hb dX9_pickIn_41 rfl (lv_at hl 2 rfl) ?_
            refine j_iload_n hx hb dX9_pickIn_42 rfl (lv_at hl 4 rfl) ?_
            refine j_iload hx hb dX9_pickIn_43 (lv_at hl 0 rfl) ?_
            obtain ⟨μ15, e14, h⟩ := ob_I h
            refine jc_VM (As := [jI y1, jI x3_6, jI s12]) (rest := []) ⟨hx, hb, hml, hown, hts⟩ hK hP hS (m_X9_turn l D b cs N e14) (cwV 3 hts gX9_pickIn_X9_turn rfl rfl rfl (by decide +kernel) ⟨Nat.le_of_ble_eq_true rfl, Nat.le_of_ble_eq_true rfl⟩) kz_332 (by decide) rfl rfl hl.1 rfl (Nat.le_of_ble_eq_true rfl) dX9_pickIn_45 ⟨Nat.zero_le _, Nat.zero_le _⟩ (fun H locs hP hS => ?_)
            refine j_iinc (k := 4) (lv2 := [(3, jI (x3_6 + 1)), (5, jI s12), (0, jR b 332), (1, jI y1), (2, jI y2)]) hx hb dX9_pickIn_48 hl rfl (by decide) rfl (fun ls hl => ?_)
            refine j_goto (tgt := 2) hx hb dX9_pickIn_51 (by decide) ?_
            exact ih2_5 _ _ _ _ _ hP hS (lv_sub hl [2, 3, 4, 0] rfl) h
        refine j_icmp_ne (A := wr v10) (B := (-1)) (tgt := 27) hx hb rfl (by decide) dX9_pickIn_20 (by decide) (fun q16 => ?_) (fun q16 => ?_)
        · replace h := (if_neg q16).symm.trans h
          refine j_iload_n hx hb dX9_pickIn_27 rfl (lv_at hl 3 rfl) ?_
          refine j_iload hx hb dX9_pickIn_28 (lv_at hl 0 rfl) ?_
          obtain ⟨v18, e17, h⟩ := ob_I h
          refine jc_SI (As := [jI y2, jI v10]) (rest := []) ⟨hx, hb, hml, hown, hts⟩ hK hP hS (m_X9_figureOf l D b cs N e17) (va_cwS 2 hts gX9_pickIn_X9_figureOf rfl rfl rfl (by decide +kernel) ⟨Nat.le_of_ble_eq_true rfl, Nat.le_of_ble_eq_true rfl⟩) rfl hl.1 rfl (Nat.le_of_ble_eq_true rfl) dX9_pickIn_30 ⟨Nat.zero_le _, Nat.zero_le _⟩ (fun H locs hP hS => ?_)
          exact hj33_11 _ _ _ _ hP hS (lv_sub hl [1, 2, 3, 4] rfl) h
        · replace h := (if_pos q16).symm.trans h
          refine j_iconst hx hb dX9_pickIn_23 ?_
          refine j_goto (tgt := 33) hx hb dX9_pickIn_24 (by decide) ?_
          exact hj33_11 _ _ _ _ hP hS (lv_sub hl [1, 2, 3, 4] rfl) h
  exact hl2_5 N _ _ _ _ _ hP hS (lv_sub hl [1, 2, 3, 0] rfl) h
def fX9_lacks_l9 (N : Nat) (y1 : Int) (μ : Mm) : Nat → Int → Int → Option (Int)
  | 0, _, _ => none
  | n1 + 1, x2_2, x3_3 =>
    if wr x3_3 < 0 then (some x2_2) else (Option.bind (ldA μ 333 8262 ((y1 + 40) + x3_3)) (fun v5 => if 0 ≤ wr v5 then ((fX9_lacks_l9 N y1 μ n1) x2_2 (x3_3 + (-1))) else ((fX9_lacks_l9 N y1 μ n1) x3_3 (x3_3 + (-1)))))
def fX9_lacks (N : Nat) (y1 : Int) (μ : Mm) : Option (Int) :=
    fX9_lacks_l9 N y1 μ N (-1) ((gI μ 332 2) - 1)
abbrev rmX9_lacks : Room := { frames := 0, cells := 0, slots := 0, locals := 0 }
set_option maxHeartbeats 4000000 in
set_option maxRecDepth 100000 in
theorem m_X9_lacks (l : Launch) (D : va_G) (b : Nat) (cs : CS) (N : Nat) {μ : Mm} {y1 : Int} {r : Int} (h : fX9_lacks N y1 μ = some r) : MI l yX9_lacks wsX9_lacks rmX9_lacks D b cs [jR b 332, jI y1] μ μ r := by
  refine met_in (cc := cX9_lacks) (maxL := 4) (ret := some .int) (lv0 := [(0, jR b 332), (1, jI y1)]) (by decide +kernel) rfl (Nat.le_of_ble_eq_true rfl) rfl ?_
  intro p e s m args below meth c hx hb hr hlk hml hown hts hP hK ls hl
  have hown : s.vm.findClass RX9 = some m.cls := hown
  have hS : va_S (bA b) s.heap s.heap [] := va_S.rf
  have hinX9 : ∀ w ∈ u_ws RX9 TX9 27, w ∈ wsX9_lacks := by decide +kernel
  unfold fX9_lacks at h
  refine j_iconst hx hb dX9_lacks_0 ?_
  refine j_istore_n (lv2 := [(2, jI (-1)), (0, jR b 332), (1, jI y1)]) hx hb dX9_lacks_1 rfl hl (by decide) rfl (fun ls hl => ?_)
  refine j_aload_n hx hb dX9_lacks_2 rfl (lv_at hl 1 rfl) ?_
  refine j_get (v := jI (gI μ 332 2)) hx hb hts hinX9 hown hK hP kz_332 (by decide) rfl 2 (by decide) (hts (.fieldLink RX9 125 "CardBandModel" "colours" "I") (by decide +kernel)) rfl (by rw [jI_g]; rfl) dX9_lacks_3 ?_
  refine j_iconst hx hb dX9_lacks_6 ?_
  refine j_isub hx hb dX9_lacks_7 ?_
  refine j_istore_n (lv2 := [(3, jI ((gI μ 332 2) - 1)), (2, jI (-1)), (0, jR b 332), (1, jI y1)]) hx hb dX9_lacks_8 rfl hl (by decide) rfl (fun ls hl => ?_)
  have hl9_1 : ∀ (n0 : Nat) (x2_2 : Int) (x3_3 : Int) (H : Heap) (locs : List Loc) (ls : Array Slot), va_P D vwCl (wl b cs μ) H → va_S (bA b) s.heap H locs → lv_has ls 4 [(0, jR b 332), (1, jI y1), (2, jI x2_2), (3, jI x3_3)] → fX9_lacks_l9 N y1 μ n0 x2_2 x3_3 = some r → W p l e rmX9_lacks s m args below meth c H locs 0 0 (MQ below (QI D b cs μ r) args s 0 0 (bA b)) (F0 m 9 ls []) := by
    intro n0
    induction n0 with
    | zero => intro x2_2 x3_3 H locs ls hP hS hl h; rw [fX9_lacks_l9] at h; cases h
    | succ n1 ih9_1 =>
      intro x2_2 x3_3 H locs ls hP hS hl h
      rw [fX9_lacks_l9] at h
      refine j_iload_n hx hb dX9_lacks_9 rfl (lv_at hl 3 rfl) ?_
      refine j_if_lt (A := wr x3_3) (tgt := 39) hx hb rfl dX9_lacks_10 (by decide) (fun q4 => ?_) (fun q4 => ?_)
      · replace h := (if_pos q4).symm.trans h
        refine j_iload_n hx hb dX9_lacks_39 rfl (lv_at hl 2 rfl) ?_
        exact j_retI hx hb hK hP hS hr hlk (Option.some.inj h) dX9_lacks_40
      · replace h := (if_neg q4).symm.trans h
        refine j_aload_n hx hb dX9_lacks_13 rfl (lv_at hl 0 rfl) ?_
        refine j_get (v := jR b 333) hx hb hts hinX9 hown hK hP kz_332 (by decide) rfl 0 (by decide) (hts (.fieldLink RX9 7 "CardBandModel" "w" "[I") (by decide +kernel)) rfl rfl dX9_lacks_14 ?_
        refine j_iload_n hx hb dX9_lacks_17 rfl (lv_at hl 1 rfl) ?_
        refine j_bipush hx hb dX9_lacks_18 (by decide) ?_
        refine j_iadd hx hb dX9_lacks_20 ?_
        refine j_iload_n hx hb dX9_lacks_21 rfl (lv_at hl 3 rfl) ?_
        refine j_iadd hx hb dX9_lacks_22 ?_
        obtain ⟨v5, e6, h⟩ := ob_I h
        refine j_iaload hx hb hK hP kz_333 e6 dX9_lacks_23 ?_
        refine j_if_ge (A := wr v5) (tgt := 31) hx hb rfl dX9_lacks_24 (by decide) (fun q7 => ?_) (fun q7 => ?_)
        · replace h := (if_pos q7).symm.trans h
          refine j_iload_n hx hb dX9_lacks_31 rfl (lv_at hl 2 rfl) ?_
          refine j_istore_n (lv2 := [(2, jI x2_2), (0, jR b 332), (1, jI y1), (3, jI x3_3)]) hx hb dX9_lacks_32 rfl hl (by decide) rfl (fun ls hl => ?_)
          refine j_iinc (k := 3) (lv2 := [(3, jI (x3_3 + (-1))), (2, jI x2_2), (0, jR b 332), (1, jI y1)]) hx hb dX9_lacks_33 hl rfl (by decide) rfl (fun ls hl => ?_)
          refine j_goto (tgt := 9) hx hb dX9_lacks_36 (by decide) ?_
          exact ih9_1 _ _ _ _ _ hP hS (lv_sub hl [2, 3, 1, 0] rfl) h
        · replace h := (if_neg q7).symm.trans h
          refine j_iload_n hx hb dX9_lacks_27 rfl (lv_at hl 3 rfl) ?_
          refine j_goto (tgt := 32) hx hb dX9_lacks_28 (by decide) ?_
          refine j_istore_n (lv2 := [(2, jI x3_3), (0, jR b 332), (1, jI y1), (3, jI x3_3)]) hx hb dX9_lacks_32 rfl hl (by decide) rfl (fun ls hl => ?_)
          refine j_iinc (k := 3) (lv2 := [(3, jI (x3_3 + (-1))), (2, jI x3_3), (0, jR b 332), (1, jI y1)]) hx hb dX9_lacks_33 hl rfl (by decide) rfl (fun ls hl => ?_)
          refine j_goto (tgt := 9) hx hb dX9_lacks_36 (by decide) ?_
          exact ih9_1 _ _ _ _ _ hP hS (lv_sub hl [2, 3, 1, 0] rfl) h
  exact hl9_1 N _ _ _ _ _ hP hS (lv_sub hl [2, 3, 1, 0] rfl) h
def fX9_size (N : Nat) (y0 : Int) (μ : Mm) : Option (Int) :=
    if 0 ≤ wr y0 then (some y0) else (some (-y0))
abbrev rmX9_size : Room := { frames := 0, cells := 0, slots := 0, locals := 0 }
set_option maxHeartbeats 4000000 in
set_option maxRecDepth 100000 in
theorem m_X9_size (l : Launch) (D : va_G) (b : Nat) (cs : CS) (N : Nat) {μ : Mm} {y0 : Int} {r : Int} (h : fX9_size N y0 μ = some r) : MI l yX9_size wsX9_size rmX9_size D b cs [jI y0] μ μ r := by
  refine met_in (cc := cX9_size) (maxL := 1) (ret := some .int) (lv0 := [(0, jI y0)]) (by decide +kernel) rfl (Nat.le_of_ble_eq_true rfl) rfl ?_
  intro p e s m args below meth c hx hb hr hlk hml hown hts hP hK ls hl
  have hown : s.vm.findClass RX9 = some m.cls := hown
  have hS : va_S (bA b) s.heap s.heap [] := va_S.rf
  unfold fX9_size at h
  refine j_iload_n hx hb dX9_size_0 rfl (lv_at hl 0 rfl) ?_
  refine j_if_ge (A := wr y0) (tgt := 9) hx hb rfl dX9_size_1 (by decide) (fun q1 => ?_) (fun q1 => ?_)
  · replace h := (if_pos q1).symm.trans h
    refine j_iload_n hx hb dX9_size_9 rfl (lv_at hl 0 rfl) ?_
    exact j_retI hx hb hK hP hS hr hlk (Option.some.inj h) dX9_size_10
  · replace h := (if_neg q1).symm.trans h
    refine j_iload_n hx hb dX9_size_4 rfl (lv_at hl 0 rfl) ?_
    refine j_ineg hx hb dX9_size_5 ?_
    refine j_goto (tgt := 10) hx hb dX9_size_6 (by decide) ?_
    exact j_retI hx hb hK hP hS hr hlk (Option.some.inj h) dX9_size_10
def fX9_isTight_l4 (N : Nat) (y1 : Int) (μ : Mm) : Nat → Int → Int → Option (Int)
  | 0, _, _ => none
  | n1 + 1, x2_2, x3_3 =>
    if wr (gI μ 332 6) ≤ wr x3_3 then (gd (decide (x2_2 = 0 ∨ x2_2 = 1)) (some x2_2)) else (if wr x2_2 = 0 then (Option.bind (ldA μ 333 8262 ((y1 + 8) + x3_3)) (fun v7 => Option.bind (fX9_size N v7 μ) (fun v10 => if wr v10 ≤ 99 then ((fX9_isTight_l4 N y1 μ n1) 0 (x3_3 + 1)) else ((fX9_isTight_l4 N y1 μ n1) 1 (x3_3 + 1))))) else ((fX9_isTight_l4 N y1 μ n1) 1 (x3_3 + 1)))
def fX9_isTight (N : Nat) (y1 : Int) (μ : Mm) : Option (Int) :=
    fX9_isTight_l4 N y1 μ N 0 0
abbrev rmX9_isTight : Room := { frames := 1, cells := 0, slots := 0, locals := 20 }
set_option maxHeartbeats 4000000 in
set_option maxRecDepth 100000 in
theorem m_X9_isTight (l : Launch) (D : va_G) (b : Nat) (cs : CS) (N : Nat) {μ : Mm} {y1 : Int} {r : Int} (h : fX9_isTight N y1 μ = some r) : MI l yX9_isTight wsX9_isTight rmX9_isTight D b cs [jR b 332, jI y1] μ μ r := by
  refine met_in (cc := cX9_isTight) (maxL := 4) (ret := some .boolean) (lv0 := [(0, jR b 332), (1, jI y1)]) (by decide +kernel) rfl (Nat.le_of_ble_eq_true rfl) rfl ?_
  intro p e s m args below meth c hx hb hr hlk hml hown hts hP hK ls hl
  have hown : s.vm.findClass RX9 = some m.cls := hown
  have hS : va_S (bA b) s.heap s.heap [] := va_S.rf
  have hinX9 : ∀ w ∈ u_ws RX9 TX9 27, w ∈ wsX9_isTight := by decide +kernel
  unfold fX9_isTight at h
  refine j_iconst hx hb dX9_isTight_0 ?_
  refine j_istore_n (lv2 := [(2, jI 0), (0, jR b 332), (1, jI y1)]) hx hb dX9_isTight_1 rfl hl (by decide) rfl (fun ls hl => ?_)
  refine j_iconst hx hb dX9_isTight_2 ?_
  refine j_istore_n (lv2 := [(3, jI 0), (2, jI 0), (0, jR b 332), (1, jI y1)]) hx hb dX9_isTight_3 rfl hl (by decide) rfl (fun ls hl => ?_)
  have hl4_1 : ∀ (n0 : Nat) (x2_2 : Int) (x3_3 : Int) (H : Heap) (locs : List Loc) (ls : Array Slot), va_P D vwCl (wl b cs μ) H → va_S (bA b) s.heap H locs → lv_has ls 4 [(0, jR b 332), (1, jI y1), (2, jI x2_2), (3, jI x3_3)] → fX9_isTight_l4 N y1 μ n0 x2_2 x3_3 = some r → W p l e rmX9_isTight s m args below meth c H locs 0 0 (MQ below (QI D b cs μ r) args s 0 0 (bA b)) (F0 m 4 ls []) := by
    intro n0
    induction n0 with
    | zero => intro x2_2 x3_3 H locs ls hP hS hl h; rw [fX9_isTight_l4] at h; cases h
    | succ n1 ih4_1 =>
      intro x2_2 x3_3 H locs ls hP hS hl h
      rw [fX9_isTight_l4] at h
      refine j_iload_n hx hb dX9_isTight_4 rfl (lv_at hl 3 rfl) ?_
      refine j_aload_n hx hb dX9_isTight_5 rfl (lv_at hl 0 rfl) ?_
      refine j_get (v := jI (gI μ 332 6)) hx hb hts hinX9 hown hK hP kz_332 (by decide) rfl 6 (by decide) (hts (.fieldLink RX9 122 "CardBandModel" "cards" "I") (by decide +kernel)) rfl (by rw [jI_g]; rfl) dX9_isTight_6 ?_
      refine j_icmp_ge (A := wr x3_3) (B := wr (gI μ 332 6)) (tgt := 47) hx hb rfl rfl dX9_isTight_9 (by decide) (fun q4 => ?_) (fun q4 => ?_)
      · replace h := (if_pos q4).symm.trans h
        refine j_iload_n hx hb dX9_isTight_47 rfl (lv_at hl 2 rfl) ?_
        obtain ⟨g5, h⟩ := ob_g h
        replace g5 := of_decide_eq_true g5
        exact j_retZ hx hb hK hP hS hr hlk g5 (Option.some.inj h) dX9_isTight_48
      · replace h := (if_neg q4).symm.trans h
        refine j_iload_n hx hb dX9_isTight_12 rfl (lv_at hl 2 rfl) ?_
        refine j_if_ne (A := wr x2_2) (tgt := 35) hx hb rfl dX9_isTight_13 (by decide) (fun q6 => ?_) (fun q6 => ?_)
        · replace h := (if_neg q6).symm.trans h
          refine j_iconst hx hb dX9_isTight_35 ?_
          refine j_goto (tgt := 40) hx hb dX9_isTight_36 (by decide) ?_
          refine j_istore_n (lv2 := [(2, jI 1), (0, jR b 332), (1, jI y1), (3, jI x3_3)]) hx hb dX9_isTight_40 rfl hl (by decide) rfl (fun ls hl => ?_)
          refine j_iinc (k := 3) (lv2 := [(3, jI (x3_3 + 1)), (2, jI 1), (0, jR b 332), (1, jI y1)]) hx hb dX9_isTight_41 hl rfl (by decide) rfl (fun ls hl => ?_)
          refine j_goto (tgt := 4) hx hb dX9_isTight_44 (by decide) ?_
          exact ih4_1 _ _ _ _ _ hP hS (lv_sub hl [2, 3, 1, 0] rfl) h
        · replace h := (if_pos q6).symm.trans h
          refine j_aload_n hx hb dX9_isTight_16 rfl (lv_at hl 0 rfl) ?_
          refine j_get (v := jR b 333) hx hb hts hinX9 hown hK hP kz_332 (by decide) rfl 0 (by decide) (hts (.fieldLink RX9 7 "CardBandModel" "w" "[I") (by decide +kernel)) rfl rfl dX9_isTight_17 ?_
          refine j_iload_n hx hb dX9_isTight_20 rfl (lv_at hl 1 rfl) ?_
          refine j_bipush hx hb dX9_isTight_21 (by decide) ?_
          refine j_iadd hx hb dX9_isTight_23 ?_
          refine j_iload_n hx hb dX9_isTight_24 rfl (lv_at hl 3 rfl) ?_
          refine j_iadd hx hb dX9_isTight_25 ?_
          obtain ⟨v7, e8, h⟩ := ob_I h
          refine j_iaload hx hb hK hP kz_333 e8 dX9_isTight_26 ?_
          obtain ⟨v10, e9, h⟩ := ob_I h
          refine jc_SI (As := [jI v7]) (rest := []) ⟨hx, hb, hml, hown, hts⟩ hK hP hS (m_X9_size l D b cs N e9) (va_cwS 1 hts gX9_isTight_X9_size rfl rfl rfl (by decide +kernel) ⟨Nat.le_of_ble_eq_true rfl, Nat.le_of_ble_eq_true rfl⟩) rfl hl.1 rfl (Nat.le_of_ble_eq_true rfl) dX9_isTight_27 ⟨Nat.zero_le _, Nat.zero_le _⟩ (fun H locs hP hS => ?_)
          refine j_bipush hx hb dX9_isTight_30 (by decide) ?_
          refine j_icmp_le (A := wr v10) (B := 99) (tgt := 39) hx hb rfl (by decide) dX9_isTight_32 (by decide) (fun q11 => ?_) (fun q11 => ?_)
          · replace h := (if_pos q11).symm.trans h
            refine j_iconst hx hb dX9_isTight_39 ?_
            refine j_istore_n (lv2 := [(2, jI 0), (0, jR b 332), (1, jI y1), (3, jI x3_3)]) hx hb dX9_isTight_40 rfl hl (by decide) rfl (fun ls hl => ?_)
            refine j_iinc (k := 3) (lv2 := [(3, jI (x3_3 + 1)), (2, jI 0), (0, jR b 332), (1, jI y1)]) hx hb dX9_isTight_41 hl rfl (by decide) rfl (fun ls hl => ?_)
            refine j_goto (tgt := 4) hx hb dX9_isTight_44 (by decide) ?_
            exact ih4_1 _ _ _ _ _ hP hS (lv_sub hl [2, 3, 1, 0] rfl) h
          · replace h := (if_neg q11).symm.trans h
            refine j_iconst hx hb dX9_isTight_35 ?_
            refine j_goto (tgt := 40) hx hb dX9_isTight_36 (by decide) ?_
            refine j_istore_n (lv2 := [(2, jI 1), (0, jR b 332), (1, jI y1), (3, jI x3_3)]) hx hb dX9_isTight_40 rfl hl (by decide) rfl (fun ls hl => ?_)
            refine j_iinc (k := 3) (lv2 := [(3, jI (x3_3 + 1)), (2, jI 1), (0, jR b 332), (1, jI y1)]) hx hb dX9_isTight_41 hl rfl (by decide) rfl (fun ls hl => ?_)
            refine j_goto (tgt := 4) hx hb dX9_isTight_44 (by decide) ?_
            exact ih4_1 _ _ _ _ _ hP hS (lv_sub hl [2, 3, 1, 0] rfl) h
  exact hl4_1 N _ _ _ _ _ hP hS (lv_sub hl [2, 3, 1, 0] rfl) h
def fX9_canPick_l13 (N : Nat) (y1 : Int) (y2 : Int) : Nat → Int → Int → Mm → Option (Int × Mm)
  | 0, _, _, _ => none
  | n3 + 1, x3_4, x4_5, μ6 =>
    if wr y2 ≤ wr x4_5 then (gd (decide (x3_4 = 0 ∨ x3_4 = 1)) (some (x3_4, μ6))) else (if wr x3_4 = 0 then (gd (decide (x3_4 = 0 ∨ x3_4 = 1)) (some (x3_4, μ6))) else (Option.bind (fX9_pickIn N 243 y1 μ6) (fun μ12 => Option.bind (fX9_lacks N 243 μ12) (fun v14 => if wr v14 = (-1) then (Option.bind (fX9_isTight N 243 μ12) (fun v17 => if wr v17 = 0 then ((fX9_canPick_l13 N y1 y2 n3) 1 (x4_5 + 1) μ12) else ((fX9_canPick_l13 N y1 y2 n3) 0 (x4_5 + 1) μ12))) else ((fX9_canPick_l13 N y1 y2 n3) 0 (x4_5 + 1) μ12)))))
def fX9_canPick (N : Nat) (y1 : Int) (y2 : Int) (μ : Mm) : Option (Int × Mm) :=
    Option.bind (fX9_copy N 0 243 μ) (fun μ2 => fX9_canPick_l13 N y1 y2 N 1 0 μ2)
abbrev rmX9_canPick : Room := { frames := 3, cells := 0, slots := 0, locals := 71 }
set_option maxHeartbeats 4000000 in
set_option maxRecDepth 100000 in
theorem m_X9_canPick (l : Launch) (D : va_G) (b : Nat) (cs : CS) (N : Nat) {μ μ0 : Mm} {y1 y2 : Int} {r : Int} (h : fX9_canPick N y1 y2 μ = some (r, μ0)) : MI l yX9_canPick wsX9_canPick rmX9_canPick D b cs [jR b 332, jI y1, jI y2] μ μ0 r := by
  refine met_in (cc := cX9_canPick) (maxL := 5) (ret := some .boolean) (lv0 := [(0, jR b 332), (1, jI y1), (2, jI y2)]) (by decide +kernel) rfl (Nat.le_of_ble_eq_true rfl) rfl ?_
  intro p e s m args below meth c hx hb hr hlk hml hown hts hP hK ls hl
  have hown : s.vm.findClass RX9 = some m.cls := hown
  have hS : va_S (bA b) s.heap s.heap [] := va_S.rf
  unfold fX9_canPick at h
  refine j_aload_n hx hb dX9_canPick_0 rfl (lv_at hl 0 rfl) ?_
  refine j_iconst hx hb dX9_canPick_1 ?_
  refine j_sipush hx hb dX9_canPick_2 (by decide) ?_
  obtain ⟨μ2, e1, h⟩ := ob_I h
  refine jc_VM (As := [jI 0, jI 243]) (rest := []) ⟨hx, hb, hml, hown, hts⟩ hK hP hS (m_X9_copy l D b cs N e1) (cwV 2 hts gX9_canPick_X9_copy rfl rfl rfl (by decide +kernel) ⟨Nat.le_of_ble_eq_true rfl, Nat.le_of_ble_eq_true rfl⟩) kz_332 (by decide) rfl rfl hl.1 rfl (Nat.le_of_ble_eq_true rfl) dX9_canPick_5 ⟨Nat.zero_le _, Nat.zero_le _⟩ (fun H locs hP hS => ?_)
  refine j_iconst hx hb dX9_canPick_8 ?_
  refine j_istore_n (lv2 := [(3, jI 1), (0, jR b 332), (1, jI y1), (2, jI y2)]) hx hb dX9_canPick_9 rfl hl (by decide) rfl (fun ls hl => ?_)
  refine j_iconst hx hb dX9_canPick_10 ?_
  refine j_istore (lv2 := [(4, jI 0), (3, jI 1), (0, jR b 332), (1, jI y1), (2, jI y2)]) hx hb dX9_canPick_11 hl (by decide) rfl (fun ls hl => ?_)
  have hl13_3 : ∀ (n0 : Nat) (x3_4 : Int) (x4_5 : Int) (μ6 : Mm) (H : Heap) (locs : List Loc) (ls : Array Slot), va_P D vwCl (wl b cs μ6) H → va_S (bA b) s.heap H locs → lv_has ls 5 [(0, jR b 332), (1, jI y1), (2, jI y2), (3, jI x3_4), (4, jI x4_5)] → fX9_canPick_l13 N y1 y2 n0 x3_4 x4_5 μ6 = some (r, μ0) → W p l e rmX9_canPick s m args below meth c H locs 0 0 (MQ below (QI D b cs μ0 r) args s 0 0 (bA b)) (F0 m 13 ls []) := by
    intro n0
    induction n0 with
    | zero => intro x3_4 x4_5 μ6 H locs ls hP hS hl h; rw [fX9_canPick_l13] at h; cases h
    | succ n3 ih13_3 =>
      intro x3_4 x4_5 μ6 H locs ls hP hS hl h
      rw [fX9_canPick_l13] at h
      refine j_iload hx hb dX9_canPick_13 (lv_at hl 4 rfl) ?_
      refine j_iload_n hx hb dX9_canPick_15 rfl (lv_at hl 2 rfl) ?_
      refine j_icmp_ge (A := wr x4_5) (B := wr y2) (tgt := 64) hx hb rfl rfl dX9_canPick_16 (by decide) (fun q7 => ?_) (fun q7 => ?_)
      · replace h := (if_pos q7).symm.trans h
        refine j_iload_n hx hb dX9_canPick_64 rfl (lv_at hl 3 rfl) ?_
        obtain ⟨g8, h⟩ := ob_g h
        replace g8 := of_decide_eq_true g8
        obtain ⟨e0, e1⟩ := Prod.mk.inj (Option.some.inj h)
        subst e1
        exact j_retZ hx hb hK hP hS hr hlk g8 e0 dX9_canPick_65
      · replace h := (if_neg q7).symm.trans h
        refine j_iload_n hx hb dX9_canPick_19 rfl (lv_at hl 3 rfl) ?_
        refine j_if_eq (A := wr x3_4) (tgt := 64) hx hb rfl dX9_canPick_20 (by decide) (fun q9 => ?_) (fun q9 => ?_)
        · replace h := (if_pos q9).symm.trans h
          refine j_iload_n hx hb dX9_canPick_64 rfl (lv_at hl 3 rfl) ?_
          obtain ⟨g10, h⟩ := ob_g h
          replace g10 := of_decide_eq_true g10
          obtain ⟨e0, e1⟩ := Prod.mk.inj (Option.some.inj h)
          subst e1
          exact j_retZ hx hb hK hP hS hr hlk g10 e0 dX9_canPick_65
        · replace h := (if_neg q9).symm.trans h
          refine j_aload_n hx hb dX9_canPick_23 rfl (lv_at hl 0 rfl) ?_
          refine j_sipush hx hb dX9_canPick_24 (by decide) ?_
          refine j_iload_n hx hb dX9_canPick_27 rfl (lv_at hl 1 rfl) ?_
          obtain ⟨μ12, e11, h⟩ := ob_I h
          refine jc_VM (As := [jI 243, jI y1]) (rest := []) ⟨hx, hb, hml, hown, hts⟩ hK hP hS (m_X9_pickIn l D b cs N e11) (cwV 2 hts gX9_canPick_X9_pickIn rfl rfl rfl (by decide +kernel) ⟨Nat.le_of_ble_eq_true rfl, Nat.le_of_ble_eq_true rfl⟩) kz_332 (by decide) rfl rfl hl.1 rfl (Nat.le_of_ble_eq_true rfl) dX9_canPick_28 ⟨Nat.zero_le _, Nat.zero_le _⟩ (fun H locs hP hS => ?_)
          refine j_aload_n hx hb dX9_canPick_31 rfl (lv_at hl 0 rfl) ?_
          refine j_sipush hx hb dX9_canPick_32 (by decide) ?_
          obtain ⟨v14, e13, h⟩ := ob_I h
          refine jc_VI (As := [jI 243]) (rest := []) ⟨hx, hb, hml, hown, hts⟩ hK hP hS (m_X9_lacks l D b cs N e13) (cwV 1 hts gX9_canPick_X9_lacks rfl rfl rfl (by decide +kernel) ⟨Nat.le_of_ble_eq_true rfl, Nat.le_of_ble_eq_true rfl⟩) kz_332 (by decide) rfl rfl hl.1 rfl (Nat.le_of_ble_eq_true rfl) dX9_canPick_35 ⟨Nat.zero_le _, Nat.zero_le _⟩ (fun H locs hP hS => ?_)
          refine j_iconst hx hb dX9_canPick_38 ?_
          refine j_icmp_ne (A := wr v14) (B := (-1)) (tgt := 56) hx hb rfl (by decide) dX9_canPick_39 (by decide) (fun q15 => ?_) (fun q15 => ?_)
          · replace h := (if_neg q15).symm.trans h
            refine j_iconst hx hb dX9_canPick_56 ?_
            refine j_istore_n (lv2 := [(3, jI 0), (0, jR b 332), (1, jI y1), (2, jI y2), (4, jI x4_5)]) hx hb dX9_canPick_57 rfl hl (by decide) rfl (fun ls hl => ?_)
            refine j_iinc (k := 4) (lv2 := [(4, jI (x4_5 + 1)), (3, jI 0), (0, jR b 332), (1, jI y1), (2, jI y2)]) hx hb dX9_canPick_58 hl rfl (by decide) rfl (fun ls hl => ?_)
            refine j_goto (tgt := 13) hx hb dX9_canPick_61 (by decide) ?_
            exact ih13_3 _ _ _ _ _ _ hP hS (lv_sub hl [2, 3, 4, 1, 0] rfl) h
          · replace h := (if_pos q15).symm.trans h
            refine j_aload_n hx hb dX9_canPick_42 rfl (lv_at hl 0 rfl) ?_
            refine j_sipush hx hb dX9_canPick_43 (by decide) ?_
            obtain ⟨v17, e16, h⟩ := ob_I h
            refine jc_VI (As := [jI 243]) (rest := []) ⟨hx, hb, hml, hown, hts⟩ hK hP hS (m_X9_isTight l D b cs N e16) (cwV 1 hts gX9_canPick_X9_isTight rfl rfl rfl (by decide +kernel) ⟨Nat.le_of_ble_eq_true rfl, Nat.le_of_ble_eq_true rfl⟩) kz_332 (by decide) rfl rfl hl.1 rfl (Nat.le_of_ble_eq_true rfl) dX9_canPick_46 ⟨Nat.zero_le _, Nat.zero_le _⟩ (fun H locs hP hS => ?_)
            refine j_if_ne (A := wr v17) (tgt := 56) hx hb rfl dX9_canPick_49 (by decide) (fun q18 => ?_) (fun q18 => ?_)
            · replace h := (if_neg q18).symm.trans h
              refine j_iconst hx hb dX9_canPick_56 ?_
              refine j_istore_n (lv2 := [(3, jI 0), (0, jR b 332), (1, jI y1), (2, jI y2), (4, jI x4_5)]) hx hb dX9_canPick_57 rfl hl (by decide) rfl (fun ls hl => ?_)
              refine j_iinc (k := 4) (lv2 := [(4, jI (x4_5 + 1)), (3, jI 0), (0, jR b 332), (1, jI y1), (2, jI y2)]) hx hb dX9_canPick_58 hl rfl (by decide) rfl (fun ls hl => ?_)
              refine j_goto (tgt := 13) hx hb dX9_canPick_61 (by decide) ?_
              exact ih13_3 _ _ _ _ _ _ hP hS (lv_sub hl [2, 3, 4, 1, 0] rfl) h
            · replace h := (if_pos q18).symm.trans h
              refine j_iconst hx hb dX9_canPick_52 ?_
              refine j_goto (tgt := 57) hx hb dX9_canPick_53 (by decide) ?_
              refine j_istore_n (lv2 := [(3, jI 1), (0, jR b 332), (1, jI y1), (2, jI y2), (4, jI x4_5)]) hx hb dX9_canPick_57 rfl hl (by decide) rfl (fun ls hl => ?_)
              refine j_iinc (k := 4) (lv2 := [(4, jI (x4_5 + 1)), (3, jI 1), (0, jR b 332), (1, jI y1), (2, jI y2)]) hx hb dX9_canPick_58 hl rfl (by decide) rfl (fun ls hl => ?_)
              refine j_goto (tgt := 13) hx hb dX9_canPick_61 (by decide) ?_
              exact ih13_3 _ _ _ _ _ _ hP hS (lv_sub hl [2, 3, 4, 1, 0] rfl) h
  exact hl13_3 N _ _ _ _ _ _ hP hS (lv_sub hl [2, 3, 4, 1, 0] rfl) h
def fX9_card (N : Nat) (y1 : Int) (y2 : Int) (μ : Mm) : Option (Int) :=
    Option.bind (fX9_isCard N y1 μ) (fun v2 => if wr v2 = 0 then (some (-1000000001)) else (if wr y2 = 0 then (Option.bind (fX9_colourOf N y1 y2 μ) (fun v6 => some v6)) else (if wr y2 = 1 then (Option.bind (fX9_colourOf N y1 y2 μ) (fun v9 => some v9)) else (if wr y2 = 2 then (Option.bind (fX9_colourOf N y1 y2 μ) (fun v12 => some v12)) else (if wr y2 = 3 then (Option.bind (fX9_colourOf N y1 y2 μ) (fun v15 => some v15)) else (if wr y2 = 4 then (Option.bind (ldA μ 333 8262 (32 + y1)) (fun v17 => some v17)) else (if wr y2 = 5 then (Option.bind (ldA μ 333 8262 y1) (fun v20 => some v20)) else (if wr y2 = 6 then (Option.bind (ldA μ 333 8262 (8 + y1)) (fun v23 => some (v23 + 99))) else (if wr y2 = 7 then (Option.bind (ldA μ 333 8262 (16 + y1)) (fun v26 => some v26)) else (if wr y2 = 8 then (Option.bind (ldA μ 333 8262 (24 + y1)) (fun v29 => some v29)) else (if wr y2 = 9 then (Option.bind (fX9_packOf N y1 μ) (fun v33 => some v33)) else (some (-1000000002)))))))))))))
abbrev rmX9_card : Room := { frames := 2, cells := 0, slots := 0, locals := 46 }
set_option maxHeartbeats 4000000 in
set_option maxRecDepth 100000 in
theorem m_X9_card (l : Launch) (D : va_G) (b : Nat) (cs : CS) (N : Nat) {μ : Mm} {y1 y2 : Int} {r : Int} (h : fX9_card N y1 y2 μ = some r) : MI l yX9_card wsX9_card rmX9_card D b cs [jR b 332, jI y1, jI y2] μ μ r := by
  refine met_in (cc := cX9_card) (maxL := 3) (ret := some .int) (lv0 := [(0, jR b 332), (1, jI y1), (2, jI y2)]) (by decide +kernel) rfl (Nat.le_of_ble_eq_true rfl) rfl ?_
  intro p e s m args below meth c hx hb hr hlk hml hown hts hP hK ls hl
  have hown : s.vm.findClass RX9 = some m.cls := hown
  have hS : va_S (bA b) s.heap s.heap [] := va_S.rf
  have hinX9 : ∀ w ∈ u_ws RX9 TX9 27, w ∈ wsX9_card := by decide +kernel
  unfold fX9_card at h
  refine j_aload_n hx hb dX9_card_0 rfl (lv_at hl 0 rfl) ?_
  refine j_iload_n hx hb dX9_card_1 rfl (lv_at hl 1 rfl) ?_
  obtain ⟨v2, e1, h⟩ := ob_I h
  refine jc_VI (As := [jI y1]) (rest := []) ⟨hx, hb, hml, hown, hts⟩ hK hP hS (m_X9_isCard l D b cs N e1) (cwV 1 hts gX9_card_X9_isCard rfl rfl rfl (by decide +kernel) ⟨Nat.le_of_ble_eq_true rfl, Nat.le_of_ble_eq_true rfl⟩) kz_332 (by decide) rfl rfl hl.1 rfl (Nat.le_of_ble_eq_true rfl) dX9_card_2 ⟨Nat.zero_le _, Nat.zero_le _⟩ (fun H locs hP hS => ?_)
  refine j_if_ne (A := wr v2) (tgt := 11) hx hb rfl dX9_card_5 (by decide) (fun q3 => ?_) (fun q3 => ?_)
  · replace h := (if_neg q3).symm.trans h
    refine j_iload_n hx hb dX9_card_11 rfl (lv_at hl 2 rfl) ?_
    by_cases q4 : wr y2 = 0
    · replace h := (if_pos q4).symm.trans h
      refine j_tabIn (A := wr y2) (off := 56) (tgt := 68) hx hb rfl dX9_card_12 (by rw [q4]; decide) (by rw [q4]; decide) (by rw [q4]; rfl) (by decide) ?_
      refine j_aload_n hx hb dX9_card_68 rfl (lv_at hl 0 rfl) ?_
      refine j_iload_n hx hb dX9_card_69 rfl (lv_at hl 1 rfl) ?_
      refine j_iload_n hx hb dX9_card_70 rfl (lv_at hl 2 rfl) ?_
      obtain ⟨v6, e5, h⟩ := ob_I h
      refine jc_VI (As := [jI y1, jI y2]) (rest := []) ⟨hx, hb, hml, hown, hts⟩ hK hP hS (m_X9_colourOf l D b cs N e5) (cwV 2 hts gX9_card_X9_colourOf rfl rfl rfl (by decide +kernel) ⟨Nat.le_of_ble_eq_true rfl, Nat.le_of_ble_eq_true rfl⟩) kz_332 (by decide) rfl rfl hl.1 rfl (Nat.le_of_ble_eq_true rfl) dX9_card_71 ⟨Nat.zero_le _, Nat.zero_le _⟩ (fun H locs hP hS => ?_)
      exact j_retI hx hb hK hP hS hr hlk (Option.some.inj h) dX9_card_74
    · replace h := (if_neg q4).symm.trans h
      by_cases q7 : wr y2 = 1
      · replace h := (if_pos q7).symm.trans h
        refine j_tabIn (A := wr y2) (off := 56) (tgt := 68) hx hb rfl dX9_card_12 (by rw [q7]; decide) (by rw [q7]; decide) (by rw [q7]; rfl) (by decide) ?_
        refine j_aload_n hx hb dX9_card_68 rfl (lv_at hl 0 rfl) ?_
        refine j_iload_n hx hb dX9_card_69 rfl (lv_at hl 1 rfl) ?_
        refine j_iload_n hx hb dX9_card_70 rfl (lv_at hl 2 rfl) ?_
        obtain ⟨v9, e8, h⟩ := ob_I h
        refine jc_VI (As := [jI y1, jI y2]) (rest := []) ⟨hx, hb, hml, hown, hts⟩ hK hP hS (m_X9_colourOf l D b cs N e8) (cwV 2 hts gX9_card_X9_colourOf rfl rfl rfl (by decide +kernel) ⟨Nat.le_of_ble_eq_true rfl, Nat.le_of_ble_eq_true rfl⟩) kz_332 (by decide) rfl rfl hl.1 rfl (Nat.le_of_ble_eq_true rfl) dX9_card_71 ⟨Nat.zero_le _, Nat.zero_le _⟩ (fun H locs hP hS => ?_)
        exact j_retI hx hb hK hP hS hr hlk (Option.some.inj h) dX9_card_74
      · replace h := (if_neg q7).symm.trans h
        by_cases q10 : wr y2 = 2
        · replace h := (if_pos q10).symm.trans h
          refine j_tabIn (A := wr y2) (off := 56) (tgt := 68) hx hb rfl dX9_card_12 (by rw [q10]; decide) (by rw [q10]; decide) (by rw [q10]; rfl) (by decide) ?_
          refine j_aload_n hx hb dX9_card_68 rfl (lv_at hl 0 rfl) ?_
          refine j_iload_n hx hb dX9_card_69 rfl (lv_at hl 1 rfl) ?_
          refine j_iload_n hx hb dX9_card_70 rfl (lv_at hl 2 rfl) ?_
          obtain ⟨v12, e11, h⟩ := ob_I h
          refine jc_VI (As := [jI y1, jI y2]) (rest := []) ⟨hx, hb, hml, hown, hts⟩ hK hP hS (m_X9_colourOf l D b cs N e11) (cwV 2 hts gX9_card_X9_colourOf rfl rfl rfl (by decide +kernel) ⟨Nat.le_of_ble_eq_true rfl, Nat.le_of_ble_eq_true rfl⟩) kz_332 (by decide) rfl rfl hl.1 rfl (Nat.le_of_ble_eq_true rfl) dX9_card_71 ⟨Nat.zero_le _, Nat.zero_le _⟩ (fun H locs hP hS => ?_)
          exact j_retI hx hb hK hP hS hr hlk (Option.some.inj h) dX9_card_74
        · replace h := (if_neg q10).symm.trans h
          by_cases q13 : wr y2 = 3
          · replace h := (if_pos q13).symm.trans h
            refine j_tabIn (A := wr y2) (off := 56) (tgt := 68) hx hb rfl dX9_card_12 (by rw [q13]; decide) (by rw [q13]; decide) (by rw [q13]; rfl) (by decide) ?_
            refine j_aload_n hx hb dX9_card_68 rfl (lv_at hl 0 rfl) ?_
            refine j_iload_n hx hb dX9_card_69 rfl (lv_at hl 1 rfl) ?_
            refine j_iload_n hx hb dX9_card_70 rfl (lv_at hl 2 rfl) ?_
            obtain ⟨v15, e14, h⟩ := ob_I h
            refine jc_VI (As := [jI y1, jI y2]) (rest := []) ⟨hx, hb, hml, hown, hts⟩ hK hP hS (m_X9_colourOf l D b cs N e14) (cwV 2 hts gX9_card_X9_colourOf rfl rfl rfl (by decide +kernel) ⟨Nat.le_of_ble_eq_true rfl, Nat.le_of_ble_eq_true rfl⟩) kz_332 (by decide) rfl rfl hl.1 rfl (Nat.le_of_ble_eq_true rfl) dX9_card_71 ⟨Nat.zero_le _, Nat.zero_le _⟩ (fun H locs hP hS => ?_)
            exact j_retI hx hb hK hP hS hr hlk (Option.some.inj h) dX9_card_74
          · replace h := (if_neg q13).symm.trans h
            by_cases q16 : wr y2 = 4
            · replace h := (if_pos q16).symm.trans h
              refine j_tabIn (A := wr y2) (off := 63) (tgt := 75) hx hb rfl dX9_card_12 (by rw [q16]; decide) (by rw [q16]; decide) (by rw [q16]; rfl) (by decide) ?_
              refine j_aload_n hx hb dX9_card_75 rfl (lv_at hl 0 rfl) ?_
              refine j_get (v := jR b 333) hx hb hts hinX9 hown hK hP kz_332 (by decide) rfl 0 (by decide) (hts (.fieldLink RX9 7 "CardBandModel" "w" "[I") (by decide +kernel)) rfl rfl dX9_card_76 ?_
              refine j_bipush hx hb dX9_card_79 (by decide) ?_
              refine j_iload_n hx hb dX9_card_81 rfl (lv_at hl 1 rfl) ?_
              refine j_iadd hx hb dX9_card_82 ?_
              obtain ⟨v17, e18, h⟩ := ob_I h
              refine j_iaload hx hb hK hP kz_333 e18 dX9_card_83 ?_
              exact j_retI hx hb hK hP hS hr hlk (Option.some.inj h) dX9_card_84
            · replace h := (if_neg q16).symm.trans h
              by_cases q19 : wr y2 = 5
              · replace h := (if_pos q19).symm.trans h
                refine j_tabIn (A := wr y2) (off := 73) (tgt := 85) hx hb rfl dX9_card_12 (by rw [q19]; decide) (by rw [q19]; decide) (by rw [q19]; rfl) (by decide) ?_
                refine j_aload_n hx hb dX9_card_85 rfl (lv_at hl 0 rfl) ?_
                refine j_get (v := jR b 333) hx hb hts hinX9 hown hK hP kz_332 (by decide) rfl 0 (by decide) (hts (.fieldLink RX9 7 "CardBandModel" "w" "[I") (by decide +kernel)) rfl rfl dX9_card_86 ?_
                refine j_iload_n hx hb dX9_card_89 rfl (lv_at hl 1 rfl) ?_
                obtain ⟨v20, e21, h⟩ := ob_I h
                refine j_iaload hx hb hK hP kz_333 e21 dX9_card_90 ?_
                exact j_retI hx hb hK hP hS hr hlk (Option.some.inj h) dX9_card_91
              · replace h := (if_neg q19).symm.trans h
                by_cases q22 : wr y2 = 6
                · replace h := (if_pos q22).symm.trans h
                  refine j_tabIn (A := wr y2) (off := 80) (tgt := 92) hx hb rfl dX9_card_12 (by rw [q22]; decide) (by rw [q22]; decide) (by rw [q22]; rfl) (by decide) ?_
                  refine j_aload_n hx hb dX9_card_92 rfl (lv_at hl 0 rfl) ?_
                  refine j_get (v := jR b 333) hx hb hts hinX9 hown hK hP kz_332 (by decide) rfl 0 (by decide) (hts (.fieldLink RX9 7 "CardBandModel" "w" "[I") (by decide +kernel)) rfl rfl dX9_card_93 ?_
                  refine j_bipush hx hb dX9_card_96 (by decide) ?_
                  refine j_iload_n hx hb dX9_card_98 rfl (lv_at hl 1 rfl) ?_
                  refine j_iadd hx hb dX9_card_99 ?_
                  obtain ⟨v23, e24, h⟩ := ob_I h
                  refine j_iaload hx hb hK hP kz_333 e24 dX9_card_100 ?_
                  refine j_bipush hx hb dX9_card_101 (by decide) ?_
                  refine j_iadd hx hb dX9_card_103 ?_
                  exact j_retI hx hb hK hP hS hr hlk (Option.some.inj h) dX9_card_104
                · replace h := (if_neg q22).symm.trans h
                  by_cases q25 : wr y2 = 7
                  · replace h := (if_pos q25).symm.trans h
                    refine j_tabIn (A := wr y2) (off := 93) (tgt := 105) hx hb rfl dX9_card_12 (by rw [q25]; decide) (by rw [q25]; decide) (by rw [q25]; rfl) (by decide) ?_
                    refine j_aload_n hx hb dX9_card_105 rfl (lv_at hl 0 rfl) ?_
                    refine j_get (v := jR b 333) hx hb hts hinX9 hown hK hP kz_332 (by decide) rfl 0 (by decide) (hts (.fieldLink RX9 7 "CardBandModel" "w" "[I") (by decide +kernel)) rfl rfl dX9_card_106 ?_
                    refine j_bipush hx hb dX9_card_109 (by decide) ?_
                    refine j_iload_n hx hb dX9_card_111 rfl (lv_at hl 1 rfl) ?_
                    refine j_iadd hx hb dX9_card_112 ?_
                    obtain ⟨v26, e27, h⟩ := ob_I h
                    refine j_iaload hx hb hK hP kz_333 e27 dX9_card_113 ?_
                    exact j_retI hx hb hK hP hS hr hlk (Option.some.inj h) dX9_card_114
                  · replace h := (if_neg q25).symm.trans h
                    by_cases q28 : wr y2 = 8
                    · replace h := (if_pos q28).symm.trans h
                      refine j_tabIn (A := wr y2) (off := 103) (tgt := 115) hx hb rfl dX9_card_12 (by rw [q28]; decide) (by rw [q28]; decide) (by rw [q28]; rfl) (by decide) ?_
                      refine j_aload_n hx hb dX9_card_115 rfl (lv_at hl 0 rfl) ?_
                      refine j_get (v := jR b 333) hx hb hts hinX9 hown hK hP kz_332 (by decide) rfl 0 (by decide) (hts (.fieldLink RX9 7 "CardBandModel" "w" "[I") (by decide +kernel)) rfl rfl dX9_card_116 ?_
                      refine j_bipush hx hb dX9_card_119 (by decide) ?_
                      refine j_iload_n hx hb dX9_card_121 rfl (lv_at hl 1 rfl) ?_
                      refine j_iadd hx hb dX9_card_122 ?_
                      obtain ⟨v29, e30, h⟩ := ob_I h
                      refine j_iaload hx hb hK hP kz_333 e30 dX9_card_123 ?_
                      exact j_retI hx hb hK hP hS hr hlk (Option.some.inj h) dX9_card_124
                    · replace h := (if_neg q28).symm.trans h
                      by_cases q31 : wr y2 = 9
                      · replace h := (if_pos q31).symm.trans h
                        refine j_tabIn (A := wr y2) (off := 113) (tgt := 125) hx hb rfl dX9_card_12 (by rw [q31]; decide) (by rw [q31]; decide) (by rw [q31]; rfl) (by decide) ?_
                        refine j_aload_n hx hb dX9_card_125 rfl (lv_at hl 0 rfl) ?_
                        refine j_iload_n hx hb dX9_card_126 rfl (lv_at hl 1 rfl) ?_
                        obtain ⟨v33, e32, h⟩ := ob_I h
                        refine jc_VI (As := [jI y1]) (rest := []) ⟨hx, hb, hml, hown, hts⟩ hK hP hS (m_X9_packOf l D b cs N e32) (cwV 1 hts gX9_card_X9_packOf rfl rfl rfl (by decide +kernel) ⟨Nat.le_of_ble_eq_true rfl, Nat.le_of_ble_eq_true rfl⟩) kz_332 (by decide) rfl rfl hl.1 rfl (Nat.le_of_ble_eq_true rfl) dX9_card_127 ⟨Nat.zero_le _, Nat.zero_le _⟩ (fun H locs hP hS => ?_)
                        exact j_retI hx hb hK hP hS hr hlk (Option.some.inj h) dX9_card_130
                      · replace h := (if_neg q31).symm.trans h
                        refine j_tabOut (A := wr y2) (tgt := 131) hx hb rfl dX9_card_12 (by omega) (by decide) ?_
                        refine j_ldc (n := (-1000000002)) hx hb hown (hts (.constant RX9 60 (-1000000002)) (by decide +kernel)) (by decide) dX9_card_131 ?_
                        exact j_retI hx hb hK hP hS hr hlk (Option.some.inj h) dX9_card_133
  · replace h := (if_pos q3).symm.trans h
    refine j_ldc (n := (-1000000001)) hx hb hown (hts (.constant RX9 183 (-1000000001)) (by decide +kernel)) (by decide) dX9_card_8 ?_
    exact j_retI hx hb hK hP hS hr hlk (Option.some.inj h) dX9_card_10
def fX9_draw (N : Nat) (y1 : Int) (μ : Mm) : Option (Int × Mm) :=
    Option.bind (ldA μ 333 8262 242) (fun v1 => Option.bind (stA μ 333 8262 242 (rmL (((wr v1) * 1103515245) + 12345) 2147483648)) (fun μ3 => Option.bind (ldA μ3 333 8262 242) (fun v5 => gd (decide (¬ wr y1 = 0)) (some ((rmI (dvI v5 65536) y1), μ3)))))
abbrev rmX9_draw : Room := { frames := 0, cells := 0, slots := 0, locals := 0 }
set_option maxHeartbeats 4000000 in
set_option maxRecDepth 100000 in
theorem m_X9_draw (l : Launch) (D : va_G) (b : Nat) (cs : CS) (N : Nat) {μ μ0 : Mm} {y1 : Int} {r : Int} (h : fX9_draw N y1 μ = some (r, μ0)) : MI l yX9_draw wsX9_draw rmX9_draw D b cs [jR b 332, jI y1] μ μ0 r := by
  refine met_in (cc := cX9_draw) (maxL := 2) (ret := some .int) (lv0 := [(0, jR b 332), (1, jI y1)]) (by decide +kernel) rfl (Nat.le_of_ble_eq_true rfl) rfl ?_
  intro p e s m args below meth c hx hb hr hlk hml hown hts hP hK ls hl
  have hown : s.vm.findClass RX9 = some m.cls := hown
  have hS : va_S (bA b) s.heap s.heap [] := va_S.rf
  have hinX9 : ∀ w ∈ u_ws RX9 TX9 27, w ∈ wsX9_draw := by decide +kernel
  unfold fX9_draw at h
  refine j_aload_n hx hb dX9_draw_0 rfl (lv_at hl 0 rfl) ?_
  refine j_get (v := jR b 333) hx hb hts hinX9 hown hK hP kz_332 (by decide) rfl 0 (by decide) (hts (.fieldLink RX9 7 "CardBandModel" "w" "[I") (by decide +kernel)) rfl rfl dX9_draw_1 ?_
  refine j_sipush hx hb dX9_draw_4 (by decide) ?_
  refine j_aload_n hx hb dX9_draw_7 rfl (lv_at hl 0 rfl) ?_
  refine j_get (v := jR b 333) hx hb hts hinX9 hown hK hP kz_332 (by decide) rfl 0 (by decide) (hts (.fieldLink RX9 7 "CardBandModel" "w" "[I") (by decide +kernel)) rfl rfl dX9_draw_8 ?_
  refine j_sipush hx hb dX9_draw_11 (by decide) ?_
  obtain ⟨v1, e2, h⟩ := ob_I h
  refine j_iaload hx hb hK hP kz_333 e2 dX9_draw_14 ?_
  refine j_i2l hx hb dX9_draw_15 ?_
  refine j_ldc2 (n := 1103515245) hx hb hown (hts (.constantLong RX9 242 (1103515245)) (by decide +kernel)) (by decide) dX9_draw_16 ?_
  refine j_lmul hx hb dX9_draw_19 ?_
  refine j_ldc2 (n := 12345) hx hb hown (hts (.constantLong RX9 244 (12345)) (by decide +kernel)) (by decide) dX9_draw_20 ?_
  refine j_ladd hx hb dX9_draw_23 ?_
  refine j_ldc2 (n := 2147483648) hx hb hown (hts (.constantLong RX9 246 (2147483648)) (by decide +kernel)) (by decide) dX9_draw_24 ?_
  refine j_lrem hx hb dX9_draw_27 (by decide) ?_
  refine j_l2i hx hb dX9_draw_28 ?_
  obtain ⟨μ3, e4, h⟩ := ob_I h
  refine j_iastore hx hb hK hP hS kz_333 e4 dX9_draw_29 (fun H locs hP hS => ?_)
  refine j_aload_n hx hb dX9_draw_30 rfl (lv_at hl 0 rfl) ?_
  refine j_get (v := jR b 333) hx hb hts hinX9 hown hK hP kz_332 (by decide) rfl 0 (by decide) (hts (.fieldLink RX9 7 "CardBandModel" "w" "[I") (by decide +kernel)) rfl rfl dX9_draw_31 ?_
  refine j_sipush hx hb dX9_draw_34 (by decide) ?_
  obtain ⟨v5, e6, h⟩ := ob_I h
  refine j_iaload hx hb hK hP kz_333 e6 dX9_draw_37 ?_
  refine j_ldc (n := 65536) hx hb hown (hts (.constant RX9 248 (65536)) (by decide +kernel)) (by decide) dX9_draw_38 ?_
  refine j_idiv hx hb dX9_draw_40 (by decide) ?_
  refine j_iload_n hx hb dX9_draw_41 rfl (lv_at hl 1 rfl) ?_
  obtain ⟨g7, h⟩ := ob_g h
  replace g7 := of_decide_eq_true g7
  refine j_irem hx hb dX9_draw_42 g7 ?_
  obtain ⟨e0, e1⟩ := Prod.mk.inj (Option.some.inj h)
  subst e1
  exact j_retI hx hb hK hP hS hr hlk e0 dX9_draw_43
def fX9_drawMoves_l6 (N : Nat) : Nat → Int → Int → Int → Mm → Option (Int × Mm)
  | 0, _, _, _, _ => none
  | n1 + 1, x1_2, x2_3, x3_4, μ5 =>
    if wr (gI μ5 332 9) ≤ wr x3_4 then (some (x1_2, μ5)) else (bP (fX9_draw N 3 μ5) (fun v8 μ9 => (fX9_drawMoves_l6 N n1) (x1_2 + (x2_3 * v8)) (x2_3 * 3) (x3_4 + 1) μ9))
def fX9_drawMoves (N : Nat) (μ : Mm) : Option (Int × Mm) :=
    fX9_drawMoves_l6 N N 0 1 0 μ
abbrev rmX9_drawMoves : Room := { frames := 1, cells := 0, slots := 0, locals := 21 }
set_option maxHeartbeats 4000000 in
set_option maxRecDepth 100000 in
theorem m_X9_drawMoves (l : Launch) (D : va_G) (b : Nat) (cs : CS) (N : Nat) {μ μ0 : Mm} {r : Int} (h : fX9_drawMoves N μ = some (r, μ0)) : MI l yX9_drawMoves wsX9_drawMoves rmX9_drawMoves D b cs [jR b 332] μ μ0 r := by
  refine met_in (cc := cX9_drawMoves) (maxL := 4) (ret := some .int) (lv0 := [(0, jR b 332)]) (by decide +kernel) rfl (Nat.le_of_ble_eq_true rfl) rfl ?_
  intro p e s m args below meth c hx hb hr hlk hml hown hts hP hK ls hl
  have hown : s.vm.findClass RX9 = some m.cls := hown
  have hS : va_S (bA b) s.heap s.heap [] := va_S.rf
  have hinX9 : ∀ w ∈ u_ws RX9 TX9 27, w ∈ wsX9_drawMoves := by decide +kernel
  unfold fX9_drawMoves at h
  refine j_iconst hx hb dX9_drawMoves_0 ?_
  refine j_istore_n (lv2 := [(1, jI 0), (0, jR b 332)]) hx hb dX9_drawMoves_1 rfl hl (by decide) rfl (fun ls hl => ?_)
  refine j_iconst hx hb dX9_drawMoves_2 ?_
  refine j_istore_n (lv2 := [(2, jI 1), (1, jI 0), (0, jR b 332)]) hx hb dX9_drawMoves_3 rfl hl (by decide) rfl (fun ls hl => ?_)
  refine j_iconst hx hb dX9_drawMoves_4 ?_
  refine j_istore_n (lv2 := [(3, jI 0), (2, jI 1), (1, jI 0), (0, jR b 332)]) hx hb dX9_drawMoves_5 rfl hl (by decide) rfl (fun ls hl => ?_)
  have hl6_1 : ∀ (n0 : Nat) (x1_2 : Int) (x2_3 : Int) (x3_4 : Int) (μ5 : Mm) (H : Heap) (locs : List Loc) (ls : Array Slot), va_P D vwCl (wl b cs μ5) H → va_S (bA b) s.heap H locs → lv_has ls 4 [(0, jR b 332), (1, jI x1_2), (2, jI x2_3), (3, jI x3_4)] → fX9_drawMoves_l6 N n0 x1_2 x2_3 x3_4 μ5 = some (r, μ0) → W p l e rmX9_drawMoves s m args below meth c H locs 0 0 (MQ below (QI D b cs μ0 r) args s 0 0 (bA b)) (F0 m 6 ls []) := by
    intro n0
    induction n0 with
    | zero => intro x1_2 x2_3 x3_4 μ5 H locs ls hP hS hl h; rw [fX9_drawMoves_l6] at h; cases h
    | succ n1 ih6_1 =>
      intro x1_2 x2_3 x3_4 μ5 H locs ls hP hS hl h
      rw [fX9_drawMoves_l6] at h
      refine j_iload_n hx hb dX9_drawMoves_6 rfl (lv_at hl 3 rfl) ?_
      refine j_aload_n hx hb dX9_drawMoves_7 rfl (lv_at hl 0 rfl) ?_
      refine j_get (v := jI (gI μ5 332 9)) hx hb hts hinX9 hown hK hP kz_332 (by decide) rfl 9 (by decide) (hts (.fieldLink RX9 128 "CardBandModel" "packs" "I") (by decide +kernel)) rfl (by rw [jI_g]; rfl) dX9_drawMoves_8 ?_
      refine j_icmp_ge (A := wr x3_4) (B := wr (gI μ5 332 9)) (tgt := 34) hx hb rfl rfl dX9_drawMoves_11 (by decide) (fun q6 => ?_) (fun q6 => ?_)
      · replace h := (if_pos q6).symm.trans h
        refine j_iload_n hx hb dX9_drawMoves_34 rfl (lv_at hl 1 rfl) ?_
        obtain ⟨e0, e1⟩ := Prod.mk.inj (Option.some.inj h)
        subst e1
        exact j_retI hx hb hK hP hS hr hlk e0 dX9_drawMoves_35
      · replace h := (if_neg q6).symm.trans h
        refine j_iload_n hx hb dX9_drawMoves_14 rfl (lv_at hl 1 rfl) ?_
        refine j_iload_n hx hb dX9_drawMoves_15 rfl (lv_at hl 2 rfl) ?_
        refine j_aload_n hx hb dX9_drawMoves_16 rfl (lv_at hl 0 rfl) ?_
        refine j_iconst hx hb dX9_drawMoves_17 ?_
        obtain ⟨v8, μ9, e7, h⟩ := ob_P h
        refine jc_VI (As := [jI 3]) (rest := [jI x2_3, jI x1_2]) ⟨hx, hb, hml, hown, hts⟩ hK hP hS (m_X9_draw l D b cs N e7) (cwV 1 hts gX9_drawMoves_X9_draw rfl rfl rfl (by decide +kernel) ⟨Nat.le_of_ble_eq_true rfl, Nat.le_of_ble_eq_true rfl⟩) kz_332 (by decide) rfl rfl hl.1 rfl (Nat.le_of_ble_eq_true rfl) dX9_drawMoves_18 ⟨Nat.zero_le _, Nat.zero_le _⟩ (fun H locs hP hS => ?_)
        refine j_imul hx hb dX9_drawMoves_21 ?_
        refine j_iadd hx hb dX9_drawMoves_22 ?_
        refine j_istore_n (lv2 := [(1, jI (x1_2 + (x2_3 * v8))), (0, jR b 332), (2, jI x2_3), (3, jI x3_4)]) hx hb dX9_drawMoves_23 rfl hl (by decide) rfl (fun ls hl => ?_)
        refine j_iload_n hx hb dX9_drawMoves_24 rfl (lv_at hl 2 rfl) ?_
        refine j_iconst hx hb dX9_drawMoves_25 ?_
        refine j_imul hx hb dX9_drawMoves_26 ?_
        refine j_istore_n (lv2 := [(2, jI (x2_3 * 3)), (1, jI (x1_2 + (x2_3 * v8))), (0, jR b 332), (3, jI x3_4)]) hx hb dX9_drawMoves_27 rfl hl (by decide) rfl (fun ls hl => ?_)
        refine j_iinc (k := 3) (lv2 := [(3, jI (x3_4 + 1)), (2, jI (x2_3 * 3)), (1, jI (x1_2 + (x2_3 * v8))), (0, jR b 332)]) hx hb dX9_drawMoves_28 hl rfl (by decide) rfl (fun ls hl => ?_)
        refine j_goto (tgt := 6) hx hb dX9_drawMoves_31 (by decide) ?_
        exact ih6_1 _ _ _ _ _ _ _ hP hS (lv_sub hl [3, 2, 1, 0] rfl) h
  exact hl6_1 N _ _ _ _ _ _ _ hP hS (lv_sub hl [3, 2, 1, 0] rfl) h
def fX9_isLoom (N : Nat) (μ : Mm) : Option (Int) :=
    if wr (gI μ 332 2) ≤ 0 then (some 0) else (some 1)
abbrev rmX9_isLoom : Room := { frames := 0, cells := 0, slots := 0, locals := 0 }
set_option maxHeartbeats 4000000 in
set_option maxRecDepth 100000 in
theorem m_X9_isLoom (l : Launch) (D : va_G) (b : Nat) (cs : CS) (N : Nat) {μ : Mm} {r : Int} (h : fX9_isLoom N μ = some r) : MI l yX9_isLoom wsX9_isLoom rmX9_isLoom D b cs [jR b 332] μ μ r := by
  refine met_in (cc := cX9_isLoom) (maxL := 1) (ret := some .boolean) (lv0 := [(0, jR b 332)]) (by decide +kernel) rfl (Nat.le_of_ble_eq_true rfl) rfl ?_
  intro p e s m args below meth c hx hb hr hlk hml hown hts hP hK ls hl
  have hown : s.vm.findClass RX9 = some m.cls := hown
  have hS : va_S (bA b) s.heap s.heap [] := va_S.rf
  have hinX9 : ∀ w ∈ u_ws RX9 TX9 27, w ∈ wsX9_isLoom := by decide +kernel
  unfold fX9_isLoom at h
  refine j_aload_n hx hb dX9_isLoom_0 rfl (lv_at hl 0 rfl) ?_
  refine j_get (v := jI (gI μ 332 2)) hx hb hts hinX9 hown hK hP kz_332 (by decide) rfl 2 (by decide) (hts (.fieldLink RX9 125 "CardBandModel" "colours" "I") (by decide +kernel)) rfl (by rw [jI_g]; rfl) dX9_isLoom_1 ?_
  refine j_if_le (A := wr (gI μ 332 2)) (tgt := 11) hx hb rfl dX9_isLoom_4 (by decide) (fun q1 => ?_) (fun q1 => ?_)
  · replace h := (if_pos q1).symm.trans h
    refine j_iconst hx hb dX9_isLoom_11 ?_
    exact j_retZ hx hb hK hP hS hr hlk (by decide) (Option.some.inj h) dX9_isLoom_12
  · replace h := (if_neg q1).symm.trans h
    refine j_iconst hx hb dX9_isLoom_7 ?_
    refine j_goto (tgt := 12) hx hb dX9_isLoom_8 (by decide) ?_
    exact j_retZ hx hb hK hP hS hr hlk (by decide) (Option.some.inj h) dX9_isLoom_12
def fX9_drift_k78 (N : Nat) : Mm → Option (Int × Mm) := fun μ11 =>
    Option.bind (ldA μ11 333 8262 48) (fun v12 => some (v12, μ11))
def fX9_drift_l43 (N : Nat) (y1 : Int) : Nat → Int → Mm → Option (Int × Mm)
  | 0, _, _ => none
  | n14 + 1, x2_15, μ16 =>
    if wr y1 ≤ wr x2_15 then (fX9_drift_k78 N μ16) else (Option.bind (fX9_remember N μ16) (fun μ19 => bP (fX9_drawMoves N μ19) (fun v21 μ22 => bP (fX9_canPick N v21 1 μ22) (fun v24 μ25 => if wr v24 = 0 then ((fX9_drift_l43 N y1 n14) (x2_15 + 1) μ25) else (Option.bind (fX9_pickIn N 0 v21 μ25) (fun μ28 => (fX9_drift_l43 N y1 n14) (x2_15 + 1) μ28))))))
def fX9_drift (N : Nat) (y1 : Int) (μ : Mm) : Option (Int × Mm) :=
    Option.bind (fX9_in N (wr y1) 1 30 μ) (fun v2 => if wr v2 = 0 then (some ((-1000000002), μ)) else (Option.bind (fX9_isLoom N μ) (fun v5 => if wr v5 = 0 then (some ((-1000000003), μ)) else (Option.bind (ldA μ 333 8262 48) (fun v7 => if wr v7 ≤ 9000 then (fX9_drift_l43 N y1 N 0 μ) else (some ((-1000000004), μ)))))))
abbrev rmX9_drift : Room := { frames := 4, cells := 0, slots := 0, locals := 95 }
set_option maxHeartbeats 4000000 in
set_option maxRecDepth 100000 in
theorem m_X9_drift (l : Launch) (D : va_G) (b : Nat) (cs : CS) (N : Nat) {μ μ0 : Mm} {y1 : Int} {r : Int} (h : fX9_drift N y1 μ = some (r, μ0)) : MI l yX9_drift wsX9_drift rmX9_drift D b cs [jR b 332, jI y1] μ μ0 r := by
  refine met_in (cc := cX9_drift) (maxL := 4) (ret := some .int) (lv0 := [(0, jR b 332), (1, jI y1)]) (by decide +kernel) rfl (Nat.le_of_ble_eq_true rfl) rfl ?_
  intro p e s m args below meth c hx hb hr hlk hml hown hts hP hK ls hl
  have hown : s.vm.findClass RX9 = some m.cls := hown
  have hS : va_S (bA b) s.heap s.heap [] := va_S.rf
  have hinX9 : ∀ w ∈ u_ws RX9 TX9 27, w ∈ wsX9_drift := by decide +kernel
  unfold fX9_drift at h
  refine j_iload_n hx hb dX9_drift_0 rfl (lv_at hl 1 rfl) ?_
  refine j_i2l hx hb dX9_drift_1 ?_
  refine j_lconst (n := 1) hx hb dX9_drift_2 (by decide) ?_
  refine j_ldc2 (n := 30) hx hb hown (hts (.constantLong RX9 222 (30)) (by decide +kernel)) (by decide) dX9_drift_3 ?_
  obtain ⟨v2, e1, h⟩ := ob_I h
  refine jc_SI (As := [jL (wr y1), jL 1, jL 30]) (rest := []) ⟨hx, hb, hml, hown, hts⟩ hK hP hS (m_X9_in l D b cs N e1) (va_cwS 3 hts gX9_drift_X9_in rfl rfl rfl (by decide +kernel) ⟨Nat.le_of_ble_eq_true rfl, Nat.le_of_ble_eq_true rfl⟩) rfl hl.1 rfl (Nat.le_of_ble_eq_true rfl) dX9_drift_6 ⟨Nat.zero_le _, Nat.zero_le _⟩ (fun H locs hP hS => ?_)
  refine j_if_ne (A := wr v2) (tgt := 15) hx hb rfl dX9_drift_9 (by decide) (fun q3 => ?_) (fun q3 => ?_)
  · replace h := (if_neg q3).symm.trans h
    refine j_aload_n hx hb dX9_drift_15 rfl (lv_at hl 0 rfl) ?_
    obtain ⟨v5, e4, h⟩ := ob_I h
    refine jc_VI (As := []) (rest := []) ⟨hx, hb, hml, hown, hts⟩ hK hP hS (m_X9_isLoom l D b cs N e4) (cwV 0 hts gX9_drift_X9_isLoom rfl rfl rfl (by decide +kernel) ⟨Nat.le_of_ble_eq_true rfl, Nat.le_of_ble_eq_true rfl⟩) kz_332 (by decide) rfl rfl hl.1 rfl (Nat.le_of_ble_eq_true rfl) dX9_drift_16 ⟨Nat.zero_le _, Nat.zero_le _⟩ (fun H locs hP hS => ?_)
    refine j_if_ne (A := wr v5) (tgt := 25) hx hb rfl dX9_drift_19 (by decide) (fun q6 => ?_) (fun q6 => ?_)
    · replace h := (if_neg q6).symm.trans h
      refine j_aload_n hx hb dX9_drift_25 rfl (lv_at hl 0 rfl) ?_
      refine j_get (v := jR b 333) hx hb hts hinX9 hown hK hP kz_332 (by decide) rfl 0 (by decide) (hts (.fieldLink RX9 7 "CardBandModel" "w" "[I") (by decide +kernel)) rfl rfl dX9_drift_26 ?_
      refine j_bipush hx hb dX9_drift_29 (by decide) ?_
      obtain ⟨v7, e8, h⟩ := ob_I h
      refine j_iaload hx hb hK hP kz_333 e8 dX9_drift_31 ?_
      refine j_sipush hx hb dX9_drift_32 (by decide) ?_
      refine j_icmp_le (A := wr v7) (B := 9000) (tgt := 41) hx hb rfl (by decide) dX9_drift_35 (by decide) (fun q9 => ?_) (fun q9 => ?_)
      · replace h := (if_pos q9).symm.trans h
        refine j_iconst hx hb dX9_drift_41 ?_
        refine j_istore_n (lv2 := [(2, jI 0), (0, jR b 332), (1, jI y1)]) hx hb dX9_drift_42 rfl hl (by decide) rfl (fun ls hl => ?_)
        have hk78_10 : ∀ (μ11 : Mm) (H : Heap) (locs : List Loc) (ls : Array Slot), va_P D vwCl (wl b cs μ11) H → va_S (bA b) s.heap H locs → lv_has ls 4 [(0, jR b 332)] → fX9_drift_k78 N μ11 = some (r, μ0) → W p l e rmX9_drift s m args below meth c H locs 0 0 (MQ below (QI D b cs μ0 r) args s 0 0 (bA b)) (F0 m 78 ls []) := by
          intro μ11 H locs ls hP hS hl h
          unfold fX9_drift_k78 at h
          refine j_aload_n hx hb dX9_drift_78 rfl (lv_at hl 0 rfl) ?_
          refine j_get (v := jR b 333) hx hb hts hinX9 hown hK hP kz_332 (by decide) rfl 0 (by decide) (hts (.fieldLink RX9 7 "CardBandModel" "w" "[I") (by decide +kernel)) rfl rfl dX9_drift_79 ?_
          refine j_bipush hx hb dX9_drift_82 (by decide) ?_
          obtain ⟨v12, e13, h⟩ := ob_I h
          refine j_iaload hx hb hK hP kz_333 e13 dX9_drift_84 ?_
          obtain ⟨e0, e1⟩ := Prod.mk.inj (Option.some.inj h)
          subst e1
          exact j_retI hx hb hK hP hS hr hlk e0 dX9_drift_85
        have hl43_14 : ∀ (n0 : Nat) (x2_15 : Int) (μ16 : Mm) (H : Heap) (locs : List Loc) (ls : Array Slot), va_P D vwCl (wl b cs μ16) H → va_S (bA b) s.heap H locs → lv_has ls 4 [(0, jR b 332), (1, jI y1), (2, jI x2_15)] → fX9_drift_l43 N y1 n0 x2_15 μ16 = some (r, μ0) → W p l e rmX9_drift s m args below meth c H locs 0 0 (MQ below (QI D b cs μ0 r) args s 0 0 (bA b)) (F0 m 43 ls []) := by
          intro n0
          induction n0 with
          | zero => intro x2_15 μ16 H locs ls hP hS hl h; rw [fX9_drift_l43] at h; cases h
          | succ n14 ih43_14 =>
            intro x2_15 μ16 H locs ls hP hS hl h
            rw [fX9_drift_l43] at h
            refine j_iload_n hx hb dX9_drift_43 rfl (lv_at hl 2 rfl) ?_
            refine j_iload_n hx hb dX9_drift_44 rfl (lv_at hl 1 rfl) ?_
            refine j_icmp_ge (A := wr x2_15) (B := wr y1) (tgt := 78) hx hb rfl rfl dX9_drift_45 (by decide) (fun q17 => ?_) (fun q17 => ?_)
            · replace h := (if_pos q17).symm.trans h
              exact hk78_10 _ _ _ _ hP hS (lv_sub hl [0] rfl) h
            · replace h := (if_neg q17).symm.trans h
              refine j_aload_n hx hb dX9_drift_48 rfl (lv_at hl 0 rfl) ?_
              obtain ⟨μ19, e18, h⟩ := ob_I h
              refine jc_VM (As := []) (rest := []) ⟨hx, hb, hml, hown, hts⟩ hK hP hS (m_X9_remember l D b cs N e18) (cwV 0 hts gX9_drift_X9_remember rfl rfl rfl (by decide +kernel) ⟨Nat.le_of_ble_eq_true rfl, Nat.le_of_ble_eq_true rfl⟩) kz_332 (by decide) rfl rfl hl.1 rfl (Nat.le_of_ble_eq_true rfl) dX9_drift_49 ⟨Nat.zero_le _, Nat.zero_le _⟩ (fun H locs hP hS => ?_)
              refine j_aload_n hx hb dX9_drift_52 rfl (lv_at hl 0 rfl) ?_
              obtain ⟨v21, μ22, e20, h⟩ := ob_P h
              refine jc_VI (As := []) (rest := []) ⟨hx, hb, hml, hown, hts⟩ hK hP hS (m_X9_drawMoves l D b cs N e20) (cwV 0 hts gX9_drift_X9_drawMoves rfl rfl rfl (by decide +kernel) ⟨Nat.le_of_ble_eq_true rfl, Nat.le_of_ble_eq_true rfl⟩) kz_332 (by decide) rfl rfl hl.1 rfl (Nat.le_of_ble_eq_true rfl) dX9_drift_53 ⟨Nat.zero_le _, Nat.zero_le _⟩ (fun H locs hP hS => ?_)
              refine j_istore_n (lv2 := [(3, jI v21), (0, jR b 332), (1, jI y1), (2, jI x2_15)]) hx hb dX9_drift_56 rfl hl (by decide) rfl (fun ls hl => ?_)
              refine j_aload_n hx hb dX9_drift_57 rfl (lv_at hl 1 rfl) ?_
              refine j_iload_n hx hb dX9_drift_58 rfl (lv_at hl 0 rfl) ?_
              refine j_iconst hx hb dX9_drift_59 ?_
              obtain ⟨v24, μ25, e23, h⟩ := ob_P h
              refine jc_VI (As := [jI v21, jI 1]) (rest := []) ⟨hx, hb, hml, hown, hts⟩ hK hP hS (m_X9_canPick l D b cs N e23) (cwV 2 hts gX9_drift_X9_canPick rfl rfl rfl (by decide +kernel) ⟨Nat.le_of_ble_eq_true rfl, Nat.le_of_ble_eq_true rfl⟩) kz_332 (by decide) rfl rfl hl.1 rfl (Nat.le_of_ble_eq_true rfl) dX9_drift_60 ⟨Nat.zero_le _, Nat.zero_le _⟩ (fun H locs hP hS => ?_)
              refine j_if_eq (A := wr v24) (tgt := 72) hx hb rfl dX9_drift_63 (by decide) (fun q26 => ?_) (fun q26 => ?_)
              · replace h := (if_pos q26).symm.trans h
                refine j_iinc (k := 3) (lv2 := [(2, jI (x2_15 + 1)), (3, jI v21), (0, jR b 332), (1, jI y1)]) hx hb dX9_drift_72 hl rfl (by decide) rfl (fun ls hl => ?_)
                refine j_goto (tgt := 43) hx hb dX9_drift_75 (by decide) ?_
                exact ih43_14 _ _ _ _ _ hP hS (lv_sub hl [2, 3, 0] rfl) h
              · replace h := (if_neg q26).symm.trans h
                refine j_aload_n hx hb dX9_drift_66 rfl (lv_at hl 1 rfl) ?_
                refine j_iconst hx hb dX9_drift_67 ?_
                refine j_iload_n hx hb dX9_drift_68 rfl (lv_at hl 0 rfl) ?_
                obtain ⟨μ28, e27, h⟩ := ob_I h
                refine jc_VM (As := [jI 0, jI v21]) (rest := []) ⟨hx, hb, hml, hown, hts⟩ hK hP hS (m_X9_pickIn l D b cs N e27) (cwV 2 hts gX9_drift_X9_pickIn rfl rfl rfl (by decide +kernel) ⟨Nat.le_of_ble_eq_true rfl, Nat.le_of_ble_eq_true rfl⟩) kz_332 (by decide) rfl rfl hl.1 rfl (Nat.le_of_ble_eq_true rfl) dX9_drift_69 ⟨Nat.zero_le _, Nat.zero_le _⟩ (fun H locs hP hS => ?_)
                refine j_iinc (k := 3) (lv2 := [(2, jI (x2_15 + 1)), (3, jI v21), (0, jR b 332), (1, jI y1)]) hx hb dX9_drift_72 hl rfl (by decide) rfl (fun ls hl => ?_)
                refine j_goto (tgt := 43) hx hb dX9_drift_75 (by decide) ?_
                exact ih43_14 _ _ _ _ _ hP hS (lv_sub hl [2, 3, 0] rfl) h
        exact hl43_14 N _ _ _ _ _ hP hS (lv_sub hl [1, 2, 0] rfl) h
      · replace h := (if_neg q9).symm.trans h
        refine j_ldc (n := (-1000000004)) hx hb hown (hts (.constant RX9 64 (-1000000004)) (by decide +kernel)) (by decide) dX9_drift_38 ?_
        obtain ⟨e0, e1⟩ := Prod.mk.inj (Option.some.inj h)
        subst e1
        exact j_retI hx hb hK hP hS hr hlk e0 dX9_drift_40
    · replace h := (if_pos q6).symm.trans h
      refine j_ldc (n := (-1000000003)) hx hb hown (hts (.constant RX9 231 (-1000000003)) (by decide +kernel)) (by decide) dX9_drift_22 ?_
      obtain ⟨e0, e1⟩ := Prod.mk.inj (Option.some.inj h)
      subst e1
      exact j_retI hx hb hK hP hS hr hlk e0 dX9_drift_24
  · replace h := (if_pos q3).symm.trans h
    refine j_ldc (n := (-1000000002)) hx hb hown (hts (.constant RX9 60 (-1000000002)) (by decide +kernel)) (by decide) dX9_drift_12 ?_
    obtain ⟨e0, e1⟩ := Prod.mk.inj (Option.some.inj h)
    subst e1
    exact j_retI hx hb hK hP hS hr hlk e0 dX9_drift_14
def fX9_farBehind (N : Nat) (y1 : Int) (μ : Mm) : Option (Int) :=
    if wr y1 = 0 then (Option.bind (ldA μ 340 20 4) (fun v7 => some v7)) else (if wr y1 = 1 then (Option.bind (ldA μ 340 20 5) (fun v5 => some v5)) else (Option.bind (ldA μ 340 20 18) (fun v3 => some v3)))
abbrev rmX9_farBehind : Room := { frames := 0, cells := 0, slots := 0, locals := 0 }
set_option maxHeartbeats 4000000 in
set_option maxRecDepth 100000 in
theorem m_X9_farBehind (l : Launch) (D : va_G) (b : Nat) (cs : CS) (N : Nat) {μ : Mm} {y1 : Int} {r : Int} (h : fX9_farBehind N y1 μ = some r) : MI l yX9_farBehind wsX9_farBehind rmX9_farBehind D b cs [jR b 332, jI y1] μ μ r := by
  refine met_in (cc := cX9_farBehind) (maxL := 2) (ret := some .int) (lv0 := [(0, jR b 332), (1, jI y1)]) (by decide +kernel) rfl (Nat.le_of_ble_eq_true rfl) rfl ?_
  intro p e s m args below meth c hx hb hr hlk hml hown hts hP hK ls hl
  have hown : s.vm.findClass RX9 = some m.cls := hown
  have hS : va_S (bA b) s.heap s.heap [] := va_S.rf
  have hinX9 : ∀ w ∈ u_ws RX9 TX9 27, w ∈ wsX9_farBehind := by decide +kernel
  unfold fX9_farBehind at h
  refine j_iload_n hx hb dX9_farBehind_0 rfl (lv_at hl 1 rfl) ?_
  refine j_if_ne (A := wr y1) (tgt := 13) hx hb rfl dX9_farBehind_1 (by decide) (fun q1 => ?_) (fun q1 => ?_)
  · replace h := (if_neg q1).symm.trans h
    refine j_iload_n hx hb dX9_farBehind_13 rfl (lv_at hl 1 rfl) ?_
    refine j_iconst hx hb dX9_farBehind_14 ?_
    refine j_icmp_ne (A := wr y1) (B := 1) (tgt := 27) hx hb rfl (by decide) dX9_farBehind_15 (by decide) (fun q2 => ?_) (fun q2 => ?_)
    · replace h := (if_neg q2).symm.trans h
      refine j_aload_n hx hb dX9_farBehind_27 rfl (lv_at hl 0 rfl) ?_
      refine j_get (v := jR b 340) hx hb hts hinX9 hown hK hP kz_332 (by decide) rfl 19 (by decide) (hts (.fieldLink RX9 36 "CardBandModel" "far" "[I") (by decide +kernel)) rfl rfl dX9_farBehind_28 ?_
      refine j_bipush hx hb dX9_farBehind_31 (by decide) ?_
      obtain ⟨v3, e4, h⟩ := ob_I h
      refine j_iaload hx hb hK hP kz_340 e4 dX9_farBehind_33 ?_
      exact j_retI hx hb hK hP hS hr hlk (Option.some.inj h) dX9_farBehind_34
    · replace h := (if_pos q2).symm.trans h
      refine j_aload_n hx hb dX9_farBehind_18 rfl (lv_at hl 0 rfl) ?_
      refine j_get (v := jR b 340) hx hb hts hinX9 hown hK hP kz_332 (by decide) rfl 19 (by decide) (hts (.fieldLink RX9 36 "CardBandModel" "far" "[I") (by decide +kernel)) rfl rfl dX9_farBehind_19 ?_
      refine j_iconst hx hb dX9_farBehind_22 ?_
      obtain ⟨v5, e6, h⟩ := ob_I h
      refine j_iaload hx hb hK hP kz_340 e6 dX9_farBehind_23 ?_
      refine j_goto (tgt := 34) hx hb dX9_farBehind_24 (by decide) ?_
      exact j_retI hx hb hK hP hS hr hlk (Option.some.inj h) dX9_farBehind_34
  · replace h := (if_pos q1).symm.trans h
    refine j_aload_n hx hb dX9_farBehind_4 rfl (lv_at hl 0 rfl) ?_
    refine j_get (v := jR b 340) hx hb hts hinX9 hown hK hP kz_332 (by decide) rfl 19 (by decide) (hts (.fieldLink RX9 36 "CardBandModel" "far" "[I") (by decide +kernel)) rfl rfl dX9_farBehind_5 ?_
    refine j_iconst hx hb dX9_farBehind_8 ?_
    obtain ⟨v7, e8, h⟩ := ob_I h
    refine j_iaload hx hb hK hP kz_340 e8 dX9_farBehind_9 ?_
    refine j_goto (tgt := 34) hx hb dX9_farBehind_10 (by decide) ?_
    exact j_retI hx hb hK hP hS hr hlk (Option.some.inj h) dX9_farBehind_34
def fX9_fault (N : Nat) (μ : Mm) : Option (Int) :=
    some (gI μ 332 17)
abbrev rmX9_fault : Room := { frames := 0, cells := 0, slots := 0, locals := 0 }
set_option maxHeartbeats 4000000 in
set_option maxRecDepth 100000 in
theorem m_X9_fault (l : Launch) (D : va_G) (b : Nat) (cs : CS) (N : Nat) {μ : Mm} {r : Int} (h : fX9_fault N μ = some r) : MI l yX9_fault wsX9_fault rmX9_fault D b cs [jR b 332] μ μ r := by
  refine met_in (cc := cX9_fault) (maxL := 1) (ret := some .int) (lv0 := [(0, jR b 332)]) (by decide +kernel) rfl (Nat.le_of_ble_eq_true rfl) rfl ?_
  intro p e s m args below meth c hx hb hr hlk hml hown hts hP hK ls hl
  have hown : s.vm.findClass RX9 = some m.cls := hown
  have hS : va_S (bA b) s.heap s.heap [] := va_S.rf
  have hinX9 : ∀ w ∈ u_ws RX9 TX9 27, w ∈ wsX9_fault := by decide +kernel
  unfold fX9_fault at h
  refine j_aload_n hx hb dX9_fault_0 rfl (lv_at hl 0 rfl) ?_
  refine j_get (v := jI (gI μ 332 17)) hx hb hts hinX9 hown hK hP kz_332 (by decide) rfl 17 (by decide) (hts (.fieldLink RX9 32 "CardBandModel" "fault" "I") (by decide +kernel)) rfl (by rw [jI_g]; rfl) dX9_fault_1 ?_
  exact j_retI hx hb hK hP hS hr hlk (Option.some.inj h) dX9_fault_4
def fX9_feed (N : Nat) (y1 : Int) (μ : Mm) : Option (Int × Mm) :=
    Option.bind (fX9_in N (wr y1) 0 255 μ) (fun v2 => if wr v2 = 0 then (some ((-1000000002), μ)) else (if wr (gI μ 332 13) = 240 then (some ((-1000000004), μ)) else (Option.bind (stA μ 339 240 (gI μ 332 13) y1) (fun μ5 => Option.bind (some (pI μ5 332 13 ((gI μ5 332 13) + 1))) (fun μ7 => some ((gI μ7 332 13), μ7))))))
abbrev rmX9_feed : Room := { frames := 1, cells := 0, slots := 0, locals := 25 }
set_option maxHeartbeats 4000000 in
set_option maxRecDepth 100000 in
theorem m_X9_feed (l : Launch) (D : va_G) (b : Nat) (cs : CS) (N : Nat) {μ μ0 : Mm} {y1 : Int} {r : Int} (h : fX9_feed N y1 μ = some (r, μ0)) : MI l yX9_feed wsX9_feed rmX9_feed D b cs [jR b 332, jI y1] μ μ0 r := by
  refine met_in (cc := cX9_feed) (maxL := 2) (ret := some .int) (lv0 := [(0, jR b 332), (1, jI y1)]) (by decide +kernel) rfl (Nat.le_of_ble_eq_true rfl) rfl ?_
  intro p e s m args below meth c hx hb hr hlk hml hown hts hP hK ls hl
  have hown : s.vm.findClass RX9 = some m.cls := hown
  have hS : va_S (bA b) s.heap s.heap [] := va_S.rf
  have hinX9 : ∀ w ∈ u_ws RX9 TX9 27, w ∈ wsX9_feed := by decide +kernel
  unfold fX9_feed at h
  refine j_iload_n hx hb dX9_feed_0 rfl (lv_at hl 1 rfl) ?_
  refine j_i2l hx hb dX9_feed_1 ?_
  refine j_lconst (n := 0) hx hb dX9_feed_2 (by decide) ?_
  refine j_ldc2 (n := 255) hx hb hown (hts (.constantLong RX9 54 (255)) (by decide +kernel)) (by decide) dX9_feed_3 ?_
  obtain ⟨v2, e1, h⟩ := ob_I h
  refine jc_SI (As := [jL (wr y1), jL 0, jL 255]) (rest := []) ⟨hx, hb, hml, hown, hts⟩ hK hP hS (m_X9_in l D b cs N e1) (va_cwS 3 hts gX9_feed_X9_in rfl rfl rfl (by decide +kernel) ⟨Nat.le_of_ble_eq_true rfl, Nat.le_of_ble_eq_true rfl⟩) rfl hl.1 rfl (Nat.le_of_ble_eq_true rfl) dX9_feed_6 ⟨Nat.zero_le _, Nat.zero_le _⟩ (fun H locs hP hS => ?_)
  refine j_if_ne (A := wr v2) (tgt := 15) hx hb rfl dX9_feed_9 (by decide) (fun q3 => ?_) (fun q3 => ?_)
  · replace h := (if_neg q3).symm.trans h
    refine j_aload_n hx hb dX9_feed_15 rfl (lv_at hl 0 rfl) ?_
    refine j_get (v := jI (gI μ 332 13)) hx hb hts hinX9 hown hK hP kz_332 (by decide) rfl 13 (by decide) (hts (.fieldLink RX9 61 "CardBandModel" "textSize" "I") (by decide +kernel)) rfl (by rw [jI_g]; rfl) dX9_feed_16 ?_
    refine j_sipush hx hb dX9_feed_19 (by decide) ?_
    refine j_icmp_ne (A := wr (gI μ 332 13)) (B := 240) (tgt := 28) hx hb rfl (by decide) dX9_feed_22 (by decide) (fun q4 => ?_) (fun q4 => ?_)
    · replace h := (if_neg q4).symm.trans h
      refine j_aload_n hx hb dX9_feed_28 rfl (lv_at hl 0 rfl) ?_
      refine j_get (v := jR b 339) hx hb hts hinX9 hown hK hP kz_332 (by decide) rfl 12 (by decide) (hts (.fieldLink RX9 29 "CardBandModel" "text" "[I") (by decide +kernel)) rfl rfl dX9_feed_29 ?_
      refine j_aload_n hx hb dX9_feed_32 rfl (lv_at hl 0 rfl) ?_
      refine j_get (v := jI (gI μ 332 13)) hx hb hts hinX9 hown hK hP kz_332 (by decide) rfl 13 (by decide) (hts (.fieldLink RX9 61 "CardBandModel" "textSize" "I") (by decide +kernel)) rfl (by rw [jI_g]; rfl) dX9_feed_33 ?_
      refine j_iload_n hx hb dX9_feed_36 rfl (lv_at hl 1 rfl) ?_
      obtain ⟨μ5, e6, h⟩ := ob_I h
      refine j_iastore hx hb hK hP hS kz_339 e6 dX9_feed_37 (fun H locs hP hS => ?_)
      refine j_aload_n hx hb dX9_feed_38 rfl (lv_at hl 0 rfl) ?_
      refine j_dup hx hb dX9_feed_39 rfl ?_
      refine j_get (v := jI (gI μ5 332 13)) hx hb hts hinX9 hown hK hP kz_332 (by decide) rfl 13 (by decide) (hts (.fieldLink RX9 61 "CardBandModel" "textSize" "I") (by decide +kernel)) rfl (by rw [jI_g]; rfl) dX9_feed_40 ?_
      refine j_iconst hx hb dX9_feed_43 ?_
      refine j_iadd hx hb dX9_feed_44 ?_
      obtain ⟨μ7, e8, h⟩ := ob_I h
      refine j_put (ty := .int) (z := ((gI μ5 332 13) + 1)) hx hb hts hinX9 tyX9 tyX9_ok nmX9 hown hK hP hS kz_332 (by decide) rfl 13 (by decide) (hts (.fieldLink RX9 61 "CardBandModel" "textSize" "I") (by decide +kernel)) rfl rfl (by decide +kernel) rfl rfl (by simp [flds]) rfl dX9_feed_45 (Option.some.inj e8) (fun H locs hP hS => ?_)
      refine j_aload_n hx hb dX9_feed_48 rfl (lv_at hl 0 rfl) ?_
      refine j_get (v := jI (gI μ7 332 13)) hx hb hts hinX9 hown hK hP kz_332 (by decide) rfl 13 (by decide) (hts (.fieldLink RX9 61 "CardBandModel" "textSize" "I") (by decide +kernel)) rfl (by rw [jI_g]; rfl) dX9_feed_49 ?_
      obtain ⟨e0, e1⟩ := Prod.mk.inj (Option.some.inj h)
      subst e1
      exact j_retI hx hb hK hP hS hr hlk e0 dX9_feed_52
    · replace h := (if_pos q4).symm.trans h
      refine j_ldc (n := (-1000000004)) hx hb hown (hts (.constant RX9 64 (-1000000004)) (by decide +kernel)) (by decide) dX9_feed_25 ?_
      obtain ⟨e0, e1⟩ := Prod.mk.inj (Option.some.inj h)
      subst e1
      exact j_retI hx hb hK hP hS hr hlk e0 dX9_feed_27
  · replace h := (if_pos q3).symm.trans h
    refine j_ldc (n := (-1000000002)) hx hb hown (hts (.constant RX9 60 (-1000000002)) (by decide +kernel)) (by decide) dX9_feed_12 ?_
    obtain ⟨e0, e1⟩ := Prod.mk.inj (Option.some.inj h)
    subst e1
    exact j_retI hx hb hK hP hS hr hlk e0 dX9_feed_14
def fX9_firstOf_l2 (N : Nat) (y1 : Int) (μ : Mm) : Nat → Int → Option (Int)
  | 0, _ => none
  | n1 + 1, x2_2 =>
    Option.bind (ldA μ 337 8 y1) (fun v3 => Option.bind (fX9_has N v3 x2_2 μ) (fun v6 => if wr v6 = 0 then ((fX9_firstOf_l2 N y1 μ n1) (x2_2 + 1)) else (some x2_2)))
def fX9_firstOf (N : Nat) (y1 : Int) (μ : Mm) : Option (Int) :=
    fX9_firstOf_l2 N y1 μ N 0
abbrev rmX9_firstOf : Room := { frames := 1, cells := 0, slots := 0, locals := 21 }
set_option maxHeartbeats 4000000 in
set_option maxRecDepth 100000 in
theorem m_X9_firstOf (l : Launch) (D : va_G) (b : Nat) (cs : CS) (N : Nat) {μ : Mm} {y1 : Int} {r : Int} (h : fX9_firstOf N y1 μ = some r) : MI l yX9_firstOf wsX9_firstOf rmX9_firstOf D b cs [jR b 332, jI y1] μ μ r := by
  refine met_in (cc := cX9_firstOf) (maxL := 3) (ret := some .int) (lv0 := [(0, jR b 332), (1, jI y1)]) (by decide +kernel) rfl (Nat.le_of_ble_eq_true rfl) rfl ?_
  intro p e s m args below meth c hx hb hr hlk hml hown hts hP hK ls hl
  have hown : s.vm.findClass RX9 = some m.cls := hown
  have hS : va_S (bA b) s.heap s.heap [] := va_S.rf
  have hinX9 : ∀ w ∈ u_ws RX9 TX9 27, w ∈ wsX9_firstOf := by decide +kernel
  unfold fX9_firstOf at h
  refine j_iconst hx hb dX9_firstOf_0 ?_
  refine j_istore_n (lv2 := [(2, jI 0), (0, jR b 332), (1, jI y1)]) hx hb dX9_firstOf_1 rfl hl (by decide) rfl (fun ls hl => ?_)
  have hl2_1 : ∀ (n0 : Nat) (x2_2 : Int) (H : Heap) (locs : List Loc) (ls : Array Slot), va_P D vwCl (wl b cs μ) H → va_S (bA b) s.heap H locs → lv_has ls 3 [(0, jR b 332), (1, jI y1), (2, jI x2_2)] → fX9_firstOf_l2 N y1 μ n0 x2_2 = some r → W p l e rmX9_firstOf s m args below meth c H locs 0 0 (MQ below (QI D b cs μ r) args s 0 0 (bA b)) (F0 m 2 ls []) := by
    intro n0
    induction n0 with
    | zero => intro x2_2 H locs ls hP hS hl h; rw [fX9_firstOf_l2] at h; cases h
    | succ n1 ih2_1 =>
      intro x2_2 H locs ls hP hS hl h
      rw [fX9_firstOf_l2] at h
      refine j_aload_n hx hb dX9_firstOf_2 rfl (lv_at hl 0 rfl) ?_
      refine j_get (v := jR b 337) hx hb hts hinX9 hown hK hP kz_332 (by decide) rfl 8 (by decide) (hts (.fieldLink RX9 23 "CardBandModel" "pack" "[I") (by decide +kernel)) rfl rfl dX9_firstOf_3 ?_
      refine j_iload_n hx hb dX9_firstOf_6 rfl (lv_at hl 1 rfl) ?_
      obtain ⟨v3, e4, h⟩ := ob_I h
      refine j_iaload hx hb hK hP kz_337 e4 dX9_firstOf_7 ?_
      refine j_iload_n hx hb dX9_firstOf_8 rfl (lv_at hl 2 rfl) ?_
      obtain ⟨v6, e5, h⟩ := ob_I h
      refine jc_SI (As := [jI v3, jI x2_2]) (rest := []) ⟨hx, hb, hml, hown, hts⟩ hK hP hS (m_X9_has l D b cs N e5) (va_cwS 2 hts gX9_firstOf_X9_has rfl rfl rfl (by decide +kernel) ⟨Nat.le_of_ble_eq_true rfl, Nat.le_of_ble_eq_true rfl⟩) rfl hl.1 rfl (Nat.le_of_ble_eq_true rfl) dX9_firstOf_9 ⟨Nat.zero_le _, Nat.zero_le _⟩ (fun H locs hP hS => ?_)
      refine j_if_ne (A := wr v6) (tgt := 21) hx hb rfl dX9_firstOf_12 (by decide) (fun q7 => ?_) (fun q7 => ?_)
      · replace h := (if_neg q7).symm.trans h
        refine j_iload_n hx hb dX9_firstOf_21 rfl (lv_at hl 2 rfl) ?_
        exact j_retI hx hb hK hP hS hr hlk (Option.some.inj h) dX9_firstOf_22
      · replace h := (if_pos q7).symm.trans h
        refine j_iinc (k := 2) (lv2 := [(2, jI (x2_2 + 1)), (0, jR b 332), (1, jI y1)]) hx hb dX9_firstOf_15 hl rfl (by decide) rfl (fun ls hl => ?_)
        refine j_goto (tgt := 2) hx hb dX9_firstOf_18 (by decide) ?_
        exact ih2_1 _ _ _ _ hP hS (lv_sub hl [1, 2, 0] rfl) h
  exact hl2_1 N _ _ _ _ hP hS (lv_sub hl [1, 2, 0] rfl) h
def fX9_flip (N : Nat) (y1 : Int) (μ : Mm) : Option (Int × Mm) :=
    Option.bind (fX9_isCard N y1 μ) (fun v2 => if wr v2 = 0 then (some ((-1000000001), μ)) else (Option.bind (fX9_remember N μ) (fun μ5 => Option.bind (ldA μ5 333 8262 (32 + y1)) (fun v6 => Option.bind (stA μ5 333 8262 (32 + y1) (1 - v6)) (fun μ8 => Option.bind (ldA μ8 333 8262 (32 + y1)) (fun v10 => some (v10, μ8)))))))
abbrev rmX9_flip : Room := { frames := 2, cells := 0, slots := 0, locals := 46 }
set_option maxHeartbeats 4000000 in
set_option maxRecDepth 100000 in
theorem m_X9_flip (l : Launch) (D : va_G) (b : Nat) (cs : CS) (N : Nat) {μ μ0 : Mm} {y1 : Int} {r : Int} (h : fX9_flip N y1 μ = some (r, μ0)) : MI l yX9_flip wsX9_flip rmX9_flip D b cs [jR b 332, jI y1] μ μ0 r := by
  refine met_in (cc := cX9_flip) (maxL := 2) (ret := some .int) (lv0 := [(0, jR b 332), (1, jI y1)]) (by decide +kernel) rfl (Nat.le_of_ble_eq_true rfl) rfl ?_
  intro p e s m args below meth c hx hb hr hlk hml hown hts hP hK ls hl
  have hown : s.vm.findClass RX9 = some m.cls := hown
  have hS : va_S (bA b) s.heap s.heap [] := va_S.rf
  have hinX9 : ∀ w ∈ u_ws RX9 TX9 27, w ∈ wsX9_flip := by decide +kernel
  unfold fX9_flip at h
  refine j_aload_n hx hb dX9_flip_0 rfl (lv_at hl 0 rfl) ?_
  refine j_iload_n hx hb dX9_flip_1 rfl (lv_at hl 1 rfl) ?_
  obtain ⟨v2, e1, h⟩ := ob_I h
  refine jc_VI (As := [jI y1]) (rest := []) ⟨hx, hb, hml, hown, hts⟩ hK hP hS (m_X9_isCard l D b cs N e1) (cwV 1 hts gX9_flip_X9_isCard rfl rfl rfl (by decide +kernel) ⟨Nat.le_of_ble_eq_true rfl, Nat.le_of_ble_eq_true rfl⟩) kz_332 (by decide) rfl rfl hl.1 rfl (Nat.le_of_ble_eq_true rfl) dX9_flip_2 ⟨Nat.zero_le _, Nat.zero_le _⟩ (fun H locs hP hS => ?_)
  refine j_if_ne (A := wr v2) (tgt := 11) hx hb rfl dX9_flip_5 (by decide) (fun q3 => ?_) (fun q3 => ?_)
  · replace h := (if_neg q3).symm.trans h
    refine j_aload_n hx hb dX9_flip_11 rfl (lv_at hl 0 rfl) ?_
    obtain ⟨μ5, e4, h⟩ := ob_I h
    refine jc_VM (As := []) (rest := []) ⟨hx, hb, hml, hown, hts⟩ hK hP hS (m_X9_remember l D b cs N e4) (cwV 0 hts gX9_flip_X9_remember rfl rfl rfl (by decide +kernel) ⟨Nat.le_of_ble_eq_true rfl, Nat.le_of_ble_eq_true rfl⟩) kz_332 (by decide) rfl rfl hl.1 rfl (Nat.le_of_ble_eq_true rfl) dX9_flip_12 ⟨Nat.zero_le _, Nat.zero_le _⟩ (fun H locs hP hS => ?_)
    refine j_aload_n hx hb dX9_flip_15 rfl (lv_at hl 0 rfl) ?_
    refine j_get (v := jR b 333) hx hb hts hinX9 hown hK hP kz_332 (by decide) rfl 0 (by decide) (hts (.fieldLink RX9 7 "CardBandModel" "w" "[I") (by decide +kernel)) rfl rfl dX9_flip_16 ?_
    refine j_bipush hx hb dX9_flip_19 (by decide) ?_
    refine j_iload_n hx hb dX9_flip_21 rfl (lv_at hl 1 rfl) ?_
    refine j_iadd hx hb dX9_flip_22 ?_
    refine j_iconst hx hb dX9_flip_23 ?_
    refine j_aload_n hx hb dX9_flip_24 rfl (lv_at hl 0 rfl) ?_
    refine j_get (v := jR b 333) hx hb hts hinX9 hown hK hP kz_332 (by decide) rfl 0 (by decide) (hts (.fieldLink RX9 7 "CardBandModel" "w" "[I") (by decide +kernel)) rfl rfl dX9_flip_25 ?_
    refine j_bipush hx hb dX9_flip_28 (by decide) ?_
    refine j_iload_n hx hb dX9_flip_30 rfl (lv_at hl 1 rfl) ?_
    refine j_iadd hx hb dX9_flip_31 ?_
    obtain ⟨v6, e7, h⟩ := ob_I h
    refine j_iaload hx hb hK hP kz_333 e7 dX9_flip_32 ?_
    refine j_isub hx hb dX9_flip_33 ?_
    obtain ⟨μ8, e9, h⟩ := ob_I h
    refine j_iastore hx hb hK hP hS kz_333 e9 dX9_flip_34 (fun H locs hP hS => ?_)
    refine j_aload_n hx hb dX9_flip_35 rfl (lv_at hl 0 rfl) ?_
    refine j_get (v := jR b 333) hx hb hts hinX9 hown hK hP kz_332 (by decide) rfl 0 (by decide) (hts (.fieldLink RX9 7 "CardBandModel" "w" "[I") (by decide +kernel)) rfl rfl dX9_flip_36 ?_
    refine j_bipush hx hb dX9_flip_39 (by decide) ?_
    refine j_iload_n hx hb dX9_flip_41 rfl (lv_at hl 1 rfl) ?_
    refine j_iadd hx hb dX9_flip_42 ?_
    obtain ⟨v10, e11, h⟩ := ob_I h
    refine j_iaload hx hb hK hP kz_333 e11 dX9_flip_43 ?_
    obtain ⟨e0, e1⟩ := Prod.mk.inj (Option.some.inj h)
    subst e1
    exact j_retI hx hb hK hP hS hr hlk e0 dX9_flip_44
  · replace h := (if_pos q3).symm.trans h
    refine j_ldc (n := (-1000000001)) hx hb hown (hts (.constant RX9 183 (-1000000001)) (by decide +kernel)) (by decide) dX9_flip_8 ?_
    obtain ⟨e0, e1⟩ := Prod.mk.inj (Option.some.inj h)
    subst e1
    exact j_retI hx hb hK hP hS hr hlk e0 dX9_flip_10
def fX9_most (N : Nat) (y0 : Int) (y1 : Int) (μ : Mm) : Option (Int) :=
    if wr y0 ≤ wr y1 then (some y1) else (some y0)
abbrev rmX9_most : Room := { frames := 0, cells := 0, slots := 0, locals := 0 }
set_option maxHeartbeats 4000000 in
set_option maxRecDepth 100000 in
theorem m_X9_most (l : Launch) (D : va_G) (b : Nat) (cs : CS) (N : Nat) {μ : Mm} {y0 y1 : Int} {r : Int} (h : fX9_most N y0 y1 μ = some r) : MI l yX9_most wsX9_most rmX9_most D b cs [jI y0, jI y1] μ μ r := by
  refine met_in (cc := cX9_most) (maxL := 2) (ret := some .int) (lv0 := [(0, jI y0), (1, jI y1)]) (by decide +kernel) rfl (Nat.le_of_ble_eq_true rfl) rfl ?_
  intro p e s m args below meth c hx hb hr hlk hml hown hts hP hK ls hl
  have hown : s.vm.findClass RX9 = some m.cls := hown
  have hS : va_S (bA b) s.heap s.heap [] := va_S.rf
  unfold fX9_most at h
  refine j_iload_n hx hb dX9_most_0 rfl (lv_at hl 0 rfl) ?_
  refine j_iload_n hx hb dX9_most_1 rfl (lv_at hl 1 rfl) ?_
  refine j_icmp_le (A := wr y0) (B := wr y1) (tgt := 9) hx hb rfl rfl dX9_most_2 (by decide) (fun q1 => ?_) (fun q1 => ?_)
  · replace h := (if_pos q1).symm.trans h
    refine j_iload_n hx hb dX9_most_9 rfl (lv_at hl 1 rfl) ?_
    exact j_retI hx hb hK hP hS hr hlk (Option.some.inj h) dX9_most_10
  · replace h := (if_neg q1).symm.trans h
    refine j_iload_n hx hb dX9_most_5 rfl (lv_at hl 0 rfl) ?_
    refine j_goto (tgt := 10) hx hb dX9_most_6 (by decide) ?_
    exact j_retI hx hb hK hP hS hr hlk (Option.some.inj h) dX9_most_10
def fX9_floatOf_j77 (N : Nat) (μ : Mm) (x2_2 : Int) (x4_4 : Int) (rec7_1 : Int → Int → Int → Option (Int)) : Int → Option (Int) := fun s13 =>
    Option.bind (fX9_most N s13 x2_2 μ) (fun v15 => rec7_1 v15 s13 (x4_4 + 1))
def fX9_floatOf_j48 (N : Nat) (y1 : Int) (μ : Mm) (x2_2 : Int) (x3_3 : Int) (x4_4 : Int) (rec7_1 : Int → Int → Int → Option (Int)) : Int → Option (Int) := fun s9 =>
    Option.bind (fX9_was N x4_4 y1 μ) (fun v11 => if wr v11 = (-1) then (fX9_floatOf_j77 N μ x2_2 x4_4 rec7_1 0) else (if wr s9 = 0 then (fX9_floatOf_j77 N μ x2_2 x4_4 rec7_1 1) else (fX9_floatOf_j77 N μ x2_2 x4_4 rec7_1 (x3_3 + 1))))
def fX9_floatOf_l7 (N : Nat) (y1 : Int) (μ : Mm) : Nat → Int → Int → Int → Option (Int)
  | 0, _, _, _ => none
  | n1 + 1, x2_2, x3_3, x4_4 =>
    Option.bind (ldA μ 333 8262 49) (fun v5 => if wr v5 ≤ wr x4_4 then (some x2_2) else (if wr x4_4 ≤ 0 then (fX9_floatOf_j48 N y1 μ x2_2 x3_3 x4_4 (fX9_floatOf_l7 N y1 μ n1) 0) else (Option.bind (fX9_was N x4_4 y1 μ) (fun v20 => Option.bind (fX9_was N (x4_4 - 1) y1 μ) (fun v22 => if wr v20 = wr v22 then (fX9_floatOf_j48 N y1 μ x2_2 x3_3 x4_4 (fX9_floatOf_l7 N y1 μ n1) 1) else (fX9_floatOf_j48 N y1 μ x2_2 x3_3 x4_4 (fX9_floatOf_l7 N y1 μ n1) 0))))))
def fX9_floatOf (N : Nat) (y1 : Int) (μ : Mm) : Option (Int) :=
    fX9_floatOf_l7 N y1 μ N 0 0 0
abbrev rmX9_floatOf : Room := { frames := 1, cells := 0, slots := 0, locals := 22 }
set_option maxHeartbeats 4000000 in
set_option maxRecDepth 100000 in
theorem m_X9_floatOf (l : Launch) (D : va_G) (b : Nat) (cs : CS) (N : Nat) {μ : Mm} {y1 : Int} {r : Int} (h : fX9_floatOf N y1 μ = some r) : MI l yX9_floatOf wsX9_floatOf rmX9_floatOf D b cs [jR b 332, jI y1] μ μ r := by
  refine met_in (cc := cX9_floatOf) (maxL := 6) (ret := some .int) (lv0 := [(0, jR b 332), (1, jI y1)]) (by decide +kernel) rfl (Nat.le_of_ble_eq_true rfl) rfl ?_
  intro p e s m args below meth c hx hb hr hlk hml hown hts hP hK ls hl
  have hown : s.vm.findClass RX9 = some m.cls := hown
  have hS : va_S (bA b) s.heap s.heap [] := va_S.rf
  have hinX9 : ∀ w ∈ u_ws RX9 TX9 27, w ∈ wsX9_floatOf := by decide +kernel
  unfold fX9_floatOf at h
  refine j_iconst hx hb dX9_floatOf_0 ?_
  refine j_istore_n (lv2 := [(2, jI 0), (0, jR b 332), (1, jI y1)]) hx hb dX9_floatOf_1 rfl hl (by decide) rfl (fun ls hl => ?_)
  refine j_iconst hx hb dX9_floatOf_2 ?_
  refine j_istore_n (lv2 := [(3, jI 0), (2, jI 0), (0, jR b 332), (1, jI y1)]) hx hb dX9_floatOf_3 rfl hl (by decide) rfl (fun ls hl => ?_)
  refine j_iconst hx hb dX9_floatOf_4 ?_
  refine j_istore (lv2 := [(4, jI 0), (3, jI 0), (2, jI 0), (0, jR b 332), (1, jI y1)]) hx hb dX9_floatOf_5 hl (by decide) rfl (fun ls hl => ?_)
  have hl7_1 : ∀ (n0 : Nat) (x2_2 : Int) (x3_3 : Int) (x4_4 : Int) (H : Heap) (locs : List Loc) (ls : Array Slot), va_P D vwCl (wl b cs μ) H → va_S (bA b) s.heap H locs → lv_has ls 6 [(0, jR b 332), (1, jI y1), (2, jI x2_2), (3, jI x3_3), (4, jI x4_4)] → fX9_floatOf_l7 N y1 μ n0 x2_2 x3_3 x4_4 = some r → W p l e rmX9_floatOf s m args below meth c H locs 0 0 (MQ below (QI D b cs μ r) args s 0 0 (bA b)) (F0 m 7 ls []) := by
    intro n0
    induction n0 with
    | zero => intro x2_2 x3_3 x4_4 H locs ls hP hS hl h; rw [fX9_floatOf_l7] at h; cases h
    | succ n1 ih7_1 =>
      intro x2_2 x3_3 x4_4 H locs ls hP hS hl h
      rw [fX9_floatOf_l7] at h
      refine j_iload hx hb dX9_floatOf_7 (lv_at hl 4 rfl) ?_
      refine j_aload_n hx hb dX9_floatOf_9 rfl (lv_at hl 0 rfl) ?_
      refine j_get (v := jR b 333) hx hb hts hinX9 hown hK hP kz_332 (by decide) rfl 0 (by decide) (hts (.fieldLink RX9 7 "CardBandModel" "w" "[I") (by decide +kernel)) rfl rfl dX9_floatOf_10 ?_
      refine j_bipush hx hb dX9_floatOf_13 (by decide) ?_
      obtain ⟨v5, e6, h⟩ := ob_I h
      refine j_iaload hx hb hK hP kz_333 e6 dX9_floatOf_15 ?_
      refine j_icmp_ge (A := wr x4_4) (B := wr v5) (tgt := 90) hx hb rfl rfl dX9_floatOf_16 (by decide) (fun q7 => ?_) (fun q7 => ?_)
      · replace h := (if_pos q7).symm.trans h
        refine j_iload_n hx hb dX9_floatOf_90 rfl (lv_at hl 2 rfl) ?_
        exact j_retI hx hb hK hP hS hr hlk (Option.some.inj h) dX9_floatOf_91
      · replace h := (if_neg q7).symm.trans h
        refine j_iload hx hb dX9_floatOf_19 (lv_at hl 4 rfl) ?_
        have hj48_8 : ∀ (s9 : Int) (H : Heap) (locs : List Loc) (ls : Array Slot), va_P D vwCl (wl b cs μ) H → va_S (bA b) s.heap H locs → lv_has ls 6 [(0, jR b 332), (1, jI y1), (2, jI x2_2), (3, jI x3_3), (4, jI x4_4)] → fX9_floatOf_j48 N y1 μ x2_2 x3_3 x4_4 (fX9_floatOf_l7 N y1 μ n1) s9 = some r → W p l e rmX9_floatOf s m args below meth c H locs 0 0 (MQ below (QI D b cs μ r) args s 0 0 (bA b)) (F0 m 48 ls [jI s9]) := by
          intro s9 H locs ls hP hS hl h
          unfold fX9_floatOf_j48 at h
          refine j_istore (lv2 := [(5, jI s9), (0, jR b 332), (1, jI y1), (2, jI x2_2), (3, jI x3_3), (4, jI x4_4)]) hx hb dX9_floatOf_48 hl (by decide) rfl (fun ls hl => ?_)
          refine j_aload_n hx hb dX9_floatOf_50 rfl (lv_at hl 1 rfl) ?_
          refine j_iload hx hb dX9_floatOf_51 (lv_at hl 5 rfl) ?_
          refine j_iload_n hx hb dX9_floatOf_53 rfl (lv_at hl 2 rfl) ?_
          obtain ⟨v11, e10, h⟩ := ob_I h
          refine jc_VI (As := [jI x4_4, jI y1]) (rest := []) ⟨hx, hb, hml, hown, hts⟩ hK hP hS (m_X9_was l D b cs N e10) (cwV 2 hts gX9_floatOf_X9_was rfl rfl rfl (by decide +kernel) ⟨Nat.le_of_ble_eq_true rfl, Nat.le_of_ble_eq_true rfl⟩) kz_332 (by decide) rfl rfl hl.1 rfl (Nat.le_of_ble_eq_true rfl) dX9_floatOf_54 ⟨Nat.zero_le _, Nat.zero_le _⟩ (fun H locs hP hS => ?_)
          refine j_iconst hx hb dX9_floatOf_57 ?_
          have hj77_12 : ∀ (s13 : Int) (H : Heap) (locs : List Loc) (ls : Array Slot), va_P D vwCl (wl b cs μ) H → va_S (bA b) s.heap H locs → lv_has ls 6 [(0, jR b 332), (1, jI y1), (2, jI x2_2), (4, jI x4_4)] → fX9_floatOf_j77 N μ x2_2 x4_4 (fX9_floatOf_l7 N y1 μ n1) s13 = some r → W p l e rmX9_floatOf s m args below meth c H locs 0 0 (MQ below (QI D b cs μ r) args s 0 0 (bA b)) (F0 m 77 ls [jI s13]) := by
            intro s13 H locs ls hP hS hl h
            unfold fX9_floatOf_j77 at h
            refine j_istore_n (lv2 := [(3, jI s13), (0, jR b 332), (1, jI y1), (2, jI x2_2), (4, jI x4_4)]) hx hb dX9_floatOf_77 rfl hl (by decide) rfl (fun ls hl => ?_)
            refine j_iload_n hx hb dX9_floatOf_78 rfl (lv_at hl 0 rfl) ?_
            refine j_iload_n hx hb dX9_floatOf_79 rfl (lv_at hl 3 rfl) ?_
            obtain ⟨v15, e14, h⟩ := ob_I h
            refine jc_SI (As := [jI s13, jI x2_2]) (rest := []) ⟨hx, hb, hml, hown, hts⟩ hK hP hS (m_X9_most l D b cs N e14) (va_cwS 2 hts gX9_floatOf_X9_most rfl rfl rfl (by decide +kernel) ⟨Nat.le_of_ble_eq_true rfl, Nat.le_of_ble_eq_true rfl⟩) rfl hl.1 rfl (Nat.le_of_ble_eq_true rfl) dX9_floatOf_80 ⟨Nat.zero_le _, Nat.zero_le _⟩ (fun H locs hP hS => ?_)
            refine j_istore_n (lv2 := [(2, jI v15), (3, jI s13), (0, jR b 332), (1, jI y1), (4, jI x4_4)]) hx hb dX9_floatOf_83 rfl hl (by decide) rfl (fun ls hl => ?_)
            refine j_iinc (k := 4) (lv2 := [(4, jI (x4_4 + 1)), (2, jI v15), (3, jI s13), (0, jR b 332), (1, jI y1)]) hx hb dX9_floatOf_84 hl rfl (by decide) rfl (fun ls hl => ?_)
            refine j_goto (tgt := 7) hx hb dX9_floatOf_87 (by decide) ?_
            exact ih7_1 _ _ _ _ _ _ hP hS (lv_sub hl [3, 4, 1, 2, 0] rfl) h
          refine j_icmp_ne (A := wr v11) (B := (-1)) (tgt := 65) hx hb rfl (by decide) dX9_floatOf_58 (by decide) (fun q16 => ?_) (fun q16 => ?_)
          · replace h := (if_neg q16).symm.trans h
            refine j_iload hx hb dX9_floatOf_65 (lv_at hl 0 rfl) ?_
            refine j_if_eq (A := wr s9) (tgt := 76) hx hb rfl dX9_floatOf_67 (by decide) (fun q17 => ?_) (fun q17 => ?_)
            · replace h := (if_pos q17).symm.trans h
              refine j_iconst hx hb dX9_floatOf_76 ?_
              exact hj77_12 _ _ _ _ hP hS (lv_sub hl [1, 2, 3, 5] rfl) h
            · replace h := (if_neg q17).symm.trans h
              refine j_iload_n hx hb dX9_floatOf_70 rfl (lv_at hl 4 rfl) ?_
              refine j_iconst hx hb dX9_floatOf_71 ?_
              refine j_iadd hx hb dX9_floatOf_72 ?_
              refine j_goto (tgt := 77) hx hb dX9_floatOf_73 (by decide) ?_
              exact hj77_12 _ _ _ _ hP hS (lv_sub hl [1, 2, 3, 5] rfl) h
          · replace h := (if_pos q16).symm.trans h
            refine j_iconst hx hb dX9_floatOf_61 ?_
            refine j_goto (tgt := 77) hx hb dX9_floatOf_62 (by decide) ?_
            exact hj77_12 _ _ _ _ hP hS (lv_sub hl [1, 2, 3, 5] rfl) h
        refine j_if_le (A := wr x4_4) (tgt := 47) hx hb rfl dX9_floatOf_21 (by decide) (fun q18 => ?_) (fun q18 => ?_)
        · replace h := (if_pos q18).symm.trans h
          refine j_iconst hx hb dX9_floatOf_47 ?_
          exact hj48_8 _ _ _ _ hP hS (lv_sub hl [0, 1, 2, 3, 4] rfl) h
        · replace h := (if_neg q18).symm.trans h
          refine j_aload_n hx hb dX9_floatOf_24 rfl (lv_at hl 0 rfl) ?_
          refine j_iload hx hb dX9_floatOf_25 (lv_at hl 4 rfl) ?_
          refine j_iload_n hx hb dX9_floatOf_27 rfl (lv_at hl 1 rfl) ?_
          obtain ⟨v20, e19, h⟩ := ob_I h
          refine jc_VI (As := [jI x4_4, jI y1]) (rest := []) ⟨hx, hb, hml, hown, hts⟩ hK hP hS (m_X9_was l D b cs N e19) (cwV 2 hts gX9_floatOf_X9_was rfl rfl rfl (by decide +kernel) ⟨Nat.le_of_ble_eq_true rfl, Nat.le_of_ble_eq_true rfl⟩) kz_332 (by decide) rfl rfl hl.1 rfl (Nat.le_of_ble_eq_true rfl) dX9_floatOf_28 ⟨Nat.zero_le _, Nat.zero_le _⟩ (fun H locs hP hS => ?_)
          refine j_aload_n hx hb dX9_floatOf_31 rfl (lv_at hl 0 rfl) ?_
          refine j_iload hx hb dX9_floatOf_32 (lv_at hl 4 rfl) ?_
          refine j_iconst hx hb dX9_floatOf_34 ?_
          refine j_isub hx hb dX9_floatOf_35 ?_
          refine j_iload_n hx hb dX9_floatOf_36 rfl (lv_at hl 1 rfl) ?_
          obtain ⟨v22, e21, h⟩ := ob_I h
          refine jc_VI (As := [jI (x4_4 - 1), jI y1]) (rest := [jI v20]) ⟨hx, hb, hml, hown, hts⟩ hK hP hS (m_X9_was l D b cs N e21) (cwV 2 hts gX9_floatOf_X9_was rfl rfl rfl (by decide +kernel) ⟨Nat.le_of_ble_eq_true rfl, Nat.le_of_ble_eq_true rfl⟩) kz_332 (by decide) rfl rfl hl.1 rfl (Nat.le_of_ble_eq_true rfl) dX9_floatOf_37 ⟨Nat.zero_le _, Nat.zero_le _⟩ (fun H locs hP hS => ?_)
          refine j_icmp_ne (A := wr v20) (B := wr v22) (tgt := 47) hx hb rfl rfl dX9_floatOf_40 (by decide) (fun q23 => ?_) (fun q23 => ?_)
          · replace h := (if_neg q23).symm.trans h
            refine j_iconst hx hb dX9_floatOf_47 ?_
            exact hj48_8 _ _ _ _ hP hS (lv_sub hl [0, 1, 2, 3, 4] rfl) h
          · replace h := (if_pos q23).symm.trans h
            refine j_iconst hx hb dX9_floatOf_43 ?_
            refine j_goto (tgt := 48) hx hb dX9_floatOf_44 (by decide) ?_
            exact hj48_8 _ _ _ _ hP hS (lv_sub hl [0, 1, 2, 3, 4] rfl) h
  exact hl7_1 N _ _ _ _ _ _ hP hS (lv_sub hl [3, 4, 2, 1, 0] rfl) h
def fX9_floats (N : Nat) (y1 : Int) (μ : Mm) : Option (Int) :=
    Option.bind (fX9_isCard N y1 μ) (fun v2 => if wr v2 = 0 then (some (-1000000001)) else (Option.bind (fX9_floatOf N y1 μ) (fun v5 => some v5)))
abbrev rmX9_floats : Room := { frames := 2, cells := 0, slots := 0, locals := 47 }
set_option maxHeartbeats 4000000 in
set_option maxRecDepth 100000 in
theorem m_X9_floats (l : Launch) (D : va_G) (b : Nat) (cs : CS) (N : Nat) {μ : Mm} {y1 : Int} {r : Int} (h : fX9_floats N y1 μ = some r) : MI l yX9_floats wsX9_floats rmX9_floats D b cs [jR b 332, jI y1] μ μ r := by
  refine met_in (cc := cX9_floats) (maxL := 2) (ret := some .int) (lv0 := [(0, jR b 332), (1, jI y1)]) (by decide +kernel) rfl (Nat.le_of_ble_eq_true rfl) rfl ?_
  intro p e s m args below meth c hx hb hr hlk hml hown hts hP hK ls hl
  have hown : s.vm.findClass RX9 = some m.cls := hown
  have hS : va_S (bA b) s.heap s.heap [] := va_S.rf
  unfold fX9_floats at h
  refine j_aload_n hx hb dX9_floats_0 rfl (lv_at hl 0 rfl) ?_
  refine j_iload_n hx hb dX9_floats_1 rfl (lv_at hl 1 rfl) ?_
  obtain ⟨v2, e1, h⟩ := ob_I h
  refine jc_VI (As := [jI y1]) (rest := []) ⟨hx, hb, hml, hown, hts⟩ hK hP hS (m_X9_isCard l D b cs N e1) (cwV 1 hts gX9_floats_X9_isCard rfl rfl rfl (by decide +kernel) ⟨Nat.le_of_ble_eq_true rfl, Nat.le_of_ble_eq_true rfl⟩) kz_332 (by decide) rfl rfl hl.1 rfl (Nat.le_of_ble_eq_true rfl) dX9_floats_2 ⟨Nat.zero_le _, Nat.zero_le _⟩ (fun H locs hP hS => ?_)
  refine j_if_eq (A := wr v2) (tgt := 16) hx hb rfl dX9_floats_5 (by decide) (fun q3 => ?_) (fun q3 => ?_)
  · replace h := (if_pos q3).symm.trans h
    refine j_ldc (n := (-1000000001)) hx hb hown (hts (.constant RX9 183 (-1000000001)) (by decide +kernel)) (by decide) dX9_floats_16 ?_
    exact j_retI hx hb hK hP hS hr hlk (Option.some.inj h) dX9_floats_18
  · replace h := (if_neg q3).symm.trans h
    refine j_aload_n hx hb dX9_floats_8 rfl (lv_at hl 0 rfl) ?_
    refine j_iload_n hx hb dX9_floats_9 rfl (lv_at hl 1 rfl) ?_
    obtain ⟨v5, e4, h⟩ := ob_I h
    refine jc_VI (As := [jI y1]) (rest := []) ⟨hx, hb, hml, hown, hts⟩ hK hP hS (m_X9_floatOf l D b cs N e4) (cwV 1 hts gX9_floats_X9_floatOf rfl rfl rfl (by decide +kernel) ⟨Nat.le_of_ble_eq_true rfl, Nat.le_of_ble_eq_true rfl⟩) kz_332 (by decide) rfl rfl hl.1 rfl (Nat.le_of_ble_eq_true rfl) dX9_floats_10 ⟨Nat.zero_le _, Nat.zero_le _⟩ (fun H locs hP hS => ?_)
    refine j_goto (tgt := 18) hx hb dX9_floats_13 (by decide) ?_
    exact j_retI hx hb hK hP hS hr hlk (Option.some.inj h) dX9_floats_18
def fX9_goBack (N : Nat) (y1 : Int) (μ : Mm) : Option (Int × Mm) :=
    Option.bind (fX9_in N (wr y1) 0 1 μ) (fun v2 => if wr v2 = 0 then (some ((-1000000001), μ)) else (Option.bind (ldA μ 334 2 y1) (fun v4 => if wr v4 = 0 then (some ((-1000000003), μ)) else (Option.bind (fX9_copy N (486 + (243 * y1)) 0 μ) (fun μ8 => Option.bind (some (pI μ8 332 18 0)) (fun μ9 => some (1, μ9)))))))
abbrev rmX9_goBack : Room := { frames := 1, cells := 0, slots := 0, locals := 25 }
set_option maxHeartbeats 4000000 in
set_option maxRecDepth 100000 in
theorem m_X9_goBack (l : Launch) (D : va_G) (b : Nat) (cs : CS) (N : Nat) {μ μ0 : Mm} {y1 : Int} {r : Int} (h : fX9_goBack N y1 μ = some (r, μ0)) : MI l yX9_goBack wsX9_goBack rmX9_goBack D b cs [jR b 332, jI y1] μ μ0 r := by
  refine met_in (cc := cX9_goBack) (maxL := 2) (ret := some .int) (lv0 := [(0, jR b 332), (1, jI y1)]) (by decide +kernel) rfl (Nat.le_of_ble_eq_true rfl) rfl ?_
  intro p e s m args below meth c hx hb hr hlk hml hown hts hP hK ls hl
  have hown : s.vm.findClass RX9 = some m.cls := hown
  have hS : va_S (bA b) s.heap s.heap [] := va_S.rf
  have hinX9 : ∀ w ∈ u_ws RX9 TX9 27, w ∈ wsX9_goBack := by decide +kernel
  unfold fX9_goBack at h
  refine j_iload_n hx hb dX9_goBack_0 rfl (lv_at hl 1 rfl) ?_
  refine j_i2l hx hb dX9_goBack_1 ?_
  refine j_lconst (n := 0) hx hb dX9_goBack_2 (by decide) ?_
  refine j_lconst (n := 1) hx hb dX9_goBack_3 (by decide) ?_
  obtain ⟨v2, e1, h⟩ := ob_I h
  refine jc_SI (As := [jL (wr y1), jL 0, jL 1]) (rest := []) ⟨hx, hb, hml, hown, hts⟩ hK hP hS (m_X9_in l D b cs N e1) (va_cwS 3 hts gX9_goBack_X9_in rfl rfl rfl (by decide +kernel) ⟨Nat.le_of_ble_eq_true rfl, Nat.le_of_ble_eq_true rfl⟩) rfl hl.1 rfl (Nat.le_of_ble_eq_true rfl) dX9_goBack_4 ⟨Nat.zero_le _, Nat.zero_le _⟩ (fun H locs hP hS => ?_)
  refine j_if_ne (A := wr v2) (tgt := 13) hx hb rfl dX9_goBack_7 (by decide) (fun q3 => ?_) (fun q3 => ?_)
  · replace h := (if_neg q3).symm.trans h
    refine j_aload_n hx hb dX9_goBack_13 rfl (lv_at hl 0 rfl) ?_
    refine j_get (v := jR b 334) hx hb hts hinX9 hown hK hP kz_332 (by decide) rfl 1 (by decide) (hts (.fieldLink RX9 13 "CardBandModel" "isKept" "[Z") (by decide +kernel)) rfl rfl dX9_goBack_14 ?_
    refine j_iload_n hx hb dX9_goBack_17 rfl (lv_at hl 1 rfl) ?_
    obtain ⟨v4, e5, h⟩ := ob_I h
    refine j_zaload hx hb hK hP kz_334 e5 dX9_goBack_18 ?_
    refine j_if_ne (A := wr v4) (tgt := 25) hx hb rfl dX9_goBack_19 (by decide) (fun q6 => ?_) (fun q6 => ?_)
    · replace h := (if_neg q6).symm.trans h
      refine j_aload_n hx hb dX9_goBack_25 rfl (lv_at hl 0 rfl) ?_
      refine j_sipush hx hb dX9_goBack_26 (by decide) ?_
      refine j_sipush hx hb dX9_goBack_29 (by decide) ?_
      refine j_iload_n hx hb dX9_goBack_32 rfl (lv_at hl 1 rfl) ?_
      refine j_imul hx hb dX9_goBack_33 ?_
      refine j_iadd hx hb dX9_goBack_34 ?_
      refine j_iconst hx hb dX9_goBack_35 ?_
      obtain ⟨μ8, e7, h⟩ := ob_I h
      refine jc_VM (As := [jI (486 + (243 * y1)), jI 0]) (rest := []) ⟨hx, hb, hml, hown, hts⟩ hK hP hS (m_X9_copy l D b cs N e7) (cwV 2 hts gX9_goBack_X9_copy rfl rfl rfl (by decide +kernel) ⟨Nat.le_of_ble_eq_true rfl, Nat.le_of_ble_eq_true rfl⟩) kz_332 (by decide) rfl rfl hl.1 rfl (Nat.le_of_ble_eq_true rfl) dX9_goBack_36 ⟨Nat.zero_le _, Nat.zero_le _⟩ (fun H locs hP hS => ?_)
      refine j_aload_n hx hb dX9_goBack_39 rfl (lv_at hl 0 rfl) ?_
      refine j_iconst hx hb dX9_goBack_40 ?_
      obtain ⟨μ9, e10, h⟩ := ob_I h
      refine j_put (ty := .int) (z := 0) hx hb hts hinX9 tyX9 tyX9_ok nmX9 hown hK hP hS kz_332 (by decide) rfl 18 (by decide) (hts (.fieldLink RX9 137 "CardBandModel" "undoMany" "I") (by decide +kernel)) rfl rfl (by decide +kernel) rfl rfl (by simp [flds]) rfl dX9_goBack_41 (Option.some.inj e10) (fun H locs hP hS => ?_)
      refine j_iconst hx hb dX9_goBack_44 ?_
      obtain ⟨e0, e1⟩ := Prod.mk.inj (Option.some.inj h)
      subst e1
      exact j_retI hx hb hK hP hS hr hlk e0 dX9_goBack_45
    · replace h := (if_pos q6).symm.trans h
      refine j_ldc (n := (-1000000003)) hx hb hown (hts (.constant RX9 231 (-1000000003)) (by decide +kernel)) (by decide) dX9_goBack_22 ?_
      obtain ⟨e0, e1⟩ := Prod.mk.inj (Option.some.inj h)
      subst e1
      exact j_retI hx hb hK hP hS hr hlk e0 dX9_goBack_24
  · replace h := (if_pos q3).symm.trans h
    refine j_ldc (n := (-1000000001)) hx hb hown (hts (.constant RX9 183 (-1000000001)) (by decide +kernel)) (by decide) dX9_goBack_10 ?_
    obtain ⟨e0, e1⟩ := Prod.mk.inj (Option.some.inj h)
    subst e1
    exact j_retI hx hb hK hP hS hr hlk e0 dX9_goBack_12
def fX9_one (N : Nat) (y0 : Int) (μ : Mm) : Option (Int) :=
    if wr y0 = 0 then (some 0) else (some 1)
abbrev rmX9_one : Room := { frames := 0, cells := 0, slots := 0, locals := 0 }
set_option maxHeartbeats 4000000 in
set_option maxRecDepth 100000 in
theorem m_X9_one (l : Launch) (D : va_G) (b : Nat) (cs : CS) (N : Nat) {μ : Mm} {y0 : Int} {r : Int} (h : fX9_one N y0 μ = some r) : MI l yX9_one wsX9_one rmX9_one D b cs [jI y0] μ μ r := by
  refine met_in (cc := cX9_one) (maxL := 1) (ret := some .int) (lv0 := [(0, jI y0)]) (by decide +kernel) rfl (Nat.le_of_ble_eq_true rfl) rfl ?_
  intro p e s m args below meth c hx hb hr hlk hml hown hts hP hK ls hl
  have hown : s.vm.findClass RX9 = some m.cls := hown
  have hS : va_S (bA b) s.heap s.heap [] := va_S.rf
  unfold fX9_one at h
  refine j_iload_n hx hb dX9_one_0 rfl (lv_at hl 0 rfl) ?_
  refine j_if_eq (A := wr y0) (tgt := 8) hx hb rfl dX9_one_1 (by decide) (fun q1 => ?_) (fun q1 => ?_)
  · replace h := (if_pos q1).symm.trans h
    refine j_iconst hx hb dX9_one_8 ?_
    exact j_retI hx hb hK hP hS hr hlk (Option.some.inj h) dX9_one_9
  · replace h := (if_neg q1).symm.trans h
    refine j_iconst hx hb dX9_one_4 ?_
    refine j_goto (tgt := 9) hx hb dX9_one_5 (by decide) ?_
    exact j_retI hx hb hK hP hS hr hlk (Option.some.inj h) dX9_one_9
def fX9_greatestPart_k71 (N : Nat) (μ : Mm) (x4_2 : Int) (x5_3 : Int) (rec6_1 : Int → Int → Option (Int)) : Int → Option (Int) := fun x6_6 =>
    Option.bind (fX9_most N x6_6 x4_2 μ) (fun v8 => rec6_1 v8 (x5_3 + 1))
def fX9_greatestPart_j59 (N : Nat) (μ : Mm) (x6_10 : Int) (x7_11 : Int) (rec21_9 : Int → Int → Option (Int)) : Int → Option (Int) := fun s16 =>
    Option.bind (fX9_one N s16 μ) (fun v18 => rec21_9 (x6_10 + v18) (x7_11 + 1))
def fX9_greatestPart_l21 (N : Nat) (y1 : Int) (y2 : Int) (y3 : Int) (μ : Mm) (x4_2 : Int) (x5_3 : Int) (rec6_1 : Int → Int → Option (Int)) : Nat → Int → Int → Option (Int)
  | 0, _, _ => none
  | n9 + 1, x6_10, x7_11 =>
    if 4 ≤ wr x7_11 then (fX9_greatestPart_k71 N μ x4_2 x5_3 rec6_1 x6_10) else (Option.bind (fX9_has N y3 x7_11 μ) (fun v14 => if wr v14 = 0 then (fX9_greatestPart_j59 N μ x6_10 x7_11 (fX9_greatestPart_l21 N y1 y2 y3 μ x4_2 x5_3 rec6_1 n9) 0) else (Option.bind (fX9_colourOf N y1 ((x7_11 + y2) - 1) μ) (fun v21 => if wr v21 = wr x5_3 then (fX9_greatestPart_j59 N μ x6_10 x7_11 (fX9_greatestPart_l21 N y1 y2 y3 μ x4_2 x5_3 rec6_1 n9) 1) else (fX9_greatestPart_j59 N μ x6_10 x7_11 (fX9_greatestPart_l21 N y1 y2 y3 μ x4_2 x5_3 rec6_1 n9) 0)))))
def fX9_greatestPart_l6 (N : Nat) (y1 : Int) (y2 : Int) (y3 : Int) (μ : Mm) : Nat → Int → Int → Option (Int)
  | 0, _, _ => none
  | n1 + 1, x4_2, x5_3 =>
    if wr (gI μ 332 2) ≤ wr x5_3 then (some x4_2) else (fX9_greatestPart_l21 N y1 y2 y3 μ x4_2 x5_3 (fX9_greatestPart_l6 N y1 y2 y3 μ n1) N 0 0)
def fX9_greatestPart (N : Nat) (y1 : Int) (y2 : Int) (y3 : Int) (μ : Mm) : Option (Int) :=
    fX9_greatestPart_l6 N y1 y2 y3 μ N 0 0
abbrev rmX9_greatestPart : Room := { frames := 1, cells := 0, slots := 0, locals := 22 }
set_option maxHeartbeats 4000000 in
set_option maxRecDepth 100000 in
theorem m_X9_greatestPart (l : Launch) (D : va_G) (b : Nat) (cs : CS) (N : Nat) {μ : Mm} {y1 y2 y3 : Int} {r : Int} (h : fX9_greatestPart N y1 y2 y3 μ = some r) : MI l yX9_greatestPart wsX9_greatestPart rmX9_greatestPart D b cs [jR b 332, jI y1, jI y2, jI y3] μ μ r := by
  refine met_in (cc := cX9_greatestPart) (maxL := 8) (ret := some .int) (lv0 := [(0, jR b 332), (1, jI y1), (2, jI y2), (3, jI y3)]) (by decide +kernel) rfl (Nat.le_of_ble_eq_true rfl) rfl ?_
  intro p e s m args below meth c hx hb hr hlk hml hown hts hP hK ls hl
  have hown : s.vm.findClass RX9 = some m.cls := hown
  have hS : va_S (bA b) s.heap s.heap [] := va_S.rf
  have hinX9 : ∀ w ∈ u_ws RX9 TX9 27, w ∈ wsX9_greatestPart := by decide +kernel
  unfold fX9_greatestPart at h
  refine j_iconst hx hb dX9_greatestPart_0 ?_
  refine j_istore (lv2 := [(4, jI 0), (0, jR b 332), (1, jI y1), (2, jI y2), (3, jI y3)]) hx hb dX9_greatestPart_1 hl (by decide) rfl (fun ls hl => ?_)
  refine j_iconst hx hb dX9_greatestPart_3 ?_
  refine j_istore (lv2 := [(5, jI 0), (4, jI 0), (0, jR b 332), (1, jI y1), (2, jI y2), (3, jI y3)]) hx hb dX9_greatestPart_4 hl (by decide) rfl (fun ls hl => ?_)
  have hl6_1 : ∀ (n0 : Nat) (x4_2 : Int) (x5_3 : Int) (H : Heap) (locs : List Loc) (ls : Array Slot), va_P D vwCl (wl b cs μ) H → va_S (bA b) s.heap H locs → lv_has ls 8 [(0, jR b 332), (1, jI y1), (2, jI y2), (3, jI y3), (4, jI x4_2), (5, jI x5_3)] → fX9_greatestPart_l6 N y1 y2 y3 μ n0 x4_2 x5_3 = some r → W p l e rmX9_greatestPart s m args below meth c H locs 0 0 (MQ below (QI D b cs μ r) args s 0 0 (bA b)) (F0 m 6 ls []) := by
    intro n0
    induction n0 with
    | zero => intro x4_2 x5_3 H locs ls hP hS hl h; rw [fX9_greatestPart_l6] at h; cases h
    | succ n1 ih6_1 =>
      intro x4_2 x5_3 H locs ls hP hS hl h
      rw [fX9_greatestPart_l6] at h
      refine j_iload hx hb dX9_greatestPart_6 (lv_at hl 5 rfl) ?_
      refine j_aload_n hx hb dX9_greatestPart_8 rfl (lv_at hl 0 rfl) ?_
      refine j_get (v := jI (gI μ 332 2)) hx hb hts hinX9 hown hK hP kz_332 (by decide) rfl 2 (by decide) (hts (.fieldLink RX9 125 "CardBandModel" "colours" "I") (by decide +kernel)) rfl (by rw [jI_g]; rfl) dX9_greatestPart_9 ?_
      refine j_icmp_ge (A := wr x5_3) (B := wr (gI μ 332 2)) (tgt := 86) hx hb rfl rfl dX9_greatestPart_12 (by decide) (fun q4 => ?_) (fun q4 => ?_)
      · replace h := (if_pos q4).symm.trans h
        refine j_iload hx hb dX9_greatestPart_86 (lv_at hl 4 rfl) ?_
        exact j_retI hx hb hK hP hS hr hlk (Option.some.inj h) dX9_greatestPart_88
      · replace h := (if_neg q4).symm.trans h
        refine j_iconst hx hb dX9_greatestPart_15 ?_
        refine j_istore (lv2 := [(6, jI 0), (0, jR b 332), (1, jI y1), (2, jI y2), (3, jI y3), (4, jI x4_2), (5, jI x5_3)]) hx hb dX9_greatestPart_16 hl (by decide) rfl (fun ls hl => ?_)
        refine j_iconst hx hb dX9_greatestPart_18 ?_
        refine j_istore (lv2 := [(7, jI 0), (6, jI 0), (0, jR b 332), (1, jI y1), (2, jI y2), (3, jI y3), (4, jI x4_2), (5, jI x5_3)]) hx hb dX9_greatestPart_19 hl (by decide) rfl (fun ls hl => ?_)
        have hk71_5 : ∀ (x6_6 : Int) (H : Heap) (locs : List Loc) (ls : Array Slot), va_P D vwCl (wl b cs μ) H → va_S (bA b) s.heap H locs → lv_has ls 8 [(0, jR b 332), (1, jI y1), (2, jI y2), (3, jI y3), (4, jI x4_2), (5, jI x5_3), (6, jI x6_6)] → fX9_greatestPart_k71 N μ x4_2 x5_3 (fX9_greatestPart_l6 N y1 y2 y3 μ n1) x6_6 = some r → W p l e rmX9_greatestPart s m args below meth c H locs 0 0 (MQ below (QI D b cs μ r) args s 0 0 (bA b)) (F0 m 71 ls []) := by
          intro x6_6 H locs ls hP hS hl h
          unfold fX9_greatestPart_k71 at h
          refine j_iload hx hb dX9_greatestPart_71 (lv_at hl 6 rfl) ?_
          refine j_iload hx hb dX9_greatestPart_73 (lv_at hl 4 rfl) ?_
          obtain ⟨v8, e7, h⟩ := ob_I h
          refine jc_SI (As := [jI x6_6, jI x4_2]) (rest := []) ⟨hx, hb, hml, hown, hts⟩ hK hP hS (m_X9_most l D b cs N e7) (va_cwS 2 hts gX9_greatestPart_X9_most rfl rfl rfl (by decide +kernel) ⟨Nat.le_of_ble_eq_true rfl, Nat.le_of_ble_eq_true rfl⟩) rfl hl.1 rfl (Nat.le_of_ble_eq_true rfl) dX9_greatestPart_75 ⟨Nat.zero_le _, Nat.zero_le _⟩ (fun H locs hP hS => ?_)
          refine j_istore (lv2 := [(4, jI v8), (0, jR b 332), (1, jI y1), (2, jI y2), (3, jI y3), (5, jI x5_3), (6, jI x6_6)]) hx hb dX9_greatestPart_78 hl (by decide) rfl (fun ls hl => ?_)
          refine j_iinc (k := 5) (lv2 := [(5, jI (x5_3 + 1)), (4, jI v8), (0, jR b 332), (1, jI y1), (2, jI y2), (3, jI y3), (6, jI x6_6)]) hx hb dX9_greatestPart_80 hl rfl (by decide) rfl (fun ls hl => ?_)
          refine j_goto (tgt := 6) hx hb dX9_greatestPart_83 (by decide) ?_
          exact ih6_1 _ _ _ _ _ hP hS (lv_sub hl [2, 3, 4, 5, 1, 0] rfl) h
        have hl21_9 : ∀ (n0 : Nat) (x6_10 : Int) (x7_11 : Int) (H : Heap) (locs : List Loc) (ls : Array Slot), va_P D vwCl (wl b cs μ) H → va_S (bA b) s.heap H locs → lv_has ls 8 [(0, jR b 332), (1, jI y1), (2, jI y2), (3, jI y3), (4, jI x4_2), (5, jI x5_3), (6, jI x6_10), (7, jI x7_11)] → fX9_greatestPart_l21 N y1 y2 y3 μ x4_2 x5_3 (fX9_greatestPart_l6 N y1 y2 y3 μ n1) n0 x6_10 x7_11 = some r → W p l e rmX9_greatestPart s m args below meth c H locs 0 0 (MQ below (QI D b cs μ r) args s 0 0 (bA b)) (F0 m 21 ls []) := by
          intro n0
          induction n0 with
          | zero => intro x6_10 x7_11 H locs ls hP hS hl h; rw [fX9_greatestPart_l21] at h; cases h
          | succ n9 ih21_9 =>
            intro x6_10 x7_11 H locs ls hP hS hl h
            rw [fX9_greatestPart_l21] at h
            refine j_iload hx hb dX9_greatestPart_21 (lv_at hl 7 rfl) ?_
            refine j_iconst hx hb dX9_greatestPart_23 ?_
            refine j_icmp_ge (A := wr x7_11) (B := 4) (tgt := 71) hx hb rfl (by decide) dX9_greatestPart_24 (by decide) (fun q12 => ?_) (fun q12 => ?_)
            · replace h := (if_pos q12).symm.trans h
              exact hk71_5 _ _ _ _ hP hS (lv_sub hl [0, 1, 2, 3, 4, 5, 6] rfl) h
            · replace h := (if_neg q12).symm.trans h
              refine j_iload hx hb dX9_greatestPart_27 (lv_at hl 6 rfl) ?_
              refine j_iload_n hx hb dX9_greatestPart_29 rfl (lv_at hl 3 rfl) ?_
              refine j_iload hx hb dX9_greatestPart_30 (lv_at hl 7 rfl) ?_
              obtain ⟨v14, e13, h⟩ := ob_I h
              refine jc_SI (As := [jI y3, jI x7_11]) (rest := [jI x6_10]) ⟨hx, hb, hml, hown, hts⟩ hK hP hS (m_X9_has l D b cs N e13) (va_cwS 2 hts gX9_greatestPart_X9_has rfl rfl rfl (by decide +kernel) ⟨Nat.le_of_ble_eq_true rfl, Nat.le_of_ble_eq_true rfl⟩) rfl hl.1 rfl (Nat.le_of_ble_eq_true rfl) dX9_greatestPart_32 ⟨Nat.zero_le _, Nat.zero_le _⟩ (fun H locs hP hS => ?_)
              have hj59_15 : ∀ (s16 : Int) (H : Heap) (locs : List Loc) (ls : Array Slot), va_P D vwCl (wl b cs μ) H → va_S (bA b) s.heap H locs → lv_has ls 8 [(0, jR b 332), (1, jI y1), (2, jI y2), (3, jI y3), (4, jI x4_2), (5, jI x5_3), (7, jI x7_11)] → fX9_greatestPart_j59 N μ x6_10 x7_11 (fX9_greatestPart_l21 N y1 y2 y3 μ x4_2 x5_3 (fX9_greatestPart_l6 N y1 y2 y3 μ n1) n9) s16 = some r → W p l e rmX9_greatestPart s m args below meth c H locs 0 0 (MQ below (QI D b cs μ r) args s 0 0 (bA b)) (F0 m 59 ls [jI s16, jI x6_10]) := by
                intro s16 H locs ls hP hS hl h
                unfold fX9_greatestPart_j59 at h
                obtain ⟨v18, e17, h⟩ := ob_I h
                refine jc_SI (As := [jI s16]) (rest := [jI x6_10]) ⟨hx, hb, hml, hown, hts⟩ hK hP hS (m_X9_one l D b cs N e17) (va_cwS 1 hts gX9_greatestPart_X9_one rfl rfl rfl (by decide +kernel) ⟨Nat.le_of_ble_eq_true rfl, Nat.le_of_ble_eq_true rfl⟩) rfl hl.1 rfl (Nat.le_of_ble_eq_true rfl) dX9_greatestPart_59 ⟨Nat.zero_le _, Nat.zero_le _⟩ (fun H locs hP hS => ?_)
                refine j_iadd hx hb dX9_greatestPart_62 ?_
                refine j_istore (lv2 := [(6, jI (x6_10 + v18)), (0, jR b 332), (1, jI y1), (2, jI y2), (3, jI y3), (4, jI x4_2), (5, jI x5_3), (7, jI x7_11)]) hx hb dX9_greatestPart_63 hl (by decide) rfl (fun ls hl => ?_)
                refine j_iinc (k := 7) (lv2 := [(7, jI (x7_11 + 1)), (6, jI (x6_10 + v18)), (0, jR b 332), (1, jI y1), (2, jI y2), (3, jI y3), (4, jI x4_2), (5, jI x5_3)]) hx hb dX9_greatestPart_65 hl rfl (by decide) rfl (fun ls hl => ?_)
                refine j_goto (tgt := 21) hx hb dX9_greatestPart_68 (by decide) ?_
                exact ih21_9 _ _ _ _ _ hP hS (lv_sub hl [2, 3, 4, 5, 6, 7, 1, 0] rfl) h
              refine j_if_eq (A := wr v14) (tgt := 58) hx hb rfl dX9_greatestPart_35 (by decide) (fun q19 => ?_) (fun q19 => ?_)
              · replace h := (if_pos q19).symm.trans h
                refine j_iconst hx hb dX9_greatestPart_58 ?_
                exact hj59_15 _ _ _ _ hP hS (lv_sub hl [0, 1, 2, 3, 4, 5, 7] rfl) h
              · replace h := (if_neg q19).symm.trans h
                refine j_aload_n hx hb dX9_greatestPart_38 rfl (lv_at hl 0 rfl) ?_
                refine j_iload_n hx hb dX9_greatestPart_39 rfl (lv_at hl 1 rfl) ?_
                refine j_iload hx hb dX9_greatestPart_40 (lv_at hl 7 rfl) ?_
                refine j_iload_n hx hb dX9_greatestPart_42 rfl (lv_at hl 2 rfl) ?_
                refine j_iadd hx hb dX9_greatestPart_43 ?_
                refine j_iconst hx hb dX9_greatestPart_44 ?_
                refine j_isub hx hb dX9_greatestPart_45 ?_
                obtain ⟨v21, e20, h⟩ := ob_I h
                refine jc_VI (As := [jI y1, jI ((x7_11 + y2) - 1)]) (rest := [jI x6_10]) ⟨hx, hb, hml, hown, hts⟩ hK hP hS (m_X9_colourOf l D b cs N e20) (cwV 2 hts gX9_greatestPart_X9_colourOf rfl rfl rfl (by decide +kernel) ⟨Nat.le_of_ble_eq_true rfl, Nat.le_of_ble_eq_true rfl⟩) kz_332 (by decide) rfl rfl hl.1 rfl (Nat.le_of_ble_eq_true rfl) dX9_greatestPart_46 ⟨Nat.zero_le _, Nat.zero_le _⟩ (fun H locs hP hS => ?_)
                refine j_iload hx hb dX9_greatestPart_49 (lv_at hl 5 rfl) ?_
                refine j_icmp_ne (A := wr v21) (B := wr x5_3) (tgt := 58) hx hb rfl rfl dX9_greatestPart_51 (by decide) (fun q22 => ?_) (fun q22 => ?_)
                · replace h := (if_neg q22).symm.trans h
                  refine j_iconst hx hb dX9_greatestPart_58 ?_
                  exact hj59_15 _ _ _ _ hP hS (lv_sub hl [0, 1, 2, 3, 4, 5, 7] rfl) h
                · replace h := (if_pos q22).symm.trans h
                  refine j_iconst hx hb dX9_greatestPart_54 ?_
                  refine j_goto (tgt := 59) hx hb dX9_greatestPart_55 (by decide) ?_
                  exact hj59_15 _ _ _ _ hP hS (lv_sub hl [0, 1, 2, 3, 4, 5, 7] rfl) h
        exact hl21_9 N _ _ _ _ _ hP hS (lv_sub hl [2, 3, 4, 5, 6, 7, 1, 0] rfl) h
  exact hl6_1 N _ _ _ _ _ hP hS (lv_sub hl [2, 3, 4, 5, 1, 0] rfl) h
def fX9_here_k38 (N : Nat) : Mm → Option (Int × Mm) := fun μ2 =>
    if wr (gI μ2 332 13) ≤ wr (gI μ2 332 14) then (some ((-1), μ2)) else (Option.bind (ldA μ2 339 240 (gI μ2 332 14)) (fun v4 => some (v4, μ2)))
def fX9_here_l0 (N : Nat) : Nat → Mm → Option (Int × Mm)
  | 0, _ => none
  | n6 + 1, μ7 =>
    if wr (gI μ7 332 13) ≤ wr (gI μ7 332 14) then (fX9_here_k38 N μ7) else (Option.bind (ldA μ7 339 240 (gI μ7 332 14)) (fun v9 => if wr v9 = 32 then (Option.bind (some (pI μ7 332 14 ((gI μ7 332 14) + 1))) (fun μ12 => (fX9_here_l0 N n6) μ12)) else (fX9_here_k38 N μ7)))
def fX9_here (N : Nat) (μ : Mm) : Option (Int × Mm) :=
    fX9_here_l0 N N μ
abbrev rmX9_here : Room := { frames := 0, cells := 0, slots := 0, locals := 0 }
set_option maxHeartbeats 4000000 in
set_option maxRecDepth 100000 in
theorem m_X9_here (l : Launch) (D : va_G) (b : Nat) (cs : CS) (N : Nat) {μ μ0 : Mm} {r : Int} (h : fX9_here N μ = some (r, μ0)) : MI l yX9_here wsX9_here rmX9_here D b cs [jR b 332] μ μ0 r := by
  refine met_in (cc := cX9_here) (maxL := 1) (ret := some .int) (lv0 := [(0, jR b 332)]) (by decide +kernel) rfl (Nat.le_of_ble_eq_true rfl) rfl ?_
  intro p e s m args below meth c hx hb hr hlk hml hown hts hP hK ls hl
  have hown : s.vm.findClass RX9 = some m.cls := hown
  have hS : va_S (bA b) s.heap s.heap [] := va_S.rf
  have hinX9 : ∀ w ∈ u_ws RX9 TX9 27, w ∈ wsX9_here := by decide +kernel
  unfold fX9_here at h
  have hk38_1 : ∀ (μ2 : Mm) (H : Heap) (locs : List Loc) (ls : Array Slot), va_P D vwCl (wl b cs μ2) H → va_S (bA b) s.heap H locs → lv_has ls 1 [(0, jR b 332)] → fX9_here_k38 N μ2 = some (r, μ0) → W p l e rmX9_here s m args below meth c H locs 0 0 (MQ below (QI D b cs μ0 r) args s 0 0 (bA b)) (F0 m 38 ls []) := by
    intro μ2 H locs ls hP hS hl h
    unfold fX9_here_k38 at h
    refine j_aload_n hx hb dX9_here_38 rfl (lv_at hl 0 rfl) ?_
    refine j_get (v := jI (gI μ2 332 14)) hx hb hts hinX9 hown hK hP kz_332 (by decide) rfl 14 (by decide) (hts (.fieldLink RX9 65 "CardBandModel" "at" "I") (by decide +kernel)) rfl (by rw [jI_g]; rfl) dX9_here_39 ?_
    refine j_aload_n hx hb dX9_here_42 rfl (lv_at hl 0 rfl) ?_
    refine j_get (v := jI (gI μ2 332 13)) hx hb hts hinX9 hown hK hP kz_332 (by decide) rfl 13 (by decide) (hts (.fieldLink RX9 61 "CardBandModel" "textSize" "I") (by decide +kernel)) rfl (by rw [jI_g]; rfl) dX9_here_43 ?_
    refine j_icmp_ge (A := wr (gI μ2 332 14)) (B := wr (gI μ2 332 13)) (tgt := 61) hx hb rfl rfl dX9_here_46 (by decide) (fun q3 => ?_) (fun q3 => ?_)
    · replace h := (if_pos q3).symm.trans h
      refine j_iconst hx hb dX9_here_61 ?_
      obtain ⟨e0, e1⟩ := Prod.mk.inj (Option.some.inj h)
      subst e1
      exact j_retI hx hb hK hP hS hr hlk e0 dX9_here_62
    · replace h := (if_neg q3).symm.trans h
      refine j_aload_n hx hb dX9_here_49 rfl (lv_at hl 0 rfl) ?_
      refine j_get (v := jR b 339) hx hb hts hinX9 hown hK hP kz_332 (by decide) rfl 12 (by decide) (hts (.fieldLink RX9 29 "CardBandModel" "text" "[I") (by decide +kernel)) rfl rfl dX9_here_50 ?_
      refine j_aload_n hx hb dX9_here_53 rfl (lv_at hl 0 rfl) ?_
      refine j_get (v := jI (gI μ2 332 14)) hx hb hts hinX9 hown hK hP kz_332 (by decide) rfl 14 (by decide) (hts (.fieldLink RX9 65 "CardBandModel" "at" "I") (by decide +kernel)) rfl (by rw [jI_g]; rfl) dX9_here_54 ?_
      obtain ⟨v4, e5, h⟩ := ob_I h
      refine j_iaload hx hb hK hP kz_339 e5 dX9_here_57 ?_
      refine j_goto (tgt := 62) hx hb dX9_here_58 (by decide) ?_
      obtain ⟨e0, e1⟩ := Prod.mk.inj (Option.some.inj h)
      subst e1
      exact j_retI hx hb hK hP hS hr hlk e0 dX9_here_62
  have hl0_6 : ∀ (n0 : Nat) (μ7 : Mm) (H : Heap) (locs : List Loc) (ls : Array Slot), va_P D vwCl (wl b cs μ7) H → va_S (bA b) s.heap H locs → lv_has ls 1 [(0, jR b 332)] → fX9_here_l0 N n0 μ7 = some (r, μ0) → W p l e rmX9_here s m args below meth c H locs 0 0 (MQ below (QI D b cs μ0 r) args s 0 0 (bA b)) (F0 m 0 ls []) := by
    intro n0
    induction n0 with
    | zero => intro μ7 H locs ls hP hS hl h; rw [fX9_here_l0] at h; cases h
    | succ n6 ih0_6 =>
      intro μ7 H locs ls hP hS hl h
      rw [fX9_here_l0] at h
      refine j_aload_n hx hb dX9_here_0 rfl (lv_at hl 0 rfl) ?_
      refine j_get (v := jI (gI μ7 332 14)) hx hb hts hinX9 hown hK hP kz_332 (by decide) rfl 14 (by decide) (hts (.fieldLink RX9 65 "CardBandModel" "at" "I") (by decide +kernel)) rfl (by rw [jI_g]; rfl) dX9_here_1 ?_
      refine j_aload_n hx hb dX9_here_4 rfl (lv_at hl 0 rfl) ?_
      refine j_get (v := jI (gI μ7 332 13)) hx hb hts hinX9 hown hK hP kz_332 (by decide) rfl 13 (by decide) (hts (.fieldLink RX9 61 "CardBandModel" "textSize" "I") (by decide +kernel)) rfl (by rw [jI_g]; rfl) dX9_here_5 ?_
      refine j_icmp_ge (A := wr (gI μ7 332 14)) (B := wr (gI μ7 332 13)) (tgt := 38) hx hb rfl rfl dX9_here_8 (by decide) (fun q8 => ?_) (fun q8 => ?_)
      · replace h := (if_pos q8).symm.trans h
        exact hk38_1 _ _ _ _ hP hS (lv_sub hl [0] rfl) h
      · replace h := (if_neg q8).symm.trans h
        refine j_aload_n hx hb dX9_here_11 rfl (lv_at hl 0 rfl) ?_
        refine j_get (v := jR b 339) hx hb hts hinX9 hown hK hP kz_332 (by decide) rfl 12 (by decide) (hts (.fieldLink RX9 29 "CardBandModel" "text" "[I") (by decide +kernel)) rfl rfl dX9_here_12 ?_
        refine j_aload_n hx hb dX9_here_15 rfl (lv_at hl 0 rfl) ?_
        refine j_get (v := jI (gI μ7 332 14)) hx hb hts hinX9 hown hK hP kz_332 (by decide) rfl 14 (by decide) (hts (.fieldLink RX9 65 "CardBandModel" "at" "I") (by decide +kernel)) rfl (by rw [jI_g]; rfl) dX9_here_16 ?_
        obtain ⟨v9, e10, h⟩ := ob_I h
        refine j_iaload hx hb hK hP kz_339 e10 dX9_here_19 ?_
        refine j_bipush hx hb dX9_here_20 (by decide) ?_
        refine j_icmp_ne (A := wr v9) (B := 32) (tgt := 38) hx hb rfl (by decide) dX9_here_22 (by decide) (fun q11 => ?_) (fun q11 => ?_)
        · replace h := (if_neg q11).symm.trans h
          exact hk38_1 _ _ _ _ hP hS (lv_sub hl [0] rfl) h
        · replace h := (if_pos q11).symm.trans h
          refine j_aload_n hx hb dX9_here_25 rfl (lv_at hl 0 rfl) ?_
          refine j_dup hx hb dX9_here_26 rfl ?_
          refine j_get (v := jI (gI μ7 332 14)) hx hb hts hinX9 hown hK hP kz_332 (by decide) rfl 14 (by decide) (hts (.fieldLink RX9 65 "CardBandModel" "at" "I") (by decide +kernel)) rfl (by rw [jI_g]; rfl) dX9_here_27 ?_
          refine j_iconst hx hb dX9_here_30 ?_
          refine j_iadd hx hb dX9_here_31 ?_
          obtain ⟨μ12, e13, h⟩ := ob_I h
          refine j_put (ty := .int) (z := ((gI μ7 332 14) + 1)) hx hb hts hinX9 tyX9 tyX9_ok nmX9 hown hK hP hS kz_332 (by decide) rfl 14 (by decide) (hts (.fieldLink RX9 65 "CardBandModel" "at" "I") (by decide +kernel)) rfl rfl (by decide +kernel) rfl rfl (by simp [flds]) rfl dX9_here_32 (Option.some.inj e13) (fun H locs hP hS => ?_)
          refine j_goto (tgt := 0) hx hb dX9_here_35 (by decide) ?_
          exact ih0_6 _ _ _ _ hP hS (lv_sub hl [0] rfl) h
  exact hl0_6 N _ _ _ _ hP hS (lv_sub hl [0] rfl) h
def fX9_holesOf_k79 (N : Nat) (μ : Mm) (x2_2 : Int) (x3_3 : Int) (rec4_1 : Int → Int → Option (Int)) : Int → Option (Int) := fun x4_6 =>
    Option.bind (fX9_one N x4_6 μ) (fun v8 => rec4_1 (orI x2_2 (shlI v8 x3_3)) (x3_3 + 1))
def fX9_holesOf_l15 (N : Nat) (y1 : Int) (μ : Mm) (x2_2 : Int) (x3_3 : Int) (rec4_1 : Int → Int → Option (Int)) : Nat → Int → Int → Option (Int)
  | 0, _, _ => none
  | n9 + 1, x4_10, x5_11 =>
    if wr (gI μ 332 23) ≤ wr x5_11 then (fX9_holesOf_k79 N μ x2_2 x3_3 rec4_1 x4_10) else (if wr x4_10 = 0 then ((fX9_holesOf_l15 N y1 μ x2_2 x3_3 rec4_1 n9) 0 (x5_11 + 1)) else (Option.bind (ldA μ 341 8 x5_11) (fun v14 => if wr v14 = wr y1 then (Option.bind (ldA μ 342 8 x5_11) (fun v17 => Option.bind (fX9_colourOf N y1 ((x3_3 + v17) - 1) μ) (fun v20 => Option.bind (ldA μ 343 8 x5_11) (fun v21 => if wr v20 = wr v21 then ((fX9_holesOf_l15 N y1 μ x2_2 x3_3 rec4_1 n9) 1 (x5_11 + 1)) else ((fX9_holesOf_l15 N y1 μ x2_2 x3_3 rec4_1 n9) 0 (x5_11 + 1)))))) else ((fX9_holesOf_l15 N y1 μ x2_2 x3_3 rec4_1 n9) 1 (x5_11 + 1)))))
def fX9_holesOf_l4 (N : Nat) (y1 : Int) (μ : Mm) : Nat → Int → Int → Option (Int)
  | 0, _, _ => none
  | n1 + 1, x2_2, x3_3 =>
    if 4 ≤ wr x3_3 then (some x2_2) else (fX9_holesOf_l15 N y1 μ x2_2 x3_3 (fX9_holesOf_l4 N y1 μ n1) N 1 0)
def fX9_holesOf (N : Nat) (y1 : Int) (μ : Mm) : Option (Int) :=
    fX9_holesOf_l4 N y1 μ N 0 0
abbrev rmX9_holesOf : Room := { frames := 1, cells := 0, slots := 0, locals := 22 }
set_option maxHeartbeats 4000000 in
set_option maxRecDepth 100000 in
theorem m_X9_holesOf (l : Launch) (D : va_G) (b : Nat) (cs : CS) (N : Nat) {μ : Mm} {y1 : Int} {r : Int} (h : fX9_holesOf N y1 μ = some r) : MI l yX9_holesOf wsX9_holesOf rmX9_holesOf D b cs [jR b 332, jI y1] μ μ r := by
  refine met_in (cc := cX9_holesOf) (maxL := 6) (ret := some .int) (lv0 := [(0, jR b 332), (1, jI y1)]) (by decide +kernel) rfl (Nat.le_of_ble_eq_true rfl) rfl ?_
  intro p e s m args below meth c hx hb hr hlk hml hown hts hP hK ls hl
  have hown : s.vm.findClass RX9 = some m.cls := hown
  have hS : va_S (bA b) s.heap s.heap [] := va_S.rf
  have hinX9 : ∀ w ∈ u_ws RX9 TX9 27, w ∈ wsX9_holesOf := by decide +kernel
  unfold fX9_holesOf at h
  refine j_iconst hx hb dX9_holesOf_0 ?_
  refine j_istore_n (lv2 := [(2, jI 0), (0, jR b 332), (1, jI y1)]) hx hb dX9_holesOf_1 rfl hl (by decide) rfl (fun ls hl => ?_)
  refine j_iconst hx hb dX9_holesOf_2 ?_
  refine j_istore_n (lv2 := [(3, jI 0), (2, jI 0), (0, jR b 332), (1, jI y1)]) hx hb dX9_holesOf_3 rfl hl (by decide) rfl (fun ls hl => ?_)
  have hl4_1 : ∀ (n0 : Nat) (x2_2 : Int) (x3_3 : Int) (H : Heap) (locs : List Loc) (ls : Array Slot), va_P D vwCl (wl b cs μ) H → va_S (bA b) s.heap H locs → lv_has ls 6 [(0, jR b 332), (1, jI y1), (2, jI x2_2), (3, jI x3_3)] → fX9_holesOf_l4 N y1 μ n0 x2_2 x3_3 = some r → W p l e rmX9_holesOf s m args below meth c H locs 0 0 (MQ below (QI D b cs μ r) args s 0 0 (bA b)) (F0 m 4 ls []) := by
    intro n0
    induction n0 with
    | zero => intro x2_2 x3_3 H locs ls hP hS hl h; rw [fX9_holesOf_l4] at h; cases h
    | succ n1 ih4_1 =>
      intro x2_2 x3_3 H locs ls hP hS hl h
      rw [fX9_holesOf_l4] at h
      refine j_iload_n hx hb dX9_holesOf_4 rfl (lv_at hl 3 rfl) ?_
      refine j_iconst hx hb dX9_holesOf_5 ?_
      refine j_icmp_ge (A := wr x3_3) (B := 4) (tgt := 95) hx hb rfl (by decide) dX9_holesOf_6 (by decide) (fun q4 => ?_) (fun q4 => ?_)
      · replace h := (if_pos q4).symm.trans h
        refine j_iload_n hx hb dX9_holesOf_95 rfl (lv_at hl 2 rfl) ?_
        exact j_retI hx hb hK hP hS hr hlk (Option.some.inj h) dX9_holesOf_96
      · replace h := (if_neg q4).symm.trans h
        refine j_iconst hx hb dX9_holesOf_9 ?_
        refine j_istore (lv2 := [(4, jI 1), (0, jR b 332), (1, jI y1), (2, jI x2_2), (3, jI x3_3)]) hx hb dX9_holesOf_10 hl (by decide) rfl (fun ls hl => ?_)
        refine j_iconst hx hb dX9_holesOf_12 ?_
        refine j_istore (lv2 := [(5, jI 0), (4, jI 1), (0, jR b 332), (1, jI y1), (2, jI x2_2), (3, jI x3_3)]) hx hb dX9_holesOf_13 hl (by decide) rfl (fun ls hl => ?_)
        have hk79_5 : ∀ (x4_6 : Int) (H : Heap) (locs : List Loc) (ls : Array Slot), va_P D vwCl (wl b cs μ) H → va_S (bA b) s.heap H locs → lv_has ls 6 [(0, jR b 332), (1, jI y1), (2, jI x2_2), (3, jI x3_3), (4, jI x4_6)] → fX9_holesOf_k79 N μ x2_2 x3_3 (fX9_holesOf_l4 N y1 μ n1) x4_6 = some r → W p l e rmX9_holesOf s m args below meth c H locs 0 0 (MQ below (QI D b cs μ r) args s 0 0 (bA b)) (F0 m 79 ls []) := by
          intro x4_6 H locs ls hP hS hl h
          unfold fX9_holesOf_k79 at h
          refine j_iload_n hx hb dX9_holesOf_79 rfl (lv_at hl 2 rfl) ?_
          refine j_iload hx hb dX9_holesOf_80 (lv_at hl 4 rfl) ?_
          obtain ⟨v8, e7, h⟩ := ob_I h
          refine jc_SI (As := [jI x4_6]) (rest := [jI x2_2]) ⟨hx, hb, hml, hown, hts⟩ hK hP hS (m_X9_one l D b cs N e7) (va_cwS 1 hts gX9_holesOf_X9_one rfl rfl rfl (by decide +kernel) ⟨Nat.le_of_ble_eq_true rfl, Nat.le_of_ble_eq_true rfl⟩) rfl hl.1 rfl (Nat.le_of_ble_eq_true rfl) dX9_holesOf_82 ⟨Nat.zero_le _, Nat.zero_le _⟩ (fun H locs hP hS => ?_)
          refine j_iload_n hx hb dX9_holesOf_85 rfl (lv_at hl 3 rfl) ?_
          refine j_ishl hx hb dX9_holesOf_86 ?_
          refine j_ior hx hb dX9_holesOf_87 ?_
          refine j_istore_n (lv2 := [(2, jI (orI x2_2 (shlI v8 x3_3))), (0, jR b 332), (1, jI y1), (3, jI x3_3), (4, jI x4_6)]) hx hb dX9_holesOf_88 rfl hl (by decide) rfl (fun ls hl => ?_)
          refine j_iinc (k := 3) (lv2 := [(3, jI (x3_3 + 1)), (2, jI (orI x2_2 (shlI v8 x3_3))), (0, jR b 332), (1, jI y1), (4, jI x4_6)]) hx hb dX9_holesOf_89 hl rfl (by decide) rfl (fun ls hl => ?_)
          refine j_goto (tgt := 4) hx hb dX9_holesOf_92 (by decide) ?_
          exact ih4_1 _ _ _ _ _ hP hS (lv_sub hl [2, 3, 1, 0] rfl) h
        have hl15_9 : ∀ (n0 : Nat) (x4_10 : Int) (x5_11 : Int) (H : Heap) (locs : List Loc) (ls : Array Slot), va_P D vwCl (wl b cs μ) H → va_S (bA b) s.heap H locs → lv_has ls 6 [(0, jR b 332), (1, jI y1), (2, jI x2_2), (3, jI x3_3), (4, jI x4_10), (5, jI x5_11)] → fX9_holesOf_l15 N y1 μ x2_2 x3_3 (fX9_holesOf_l4 N y1 μ n1) n0 x4_10 x5_11 = some r → W p l e rmX9_holesOf s m args below meth c H locs 0 0 (MQ below (QI D b cs μ r) args s 0 0 (bA b)) (F0 m 15 ls []) := by
          intro n0
          induction n0 with
          | zero => intro x4_10 x5_11 H locs ls hP hS hl h; rw [fX9_holesOf_l15] at h; cases h
          | succ n9 ih15_9 =>
            intro x4_10 x5_11 H locs ls hP hS hl h
            rw [fX9_holesOf_l15] at h
            refine j_iload hx hb dX9_holesOf_15 (lv_at hl 5 rfl) ?_
            refine j_aload_n hx hb dX9_holesOf_17 rfl (lv_at hl 0 rfl) ?_
            refine j_get (v := jI (gI μ 332 23)) hx hb hts hinX9 hown hK hP kz_332 (by decide) rfl 23 (by decide) (hts (.fieldLink RX9 131 "CardBandModel" "seen" "I") (by decide +kernel)) rfl (by rw [jI_g]; rfl) dX9_holesOf_18 ?_
            refine j_icmp_ge (A := wr x5_11) (B := wr (gI μ 332 23)) (tgt := 79) hx hb rfl rfl dX9_holesOf_21 (by decide) (fun q12 => ?_) (fun q12 => ?_)
            · replace h := (if_pos q12).symm.trans h
              exact hk79_5 _ _ _ _ hP hS (lv_sub hl [0, 1, 2, 3, 4] rfl) h
            · replace h := (if_neg q12).symm.trans h
              refine j_iload hx hb dX9_holesOf_24 (lv_at hl 4 rfl) ?_
              refine j_if_eq (A := wr x4_10) (tgt := 70) hx hb rfl dX9_holesOf_26 (by decide) (fun q13 => ?_) (fun q13 => ?_)
              · replace h := (if_pos q13).symm.trans h
                refine j_iconst hx hb dX9_holesOf_70 ?_
                refine j_istore (lv2 := [(4, jI 0), (0, jR b 332), (1, jI y1), (2, jI x2_2), (3, jI x3_3), (5, jI x5_11)]) hx hb dX9_holesOf_71 hl (by decide) rfl (fun ls hl => ?_)
                refine j_iinc (k := 5) (lv2 := [(5, jI (x5_11 + 1)), (4, jI 0), (0, jR b 332), (1, jI y1), (2, jI x2_2), (3, jI x3_3)]) hx hb dX9_holesOf_73 hl rfl (by decide) rfl (fun ls hl => ?_)
                refine j_goto (tgt := 15) hx hb dX9_holesOf_76 (by decide) ?_
                exact ih15_9 _ _ _ _ _ hP hS (lv_sub hl [2, 3, 4, 5, 1, 0] rfl) h
              · replace h := (if_neg q13).symm.trans h
                refine j_aload_n hx hb dX9_holesOf_29 rfl (lv_at hl 0 rfl) ?_
                refine j_get (v := jR b 341) hx hb hts hinX9 hown hK hP kz_332 (by decide) rfl 20 (by decide) (hts (.fieldLink RX9 39 "CardBandModel" "seenCard" "[I") (by decide +kernel)) rfl rfl dX9_holesOf_30 ?_
                refine j_iload hx hb dX9_holesOf_33 (lv_at hl 5 rfl) ?_
                obtain ⟨v14, e15, h⟩ := ob_I h
                refine j_iaload hx hb hK hP kz_341 e15 dX9_holesOf_35 ?_
                refine j_iload_n hx hb dX9_holesOf_36 rfl (lv_at hl 1 rfl) ?_
                refine j_icmp_ne (A := wr v14) (B := wr y1) (tgt := 66) hx hb rfl rfl dX9_holesOf_37 (by decide) (fun q16 => ?_) (fun q16 => ?_)
                · replace h := (if_neg q16).symm.trans h
                  refine j_iconst hx hb dX9_holesOf_66 ?_
                  refine j_goto (tgt := 71) hx hb dX9_holesOf_67 (by decide) ?_
                  refine j_istore (lv2 := [(4, jI 1), (0, jR b 332), (1, jI y1), (2, jI x2_2), (3, jI x3_3), (5, jI x5_11)]) hx hb dX9_holesOf_71 hl (by decide) rfl (fun ls hl => ?_)
                  refine j_iinc (k := 5) (lv2 := [(5, jI (x5_11 + 1)), (4, jI 1), (0, jR b 332), (1, jI y1), (2, jI x2_2), (3, jI x3_3)]) hx hb dX9_holesOf_73 hl rfl (by decide) rfl (fun ls hl => ?_)
                  refine j_goto (tgt := 15) hx hb dX9_holesOf_76 (by decide) ?_
                  exact ih15_9 _ _ _ _ _ hP hS (lv_sub hl [2, 3, 4, 5, 1, 0] rfl) h
                · replace h := (if_pos q16).symm.trans h
                  refine j_aload_n hx hb dX9_holesOf_40 rfl (lv_at hl 0 rfl) ?_
                  refine j_iload_n hx hb dX9_holesOf_41 rfl (lv_at hl 1 rfl) ?_
                  refine j_iload_n hx hb dX9_holesOf_42 rfl (lv_at hl 3 rfl) ?_
                  refine j_aload_n hx hb dX9_holesOf_43 rfl (lv_at hl 0 rfl) ?_
                  refine j_get (v := jR b 342) hx hb hts hinX9 hown hK hP kz_332 (by decide) rfl 21 (by decide) (hts (.fieldLink RX9 42 "CardBandModel" "seenTurns" "[I") (by decide +kernel)) rfl rfl dX9_holesOf_44 ?_
                  refine j_iload hx hb dX9_holesOf_47 (lv_at hl 5 rfl) ?_
                  obtain ⟨v17, e18, h⟩ := ob_I h
                  refine j_iaload hx hb hK hP kz_342 e18 dX9_holesOf_49 ?_
                  refine j_iadd hx hb dX9_holesOf_50 ?_
                  refine j_iconst hx hb dX9_holesOf_51 ?_
                  refine j_isub hx hb dX9_holesOf_52 ?_
                  obtain ⟨v20, e19, h⟩ := ob_I h
                  refine jc_VI (As := [jI y1, jI ((x3_3 + v17) - 1)]) (rest := []) ⟨hx, hb, hml, hown, hts⟩ hK hP hS (m_X9_colourOf l D b cs N e19) (cwV 2 hts gX9_holesOf_X9_colourOf rfl rfl rfl (by decide +kernel) ⟨Nat.le_of_ble_eq_true rfl, Nat.le_of_ble_eq_true rfl⟩) kz_332 (by decide) rfl rfl hl.1 rfl (Nat.le_of_ble_eq_true rfl) dX9_holesOf_53 ⟨Nat.zero_le _, Nat.zero_le _⟩ (fun H locs hP hS => ?_)
                  refine j_aload_n hx hb dX9_holesOf_56 rfl (lv_at hl 0 rfl) ?_
                  refine j_get (v := jR b 343) hx hb hts hinX9 hown hK hP kz_332 (by decide) rfl 22 (by decide) (hts (.fieldLink RX9 45 "CardBandModel" "seenColour" "[I") (by decide +kernel)) rfl rfl dX9_holesOf_57 ?_
                  refine j_iload hx hb dX9_holesOf_60 (lv_at hl 5 rfl) ?_
                  obtain ⟨v21, e22, h⟩ := ob_I h
                  refine j_iaload hx hb hK hP kz_343 e22 dX9_holesOf_62 ?_
                  refine j_icmp_ne (A := wr v20) (B := wr v21) (tgt := 70) hx hb rfl rfl dX9_holesOf_63 (by decide) (fun q23 => ?_) (fun q23 => ?_)
                  · replace h := (if_neg q23).symm.trans h
                    refine j_iconst hx hb dX9_holesOf_70 ?_
                    refine j_istore (lv2 := [(4, jI 0), (0, jR b 332), (1, jI y1), (2, jI x2_2), (3, jI x3_3), (5, jI x5_11)]) hx hb dX9_holesOf_71 hl (by decide) rfl (fun ls hl => ?_)
                    refine j_iinc (k := 5) (lv2 := [(5, jI (x5_11 + 1)), (4, jI 0), (0, jR b 332), (1, jI y1), (2, jI x2_2), (3, jI x3_3)]) hx hb dX9_holesOf_73 hl rfl (by decide) rfl (fun ls hl => ?_)
                    refine j_goto (tgt := 15) hx hb dX9_holesOf_76 (by decide) ?_
                    exact ih15_9 _ _ _ _ _ hP hS (lv_sub hl [2, 3, 4, 5, 1, 0] rfl) h
                  · replace h := (if_pos q23).symm.trans h
                    refine j_iconst hx hb dX9_holesOf_66 ?_
                    refine j_goto (tgt := 71) hx hb dX9_holesOf_67 (by decide) ?_
                    refine j_istore (lv2 := [(4, jI 1), (0, jR b 332), (1, jI y1), (2, jI x2_2), (3, jI x3_3), (5, jI x5_11)]) hx hb dX9_holesOf_71 hl (by decide) rfl (fun ls hl => ?_)
                    refine j_iinc (k := 5) (lv2 := [(5, jI (x5_11 + 1)), (4, jI 1), (0, jR b 332), (1, jI y1), (2, jI x2_2), (3, jI x3_3)]) hx hb dX9_holesOf_73 hl rfl (by decide) rfl (fun ls hl => ?_)
                    refine j_goto (tgt := 15) hx hb dX9_holesOf_76 (by decide) ?_
                    exact ih15_9 _ _ _ _ _ hP hS (lv_sub hl [2, 3, 4, 5, 1, 0] rfl) h
        exact hl15_9 N _ _ _ _ _ hP hS (lv_sub hl [2, 3, 4, 5, 1, 0] rfl) h
  exact hl4_1 N _ _ _ _ _ hP hS (lv_sub hl [2, 3, 1, 0] rfl) h
def fX9_holes (N : Nat) (y1 : Int) (μ : Mm) : Option (Int) :=
    Option.bind (fX9_isCard N y1 μ) (fun v2 => if wr v2 = 0 then (some (-1000000001)) else (Option.bind (fX9_holesOf N y1 μ) (fun v5 => some v5)))
abbrev rmX9_holes : Room := { frames := 2, cells := 0, slots := 0, locals := 47 }
set_option maxHeartbeats 4000000 in
set_option maxRecDepth 100000 in
theorem m_X9_holes (l : Launch) (D : va_G) (b : Nat) (cs : CS) (N : Nat) {μ : Mm} {y1 : Int} {r : Int} (h : fX9_holes N y1 μ = some r) : MI l yX9_holes wsX9_holes rmX9_holes D b cs [jR b 332, jI y1] μ μ r := by
  refine met_in (cc := cX9_holes) (maxL := 2) (ret := some .int) (lv0 := [(0, jR b 332), (1, jI y1)]) (by decide +kernel) rfl (Nat.le_of_ble_eq_true rfl) rfl ?_
  intro p e s m args below meth c hx hb hr hlk hml hown hts hP hK ls hl
  have hown : s.vm.findClass RX9 = some m.cls := hown
  have hS : va_S (bA b) s.heap s.heap [] := va_S.rf
  unfold fX9_holes at h
  refine j_aload_n hx hb dX9_holes_0 rfl (lv_at hl 0 rfl) ?_
  refine j_iload_n hx hb dX9_holes_1 rfl (lv_at hl 1 rfl) ?_
  obtain ⟨v2, e1, h⟩ := ob_I h
  refine jc_VI (As := [jI y1]) (rest := []) ⟨hx, hb, hml, hown, hts⟩ hK hP hS (m_X9_isCard l D b cs N e1) (cwV 1 hts gX9_holes_X9_isCard rfl rfl rfl (by decide +kernel) ⟨Nat.le_of_ble_eq_true rfl, Nat.le_of_ble_eq_true rfl⟩) kz_332 (by decide) rfl rfl hl.1 rfl (Nat.le_of_ble_eq_true rfl) dX9_holes_2 ⟨Nat.zero_le _, Nat.zero_le _⟩ (fun H locs hP hS => ?_)
  refine j_if_eq (A := wr v2) (tgt := 16) hx hb rfl dX9_holes_5 (by decide) (fun q3 => ?_) (fun q3 => ?_)
  · replace h := (if_pos q3).symm.trans h
    refine j_ldc (n := (-1000000001)) hx hb hown (hts (.constant RX9 183 (-1000000001)) (by decide +kernel)) (by decide) dX9_holes_16 ?_
    exact j_retI hx hb hK hP hS hr hlk (Option.some.inj h) dX9_holes_18
  · replace h := (if_neg q3).symm.trans h
    refine j_aload_n hx hb dX9_holes_8 rfl (lv_at hl 0 rfl) ?_
    refine j_iload_n hx hb dX9_holes_9 rfl (lv_at hl 1 rfl) ?_
    obtain ⟨v5, e4, h⟩ := ob_I h
    refine jc_VI (As := [jI y1]) (rest := []) ⟨hx, hb, hml, hown, hts⟩ hK hP hS (m_X9_holesOf l D b cs N e4) (cwV 1 hts gX9_holes_X9_holesOf rfl rfl rfl (by decide +kernel) ⟨Nat.le_of_ble_eq_true rfl, Nat.le_of_ble_eq_true rfl⟩) kz_332 (by decide) rfl rfl hl.1 rfl (Nat.le_of_ble_eq_true rfl) dX9_holes_10 ⟨Nat.zero_le _, Nat.zero_le _⟩ (fun H locs hP hS => ?_)
    refine j_goto (tgt := 18) hx hb dX9_holes_13 (by decide) ?_
    exact j_retI hx hb hK hP hS hr hlk (Option.some.inj h) dX9_holes_18
def fX9_standsAlike_l4 (N : Nat) (y1 : Int) (μ : Mm) : Nat → Int → Int → Option (Int)
  | 0, _, _ => none
  | n1 + 1, x2_2, x3_3 =>
    if wr (gI μ 332 6) ≤ wr x3_3 then (gd (decide (x2_2 = 0 ∨ x2_2 = 1)) (some x2_2)) else (if wr x2_2 = 0 then ((fX9_standsAlike_l4 N y1 μ n1) 0 (x3_3 + 1)) else (Option.bind (ldA μ 337 8 y1) (fun v7 => Option.bind (fX9_has N v7 x3_3 μ) (fun v10 => if wr v10 = 0 then ((fX9_standsAlike_l4 N y1 μ n1) 1 (x3_3 + 1)) else (Option.bind (ldA μ 333 8262 x3_3) (fun v12 => Option.bind (fX9_firstOf N y1 μ) (fun v15 => Option.bind (ldA μ 333 8262 v15) (fun v16 => if wr v12 = wr v16 then ((fX9_standsAlike_l4 N y1 μ n1) 1 (x3_3 + 1)) else ((fX9_standsAlike_l4 N y1 μ n1) 0 (x3_3 + 1))))))))))
def fX9_standsAlike (N : Nat) (y1 : Int) (μ : Mm) : Option (Int) :=
    fX9_standsAlike_l4 N y1 μ N 1 0
abbrev rmX9_standsAlike : Room := { frames := 2, cells := 0, slots := 0, locals := 43 }
set_option maxHeartbeats 4000000 in
set_option maxRecDepth 100000 in
theorem m_X9_standsAlike (l : Launch) (D : va_G) (b : Nat) (cs : CS) (N : Nat) {μ : Mm} {y1 : Int} {r : Int} (h : fX9_standsAlike N y1 μ = some r) : MI l yX9_standsAlike wsX9_standsAlike rmX9_standsAlike D b cs [jR b 332, jI y1] μ μ r := by
  refine met_in (cc := cX9_standsAlike) (maxL := 4) (ret := some .boolean) (lv0 := [(0, jR b 332), (1, jI y1)]) (by decide +kernel) rfl (Nat.le_of_ble_eq_true rfl) rfl ?_
  intro p e s m args below meth c hx hb hr hlk hml hown hts hP hK ls hl
  have hown : s.vm.findClass RX9 = some m.cls := hown
  have hS : va_S (bA b) s.heap s.heap [] := va_S.rf
  have hinX9 : ∀ w ∈ u_ws RX9 TX9 27, w ∈ wsX9_standsAlike := by decide +kernel
  unfold fX9_standsAlike at h
  refine j_iconst hx hb dX9_standsAlike_0 ?_
  refine j_istore_n (lv2 := [(2, jI 1), (0, jR b 332), (1, jI y1)]) hx hb dX9_standsAlike_1 rfl hl (by decide) rfl (fun ls hl => ?_)
  refine j_iconst hx hb dX9_standsAlike_2 ?_
  refine j_istore_n (lv2 := [(3, jI 0), (2, jI 1), (0, jR b 332), (1, jI y1)]) hx hb dX9_standsAlike_3 rfl hl (by decide) rfl (fun ls hl => ?_)
  have hl4_1 : ∀ (n0 : Nat) (x2_2 : Int) (x3_3 : Int) (H : Heap) (locs : List Loc) (ls : Array Slot), va_P D vwCl (wl b cs μ) H → va_S (bA b) s.heap H locs → lv_has ls 4 [(0, jR b 332), (1, jI y1), (2, jI x2_2), (3, jI x3_3)] → fX9_standsAlike_l4 N y1 μ n0 x2_2 x3_3 = some r → W p l e rmX9_standsAlike s m args below meth c H locs 0 0 (MQ below (QI D b cs μ r) args s 0 0 (bA b)) (F0 m 4 ls []) := by
    intro n0
    induction n0 with
    | zero => intro x2_2 x3_3 H locs ls hP hS hl h; rw [fX9_standsAlike_l4] at h; cases h
    | succ n1 ih4_1 =>
      intro x2_2 x3_3 H locs ls hP hS hl h
      rw [fX9_standsAlike_l4] at h
      refine j_iload_n hx hb dX9_standsAlike_4 rfl (lv_at hl 3 rfl) ?_
      refine j_aload_n hx hb dX9_standsAlike_5 rfl (lv_at hl 0 rfl) ?_
      refine j_get (v := jI (gI μ 332 6)) hx hb hts hinX9 hown hK hP kz_332 (by decide) rfl 6 (by decide) (hts (.fieldLink RX9 122 "CardBandModel" "cards" "I") (by decide +kernel)) rfl (by rw [jI_g]; rfl) dX9_standsAlike_6 ?_
      refine j_icmp_ge (A := wr x3_3) (B := wr (gI μ 332 6)) (tgt := 60) hx hb rfl rfl dX9_standsAlike_9 (by decide) (fun q4 => ?_) (fun q4 => ?_)
      · replace h := (if_pos q4).symm.trans h
        refine j_iload_n hx hb dX9_standsAlike_60 rfl (lv_at hl 2 rfl) ?_
        obtain ⟨g5, h⟩ := ob_g h
        replace g5 := of_decide_eq_true g5
        exact j_retZ hx hb hK hP hS hr hlk g5 (Option.some.inj h) dX9_standsAlike_61
      · replace h := (if_neg q4).symm.trans h
        refine j_iload_n hx hb dX9_standsAlike_12 rfl (lv_at hl 2 rfl) ?_
        refine j_if_eq (A := wr x2_2) (tgt := 52) hx hb rfl dX9_standsAlike_13 (by decide) (fun q6 => ?_) (fun q6 => ?_)
        · replace h := (if_pos q6).symm.trans h
          refine j_iconst hx hb dX9_standsAlike_52 ?_
          refine j_istore_n (lv2 := [(2, jI 0), (0, jR b 332), (1, jI y1), (3, jI x3_3)]) hx hb dX9_standsAlike_53 rfl hl (by decide) rfl (fun ls hl => ?_)
          refine j_iinc (k := 3) (lv2 := [(3, jI (x3_3 + 1)), (2, jI 0), (0, jR b 332), (1, jI y1)]) hx hb dX9_standsAlike_54 hl rfl (by decide) rfl (fun ls hl => ?_)
          refine j_goto (tgt := 4) hx hb dX9_standsAlike_57 (by decide) ?_
          exact ih4_1 _ _ _ _ _ hP hS (lv_sub hl [2, 3, 1, 0] rfl) h
        · replace h := (if_neg q6).symm.trans h
          refine j_aload_n hx hb dX9_standsAlike_16 rfl (lv_at hl 0 rfl) ?_
          refine j_get (v := jR b 337) hx hb hts hinX9 hown hK hP kz_332 (by decide) rfl 8 (by decide) (hts (.fieldLink RX9 23 "CardBandModel" "pack" "[I") (by decide +kernel)) rfl rfl dX9_standsAlike_17 ?_
          refine j_iload_n hx hb dX9_standsAlike_20 rfl (lv_at hl 1 rfl) ?_
          obtain ⟨v7, e8, h⟩ := ob_I h
          refine j_iaload hx hb hK hP kz_337 e8 dX9_standsAlike_21 ?_
          refine j_iload_n hx hb dX9_standsAlike_22 rfl (lv_at hl 3 rfl) ?_
          obtain ⟨v10, e9, h⟩ := ob_I h
          refine jc_SI (As := [jI v7, jI x3_3]) (rest := []) ⟨hx, hb, hml, hown, hts⟩ hK hP hS (m_X9_has l D b cs N e9) (va_cwS 2 hts gX9_standsAlike_X9_has rfl rfl rfl (by decide +kernel) ⟨Nat.le_of_ble_eq_true rfl, Nat.le_of_ble_eq_true rfl⟩) rfl hl.1 rfl (Nat.le_of_ble_eq_true rfl) dX9_standsAlike_23 ⟨Nat.zero_le _, Nat.zero_le _⟩ (fun H locs hP hS => ?_)
          refine j_if_eq (A := wr v10) (tgt := 48) hx hb rfl dX9_standsAlike_26 (by decide) (fun q11 => ?_) (fun q11 => ?_)
          · replace h := (if_pos q11).symm.trans h
            refine j_iconst hx hb dX9_standsAlike_48 ?_
            refine j_goto (tgt := 53) hx hb dX9_standsAlike_49 (by decide) ?_
            refine j_istore_n (lv2 := [(2, jI 1), (0, jR b 332), (1, jI y1), (3, jI x3_3)]) hx hb dX9_standsAlike_53 rfl hl (by decide) rfl (fun ls hl => ?_)
            refine j_iinc (k := 3) (lv2 := [(3, jI (x3_3 + 1)), (2, jI 1), (0, jR b 332), (1, jI y1)]) hx hb dX9_standsAlike_54 hl rfl (by decide) rfl (fun ls hl => ?_)
            refine j_goto (tgt := 4) hx hb dX9_standsAlike_57 (by decide) ?_
            exact ih4_1 _ _ _ _ _ hP hS (lv_sub hl [2, 3, 1, 0] rfl) h
          · replace h := (if_neg q11).symm.trans h
            refine j_aload_n hx hb dX9_standsAlike_29 rfl (lv_at hl 0 rfl) ?_
            refine j_get (v := jR b 333) hx hb hts hinX9 hown hK hP kz_332 (by decide) rfl 0 (by decide) (hts (.fieldLink RX9 7 "CardBandModel" "w" "[I") (by decide +kernel)) rfl rfl dX9_standsAlike_30 ?_
            refine j_iload_n hx hb dX9_standsAlike_33 rfl (lv_at hl 3 rfl) ?_
            obtain ⟨v12, e13, h⟩ := ob_I h
            refine j_iaload hx hb hK hP kz_333 e13 dX9_standsAlike_34 ?_
            refine j_aload_n hx hb dX9_standsAlike_35 rfl (lv_at hl 0 rfl) ?_
            refine j_get (v := jR b 333) hx hb hts hinX9 hown hK hP kz_332 (by decide) rfl 0 (by decide) (hts (.fieldLink RX9 7 "CardBandModel" "w" "[I") (by decide +kernel)) rfl rfl dX9_standsAlike_36 ?_
            refine j_aload_n hx hb dX9_standsAlike_39 rfl (lv_at hl 0 rfl) ?_
            refine j_iload_n hx hb dX9_standsAlike_40 rfl (lv_at hl 1 rfl) ?_
            obtain ⟨v15, e14, h⟩ := ob_I h
            refine jc_VI (As := [jI y1]) (rest := [jR b 333, jI v12]) ⟨hx, hb, hml, hown, hts⟩ hK hP hS (m_X9_firstOf l D b cs N e14) (cwV 1 hts gX9_standsAlike_X9_firstOf rfl rfl rfl (by decide +kernel) ⟨Nat.le_of_ble_eq_true rfl, Nat.le_of_ble_eq_true rfl⟩) kz_332 (by decide) rfl rfl hl.1 rfl (Nat.le_of_ble_eq_true rfl) dX9_standsAlike_41 ⟨Nat.zero_le _, Nat.zero_le _⟩ (fun H locs hP hS => ?_)
            obtain ⟨v16, e17, h⟩ := ob_I h
            refine j_iaload hx hb hK hP kz_333 e17 dX9_standsAlike_44 ?_
            refine j_icmp_ne (A := wr v12) (B := wr v16) (tgt := 52) hx hb rfl rfl dX9_standsAlike_45 (by decide) (fun q18 => ?_) (fun q18 => ?_)
            · replace h := (if_neg q18).symm.trans h
              refine j_iconst hx hb dX9_standsAlike_52 ?_
              refine j_istore_n (lv2 := [(2, jI 0), (0, jR b 332), (1, jI y1), (3, jI x3_3)]) hx hb dX9_standsAlike_53 rfl hl (by decide) rfl (fun ls hl => ?_)
              refine j_iinc (k := 3) (lv2 := [(3, jI (x3_3 + 1)), (2, jI 0), (0, jR b 332), (1, jI y1)]) hx hb dX9_standsAlike_54 hl rfl (by decide) rfl (fun ls hl => ?_)
              refine j_goto (tgt := 4) hx hb dX9_standsAlike_57 (by decide) ?_
              exact ih4_1 _ _ _ _ _ hP hS (lv_sub hl [2, 3, 1, 0] rfl) h
            · replace h := (if_pos q18).symm.trans h
              refine j_iconst hx hb dX9_standsAlike_48 ?_
              refine j_goto (tgt := 53) hx hb dX9_standsAlike_49 (by decide) ?_
              refine j_istore_n (lv2 := [(2, jI 1), (0, jR b 332), (1, jI y1), (3, jI x3_3)]) hx hb dX9_standsAlike_53 rfl hl (by decide) rfl (fun ls hl => ?_)
              refine j_iinc (k := 3) (lv2 := [(3, jI (x3_3 + 1)), (2, jI 1), (0, jR b 332), (1, jI y1)]) hx hb dX9_standsAlike_54 hl rfl (by decide) rfl (fun ls hl => ?_)
              refine j_goto (tgt := 4) hx hb dX9_standsAlike_57 (by decide) ?_
              exact ih4_1 _ _ _ _ _ hP hS (lv_sub hl [2, 3, 1, 0] rfl) h
  exact hl4_1 N _ _ _ _ _ hP hS (lv_sub hl [2, 3, 1, 0] rfl) h
def fX9_home_k121 (N : Nat) (y1 : Int) : Int → Int → Option (Int) := fun x2_8 x3_9 =>
    if wr y1 = 0 then (some x2_8) else (some x3_9)
def fX9_home_j106 (N : Nat) (x3_13 : Int) (x4_14 : Int) (x5_15 : Int) (rec33_11 : Int → Int → Int → Int → Option (Int)) (v27 : Int) : Int → Option (Int) := fun s29 =>
    rec33_11 v27 (x3_13 + (x4_14 * s29)) (x4_14 * 3) (x5_15 + 1)
def fX9_home_j79 (N : Nat) (μ : Mm) (x2_12 : Int) (x3_13 : Int) (x4_14 : Int) (x5_15 : Int) (rec33_11 : Int → Int → Int → Int → Option (Int)) (v22 : Int) : Int → Option (Int) := fun s25 =>
    Option.bind (fX9_most N x2_12 s25 μ) (fun v27 => if wr v22 = 0 then (fX9_home_j106 N x3_13 x4_14 x5_15 rec33_11 v27 0) else (if wr v22 = 1 then (fX9_home_j106 N x3_13 x4_14 x5_15 rec33_11 v27 2) else (fX9_home_j106 N x3_13 x4_14 x5_15 rec33_11 v27 1)))
def fX9_home_l33 (N : Nat) (y1 : Int) (μ : Mm) : Nat → Int → Int → Int → Int → Option (Int)
  | 0, _, _, _, _ => none
  | n11 + 1, x2_12, x3_13, x4_14, x5_15 =>
    if wr (gI μ 332 9) ≤ wr x5_15 then (fX9_home_k121 N y1 x2_12 x3_13) else (Option.bind (fX9_standsAlike N x5_15 μ) (fun v18 => if wr v18 = 0 then (some (-1)) else (Option.bind (fX9_firstOf N x5_15 μ) (fun v21 => Option.bind (ldA μ 333 8262 v21) (fun v22 => if wr v22 = 3 then (fX9_home_j79 N μ x2_12 x3_13 x4_14 x5_15 (fX9_home_l33 N y1 μ n11) v22 1) else (fX9_home_j79 N μ x2_12 x3_13 x4_14 x5_15 (fX9_home_l33 N y1 μ n11) v22 v22))))))
def fX9_home (N : Nat) (y1 : Int) (μ : Mm) : Option (Int) :=
    Option.bind (fX9_in N (wr y1) 0 1 μ) (fun v2 => if wr v2 = 0 then (some (-1000000002)) else (Option.bind (fX9_isLoom N μ) (fun v5 => if wr v5 = 0 then (some (-1000000003)) else (fX9_home_l33 N y1 μ N 0 0 1 0))))
abbrev rmX9_home : Room := { frames := 3, cells := 0, slots := 0, locals := 66 }
set_option maxHeartbeats 4000000 in
set_option maxRecDepth 100000 in
theorem m_X9_home (l : Launch) (D : va_G) (b : Nat) (cs : CS) (N : Nat) {μ : Mm} {y1 : Int} {r : Int} (h : fX9_home N y1 μ = some r) : MI l yX9_home wsX9_home rmX9_home D b cs [jR b 332, jI y1] μ μ r := by
  refine met_in (cc := cX9_home) (maxL := 7) (ret := some .int) (lv0 := [(0, jR b 332), (1, jI y1)]) (by decide +kernel) rfl (Nat.le_of_ble_eq_true rfl) rfl ?_
  intro p e s m args below meth c hx hb hr hlk hml hown hts hP hK ls hl
  have hown : s.vm.findClass RX9 = some m.cls := hown
  have hS : va_S (bA b) s.heap s.heap [] := va_S.rf
  have hinX9 : ∀ w ∈ u_ws RX9 TX9 27, w ∈ wsX9_home := by decide +kernel
  unfold fX9_home at h
  refine j_iload_n hx hb dX9_home_0 rfl (lv_at hl 1 rfl) ?_
  refine j_i2l hx hb dX9_home_1 ?_
  refine j_lconst (n := 0) hx hb dX9_home_2 (by decide) ?_
  refine j_lconst (n := 1) hx hb dX9_home_3 (by decide) ?_
  obtain ⟨v2, e1, h⟩ := ob_I h
  refine jc_SI (As := [jL (wr y1), jL 0, jL 1]) (rest := []) ⟨hx, hb, hml, hown, hts⟩ hK hP hS (m_X9_in l D b cs N e1) (va_cwS 3 hts gX9_home_X9_in rfl rfl rfl (by decide +kernel) ⟨Nat.le_of_ble_eq_true rfl, Nat.le_of_ble_eq_true rfl⟩) rfl hl.1 rfl (Nat.le_of_ble_eq_true rfl) dX9_home_4 ⟨Nat.zero_le _, Nat.zero_le _⟩ (fun H locs hP hS => ?_)
  refine j_if_ne (A := wr v2) (tgt := 13) hx hb rfl dX9_home_7 (by decide) (fun q3 => ?_) (fun q3 => ?_)
  · replace h := (if_neg q3).symm.trans h
    refine j_aload_n hx hb dX9_home_13 rfl (lv_at hl 0 rfl) ?_
    obtain ⟨v5, e4, h⟩ := ob_I h
    refine jc_VI (As := []) (rest := []) ⟨hx, hb, hml, hown, hts⟩ hK hP hS (m_X9_isLoom l D b cs N e4) (cwV 0 hts gX9_home_X9_isLoom rfl rfl rfl (by decide +kernel) ⟨Nat.le_of_ble_eq_true rfl, Nat.le_of_ble_eq_true rfl⟩) kz_332 (by decide) rfl rfl hl.1 rfl (Nat.le_of_ble_eq_true rfl) dX9_home_14 ⟨Nat.zero_le _, Nat.zero_le _⟩ (fun H locs hP hS => ?_)
    refine j_if_ne (A := wr v5) (tgt := 23) hx hb rfl dX9_home_17 (by decide) (fun q6 => ?_) (fun q6 => ?_)
    · replace h := (if_neg q6).symm.trans h
      refine j_iconst hx hb dX9_home_23 ?_
      refine j_istore_n (lv2 := [(2, jI 0), (0, jR b 332), (1, jI y1)]) hx hb dX9_home_24 rfl hl (by decide) rfl (fun ls hl => ?_)
      refine j_iconst hx hb dX9_home_25 ?_
      refine j_istore_n (lv2 := [(3, jI 0), (2, jI 0), (0, jR b 332), (1, jI y1)]) hx hb dX9_home_26 rfl hl (by decide) rfl (fun ls hl => ?_)
      refine j_iconst hx hb dX9_home_27 ?_
      refine j_istore (lv2 := [(4, jI 1), (3, jI 0), (2, jI 0), (0, jR b 332), (1, jI y1)]) hx hb dX9_home_28 hl (by decide) rfl (fun ls hl => ?_)
      refine j_iconst hx hb dX9_home_30 ?_
      refine j_istore (lv2 := [(5, jI 0), (4, jI 1), (3, jI 0), (2, jI 0), (0, jR b 332), (1, jI y1)]) hx hb dX9_home_31 hl (by decide) rfl (fun ls hl => ?_)
      have hk121_7 : ∀ (x2_8 : Int) (x3_9 : Int) (H : Heap) (locs : List Loc) (ls : Array Slot), va_P D vwCl (wl b cs μ) H → va_S (bA b) s.heap H locs → lv_has ls 7 [(1, jI y1), (2, jI x2_8), (3, jI x3_9)] → fX9_home_k121 N y1 x2_8 x3_9 = some r → W p l e rmX9_home s m args below meth c H locs 0 0 (MQ below (QI D b cs μ r) args s 0 0 (bA b)) (F0 m 121 ls []) := by
        intro x2_8 x3_9 H locs ls hP hS hl h
        unfold fX9_home_k121 at h
        refine j_iload_n hx hb dX9_home_121 rfl (lv_at hl 0 rfl) ?_
        refine j_if_ne (A := wr y1) (tgt := 129) hx hb rfl dX9_home_122 (by decide) (fun q10 => ?_) (fun q10 => ?_)
        · replace h := (if_neg q10).symm.trans h
          refine j_iload_n hx hb dX9_home_129 rfl (lv_at hl 2 rfl) ?_
          exact j_retI hx hb hK hP hS hr hlk (Option.some.inj h) dX9_home_130
        · replace h := (if_pos q10).symm.trans h
          refine j_iload_n hx hb dX9_home_125 rfl (lv_at hl 1 rfl) ?_
          refine j_goto (tgt := 130) hx hb dX9_home_126 (by decide) ?_
          exact j_retI hx hb hK hP hS hr hlk (Option.some.inj h) dX9_home_130
      have hl33_11 : ∀ (n0 : Nat) (x2_12 : Int) (x3_13 : Int) (x4_14 : Int) (x5_15 : Int) (H : Heap) (locs : List Loc) (ls : Array Slot), va_P D vwCl (wl b cs μ) H → va_S (bA b) s.heap H locs → lv_has ls 7 [(0, jR b 332), (1, jI y1), (2, jI x2_12), (3, jI x3_13), (4, jI x4_14), (5, jI x5_15)] → fX9_home_l33 N y1 μ n0 x2_12 x3_13 x4_14 x5_15 = some r → W p l e rmX9_home s m args below meth c H locs 0 0 (MQ below (QI D b cs μ r) args s 0 0 (bA b)) (F0 m 33 ls []) := by
        intro n0
        induction n0 with
        | zero => intro x2_12 x3_13 x4_14 x5_15 H locs ls hP hS hl h; rw [fX9_home_l33] at h; cases h
        | succ n11 ih33_11 =>
          intro x2_12 x3_13 x4_14 x5_15 H locs ls hP hS hl h
          rw [fX9_home_l33] at h
          refine j_iload hx hb dX9_home_33 (lv_at hl 5 rfl) ?_
          refine j_aload_n hx hb dX9_home_35 rfl (lv_at hl 0 rfl) ?_
          refine j_get (v := jI (gI μ 332 9)) hx hb hts hinX9 hown hK hP kz_332 (by decide) rfl 9 (by decide) (hts (.fieldLink RX9 128 "CardBandModel" "packs" "I") (by decide +kernel)) rfl (by rw [jI_g]; rfl) dX9_home_36 ?_
          refine j_icmp_ge (A := wr x5_15) (B := wr (gI μ 332 9)) (tgt := 121) hx hb rfl rfl dX9_home_39 (by decide) (fun q16 => ?_) (fun q16 => ?_)
          · replace h := (if_pos q16).symm.trans h
            exact hk121_7 _ _ _ _ _ hP hS (lv_sub hl [1, 2, 3] rfl) h
          · replace h := (if_neg q16).symm.trans h
            refine j_aload_n hx hb dX9_home_42 rfl (lv_at hl 0 rfl) ?_
            refine j_iload hx hb dX9_home_43 (lv_at hl 5 rfl) ?_
            obtain ⟨v18, e17, h⟩ := ob_I h
            refine jc_VI (As := [jI x5_15]) (rest := []) ⟨hx, hb, hml, hown, hts⟩ hK hP hS (m_X9_standsAlike l D b cs N e17) (cwV 1 hts gX9_home_X9_standsAlike rfl rfl rfl (by decide +kernel) ⟨Nat.le_of_ble_eq_true rfl, Nat.le_of_ble_eq_true rfl⟩) kz_332 (by decide) rfl rfl hl.1 rfl (Nat.le_of_ble_eq_true rfl) dX9_home_45 ⟨Nat.zero_le _, Nat.zero_le _⟩ (fun H locs hP hS => ?_)
            refine j_if_ne (A := wr v18) (tgt := 53) hx hb rfl dX9_home_48 (by decide) (fun q19 => ?_) (fun q19 => ?_)
            · replace h := (if_neg q19).symm.trans h
              refine j_aload_n hx hb dX9_home_53 rfl (lv_at hl 0 rfl) ?_
              refine j_get (v := jR b 333) hx hb hts hinX9 hown hK hP kz_332 (by decide) rfl 0 (by decide) (hts (.fieldLink RX9 7 "CardBandModel" "w" "[I") (by decide +kernel)) rfl rfl dX9_home_54 ?_
              refine j_aload_n hx hb dX9_home_57 rfl (lv_at hl 0 rfl) ?_
              refine j_iload hx hb dX9_home_58 (lv_at hl 5 rfl) ?_
              obtain ⟨v21, e20, h⟩ := ob_I h
              refine jc_VI (As := [jI x5_15]) (rest := [jR b 333]) ⟨hx, hb, hml, hown, hts⟩ hK hP hS (m_X9_firstOf l D b cs N e20) (cwV 1 hts gX9_home_X9_firstOf rfl rfl rfl (by decide +kernel) ⟨Nat.le_of_ble_eq_true rfl, Nat.le_of_ble_eq_true rfl⟩) kz_332 (by decide) rfl rfl hl.1 rfl (Nat.le_of_ble_eq_true rfl) dX9_home_60 ⟨Nat.zero_le _, Nat.zero_le _⟩ (fun H locs hP hS => ?_)
              obtain ⟨v22, e23, h⟩ := ob_I h
              refine j_iaload hx hb hK hP kz_333 e23 dX9_home_63 ?_
              refine j_istore (lv2 := [(6, jI v22), (0, jR b 332), (1, jI y1), (2, jI x2_12), (3, jI x3_13), (4, jI x4_14), (5, jI x5_15)]) hx hb dX9_home_64 hl (by decide) rfl (fun ls hl => ?_)
              refine j_iload_n hx hb dX9_home_66 rfl (lv_at hl 3 rfl) ?_
              refine j_iload hx hb dX9_home_67 (lv_at hl 0 rfl) ?_
              refine j_iconst hx hb dX9_home_69 ?_
              have hj79_24 : ∀ (s25 : Int) (H : Heap) (locs : List Loc) (ls : Array Slot), va_P D vwCl (wl b cs μ) H → va_S (bA b) s.heap H locs → lv_has ls 7 [(0, jR b 332), (1, jI y1), (3, jI x3_13), (4, jI x4_14), (5, jI x5_15), (6, jI v22)] → fX9_home_j79 N μ x2_12 x3_13 x4_14 x5_15 (fX9_home_l33 N y1 μ n11) v22 s25 = some r → W p l e rmX9_home s m args below meth c H locs 0 0 (MQ below (QI D b cs μ r) args s 0 0 (bA b)) (F0 m 79 ls [jI s25, jI x2_12]) := by
                intro s25 H locs ls hP hS hl h
                unfold fX9_home_j79 at h
                obtain ⟨v27, e26, h⟩ := ob_I h
                refine jc_SI (As := [jI x2_12, jI s25]) (rest := []) ⟨hx, hb, hml, hown, hts⟩ hK hP hS (m_X9_most l D b cs N e26) (va_cwS 2 hts gX9_home_X9_most rfl rfl rfl (by decide +kernel) ⟨Nat.le_of_ble_eq_true rfl, Nat.le_of_ble_eq_true rfl⟩) rfl hl.1 rfl (Nat.le_of_ble_eq_true rfl) dX9_home_79 ⟨Nat.zero_le _, Nat.zero_le _⟩ (fun H locs hP hS => ?_)
                refine j_istore_n (lv2 := [(2, jI v27), (0, jR b 332), (1, jI y1), (3, jI x3_13), (4, jI x4_14), (5, jI x5_15), (6, jI v22)]) hx hb dX9_home_82 rfl hl (by decide) rfl (fun ls hl => ?_)
                refine j_iload_n hx hb dX9_home_83 rfl (lv_at hl 3 rfl) ?_
                refine j_iload hx hb dX9_home_84 (lv_at hl 4 rfl) ?_
                refine j_iload hx hb dX9_home_86 (lv_at hl 6 rfl) ?_
                have hj106_28 : ∀ (s29 : Int) (H : Heap) (locs : List Loc) (ls : Array Slot), va_P D vwCl (wl b cs μ) H → va_S (bA b) s.heap H locs → lv_has ls 7 [(0, jR b 332), (1, jI y1), (2, jI v27), (4, jI x4_14), (5, jI x5_15)] → fX9_home_j106 N x3_13 x4_14 x5_15 (fX9_home_l33 N y1 μ n11) v27 s29 = some r → W p l e rmX9_home s m args below meth c H locs 0 0 (MQ below (QI D b cs μ r) args s 0 0 (bA b)) (F0 m 106 ls [jI s29, jI x4_14, jI x3_13]) := by
                  intro s29 H locs ls hP hS hl h
                  unfold fX9_home_j106 at h
                  refine j_imul hx hb dX9_home_106 ?_
                  refine j_iadd hx hb dX9_home_107 ?_
                  refine j_istore_n (lv2 := [(3, jI (x3_13 + (x4_14 * s29))), (0, jR b 332), (1, jI y1), (2, jI v27), (4, jI x4_14), (5, jI x5_15)]) hx hb dX9_home_108 rfl hl (by decide) rfl (fun ls hl => ?_)
                  refine j_iload hx hb dX9_home_109 (lv_at hl 4 rfl) ?_
                  refine j_iconst hx hb dX9_home_111 ?_
                  refine j_imul hx hb dX9_home_112 ?_
                  refine j_istore (lv2 := [(4, jI (x4_14 * 3)), (3, jI (x3_13 + (x4_14 * s29))), (0, jR b 332), (1, jI y1), (2, jI v27), (5, jI x5_15)]) hx hb dX9_home_113 hl (by decide) rfl (fun ls hl => ?_)
                  refine j_iinc (k := 5) (lv2 := [(5, jI (x5_15 + 1)), (4, jI (x4_14 * 3)), (3, jI (x3_13 + (x4_14 * s29))), (0, jR b 332), (1, jI y1), (2, jI v27)]) hx hb dX9_home_115 hl rfl (by decide) rfl (fun ls hl => ?_)
                  refine j_goto (tgt := 33) hx hb dX9_home_118 (by decide) ?_
                  exact ih33_11 _ _ _ _ _ _ _ hP hS (lv_sub hl [3, 4, 5, 2, 1, 0] rfl) h
                refine j_if_ne (A := wr v22) (tgt := 95) hx hb rfl dX9_home_88 (by decide) (fun q30 => ?_) (fun q30 => ?_)
                · replace h := (if_neg q30).symm.trans h
                  refine j_iload hx hb dX9_home_95 (lv_at hl 6 rfl) ?_
                  refine j_iconst hx hb dX9_home_97 ?_
                  refine j_icmp_ne (A := wr v22) (B := 1) (tgt := 105) hx hb rfl (by decide) dX9_home_98 (by decide) (fun q31 => ?_) (fun q31 => ?_)
                  · replace h := (if_neg q31).symm.trans h
                    refine j_iconst hx hb dX9_home_105 ?_
                    exact hj106_28 _ _ _ _ hP hS (lv_sub hl [1, 2, 0, 4, 5] rfl) h
                  · replace h := (if_pos q31).symm.trans h
                    refine j_iconst hx hb dX9_home_101 ?_
                    refine j_goto (tgt := 106) hx hb dX9_home_102 (by decide) ?_
                    exact hj106_28 _ _ _ _ hP hS (lv_sub hl [1, 2, 0, 4, 5] rfl) h
                · replace h := (if_pos q30).symm.trans h
                  refine j_iconst hx hb dX9_home_91 ?_
                  refine j_goto (tgt := 106) hx hb dX9_home_92 (by decide) ?_
                  exact hj106_28 _ _ _ _ hP hS (lv_sub hl [1, 2, 0, 4, 5] rfl) h
              refine j_icmp_ne (A := wr v22) (B := 3) (tgt := 77) hx hb rfl (by decide) dX9_home_70 (by decide) (fun q32 => ?_) (fun q32 => ?_)
              · replace h := (if_neg q32).symm.trans h
                refine j_iload hx hb dX9_home_77 (lv_at hl 0 rfl) ?_
                exact hj79_24 _ _ _ _ hP hS (lv_sub hl [1, 2, 4, 5, 6, 0] rfl) h
              · replace h := (if_pos q32).symm.trans h
                refine j_iconst hx hb dX9_home_73 ?_
                refine j_goto (tgt := 79) hx hb dX9_home_74 (by decide) ?_
                exact hj79_24 _ _ _ _ hP hS (lv_sub hl [1, 2, 4, 5, 6, 0] rfl) h
            · replace h := (if_pos q19).symm.trans h
              refine j_iconst hx hb dX9_home_51 ?_
              exact j_retI hx hb hK hP hS hr hlk (Option.some.inj h) dX9_home_52
      exact hl33_11 N _ _ _ _ _ _ _ hP hS (lv_sub hl [4, 5, 3, 2, 1, 0] rfl) h
    · replace h := (if_pos q6).symm.trans h
      refine j_ldc (n := (-1000000003)) hx hb hown (hts (.constant RX9 231 (-1000000003)) (by decide +kernel)) (by decide) dX9_home_20 ?_
      exact j_retI hx hb hK hP hS hr hlk (Option.some.inj h) dX9_home_22
  · replace h := (if_pos q3).symm.trans h
    refine j_ldc (n := (-1000000002)) hx hb hown (hts (.constant RX9 60 (-1000000002)) (by decide +kernel)) (by decide) dX9_home_10 ?_
    exact j_retI hx hb hK hP hS hr hlk (Option.some.inj h) dX9_home_12
def fX9_isMoves_k22 (N : Nat) (y1 : Int) (μ : Mm) : Int → Option (Int) := fun x2_2 =>
    Option.bind (fX9_in N (wr y1) 0 (wr (x2_2 - 1)) μ) (fun v4 => gd (decide (v4 = 0 ∨ v4 = 1)) (some v4))
def fX9_isMoves_l4 (N : Nat) (y1 : Int) (μ : Mm) : Nat → Int → Int → Option (Int)
  | 0, _, _ => none
  | n6 + 1, x2_7, x3_8 =>
    if wr (gI μ 332 9) ≤ wr x3_8 then (fX9_isMoves_k22 N y1 μ x2_7) else ((fX9_isMoves_l4 N y1 μ n6) (x2_7 * 3) (x3_8 + 1))
def fX9_isMoves (N : Nat) (y1 : Int) (μ : Mm) : Option (Int) :=
    fX9_isMoves_l4 N y1 μ N 1 0
abbrev rmX9_isMoves : Room := { frames := 1, cells := 0, slots := 0, locals := 25 }
set_option maxHeartbeats 4000000 in
set_option maxRecDepth 100000 in
theorem m_X9_isMoves (l : Launch) (D : va_G) (b : Nat) (cs : CS) (N : Nat) {μ : Mm} {y1 : Int} {r : Int} (h : fX9_isMoves N y1 μ = some r) : MI l yX9_isMoves wsX9_isMoves rmX9_isMoves D b cs [jR b 332, jI y1] μ μ r := by
  refine met_in (cc := cX9_isMoves) (maxL := 4) (ret := some .boolean) (lv0 := [(0, jR b 332), (1, jI y1)]) (by decide +kernel) rfl (Nat.le_of_ble_eq_true rfl) rfl ?_
  intro p e s m args below meth c hx hb hr hlk hml hown hts hP hK ls hl
  have hown : s.vm.findClass RX9 = some m.cls := hown
  have hS : va_S (bA b) s.heap s.heap [] := va_S.rf
  have hinX9 : ∀ w ∈ u_ws RX9 TX9 27, w ∈ wsX9_isMoves := by decide +kernel
  unfold fX9_isMoves at h
  refine j_iconst hx hb dX9_isMoves_0 ?_
  refine j_istore_n (lv2 := [(2, jI 1), (0, jR b 332), (1, jI y1)]) hx hb dX9_isMoves_1 rfl hl (by decide) rfl (fun ls hl => ?_)
  refine j_iconst hx hb dX9_isMoves_2 ?_
  refine j_istore_n (lv2 := [(3, jI 0), (2, jI 1), (0, jR b 332), (1, jI y1)]) hx hb dX9_isMoves_3 rfl hl (by decide) rfl (fun ls hl => ?_)
  have hk22_1 : ∀ (x2_2 : Int) (H : Heap) (locs : List Loc) (ls : Array Slot), va_P D vwCl (wl b cs μ) H → va_S (bA b) s.heap H locs → lv_has ls 4 [(1, jI y1), (2, jI x2_2)] → fX9_isMoves_k22 N y1 μ x2_2 = some r → W p l e rmX9_isMoves s m args below meth c H locs 0 0 (MQ below (QI D b cs μ r) args s 0 0 (bA b)) (F0 m 22 ls []) := by
    intro x2_2 H locs ls hP hS hl h
    unfold fX9_isMoves_k22 at h
    refine j_iload_n hx hb dX9_isMoves_22 rfl (lv_at hl 0 rfl) ?_
    refine j_i2l hx hb dX9_isMoves_23 ?_
    refine j_lconst (n := 0) hx hb dX9_isMoves_24 (by decide) ?_
    refine j_iload_n hx hb dX9_isMoves_25 rfl (lv_at hl 1 rfl) ?_
    refine j_iconst hx hb dX9_isMoves_26 ?_
    refine j_isub hx hb dX9_isMoves_27 ?_
    refine j_i2l hx hb dX9_isMoves_28 ?_
    obtain ⟨v4, e3, h⟩ := ob_I h
    refine jc_SI (As := [jL (wr y1), jL 0, jL (wr (x2_2 - 1))]) (rest := []) ⟨hx, hb, hml, hown, hts⟩ hK hP hS (m_X9_in l D b cs N e3) (va_cwS 3 hts gX9_isMoves_X9_in rfl rfl rfl (by decide +kernel) ⟨Nat.le_of_ble_eq_true rfl, Nat.le_of_ble_eq_true rfl⟩) rfl hl.1 rfl (Nat.le_of_ble_eq_true rfl) dX9_isMoves_29 ⟨Nat.zero_le _, Nat.zero_le _⟩ (fun H locs hP hS => ?_)
    obtain ⟨g5, h⟩ := ob_g h
    replace g5 := of_decide_eq_true g5
    exact j_retZ hx hb hK hP hS hr hlk g5 (Option.some.inj h) dX9_isMoves_32
  have hl4_6 : ∀ (n0 : Nat) (x2_7 : Int) (x3_8 : Int) (H : Heap) (locs : List Loc) (ls : Array Slot), va_P D vwCl (wl b cs μ) H → va_S (bA b) s.heap H locs → lv_has ls 4 [(0, jR b 332), (1, jI y1), (2, jI x2_7), (3, jI x3_8)] → fX9_isMoves_l4 N y1 μ n0 x2_7 x3_8 = some r → W p l e rmX9_isMoves s m args below meth c H locs 0 0 (MQ below (QI D b cs μ r) args s 0 0 (bA b)) (F0 m 4 ls []) := by
    intro n0
    induction n0 with
    | zero => intro x2_7 x3_8 H locs ls hP hS hl h; rw [fX9_isMoves_l4] at h; cases h
    | succ n6 ih4_6 =>
      intro x2_7 x3_8 H locs ls hP hS hl h
      rw [fX9_isMoves_l4] at h
      refine j_iload_n hx hb dX9_isMoves_4 rfl (lv_at hl 3 rfl) ?_
      refine j_aload_n hx hb dX9_isMoves_5 rfl (lv_at hl 0 rfl) ?_
      refine j_get (v := jI (gI μ 332 9)) hx hb hts hinX9 hown hK hP kz_332 (by decide) rfl 9 (by decide) (hts (.fieldLink RX9 128 "CardBandModel" "packs" "I") (by decide +kernel)) rfl (by rw [jI_g]; rfl) dX9_isMoves_6 ?_
      refine j_icmp_ge (A := wr x3_8) (B := wr (gI μ 332 9)) (tgt := 22) hx hb rfl rfl dX9_isMoves_9 (by decide) (fun q9 => ?_) (fun q9 => ?_)
      · replace h := (if_pos q9).symm.trans h
        exact hk22_1 _ _ _ _ hP hS (lv_sub hl [1, 2] rfl) h
      · replace h := (if_neg q9).symm.trans h
        refine j_iload_n hx hb dX9_isMoves_12 rfl (lv_at hl 2 rfl) ?_
        refine j_iconst hx hb dX9_isMoves_13 ?_
        refine j_imul hx hb dX9_isMoves_14 ?_
        refine j_istore_n (lv2 := [(2, jI (x2_7 * 3)), (0, jR b 332), (1, jI y1), (3, jI x3_8)]) hx hb dX9_isMoves_15 rfl hl (by decide) rfl (fun ls hl => ?_)
        refine j_iinc (k := 3) (lv2 := [(3, jI (x3_8 + 1)), (2, jI (x2_7 * 3)), (0, jR b 332), (1, jI y1)]) hx hb dX9_isMoves_16 hl rfl (by decide) rfl (fun ls hl => ?_)
        refine j_goto (tgt := 4) hx hb dX9_isMoves_19 (by decide) ?_
        exact ih4_6 _ _ _ _ _ hP hS (lv_sub hl [2, 3, 1, 0] rfl) h
  exact hl4_6 N _ _ _ _ _ hP hS (lv_sub hl [2, 3, 1, 0] rfl) h
def fX9_isPeriod_l20 (N : Nat) (y1 : Int) (μ : Mm) (x3_3 : Int) (rec4_1 : Int → Int → Option (Int)) : Nat → Int → Int → Option (Int)
  | 0, _, _ => none
  | n8 + 1, x2_9, x4_10 =>
    if wr (gI μ 332 6) ≤ wr x4_10 then (rec4_1 x2_9 (x3_3 + 1)) else (if wr x2_9 = 0 then ((fX9_isPeriod_l20 N y1 μ x3_3 rec4_1 n8) 0 (x4_10 + 1)) else (Option.bind (fX9_was N x3_3 x4_10 μ) (fun v14 => Option.bind (fX9_was N (x3_3 + y1) x4_10 μ) (fun v16 => if wr v14 = wr v16 then ((fX9_isPeriod_l20 N y1 μ x3_3 rec4_1 n8) 1 (x4_10 + 1)) else ((fX9_isPeriod_l20 N y1 μ x3_3 rec4_1 n8) 0 (x4_10 + 1))))))
def fX9_isPeriod_l4 (N : Nat) (y1 : Int) (μ : Mm) : Nat → Int → Int → Option (Int)
  | 0, _, _ => none
  | n1 + 1, x2_2, x3_3 =>
    Option.bind (ldA μ 333 8262 49) (fun v4 => if wr v4 ≤ wr (x3_3 + y1) then (gd (decide (x2_2 = 0 ∨ x2_2 = 1)) (some x2_2)) else (fX9_isPeriod_l20 N y1 μ x3_3 (fX9_isPeriod_l4 N y1 μ n1) N x2_2 0))
def fX9_isPeriod (N : Nat) (y1 : Int) (μ : Mm) : Option (Int) :=
    fX9_isPeriod_l4 N y1 μ N 1 0
abbrev rmX9_isPeriod : Room := { frames := 1, cells := 0, slots := 0, locals := 22 }
set_option maxHeartbeats 4000000 in
set_option maxRecDepth 100000 in
theorem m_X9_isPeriod (l : Launch) (D : va_G) (b : Nat) (cs : CS) (N : Nat) {μ : Mm} {y1 : Int} {r : Int} (h : fX9_isPeriod N y1 μ = some r) : MI l yX9_isPeriod wsX9_isPeriod rmX9_isPeriod D b cs [jR b 332, jI y1] μ μ r := by
  refine met_in (cc := cX9_isPeriod) (maxL := 5) (ret := some .boolean) (lv0 := [(0, jR b 332), (1, jI y1)]) (by decide +kernel) rfl (Nat.le_of_ble_eq_true rfl) rfl ?_
  intro p e s m args below meth c hx hb hr hlk hml hown hts hP hK ls hl
  have hown : s.vm.findClass RX9 = some m.cls := hown
  have hS : va_S (bA b) s.heap s.heap [] := va_S.rf
  have hinX9 : ∀ w ∈ u_ws RX9 TX9 27, w ∈ wsX9_isPeriod := by decide +kernel
  unfold fX9_isPeriod at h
  refine j_iconst hx hb dX9_isPeriod_0 ?_
  refine j_istore_n (lv2 := [(2, jI 1), (0, jR b 332), (1, jI y1)]) hx hb dX9_isPeriod_1 rfl hl (by decide) rfl (fun ls hl => ?_)
  refine j_iconst hx hb dX9_isPeriod_2 ?_
  refine j_istore_n (lv2 := [(3, jI 0), (2, jI 1), (0, jR b 332), (1, jI y1)]) hx hb dX9_isPeriod_3 rfl hl (by decide) rfl (fun ls hl => ?_)
  have hl4_1 : ∀ (n0 : Nat) (x2_2 : Int) (x3_3 : Int) (H : Heap) (locs : List Loc) (ls : Array Slot), va_P D vwCl (wl b cs μ) H → va_S (bA b) s.heap H locs → lv_has ls 5 [(0, jR b 332), (1, jI y1), (2, jI x2_2), (3, jI x3_3)] → fX9_isPeriod_l4 N y1 μ n0 x2_2 x3_3 = some r → W p l e rmX9_isPeriod s m args below meth c H locs 0 0 (MQ below (QI D b cs μ r) args s 0 0 (bA b)) (F0 m 4 ls []) := by
    intro n0
    induction n0 with
    | zero => intro x2_2 x3_3 H locs ls hP hS hl h; rw [fX9_isPeriod_l4] at h; cases h
    | succ n1 ih4_1 =>
      intro x2_2 x3_3 H locs ls hP hS hl h
      rw [fX9_isPeriod_l4] at h
      refine j_iload_n hx hb dX9_isPeriod_4 rfl (lv_at hl 3 rfl) ?_
      refine j_iload_n hx hb dX9_isPeriod_5 rfl (lv_at hl 1 rfl) ?_
      refine j_iadd hx hb dX9_isPeriod_6 ?_
      refine j_aload_n hx hb dX9_isPeriod_7 rfl (lv_at hl 0 rfl) ?_
      refine j_get (v := jR b 333) hx hb hts hinX9 hown hK hP kz_332 (by decide) rfl 0 (by decide) (hts (.fieldLink RX9 7 "CardBandModel" "w" "[I") (by decide +kernel)) rfl rfl dX9_isPeriod_8 ?_
      refine j_bipush hx hb dX9_isPeriod_11 (by decide) ?_
      obtain ⟨v4, e5, h⟩ := ob_I h
      refine j_iaload hx hb hK hP kz_333 e5 dX9_isPeriod_13 ?_
      refine j_icmp_ge (A := wr (x3_3 + y1)) (B := wr v4) (tgt := 70) hx hb rfl rfl dX9_isPeriod_14 (by decide) (fun q6 => ?_) (fun q6 => ?_)
      · replace h := (if_pos q6).symm.trans h
        refine j_iload_n hx hb dX9_isPeriod_70 rfl (lv_at hl 2 rfl) ?_
        obtain ⟨g7, h⟩ := ob_g h
        replace g7 := of_decide_eq_true g7
        exact j_retZ hx hb hK hP hS hr hlk g7 (Option.some.inj h) dX9_isPeriod_71
      · replace h := (if_neg q6).symm.trans h
        refine j_iconst hx hb dX9_isPeriod_17 ?_
        refine j_istore (lv2 := [(4, jI 0), (0, jR b 332), (1, jI y1), (2, jI x2_2), (3, jI x3_3)]) hx hb dX9_isPeriod_18 hl (by decide) rfl (fun ls hl => ?_)
        have hl20_8 : ∀ (n0 : Nat) (x2_9 : Int) (x4_10 : Int) (H : Heap) (locs : List Loc) (ls : Array Slot), va_P D vwCl (wl b cs μ) H → va_S (bA b) s.heap H locs → lv_has ls 5 [(0, jR b 332), (1, jI y1), (2, jI x2_9), (3, jI x3_3), (4, jI x4_10)] → fX9_isPeriod_l20 N y1 μ x3_3 (fX9_isPeriod_l4 N y1 μ n1) n0 x2_9 x4_10 = some r → W p l e rmX9_isPeriod s m args below meth c H locs 0 0 (MQ below (QI D b cs μ r) args s 0 0 (bA b)) (F0 m 20 ls []) := by
          intro n0
          induction n0 with
          | zero => intro x2_9 x4_10 H locs ls hP hS hl h; rw [fX9_isPeriod_l20] at h; cases h
          | succ n8 ih20_8 =>
            intro x2_9 x4_10 H locs ls hP hS hl h
            rw [fX9_isPeriod_l20] at h
            refine j_iload hx hb dX9_isPeriod_20 (lv_at hl 4 rfl) ?_
            refine j_aload_n hx hb dX9_isPeriod_22 rfl (lv_at hl 0 rfl) ?_
            refine j_get (v := jI (gI μ 332 6)) hx hb hts hinX9 hown hK hP kz_332 (by decide) rfl 6 (by decide) (hts (.fieldLink RX9 122 "CardBandModel" "cards" "I") (by decide +kernel)) rfl (by rw [jI_g]; rfl) dX9_isPeriod_23 ?_
            refine j_icmp_ge (A := wr x4_10) (B := wr (gI μ 332 6)) (tgt := 64) hx hb rfl rfl dX9_isPeriod_26 (by decide) (fun q11 => ?_) (fun q11 => ?_)
            · replace h := (if_pos q11).symm.trans h
              refine j_iinc (k := 3) (lv2 := [(3, jI (x3_3 + 1)), (0, jR b 332), (1, jI y1), (2, jI x2_9), (4, jI x4_10)]) hx hb dX9_isPeriod_64 hl rfl (by decide) rfl (fun ls hl => ?_)
              refine j_goto (tgt := 4) hx hb dX9_isPeriod_67 (by decide) ?_
              exact ih4_1 _ _ _ _ _ hP hS (lv_sub hl [1, 2, 3, 0] rfl) h
            · replace h := (if_neg q11).symm.trans h
              refine j_iload_n hx hb dX9_isPeriod_29 rfl (lv_at hl 2 rfl) ?_
              refine j_if_eq (A := wr x2_9) (tgt := 56) hx hb rfl dX9_isPeriod_30 (by decide) (fun q12 => ?_) (fun q12 => ?_)
              · replace h := (if_pos q12).symm.trans h
                refine j_iconst hx hb dX9_isPeriod_56 ?_
                refine j_istore_n (lv2 := [(2, jI 0), (0, jR b 332), (1, jI y1), (3, jI x3_3), (4, jI x4_10)]) hx hb dX9_isPeriod_57 rfl hl (by decide) rfl (fun ls hl => ?_)
                refine j_iinc (k := 4) (lv2 := [(4, jI (x4_10 + 1)), (2, jI 0), (0, jR b 332), (1, jI y1), (3, jI x3_3)]) hx hb dX9_isPeriod_58 hl rfl (by decide) rfl (fun ls hl => ?_)
                refine j_goto (tgt := 20) hx hb dX9_isPeriod_61 (by decide) ?_
                exact ih20_8 _ _ _ _ _ hP hS (lv_sub hl [2, 3, 1, 4, 0] rfl) h
              · replace h := (if_neg q12).symm.trans h
                refine j_aload_n hx hb dX9_isPeriod_33 rfl (lv_at hl 0 rfl) ?_
                refine j_iload_n hx hb dX9_isPeriod_34 rfl (lv_at hl 3 rfl) ?_
                refine j_iload hx hb dX9_isPeriod_35 (lv_at hl 4 rfl) ?_
                obtain ⟨v14, e13, h⟩ := ob_I h
                refine jc_VI (As := [jI x3_3, jI x4_10]) (rest := []) ⟨hx, hb, hml, hown, hts⟩ hK hP hS (m_X9_was l D b cs N e13) (cwV 2 hts gX9_isPeriod_X9_was rfl rfl rfl (by decide +kernel) ⟨Nat.le_of_ble_eq_true rfl, Nat.le_of_ble_eq_true rfl⟩) kz_332 (by decide) rfl rfl hl.1 rfl (Nat.le_of_ble_eq_true rfl) dX9_isPeriod_37 ⟨Nat.zero_le _, Nat.zero_le _⟩ (fun H locs hP hS => ?_)
                refine j_aload_n hx hb dX9_isPeriod_40 rfl (lv_at hl 0 rfl) ?_
                refine j_iload_n hx hb dX9_isPeriod_41 rfl (lv_at hl 3 rfl) ?_
                refine j_iload_n hx hb dX9_isPeriod_42 rfl (lv_at hl 1 rfl) ?_
                refine j_iadd hx hb dX9_isPeriod_43 ?_
                refine j_iload hx hb dX9_isPeriod_44 (lv_at hl 4 rfl) ?_
                obtain ⟨v16, e15, h⟩ := ob_I h
                refine jc_VI (As := [jI (x3_3 + y1), jI x4_10]) (rest := [jI v14]) ⟨hx, hb, hml, hown, hts⟩ hK hP hS (m_X9_was l D b cs N e15) (cwV 2 hts gX9_isPeriod_X9_was rfl rfl rfl (by decide +kernel) ⟨Nat.le_of_ble_eq_true rfl, Nat.le_of_ble_eq_true rfl⟩) kz_332 (by decide) rfl rfl hl.1 rfl (Nat.le_of_ble_eq_true rfl) dX9_isPeriod_46 ⟨Nat.zero_le _, Nat.zero_le _⟩ (fun H locs hP hS => ?_)
                refine j_icmp_ne (A := wr v14) (B := wr v16) (tgt := 56) hx hb rfl rfl dX9_isPeriod_49 (by decide) (fun q17 => ?_) (fun q17 => ?_)
                · replace h := (if_neg q17).symm.trans h
                  refine j_iconst hx hb dX9_isPeriod_56 ?_
                  refine j_istore_n (lv2 := [(2, jI 0), (0, jR b 332), (1, jI y1), (3, jI x3_3), (4, jI x4_10)]) hx hb dX9_isPeriod_57 rfl hl (by decide) rfl (fun ls hl => ?_)
                  refine j_iinc (k := 4) (lv2 := [(4, jI (x4_10 + 1)), (2, jI 0), (0, jR b 332), (1, jI y1), (3, jI x3_3)]) hx hb dX9_isPeriod_58 hl rfl (by decide) rfl (fun ls hl => ?_)
                  refine j_goto (tgt := 20) hx hb dX9_isPeriod_61 (by decide) ?_
                  exact ih20_8 _ _ _ _ _ hP hS (lv_sub hl [2, 3, 1, 4, 0] rfl) h
                · replace h := (if_pos q17).symm.trans h
                  refine j_iconst hx hb dX9_isPeriod_52 ?_
                  refine j_goto (tgt := 57) hx hb dX9_isPeriod_53 (by decide) ?_
                  refine j_istore_n (lv2 := [(2, jI 1), (0, jR b 332), (1, jI y1), (3, jI x3_3), (4, jI x4_10)]) hx hb dX9_isPeriod_57 rfl hl (by decide) rfl (fun ls hl => ?_)
                  refine j_iinc (k := 4) (lv2 := [(4, jI (x4_10 + 1)), (2, jI 1), (0, jR b 332), (1, jI y1), (3, jI x3_3)]) hx hb dX9_isPeriod_58 hl rfl (by decide) rfl (fun ls hl => ?_)
                  refine j_goto (tgt := 20) hx hb dX9_isPeriod_61 (by decide) ?_
                  exact ih20_8 _ _ _ _ _ hP hS (lv_sub hl [2, 3, 1, 4, 0] rfl) h
        exact hl20_8 N _ _ _ _ _ hP hS (lv_sub hl [1, 2, 3, 4, 0] rfl) h
  exact hl4_1 N _ _ _ _ _ hP hS (lv_sub hl [2, 3, 1, 0] rfl) h
def fX9_judge_l2 (N : Nat) (μ : Mm) : Nat → Int → Option (Int)
  | 0, _ => none
  | n1 + 1, x1_2 =>
    if wr (gI μ 332 26) ≤ wr x1_2 then (some (-1)) else (Option.bind (ldA μ 344 20 x1_2) (fun v4 => Option.bind (ldA μ 333 8262 (16 + v4)) (fun v6 => Option.bind (ldA μ 345 20 x1_2) (fun v8 => if wr v6 = wr v8 then ((fX9_judge_l2 N μ n1) (x1_2 + 1)) else (some x1_2)))))
def fX9_judge (N : Nat) (μ : Mm) : Option (Int) :=
    fX9_judge_l2 N μ N 0
abbrev rmX9_judge : Room := { frames := 0, cells := 0, slots := 0, locals := 0 }
set_option maxHeartbeats 4000000 in
set_option maxRecDepth 100000 in
theorem m_X9_judge (l : Launch) (D : va_G) (b : Nat) (cs : CS) (N : Nat) {μ : Mm} {r : Int} (h : fX9_judge N μ = some r) : MI l yX9_judge wsX9_judge rmX9_judge D b cs [jR b 332] μ μ r := by
  refine met_in (cc := cX9_judge) (maxL := 2) (ret := some .int) (lv0 := [(0, jR b 332)]) (by decide +kernel) rfl (Nat.le_of_ble_eq_true rfl) rfl ?_
  intro p e s m args below meth c hx hb hr hlk hml hown hts hP hK ls hl
  have hown : s.vm.findClass RX9 = some m.cls := hown
  have hS : va_S (bA b) s.heap s.heap [] := va_S.rf
  have hinX9 : ∀ w ∈ u_ws RX9 TX9 27, w ∈ wsX9_judge := by decide +kernel
  unfold fX9_judge at h
  refine j_iconst hx hb dX9_judge_0 ?_
  refine j_istore_n (lv2 := [(1, jI 0), (0, jR b 332)]) hx hb dX9_judge_1 rfl hl (by decide) rfl (fun ls hl => ?_)
  have hl2_1 : ∀ (n0 : Nat) (x1_2 : Int) (H : Heap) (locs : List Loc) (ls : Array Slot), va_P D vwCl (wl b cs μ) H → va_S (bA b) s.heap H locs → lv_has ls 2 [(0, jR b 332), (1, jI x1_2)] → fX9_judge_l2 N μ n0 x1_2 = some r → W p l e rmX9_judge s m args below meth c H locs 0 0 (MQ below (QI D b cs μ r) args s 0 0 (bA b)) (F0 m 2 ls []) := by
    intro n0
    induction n0 with
    | zero => intro x1_2 H locs ls hP hS hl h; rw [fX9_judge_l2] at h; cases h
    | succ n1 ih2_1 =>
      intro x1_2 H locs ls hP hS hl h
      rw [fX9_judge_l2] at h
      refine j_iload_n hx hb dX9_judge_2 rfl (lv_at hl 1 rfl) ?_
      refine j_aload_n hx hb dX9_judge_3 rfl (lv_at hl 0 rfl) ?_
      refine j_get (v := jI (gI μ 332 26)) hx hb hts hinX9 hown hK hP kz_332 (by decide) rfl 26 (by decide) (hts (.fieldLink RX9 134 "CardBandModel" "written" "I") (by decide +kernel)) rfl (by rw [jI_g]; rfl) dX9_judge_4 ?_
      refine j_icmp_ge (A := wr x1_2) (B := wr (gI μ 332 26)) (tgt := 41) hx hb rfl rfl dX9_judge_7 (by decide) (fun q3 => ?_) (fun q3 => ?_)
      · replace h := (if_pos q3).symm.trans h
        refine j_iconst hx hb dX9_judge_41 ?_
        exact j_retI hx hb hK hP hS hr hlk (Option.some.inj h) dX9_judge_42
      · replace h := (if_neg q3).symm.trans h
        refine j_aload_n hx hb dX9_judge_10 rfl (lv_at hl 0 rfl) ?_
        refine j_get (v := jR b 333) hx hb hts hinX9 hown hK hP kz_332 (by decide) rfl 0 (by decide) (hts (.fieldLink RX9 7 "CardBandModel" "w" "[I") (by decide +kernel)) rfl rfl dX9_judge_11 ?_
        refine j_bipush hx hb dX9_judge_14 (by decide) ?_
        refine j_aload_n hx hb dX9_judge_16 rfl (lv_at hl 0 rfl) ?_
        refine j_get (v := jR b 344) hx hb hts hinX9 hown hK hP kz_332 (by decide) rfl 24 (by decide) (hts (.fieldLink RX9 48 "CardBandModel" "bookOf" "[I") (by decide +kernel)) rfl rfl dX9_judge_17 ?_
        refine j_iload_n hx hb dX9_judge_20 rfl (lv_at hl 1 rfl) ?_
        obtain ⟨v4, e5, h⟩ := ob_I h
        refine j_iaload hx hb hK hP kz_344 e5 dX9_judge_21 ?_
        refine j_iadd hx hb dX9_judge_22 ?_
        obtain ⟨v6, e7, h⟩ := ob_I h
        refine j_iaload hx hb hK hP kz_333 e7 dX9_judge_23 ?_
        refine j_aload_n hx hb dX9_judge_24 rfl (lv_at hl 0 rfl) ?_
        refine j_get (v := jR b 345) hx hb hts hinX9 hown hK hP kz_332 (by decide) rfl 25 (by decide) (hts (.fieldLink RX9 51 "CardBandModel" "bookColour" "[I") (by decide +kernel)) rfl rfl dX9_judge_25 ?_
        refine j_iload_n hx hb dX9_judge_28 rfl (lv_at hl 1 rfl) ?_
        obtain ⟨v8, e9, h⟩ := ob_I h
        refine j_iaload hx hb hK hP kz_345 e9 dX9_judge_29 ?_
        refine j_icmp_eq (A := wr v6) (B := wr v8) (tgt := 35) hx hb rfl rfl dX9_judge_30 (by decide) (fun q10 => ?_) (fun q10 => ?_)
        · replace h := (if_pos q10).symm.trans h
          refine j_iinc (k := 1) (lv2 := [(1, jI (x1_2 + 1)), (0, jR b 332)]) hx hb dX9_judge_35 hl rfl (by decide) rfl (fun ls hl => ?_)
          refine j_goto (tgt := 2) hx hb dX9_judge_38 (by decide) ?_
          exact ih2_1 _ _ _ _ hP hS (lv_sub hl [1, 0] rfl) h
        · replace h := (if_neg q10).symm.trans h
          refine j_iload_n hx hb dX9_judge_33 rfl (lv_at hl 1 rfl) ?_
          exact j_retI hx hb hK hP hS hr hlk (Option.some.inj h) dX9_judge_34
  exact hl2_1 N _ _ _ _ hP hS (lv_sub hl [1, 0] rfl) h
def fX9_keep (N : Nat) (y1 : Int) (μ : Mm) : Option (Int × Mm) :=
    Option.bind (fX9_in N (wr y1) 0 1 μ) (fun v2 => if wr v2 = 0 then (some ((-1000000001), μ)) else (Option.bind (fX9_copy N 0 (486 + (243 * y1)) μ) (fun μ5 => Option.bind (stA μ5 334 2 y1 1) (fun μ6 => Option.bind (some (pI μ6 332 18 0)) (fun μ8 => some (1, μ8))))))
abbrev rmX9_keep : Room := { frames := 1, cells := 0, slots := 0, locals := 25 }
set_option maxHeartbeats 4000000 in
set_option maxRecDepth 100000 in
theorem m_X9_keep (l : Launch) (D : va_G) (b : Nat) (cs : CS) (N : Nat) {μ μ0 : Mm} {y1 : Int} {r : Int} (h : fX9_keep N y1 μ = some (r, μ0)) : MI l yX9_keep wsX9_keep rmX9_keep D b cs [jR b 332, jI y1] μ μ0 r := by
  refine met_in (cc := cX9_keep) (maxL := 2) (ret := some .int) (lv0 := [(0, jR b 332), (1, jI y1)]) (by decide +kernel) rfl (Nat.le_of_ble_eq_true rfl) rfl ?_
  intro p e s m args below meth c hx hb hr hlk hml hown hts hP hK ls hl
  have hown : s.vm.findClass RX9 = some m.cls := hown
  have hS : va_S (bA b) s.heap s.heap [] := va_S.rf
  have hinX9 : ∀ w ∈ u_ws RX9 TX9 27, w ∈ wsX9_keep := by decide +kernel
  unfold fX9_keep at h
  refine j_iload_n hx hb dX9_keep_0 rfl (lv_at hl 1 rfl) ?_
  refine j_i2l hx hb dX9_keep_1 ?_
  refine j_lconst (n := 0) hx hb dX9_keep_2 (by decide) ?_
  refine j_lconst (n := 1) hx hb dX9_keep_3 (by decide) ?_
  obtain ⟨v2, e1, h⟩ := ob_I h
  refine jc_SI (As := [jL (wr y1), jL 0, jL 1]) (rest := []) ⟨hx, hb, hml, hown, hts⟩ hK hP hS (m_X9_in l D b cs N e1) (va_cwS 3 hts gX9_keep_X9_in rfl rfl rfl (by decide +kernel) ⟨Nat.le_of_ble_eq_true rfl, Nat.le_of_ble_eq_true rfl⟩) rfl hl.1 rfl (Nat.le_of_ble_eq_true rfl) dX9_keep_4 ⟨Nat.zero_le _, Nat.zero_le _⟩ (fun H locs hP hS => ?_)
  refine j_if_ne (A := wr v2) (tgt := 13) hx hb rfl dX9_keep_7 (by decide) (fun q3 => ?_) (fun q3 => ?_)
  · replace h := (if_neg q3).symm.trans h
    refine j_aload_n hx hb dX9_keep_13 rfl (lv_at hl 0 rfl) ?_
    refine j_iconst hx hb dX9_keep_14 ?_
    refine j_sipush hx hb dX9_keep_15 (by decide) ?_
    refine j_sipush hx hb dX9_keep_18 (by decide) ?_
    refine j_iload_n hx hb dX9_keep_21 rfl (lv_at hl 1 rfl) ?_
    refine j_imul hx hb dX9_keep_22 ?_
    refine j_iadd hx hb dX9_keep_23 ?_
    obtain ⟨μ5, e4, h⟩ := ob_I h
    refine jc_VM (As := [jI 0, jI (486 + (243 * y1))]) (rest := []) ⟨hx, hb, hml, hown, hts⟩ hK hP hS (m_X9_copy l D b cs N e4) (cwV 2 hts gX9_keep_X9_copy rfl rfl rfl (by decide +kernel) ⟨Nat.le_of_ble_eq_true rfl, Nat.le_of_ble_eq_true rfl⟩) kz_332 (by decide) rfl rfl hl.1 rfl (Nat.le_of_ble_eq_true rfl) dX9_keep_24 ⟨Nat.zero_le _, Nat.zero_le _⟩ (fun H locs hP hS => ?_)
    refine j_aload_n hx hb dX9_keep_27 rfl (lv_at hl 0 rfl) ?_
    refine j_get (v := jR b 334) hx hb hts hinX9 hown hK hP kz_332 (by decide) rfl 1 (by decide) (hts (.fieldLink RX9 13 "CardBandModel" "isKept" "[Z") (by decide +kernel)) rfl rfl dX9_keep_28 ?_
    refine j_iload_n hx hb dX9_keep_31 rfl (lv_at hl 1 rfl) ?_
    refine j_iconst hx hb dX9_keep_32 ?_
    obtain ⟨μ6, e7, h⟩ := ob_I h
    refine j_zastore hx hb hK hP hS kz_334 (by decide) e7 dX9_keep_33 (fun H locs hP hS => ?_)
    refine j_aload_n hx hb dX9_keep_34 rfl (lv_at hl 0 rfl) ?_
    refine j_iconst hx hb dX9_keep_35 ?_
    obtain ⟨μ8, e9, h⟩ := ob_I h
    refine j_put (ty := .int) (z := 0) hx hb hts hinX9 tyX9 tyX9_ok nmX9 hown hK hP hS kz_332 (by decide) rfl 18 (by decide) (hts (.fieldLink RX9 137 "CardBandModel" "undoMany" "I") (by decide +kernel)) rfl rfl (by decide +kernel) rfl rfl (by simp [flds]) rfl dX9_keep_36 (Option.some.inj e9) (fun H locs hP hS => ?_)
    refine j_iconst hx hb dX9_keep_39 ?_
    obtain ⟨e0, e1⟩ := Prod.mk.inj (Option.some.inj h)
    subst e1
    exact j_retI hx hb hK hP hS hr hlk e0 dX9_keep_40
  · replace h := (if_pos q3).symm.trans h
    refine j_ldc (n := (-1000000001)) hx hb hown (hts (.constant RX9 183 (-1000000001)) (by decide +kernel)) (by decide) dX9_keep_10 ?_
    obtain ⟨e0, e1⟩ := Prod.mk.inj (Option.some.inj h)
    subst e1
    exact j_retI hx hb hK hP hS hr hlk e0 dX9_keep_12
def fX9_lasts_k98 (N : Nat) (y2 : Int) : Mm → Option (Int × Mm) := fun μ13 =>
    if wr y2 = 0 then (some (99, μ13)) else (some ((-1), μ13))
def fX9_lasts_l41 (N : Nat) (y1 : Int) (y2 : Int) : Nat → Int → Mm → Option (Int × Mm)
  | 0, _, _ => none
  | n15 + 1, x3_16, μ17 =>
    if 99 ≤ wr x3_16 then (fX9_lasts_k98 N y2 μ17) else (Option.bind (fX9_pickIn N 243 y1 μ17) (fun μ20 => Option.bind (fX9_lacks N 243 μ20) (fun v22 => if wr v22 = (-1) then (Option.bind (fX9_isTight N 243 μ20) (fun v28 => if wr v28 = 0 then ((fX9_lasts_l41 N y1 y2 n15) (x3_16 + 1) μ20) else (if wr y2 = 0 then (some (x3_16, μ20)) else (Option.bind (fX9_lacks N 243 μ20) (fun v32 => some (v32, μ20)))))) else (if wr y2 = 0 then (some (x3_16, μ20)) else (Option.bind (fX9_lacks N 243 μ20) (fun v26 => some (v26, μ20)))))))
def fX9_lasts (N : Nat) (y1 : Int) (y2 : Int) (μ : Mm) : Option (Int × Mm) :=
    Option.bind (fX9_isMoves N y1 μ) (fun v2 => if wr v2 = 0 then (some ((-1000000002), μ)) else (Option.bind (fX9_in N (wr y2) 0 1 μ) (fun v5 => if wr v5 = 0 then (some ((-1000000002), μ)) else (Option.bind (fX9_isLoom N μ) (fun v8 => if wr v8 = 0 then (some ((-1000000003), μ)) else (Option.bind (fX9_copy N 0 243 μ) (fun μ11 => fX9_lasts_l41 N y1 y2 N 0 μ11)))))))
abbrev rmX9_lasts : Room := { frames := 3, cells := 0, slots := 0, locals := 71 }
set_option maxHeartbeats 4000000 in
set_option maxRecDepth 100000 in
theorem m_X9_lasts (l : Launch) (D : va_G) (b : Nat) (cs : CS) (N : Nat) {μ μ0 : Mm} {y1 y2 : Int} {r : Int} (h : fX9_lasts N y1 y2 μ = some (r, μ0)) : MI l yX9_lasts wsX9_lasts rmX9_lasts D b cs [jR b 332, jI y1, jI y2] μ μ0 r := by
  refine met_in (cc := cX9_lasts) (maxL := 4) (ret := some .int) (lv0 := [(0, jR b 332), (1, jI y1), (2, jI y2)]) (by decide +kernel) rfl (Nat.le_of_ble_eq_true rfl) rfl ?_
  intro p e s m args below meth c hx hb hr hlk hml hown hts hP hK ls hl
  have hown : s.vm.findClass RX9 = some m.cls := hown
  have hS : va_S (bA b) s.heap s.heap [] := va_S.rf
  unfold fX9_lasts at h
  refine j_aload_n hx hb dX9_lasts_0 rfl (lv_at hl 0 rfl) ?_
  refine j_iload_n hx hb dX9_lasts_1 rfl (lv_at hl 1 rfl) ?_
  obtain ⟨v2, e1, h⟩ := ob_I h
  refine jc_VI (As := [jI y1]) (rest := []) ⟨hx, hb, hml, hown, hts⟩ hK hP hS (m_X9_isMoves l D b cs N e1) (cwV 1 hts gX9_lasts_X9_isMoves rfl rfl rfl (by decide +kernel) ⟨Nat.le_of_ble_eq_true rfl, Nat.le_of_ble_eq_true rfl⟩) kz_332 (by decide) rfl rfl hl.1 rfl (Nat.le_of_ble_eq_true rfl) dX9_lasts_2 ⟨Nat.zero_le _, Nat.zero_le _⟩ (fun H locs hP hS => ?_)
  refine j_if_eq (A := wr v2) (tgt := 18) hx hb rfl dX9_lasts_5 (by decide) (fun q3 => ?_) (fun q3 => ?_)
  · replace h := (if_pos q3).symm.trans h
    refine j_ldc (n := (-1000000002)) hx hb hown (hts (.constant RX9 60 (-1000000002)) (by decide +kernel)) (by decide) dX9_lasts_18 ?_
    obtain ⟨e0, e1⟩ := Prod.mk.inj (Option.some.inj h)
    subst e1
    exact j_retI hx hb hK hP hS hr hlk e0 dX9_lasts_20
  · replace h := (if_neg q3).symm.trans h
    refine j_iload_n hx hb dX9_lasts_8 rfl (lv_at hl 2 rfl) ?_
    refine j_i2l hx hb dX9_lasts_9 ?_
    refine j_lconst (n := 0) hx hb dX9_lasts_10 (by decide) ?_
    refine j_lconst (n := 1) hx hb dX9_lasts_11 (by decide) ?_
    obtain ⟨v5, e4, h⟩ := ob_I h
    refine jc_SI (As := [jL (wr y2), jL 0, jL 1]) (rest := []) ⟨hx, hb, hml, hown, hts⟩ hK hP hS (m_X9_in l D b cs N e4) (va_cwS 3 hts gX9_lasts_X9_in rfl rfl rfl (by decide +kernel) ⟨Nat.le_of_ble_eq_true rfl, Nat.le_of_ble_eq_true rfl⟩) rfl hl.1 rfl (Nat.le_of_ble_eq_true rfl) dX9_lasts_12 ⟨Nat.zero_le _, Nat.zero_le _⟩ (fun H locs hP hS => ?_)
    refine j_if_ne (A := wr v5) (tgt := 21) hx hb rfl dX9_lasts_15 (by decide) (fun q6 => ?_) (fun q6 => ?_)
    · replace h := (if_neg q6).symm.trans h
      refine j_aload_n hx hb dX9_lasts_21 rfl (lv_at hl 0 rfl) ?_
      obtain ⟨v8, e7, h⟩ := ob_I h
      refine jc_VI (As := []) (rest := []) ⟨hx, hb, hml, hown, hts⟩ hK hP hS (m_X9_isLoom l D b cs N e7) (cwV 0 hts gX9_lasts_X9_isLoom rfl rfl rfl (by decide +kernel) ⟨Nat.le_of_ble_eq_true rfl, Nat.le_of_ble_eq_true rfl⟩) kz_332 (by decide) rfl rfl hl.1 rfl (Nat.le_of_ble_eq_true rfl) dX9_lasts_22 ⟨Nat.zero_le _, Nat.zero_le _⟩ (fun H locs hP hS => ?_)
      refine j_if_ne (A := wr v8) (tgt := 31) hx hb rfl dX9_lasts_25 (by decide) (fun q9 => ?_) (fun q9 => ?_)
      · replace h := (if_neg q9).symm.trans h
        refine j_aload_n hx hb dX9_lasts_31 rfl (lv_at hl 0 rfl) ?_
        refine j_iconst hx hb dX9_lasts_32 ?_
        refine j_sipush hx hb dX9_lasts_33 (by decide) ?_
        obtain ⟨μ11, e10, h⟩ := ob_I h
        refine jc_VM (As := [jI 0, jI 243]) (rest := []) ⟨hx, hb, hml, hown, hts⟩ hK hP hS (m_X9_copy l D b cs N e10) (cwV 2 hts gX9_lasts_X9_copy rfl rfl rfl (by decide +kernel) ⟨Nat.le_of_ble_eq_true rfl, Nat.le_of_ble_eq_true rfl⟩) kz_332 (by decide) rfl rfl hl.1 rfl (Nat.le_of_ble_eq_true rfl) dX9_lasts_36 ⟨Nat.zero_le _, Nat.zero_le _⟩ (fun H locs hP hS => ?_)
        refine j_iconst hx hb dX9_lasts_39 ?_
        refine j_istore_n (lv2 := [(3, jI 0), (0, jR b 332), (1, jI y1), (2, jI y2)]) hx hb dX9_lasts_40 rfl hl (by decide) rfl (fun ls hl => ?_)
        have hk98_12 : ∀ (μ13 : Mm) (H : Heap) (locs : List Loc) (ls : Array Slot), va_P D vwCl (wl b cs μ13) H → va_S (bA b) s.heap H locs → lv_has ls 4 [(2, jI y2)] → fX9_lasts_k98 N y2 μ13 = some (r, μ0) → W p l e rmX9_lasts s m args below meth c H locs 0 0 (MQ below (QI D b cs μ0 r) args s 0 0 (bA b)) (F0 m 98 ls []) := by
          intro μ13 H locs ls hP hS hl h
          unfold fX9_lasts_k98 at h
          refine j_iload_n hx hb dX9_lasts_98 rfl (lv_at hl 0 rfl) ?_
          refine j_if_ne (A := wr y2) (tgt := 107) hx hb rfl dX9_lasts_99 (by decide) (fun q14 => ?_) (fun q14 => ?_)
          · replace h := (if_neg q14).symm.trans h
            refine j_iconst hx hb dX9_lasts_107 ?_
            obtain ⟨e0, e1⟩ := Prod.mk.inj (Option.some.inj h)
            subst e1
            exact j_retI hx hb hK hP hS hr hlk e0 dX9_lasts_108
          · replace h := (if_pos q14).symm.trans h
            refine j_bipush hx hb dX9_lasts_102 (by decide) ?_
            refine j_goto (tgt := 108) hx hb dX9_lasts_104 (by decide) ?_
            obtain ⟨e0, e1⟩ := Prod.mk.inj (Option.some.inj h)
            subst e1
            exact j_retI hx hb hK hP hS hr hlk e0 dX9_lasts_108
        have hl41_15 : ∀ (n0 : Nat) (x3_16 : Int) (μ17 : Mm) (H : Heap) (locs : List Loc) (ls : Array Slot), va_P D vwCl (wl b cs μ17) H → va_S (bA b) s.heap H locs → lv_has ls 4 [(0, jR b 332), (1, jI y1), (2, jI y2), (3, jI x3_16)] → fX9_lasts_l41 N y1 y2 n0 x3_16 μ17 = some (r, μ0) → W p l e rmX9_lasts s m args below meth c H locs 0 0 (MQ below (QI D b cs μ0 r) args s 0 0 (bA b)) (F0 m 41 ls []) := by
          intro n0
          induction n0 with
          | zero => intro x3_16 μ17 H locs ls hP hS hl h; rw [fX9_lasts_l41] at h; cases h
          | succ n15 ih41_15 =>
            intro x3_16 μ17 H locs ls hP hS hl h
            rw [fX9_lasts_l41] at h
            refine j_iload_n hx hb dX9_lasts_41 rfl (lv_at hl 3 rfl) ?_
            refine j_bipush hx hb dX9_lasts_42 (by decide) ?_
            refine j_icmp_ge (A := wr x3_16) (B := 99) (tgt := 98) hx hb rfl (by decide) dX9_lasts_44 (by decide) (fun q18 => ?_) (fun q18 => ?_)
            · replace h := (if_pos q18).symm.trans h
              exact hk98_12 _ _ _ _ hP hS (lv_sub hl [2] rfl) h
            · replace h := (if_neg q18).symm.trans h
              refine j_aload_n hx hb dX9_lasts_47 rfl (lv_at hl 0 rfl) ?_
              refine j_sipush hx hb dX9_lasts_48 (by decide) ?_
              refine j_iload_n hx hb dX9_lasts_51 rfl (lv_at hl 1 rfl) ?_
              obtain ⟨μ20, e19, h⟩ := ob_I h
              refine jc_VM (As := [jI 243, jI y1]) (rest := []) ⟨hx, hb, hml, hown, hts⟩ hK hP hS (m_X9_pickIn l D b cs N e19) (cwV 2 hts gX9_lasts_X9_pickIn rfl rfl rfl (by decide +kernel) ⟨Nat.le_of_ble_eq_true rfl, Nat.le_of_ble_eq_true rfl⟩) kz_332 (by decide) rfl rfl hl.1 rfl (Nat.le_of_ble_eq_true rfl) dX9_lasts_52 ⟨Nat.zero_le _, Nat.zero_le _⟩ (fun H locs hP hS => ?_)
              refine j_aload_n hx hb dX9_lasts_55 rfl (lv_at hl 0 rfl) ?_
              refine j_sipush hx hb dX9_lasts_56 (by decide) ?_
              obtain ⟨v22, e21, h⟩ := ob_I h
              refine jc_VI (As := [jI 243]) (rest := []) ⟨hx, hb, hml, hown, hts⟩ hK hP hS (m_X9_lacks l D b cs N e21) (cwV 1 hts gX9_lasts_X9_lacks rfl rfl rfl (by decide +kernel) ⟨Nat.le_of_ble_eq_true rfl, Nat.le_of_ble_eq_true rfl⟩) kz_332 (by decide) rfl rfl hl.1 rfl (Nat.le_of_ble_eq_true rfl) dX9_lasts_59 ⟨Nat.zero_le _, Nat.zero_le _⟩ (fun H locs hP hS => ?_)
              refine j_iconst hx hb dX9_lasts_62 ?_
              refine j_icmp_ne (A := wr v22) (B := (-1)) (tgt := 76) hx hb rfl (by decide) dX9_lasts_63 (by decide) (fun q23 => ?_) (fun q23 => ?_)
              · replace h := (if_neg q23).symm.trans h
                refine j_iload_n hx hb dX9_lasts_76 rfl (lv_at hl 2 rfl) ?_
                refine j_if_ne (A := wr y2) (tgt := 84) hx hb rfl dX9_lasts_77 (by decide) (fun q24 => ?_) (fun q24 => ?_)
                · replace h := (if_neg q24).symm.trans h
                  refine j_aload_n hx hb dX9_lasts_84 rfl (lv_at hl 0 rfl) ?_
                  refine j_sipush hx hb dX9_lasts_85 (by decide) ?_
                  obtain ⟨v26, e25, h⟩ := ob_I h
                  refine jc_VI (As := [jI 243]) (rest := []) ⟨hx, hb, hml, hown, hts⟩ hK hP hS (m_X9_lacks l D b cs N e25) (cwV 1 hts gX9_lasts_X9_lacks rfl rfl rfl (by decide +kernel) ⟨Nat.le_of_ble_eq_true rfl, Nat.le_of_ble_eq_true rfl⟩) kz_332 (by decide) rfl rfl hl.1 rfl (Nat.le_of_ble_eq_true rfl) dX9_lasts_88 ⟨Nat.zero_le _, Nat.zero_le _⟩ (fun H locs hP hS => ?_)
                  obtain ⟨e0, e1⟩ := Prod.mk.inj (Option.some.inj h)
                  subst e1
                  exact j_retI hx hb hK hP hS hr hlk e0 dX9_lasts_91
                · replace h := (if_pos q24).symm.trans h
                  refine j_iload_n hx hb dX9_lasts_80 rfl (lv_at hl 3 rfl) ?_
                  refine j_goto (tgt := 91) hx hb dX9_lasts_81 (by decide) ?_
                  obtain ⟨e0, e1⟩ := Prod.mk.inj (Option.some.inj h)
                  subst e1
                  exact j_retI hx hb hK hP hS hr hlk e0 dX9_lasts_91
              · replace h := (if_pos q23).symm.trans h
                refine j_aload_n hx hb dX9_lasts_66 rfl (lv_at hl 0 rfl) ?_
                refine j_sipush hx hb dX9_lasts_67 (by decide) ?_
                obtain ⟨v28, e27, h⟩ := ob_I h
                refine jc_VI (As := [jI 243]) (rest := []) ⟨hx, hb, hml, hown, hts⟩ hK hP hS (m_X9_isTight l D b cs N e27) (cwV 1 hts gX9_lasts_X9_isTight rfl rfl rfl (by decide +kernel) ⟨Nat.le_of_ble_eq_true rfl, Nat.le_of_ble_eq_true rfl⟩) kz_332 (by decide) rfl rfl hl.1 rfl (Nat.le_of_ble_eq_true rfl) dX9_lasts_70 ⟨Nat.zero_le _, Nat.zero_le _⟩ (fun H locs hP hS => ?_)
                refine j_if_eq (A := wr v28) (tgt := 92) hx hb rfl dX9_lasts_73 (by decide) (fun q29 => ?_) (fun q29 => ?_)
                · replace h := (if_pos q29).symm.trans h
                  refine j_iinc (k := 3) (lv2 := [(3, jI (x3_16 + 1)), (0, jR b 332), (1, jI y1), (2, jI y2)]) hx hb dX9_lasts_92 hl rfl (by decide) rfl (fun ls hl => ?_)
                  refine j_goto (tgt := 41) hx hb dX9_lasts_95 (by decide) ?_
                  exact ih41_15 _ _ _ _ _ hP hS (lv_sub hl [1, 2, 3, 0] rfl) h
                · replace h := (if_neg q29).symm.trans h
                  refine j_iload_n hx hb dX9_lasts_76 rfl (lv_at hl 2 rfl) ?_
                  refine j_if_ne (A := wr y2) (tgt := 84) hx hb rfl dX9_lasts_77 (by decide) (fun q30 => ?_) (fun q30 => ?_)
                  · replace h := (if_neg q30).symm.trans h
                    refine j_aload_n hx hb dX9_lasts_84 rfl (lv_at hl 0 rfl) ?_
                    refine j_sipush hx hb dX9_lasts_85 (by decide) ?_
                    obtain ⟨v32, e31, h⟩ := ob_I h
                    refine jc_VI (As := [jI 243]) (rest := []) ⟨hx, hb, hml, hown, hts⟩ hK hP hS (m_X9_lacks l D b cs N e31) (cwV 1 hts gX9_lasts_X9_lacks rfl rfl rfl (by decide +kernel) ⟨Nat.le_of_ble_eq_true rfl, Nat.le_of_ble_eq_true rfl⟩) kz_332 (by decide) rfl rfl hl.1 rfl (Nat.le_of_ble_eq_true rfl) dX9_lasts_88 ⟨Nat.zero_le _, Nat.zero_le _⟩ (fun H locs hP hS => ?_)
                    obtain ⟨e0, e1⟩ := Prod.mk.inj (Option.some.inj h)
                    subst e1
                    exact j_retI hx hb hK hP hS hr hlk e0 dX9_lasts_91
                  · replace h := (if_pos q30).symm.trans h
                    refine j_iload_n hx hb dX9_lasts_80 rfl (lv_at hl 3 rfl) ?_
                    refine j_goto (tgt := 91) hx hb dX9_lasts_81 (by decide) ?_
                    obtain ⟨e0, e1⟩ := Prod.mk.inj (Option.some.inj h)
                    subst e1
                    exact j_retI hx hb hK hP hS hr hlk e0 dX9_lasts_91
        exact hl41_15 N _ _ _ _ _ hP hS (lv_sub hl [1, 2, 3, 0] rfl) h
      · replace h := (if_pos q9).symm.trans h
        refine j_ldc (n := (-1000000003)) hx hb hown (hts (.constant RX9 231 (-1000000003)) (by decide +kernel)) (by decide) dX9_lasts_28 ?_
        obtain ⟨e0, e1⟩ := Prod.mk.inj (Option.some.inj h)
        subst e1
        exact j_retI hx hb hK hP hS hr hlk e0 dX9_lasts_30
    · replace h := (if_pos q6).symm.trans h
      refine j_ldc (n := (-1000000002)) hx hb hown (hts (.constant RX9 60 (-1000000002)) (by decide +kernel)) (by decide) dX9_lasts_18 ?_
      obtain ⟨e0, e1⟩ := Prod.mk.inj (Option.some.inj h)
      subst e1
      exact j_retI hx hb hK hP hS hr hlk e0 dX9_lasts_20
def fX9_layFar_l49 (N : Nat) (x3_4 : Int) (rec40_3 : Int → Mm → Option (Mm)) : Nat → Int → Mm → Option (Mm)
  | 0, _, _ => none
  | n7 + 1, x4_8, μ9 =>
    if 20 ≤ wr x4_8 then (rec40_3 (x3_4 + 1) μ9) else (Option.bind (ldA μ9 340 20 x4_8) (fun v11 => Option.bind (ldA μ9 340 20 ((5 * (rmI ((dvI x4_8 5) + 1) 4)) + (dvI x4_8 5))) (fun v13 => Option.bind (ldA μ9 340 20 ((5 * (rmI ((dvI x4_8 5) + 3) 4)) + (rmI ((dvI x4_8 5) + 3) 4))) (fun v15 => Option.bind (fX9_least N v13 v15 μ9) (fun v18 => Option.bind (fX9_least N v11 (1 + v18) μ9) (fun v20 => Option.bind (stA μ9 340 20 x4_8 v20) (fun μ21 => (fX9_layFar_l49 N x3_4 rec40_3 n7) (x4_8 + 1) μ21)))))))
def fX9_layFar_l40 (N : Nat) : Nat → Int → Mm → Option (Mm)
  | 0, _, _ => none
  | n3 + 1, x3_4, μ5 =>
    if 8 ≤ wr x3_4 then (some μ5) else (fX9_layFar_l49 N x3_4 (fX9_layFar_l40 N n3) N 0 μ5)
def fX9_layFar_k38 (N : Nat) : Mm → Option (Mm) := fun μ2 =>
    fX9_layFar_l40 N N 0 μ2
def fX9_layFar_j31 (N : Nat) (x3_24 : Int) (μ25 : Mm) (rec2_23 : Int → Mm → Option (Mm)) : Int → Option (Mm) := fun s30 =>
    Option.bind (stA μ25 340 20 x3_24 s30) (fun μ31 => rec2_23 (x3_24 + 1) μ31)
def fX9_layFar_l2 (N : Nat) (y1 : Int) (y2 : Int) : Nat → Int → Mm → Option (Mm)
  | 0, _, _ => none
  | n23 + 1, x3_24, μ25 =>
    if 20 ≤ wr x3_24 then (fX9_layFar_k38 N μ25) else (Option.bind (fX9_allShow N y1 y2 (rmI x3_24 5) μ25) (fun v28 => if wr v28 = 0 then (fX9_layFar_j31 N x3_24 μ25 (fX9_layFar_l2 N y1 y2 n23) 99) else (fX9_layFar_j31 N x3_24 μ25 (fX9_layFar_l2 N y1 y2 n23) 0)))
def fX9_layFar (N : Nat) (y1 : Int) (y2 : Int) (μ : Mm) : Option (Mm) :=
    fX9_layFar_l2 N y1 y2 N 0 μ
abbrev rmX9_layFar : Room := { frames := 2, cells := 0, slots := 0, locals := 48 }
set_option maxHeartbeats 4000000 in
set_option maxRecDepth 100000 in
theorem m_X9_layFar (l : Launch) (D : va_G) (b : Nat) (cs : CS) (N : Nat) {μ μ0 : Mm} {y1 y2 : Int} (h : fX9_layFar N y1 y2 μ = some μ0) : MM l yX9_layFar wsX9_layFar rmX9_layFar D b cs [jR b 332, jI y1, jI y2] μ μ0 := by
  refine met_in (cc := cX9_layFar) (maxL := 8) (ret := none) (lv0 := [(0, jR b 332), (1, jI y1), (2, jI y2)]) (by decide +kernel) rfl (Nat.le_of_ble_eq_true rfl) rfl ?_
  intro p e s m args below meth c hx hb hr hlk hml hown hts hP hK ls hl
  have hown : s.vm.findClass RX9 = some m.cls := hown
  have hS : va_S (bA b) s.heap s.heap [] := va_S.rf
  have hinX9 : ∀ w ∈ u_ws RX9 TX9 27, w ∈ wsX9_layFar := by decide +kernel
  unfold fX9_layFar at h
  refine j_iconst hx hb dX9_layFar_0 ?_
  refine j_istore_n (lv2 := [(3, jI 0), (0, jR b 332), (1, jI y1), (2, jI y2)]) hx hb dX9_layFar_1 rfl hl (by decide) rfl (fun ls hl => ?_)
  have hk38_1 : ∀ (μ2 : Mm) (H : Heap) (locs : List Loc) (ls : Array Slot), va_P D vwCl (wl b cs μ2) H → va_S (bA b) s.heap H locs → lv_has ls 8 [(0, jR b 332)] → fX9_layFar_k38 N μ2 = some μ0 → W p l e rmX9_layFar s m args below meth c H locs 0 0 (MQ below (QM D b cs μ0) args s 0 0 (bA b)) (F0 m 38 ls []) := by
    intro μ2 H locs ls hP hS hl h
    unfold fX9_layFar_k38 at h
    refine j_iconst hx hb dX9_layFar_38 ?_
    refine j_istore_n (lv2 := [(3, jI 0), (0, jR b 332)]) hx hb dX9_layFar_39 rfl hl (by decide) rfl (fun ls hl => ?_)
    have hl40_3 : ∀ (n0 : Nat) (x3_4 : Int) (μ5 : Mm) (H : Heap) (locs : List Loc) (ls : Array Slot), va_P D vwCl (wl b cs μ5) H → va_S (bA b) s.heap H locs → lv_has ls 8 [(0, jR b 332), (3, jI x3_4)] → fX9_layFar_l40 N n0 x3_4 μ5 = some μ0 → W p l e rmX9_layFar s m args below meth c H locs 0 0 (MQ below (QM D b cs μ0) args s 0 0 (bA b)) (F0 m 40 ls []) := by
      intro n0
      induction n0 with
      | zero => intro x3_4 μ5 H locs ls hP hS hl h; rw [fX9_layFar_l40] at h; cases h
      | succ n3 ih40_3 =>
        intro x3_4 μ5 H locs ls hP hS hl h
        rw [fX9_layFar_l40] at h
        refine j_iload_n hx hb dX9_layFar_40 rfl (lv_at hl 1 rfl) ?_
        refine j_bipush hx hb dX9_layFar_41 (by decide) ?_
        refine j_icmp_ge (A := wr x3_4) (B := 8) (tgt := 140) hx hb rfl (by decide) dX9_layFar_43 (by decide) (fun q6 => ?_) (fun q6 => ?_)
        · replace h := (if_pos q6).symm.trans h
          have e0 := Option.some.inj h
          subst e0
          exact j_retM hx hb hK hP hS hr hlk dX9_layFar_140
        · replace h := (if_neg q6).symm.trans h
          refine j_iconst hx hb dX9_layFar_46 ?_
          refine j_istore (lv2 := [(4, jI 0), (0, jR b 332), (3, jI x3_4)]) hx hb dX9_layFar_47 hl (by decide) rfl (fun ls hl => ?_)
          have hl49_7 : ∀ (n0 : Nat) (x4_8 : Int) (μ9 : Mm) (H : Heap) (locs : List Loc) (ls : Array Slot), va_P D vwCl (wl b cs μ9) H → va_S (bA b) s.heap H locs → lv_has ls 8 [(0, jR b 332), (3, jI x3_4), (4, jI x4_8)] → fX9_layFar_l49 N x3_4 (fX9_layFar_l40 N n3) n0 x4_8 μ9 = some μ0 → W p l e rmX9_layFar s m args below meth c H locs 0 0 (MQ below (QM D b cs μ0) args s 0 0 (bA b)) (F0 m 49 ls []) := by
            intro n0
            induction n0 with
            | zero => intro x4_8 μ9 H locs ls hP hS hl h; rw [fX9_layFar_l49] at h; cases h
            | succ n7 ih49_7 =>
              intro x4_8 μ9 H locs ls hP hS hl h
              rw [fX9_layFar_l49] at h
              refine j_iload hx hb dX9_layFar_49 (lv_at hl 2 rfl) ?_
              refine j_bipush hx hb dX9_layFar_51 (by decide) ?_
              refine j_icmp_ge (A := wr x4_8) (B := 20) (tgt := 134) hx hb rfl (by decide) dX9_layFar_53 (by decide) (fun q10 => ?_) (fun q10 => ?_)
              · replace h := (if_pos q10).symm.trans h
                refine j_iinc (k := 1) (lv2 := [(3, jI (x3_4 + 1)), (0, jR b 332), (4, jI x4_8)]) hx hb dX9_layFar_134 hl rfl (by decide) rfl (fun ls hl => ?_)
                refine j_goto (tgt := 40) hx hb dX9_layFar_137 (by decide) ?_
                exact ih40_3 _ _ _ _ _ hP hS (lv_sub hl [1, 0] rfl) h
              · replace h := (if_neg q10).symm.trans h
                refine j_iload hx hb dX9_layFar_56 (lv_at hl 2 rfl) ?_
                refine j_iconst hx hb dX9_layFar_58 ?_
                refine j_idiv hx hb dX9_layFar_59 (by decide) ?_
                refine j_istore (lv2 := [(5, jI (dvI x4_8 5)), (0, jR b 332), (3, jI x3_4), (4, jI x4_8)]) hx hb dX9_layFar_60 hl (by decide) rfl (fun ls hl => ?_)
                refine j_iconst hx hb dX9_layFar_62 ?_
                refine j_iload hx hb dX9_layFar_63 (lv_at hl 0 rfl) ?_
                refine j_iconst hx hb dX9_layFar_65 ?_
                refine j_iadd hx hb dX9_layFar_66 ?_
                refine j_iconst hx hb dX9_layFar_67 ?_
                refine j_irem hx hb dX9_layFar_68 (by decide) ?_
                refine j_imul hx hb dX9_layFar_69 ?_
                refine j_iload hx hb dX9_layFar_70 (lv_at hl 0 rfl) ?_
                refine j_iadd hx hb dX9_layFar_72 ?_
                refine j_istore (lv2 := [(6, jI ((5 * (rmI ((dvI x4_8 5) + 1) 4)) + (dvI x4_8 5))), (5, jI (dvI x4_8 5)), (0, jR b 332), (3, jI x3_4), (4, jI x4_8)]) hx hb dX9_layFar_73 hl (by decide) rfl (fun ls hl => ?_)
                refine j_iconst hx hb dX9_layFar_75 ?_
                refine j_iload hx hb dX9_layFar_76 (lv_at hl 1 rfl) ?_
                refine j_iconst hx hb dX9_layFar_78 ?_
                refine j_iadd hx hb dX9_layFar_79 ?_
                refine j_iconst hx hb dX9_layFar_80 ?_
                refine j_irem hx hb dX9_layFar_81 (by decide) ?_
                refine j_imul hx hb dX9_layFar_82 ?_
                refine j_iload hx hb dX9_layFar_83 (lv_at hl 1 rfl) ?_
                refine j_iconst hx hb dX9_layFar_85 ?_
                refine j_iadd hx hb dX9_layFar_86 ?_
                refine j_iconst hx hb dX9_layFar_87 ?_
                refine j_irem hx hb dX9_layFar_88 (by decide) ?_
                refine j_iadd hx hb dX9_layFar_89 ?_
                refine j_istore (lv2 := [(7, jI ((5 * (rmI ((dvI x4_8 5) + 3) 4)) + (rmI ((dvI x4_8 5) + 3) 4))), (6, jI ((5 * (rmI ((dvI x4_8 5) + 1) 4)) + (dvI x4_8 5))), (5, jI (dvI x4_8 5)), (0, jR b 332), (3, jI x3_4), (4, jI x4_8)]) hx hb dX9_layFar_90 hl (by decide) rfl (fun ls hl => ?_)
                refine j_aload_n hx hb dX9_layFar_92 rfl (lv_at hl 3 rfl) ?_
                refine j_get (v := jR b 340) hx hb hts hinX9 hown hK hP kz_332 (by decide) rfl 19 (by decide) (hts (.fieldLink RX9 36 "CardBandModel" "far" "[I") (by decide +kernel)) rfl rfl dX9_layFar_93 ?_
                refine j_iload hx hb dX9_layFar_96 (lv_at hl 5 rfl) ?_
                refine j_aload_n hx hb dX9_layFar_98 rfl (lv_at hl 3 rfl) ?_
                refine j_get (v := jR b 340) hx hb hts hinX9 hown hK hP kz_332 (by decide) rfl 19 (by decide) (hts (.fieldLink RX9 36 "CardBandModel" "far" "[I") (by decide +kernel)) rfl rfl dX9_layFar_99 ?_
                refine j_iload hx hb dX9_layFar_102 (lv_at hl 5 rfl) ?_
                obtain ⟨v11, e12, h⟩ := ob_I h
                refine j_iaload hx hb hK hP kz_340 e12 dX9_layFar_104 ?_
                refine j_iconst hx hb dX9_layFar_105 ?_
                refine j_aload_n hx hb dX9_layFar_106 rfl (lv_at hl 3 rfl) ?_
                refine j_get (v := jR b 340) hx hb hts hinX9 hown hK hP kz_332 (by decide) rfl 19 (by decide) (hts (.fieldLink RX9 36 "CardBandModel" "far" "[I") (by decide +kernel)) rfl rfl dX9_layFar_107 ?_
                refine j_iload hx hb dX9_layFar_110 (lv_at hl 1 rfl) ?_
                obtain ⟨v13, e14, h⟩ := ob_I h
                refine j_iaload hx hb hK hP kz_340 e14 dX9_layFar_112 ?_
                refine j_aload_n hx hb dX9_layFar_113 rfl (lv_at hl 3 rfl) ?_
                refine j_get (v := jR b 340) hx hb hts hinX9 hown hK hP kz_332 (by decide) rfl 19 (by decide) (hts (.fieldLink RX9 36 "CardBandModel" "far" "[I") (by decide +kernel)) rfl rfl dX9_layFar_114 ?_
                refine j_iload hx hb dX9_layFar_117 (lv_at hl 0 rfl) ?_
                obtain ⟨v15, e16, h⟩ := ob_I h
                refine j_iaload hx hb hK hP kz_340 e16 dX9_layFar_119 ?_
                obtain ⟨v18, e17, h⟩ := ob_I h
                refine jc_SI (As := [jI v13, jI v15]) (rest := [jI 1, jI v11, jI x4_8, jR b 340]) ⟨hx, hb, hml, hown, hts⟩ hK hP hS (m_X9_least l D b cs N e17) (va_cwS 2 hts gX9_layFar_X9_least rfl rfl rfl (by decide +kernel) ⟨Nat.le_of_ble_eq_true rfl, Nat.le_of_ble_eq_true rfl⟩) rfl hl.1 rfl (Nat.le_of_ble_eq_true rfl) dX9_layFar_120 ⟨Nat.zero_le _, Nat.zero_le _⟩ (fun H locs hP hS => ?_)
                refine j_iadd hx hb dX9_layFar_123 ?_
                obtain ⟨v20, e19, h⟩ := ob_I h
                refine jc_SI (As := [jI v11, jI (1 + v18)]) (rest := [jI x4_8, jR b 340]) ⟨hx, hb, hml, hown, hts⟩ hK hP hS (m_X9_least l D b cs N e19) (va_cwS 2 hts gX9_layFar_X9_least rfl rfl rfl (by decide +kernel) ⟨Nat.le_of_ble_eq_true rfl, Nat.le_of_ble_eq_true rfl⟩) rfl hl.1 rfl (Nat.le_of_ble_eq_true rfl) dX9_layFar_124 ⟨Nat.zero_le _, Nat.zero_le _⟩ (fun H locs hP hS => ?_)
                obtain ⟨μ21, e22, h⟩ := ob_I h
                refine j_iastore hx hb hK hP hS kz_340 e22 dX9_layFar_127 (fun H locs hP hS => ?_)
                refine j_iinc (k := 5) (lv2 := [(4, jI (x4_8 + 1)), (7, jI ((5 * (rmI ((dvI x4_8 5) + 3) 4)) + (rmI ((dvI x4_8 5) + 3) 4))), (6, jI ((5 * (rmI ((dvI x4_8 5) + 1) 4)) + (dvI x4_8 5))), (5, jI (dvI x4_8 5)), (0, jR b 332), (3, jI x3_4)]) hx hb dX9_layFar_128 hl rfl (by decide) rfl (fun ls hl => ?_)
                refine j_goto (tgt := 49) hx hb dX9_layFar_131 (by decide) ?_
                exact ih49_7 _ _ _ _ _ hP hS (lv_sub hl [4, 5, 0] rfl) h
          exact hl49_7 N _ _ _ _ _ hP hS (lv_sub hl [1, 2, 0] rfl) h
    exact hl40_3 N _ _ _ _ _ hP hS (lv_sub hl [1, 0] rfl) h
  have hl2_23 : ∀ (n0 : Nat) (x3_24 : Int) (μ25 : Mm) (H : Heap) (locs : List Loc) (ls : Array Slot), va_P D vwCl (wl b cs μ25) H → va_S (bA b) s.heap H locs → lv_has ls 8 [(0, jR b 332), (1, jI y1), (2, jI y2), (3, jI x3_24)] → fX9_layFar_l2 N y1 y2 n0 x3_24 μ25 = some μ0 → W p l e rmX9_layFar s m args below meth c H locs 0 0 (MQ below (QM D b cs μ0) args s 0 0 (bA b)) (F0 m 2 ls []) := by
    intro n0
    induction n0 with
    | zero => intro x3_24 μ25 H locs ls hP hS hl h; rw [fX9_layFar_l2] at h; cases h
    | succ n23 ih2_23 =>
      intro x3_24 μ25 H locs ls hP hS hl h
      rw [fX9_layFar_l2] at h
      refine j_iload_n hx hb dX9_layFar_2 rfl (lv_at hl 3 rfl) ?_
      refine j_bipush hx hb dX9_layFar_3 (by decide) ?_
      refine j_icmp_ge (A := wr x3_24) (B := 20) (tgt := 38) hx hb rfl (by decide) dX9_layFar_5 (by decide) (fun q26 => ?_) (fun q26 => ?_)
      · replace h := (if_pos q26).symm.trans h
        exact hk38_1 _ _ _ _ hP hS (lv_sub hl [0] rfl) h
      · replace h := (if_neg q26).symm.trans h
        refine j_aload_n hx hb dX9_layFar_8 rfl (lv_at hl 0 rfl) ?_
        refine j_get (v := jR b 340) hx hb hts hinX9 hown hK hP kz_332 (by decide) rfl 19 (by decide) (hts (.fieldLink RX9 36 "CardBandModel" "far" "[I") (by decide +kernel)) rfl rfl dX9_layFar_9 ?_
        refine j_iload_n hx hb dX9_layFar_12 rfl (lv_at hl 3 rfl) ?_
        refine j_aload_n hx hb dX9_layFar_13 rfl (lv_at hl 0 rfl) ?_
        refine j_iload_n hx hb dX9_layFar_14 rfl (lv_at hl 1 rfl) ?_
        refine j_iload_n hx hb dX9_layFar_15 rfl (lv_at hl 2 rfl) ?_
        refine j_iload_n hx hb dX9_layFar_16 rfl (lv_at hl 3 rfl) ?_
        refine j_iconst hx hb dX9_layFar_17 ?_
        refine j_irem hx hb dX9_layFar_18 (by decide) ?_
        obtain ⟨v28, e27, h⟩ := ob_I h
        refine jc_VI (As := [jI y1, jI y2, jI (rmI x3_24 5)]) (rest := [jI x3_24, jR b 340]) ⟨hx, hb, hml, hown, hts⟩ hK hP hS (m_X9_allShow l D b cs N e27) (cwV 3 hts gX9_layFar_X9_allShow rfl rfl rfl (by decide +kernel) ⟨Nat.le_of_ble_eq_true rfl, Nat.le_of_ble_eq_true rfl⟩) kz_332 (by decide) rfl rfl hl.1 rfl (Nat.le_of_ble_eq_true rfl) dX9_layFar_19 ⟨Nat.zero_le _, Nat.zero_le _⟩ (fun H locs hP hS => ?_)
        have hj31_29 : ∀ (s30 : Int) (H : Heap) (locs : List Loc) (ls : Array Slot), va_P D vwCl (wl b cs μ25) H → va_S (bA b) s.heap H locs → lv_has ls 8 [(0, jR b 332), (1, jI y1), (2, jI y2), (3, jI x3_24)] → fX9_layFar_j31 N x3_24 μ25 (fX9_layFar_l2 N y1 y2 n23) s30 = some μ0 → W p l e rmX9_layFar s m args below meth c H locs 0 0 (MQ below (QM D b cs μ0) args s 0 0 (bA b)) (F0 m 31 ls [jI s30, jI x3_24, jR b 340]) := by
          intro s30 H locs ls hP hS hl h
          unfold fX9_layFar_j31 at h
          obtain ⟨μ31, e32, h⟩ := ob_I h
          refine j_iastore hx hb hK hP hS kz_340 e32 dX9_layFar_31 (fun H locs hP hS => ?_)
          refine j_iinc (k := 3) (lv2 := [(3, jI (x3_24 + 1)), (0, jR b 332), (1, jI y1), (2, jI y2)]) hx hb dX9_layFar_32 hl rfl (by decide) rfl (fun ls hl => ?_)
          refine j_goto (tgt := 2) hx hb dX9_layFar_35 (by decide) ?_
          exact ih2_23 _ _ _ _ _ hP hS (lv_sub hl [1, 2, 3, 0] rfl) h
        refine j_if_eq (A := wr v28) (tgt := 29) hx hb rfl dX9_layFar_22 (by decide) (fun q33 => ?_) (fun q33 => ?_)
        · replace h := (if_pos q33).symm.trans h
          refine j_bipush hx hb dX9_layFar_29 (by decide) ?_
          exact hj31_29 _ _ _ _ hP hS (lv_sub hl [0, 1, 2, 3] rfl) h
        · replace h := (if_neg q33).symm.trans h
          refine j_iconst hx hb dX9_layFar_25 ?_
          refine j_goto (tgt := 31) hx hb dX9_layFar_26 (by decide) ?_
          exact hj31_29 _ _ _ _ hP hS (lv_sub hl [0, 1, 2, 3] rfl) h
  exact hl2_23 N _ _ _ _ _ hP hS (lv_sub hl [1, 2, 3, 0] rfl) h
def fX9_longest_j42 (N : Nat) (μ : Mm) (x2_3 : Int) (x3_4 : Int) (rec6_1 : Int → Int → Int → Option (Int)) (v10 : Int) : Int → Option (Int) := fun s12 =>
    Option.bind (fX9_most N v10 x2_3 μ) (fun v14 => rec6_1 s12 v14 (x3_4 + 1))
def fX9_longest_l6 (N : Nat) (μ : Mm) : Nat → Int → Int → Int → Option (Int)
  | 0, _, _, _ => none
  | n1 + 1, x1_2, x2_3, x3_4 =>
    if wr (gI μ 332 6) ≤ wr x3_4 then (some x1_2) else (Option.bind (ldA μ 333 8262 49) (fun v6 => if wr v6 ≤ 0 then (some x1_2) else (Option.bind (fX9_floatOf N x3_4 μ) (fun v10 => if wr v10 ≤ wr x2_3 then (fX9_longest_j42 N μ x2_3 x3_4 (fX9_longest_l6 N μ n1) v10 x1_2) else (fX9_longest_j42 N μ x2_3 x3_4 (fX9_longest_l6 N μ n1) v10 x3_4)))))
def fX9_longest (N : Nat) (μ : Mm) : Option (Int) :=
    fX9_longest_l6 N μ N (-1) (-1) 0
abbrev rmX9_longest : Room := { frames := 2, cells := 0, slots := 0, locals := 47 }
set_option maxHeartbeats 4000000 in
set_option maxRecDepth 100000 in
theorem m_X9_longest (l : Launch) (D : va_G) (b : Nat) (cs : CS) (N : Nat) {μ : Mm} {r : Int} (h : fX9_longest N μ = some r) : MI l yX9_longest wsX9_longest rmX9_longest D b cs [jR b 332] μ μ r := by
  refine met_in (cc := cX9_longest) (maxL := 5) (ret := some .int) (lv0 := [(0, jR b 332)]) (by decide +kernel) rfl (Nat.le_of_ble_eq_true rfl) rfl ?_
  intro p e s m args below meth c hx hb hr hlk hml hown hts hP hK ls hl
  have hown : s.vm.findClass RX9 = some m.cls := hown
  have hS : va_S (bA b) s.heap s.heap [] := va_S.rf
  have hinX9 : ∀ w ∈ u_ws RX9 TX9 27, w ∈ wsX9_longest := by decide +kernel
  unfold fX9_longest at h
  refine j_iconst hx hb dX9_longest_0 ?_
  refine j_istore_n (lv2 := [(1, jI (-1)), (0, jR b 332)]) hx hb dX9_longest_1 rfl hl (by decide) rfl (fun ls hl => ?_)
  refine j_iconst hx hb dX9_longest_2 ?_
  refine j_istore_n (lv2 := [(2, jI (-1)), (1, jI (-1)), (0, jR b 332)]) hx hb dX9_longest_3 rfl hl (by decide) rfl (fun ls hl => ?_)
  refine j_iconst hx hb dX9_longest_4 ?_
  refine j_istore_n (lv2 := [(3, jI 0), (2, jI (-1)), (1, jI (-1)), (0, jR b 332)]) hx hb dX9_longest_5 rfl hl (by decide) rfl (fun ls hl => ?_)
  have hl6_1 : ∀ (n0 : Nat) (x1_2 : Int) (x2_3 : Int) (x3_4 : Int) (H : Heap) (locs : List Loc) (ls : Array Slot), va_P D vwCl (wl b cs μ) H → va_S (bA b) s.heap H locs → lv_has ls 5 [(0, jR b 332), (1, jI x1_2), (2, jI x2_3), (3, jI x3_4)] → fX9_longest_l6 N μ n0 x1_2 x2_3 x3_4 = some r → W p l e rmX9_longest s m args below meth c H locs 0 0 (MQ below (QI D b cs μ r) args s 0 0 (bA b)) (F0 m 6 ls []) := by
    intro n0
    induction n0 with
    | zero => intro x1_2 x2_3 x3_4 H locs ls hP hS hl h; rw [fX9_longest_l6] at h; cases h
    | succ n1 ih6_1 =>
      intro x1_2 x2_3 x3_4 H locs ls hP hS hl h
      rw [fX9_longest_l6] at h
      refine j_iload_n hx hb dX9_longest_6 rfl (lv_at hl 3 rfl) ?_
      refine j_aload_n hx hb dX9_longest_7 rfl (lv_at hl 0 rfl) ?_
      refine j_get (v := jI (gI μ 332 6)) hx hb hts hinX9 hown hK hP kz_332 (by decide) rfl 6 (by decide) (hts (.fieldLink RX9 122 "CardBandModel" "cards" "I") (by decide +kernel)) rfl (by rw [jI_g]; rfl) dX9_longest_8 ?_
      refine j_icmp_ge (A := wr x3_4) (B := wr (gI μ 332 6)) (tgt := 56) hx hb rfl rfl dX9_longest_11 (by decide) (fun q5 => ?_) (fun q5 => ?_)
      · replace h := (if_pos q5).symm.trans h
        refine j_iload_n hx hb dX9_longest_56 rfl (lv_at hl 1 rfl) ?_
        exact j_retI hx hb hK hP hS hr hlk (Option.some.inj h) dX9_longest_57
      · replace h := (if_neg q5).symm.trans h
        refine j_aload_n hx hb dX9_longest_14 rfl (lv_at hl 0 rfl) ?_
        refine j_get (v := jR b 333) hx hb hts hinX9 hown hK hP kz_332 (by decide) rfl 0 (by decide) (hts (.fieldLink RX9 7 "CardBandModel" "w" "[I") (by decide +kernel)) rfl rfl dX9_longest_15 ?_
        refine j_bipush hx hb dX9_longest_18 (by decide) ?_
        obtain ⟨v6, e7, h⟩ := ob_I h
        refine j_iaload hx hb hK hP kz_333 e7 dX9_longest_20 ?_
        refine j_if_le (A := wr v6) (tgt := 56) hx hb rfl dX9_longest_21 (by decide) (fun q8 => ?_) (fun q8 => ?_)
        · replace h := (if_pos q8).symm.trans h
          refine j_iload_n hx hb dX9_longest_56 rfl (lv_at hl 1 rfl) ?_
          exact j_retI hx hb hK hP hS hr hlk (Option.some.inj h) dX9_longest_57
        · replace h := (if_neg q8).symm.trans h
          refine j_aload_n hx hb dX9_longest_24 rfl (lv_at hl 0 rfl) ?_
          refine j_iload_n hx hb dX9_longest_25 rfl (lv_at hl 3 rfl) ?_
          obtain ⟨v10, e9, h⟩ := ob_I h
          refine jc_VI (As := [jI x3_4]) (rest := []) ⟨hx, hb, hml, hown, hts⟩ hK hP hS (m_X9_floatOf l D b cs N e9) (cwV 1 hts gX9_longest_X9_floatOf rfl rfl rfl (by decide +kernel) ⟨Nat.le_of_ble_eq_true rfl, Nat.le_of_ble_eq_true rfl⟩) kz_332 (by decide) rfl rfl hl.1 rfl (Nat.le_of_ble_eq_true rfl) dX9_longest_26 ⟨Nat.zero_le _, Nat.zero_le _⟩ (fun H locs hP hS => ?_)
          refine j_istore (lv2 := [(4, jI v10), (0, jR b 332), (1, jI x1_2), (2, jI x2_3), (3, jI x3_4)]) hx hb dX9_longest_29 hl (by decide) rfl (fun ls hl => ?_)
          refine j_iload hx hb dX9_longest_31 (lv_at hl 0 rfl) ?_
          refine j_iload_n hx hb dX9_longest_33 rfl (lv_at hl 3 rfl) ?_
          have hj42_11 : ∀ (s12 : Int) (H : Heap) (locs : List Loc) (ls : Array Slot), va_P D vwCl (wl b cs μ) H → va_S (bA b) s.heap H locs → lv_has ls 5 [(0, jR b 332), (2, jI x2_3), (3, jI x3_4), (4, jI v10)] → fX9_longest_j42 N μ x2_3 x3_4 (fX9_longest_l6 N μ n1) v10 s12 = some r → W p l e rmX9_longest s m args below meth c H locs 0 0 (MQ below (QI D b cs μ r) args s 0 0 (bA b)) (F0 m 42 ls [jI s12]) := by
            intro s12 H locs ls hP hS hl h
            unfold fX9_longest_j42 at h
            refine j_istore_n (lv2 := [(1, jI s12), (0, jR b 332), (2, jI x2_3), (3, jI x3_4), (4, jI v10)]) hx hb dX9_longest_42 rfl hl (by decide) rfl (fun ls hl => ?_)
            refine j_iload hx hb dX9_longest_43 (lv_at hl 4 rfl) ?_
            refine j_iload_n hx hb dX9_longest_45 rfl (lv_at hl 2 rfl) ?_
            obtain ⟨v14, e13, h⟩ := ob_I h
            refine jc_SI (As := [jI v10, jI x2_3]) (rest := []) ⟨hx, hb, hml, hown, hts⟩ hK hP hS (m_X9_most l D b cs N e13) (va_cwS 2 hts gX9_longest_X9_most rfl rfl rfl (by decide +kernel) ⟨Nat.le_of_ble_eq_true rfl, Nat.le_of_ble_eq_true rfl⟩) rfl hl.1 rfl (Nat.le_of_ble_eq_true rfl) dX9_longest_46 ⟨Nat.zero_le _, Nat.zero_le _⟩ (fun H locs hP hS => ?_)
            refine j_istore_n (lv2 := [(2, jI v14), (1, jI s12), (0, jR b 332), (3, jI x3_4), (4, jI v10)]) hx hb dX9_longest_49 rfl hl (by decide) rfl (fun ls hl => ?_)
            refine j_iinc (k := 3) (lv2 := [(3, jI (x3_4 + 1)), (2, jI v14), (1, jI s12), (0, jR b 332), (4, jI v10)]) hx hb dX9_longest_50 hl rfl (by decide) rfl (fun ls hl => ?_)
            refine j_goto (tgt := 6) hx hb dX9_longest_53 (by decide) ?_
            exact ih6_1 _ _ _ _ _ _ hP hS (lv_sub hl [3, 2, 1, 0] rfl) h
          refine j_icmp_le (A := wr v10) (B := wr x2_3) (tgt := 41) hx hb rfl rfl dX9_longest_34 (by decide) (fun q15 => ?_) (fun q15 => ?_)
          · replace h := (if_pos q15).symm.trans h
            refine j_iload_n hx hb dX9_longest_41 rfl (lv_at hl 2 rfl) ?_
            exact hj42_11 _ _ _ _ hP hS (lv_sub hl [1, 3, 4, 0] rfl) h
          · replace h := (if_neg q15).symm.trans h
            refine j_iload_n hx hb dX9_longest_37 rfl (lv_at hl 4 rfl) ?_
            refine j_goto (tgt := 42) hx hb dX9_longest_38 (by decide) ?_
            exact hj42_11 _ _ _ _ hP hS (lv_sub hl [1, 3, 4, 0] rfl) h
  exact hl6_1 N _ _ _ _ _ _ hP hS (lv_sub hl [3, 2, 1, 0] rfl) h
def fX9_lookAt_j78 (N : Nat) (μ : Mm) (x3_9 : Int) (x5_11 : Int) (rec49_8 : Int → Int → Int → Option (Int)) (v14 : Int) : Int → Option (Int) := fun s16 =>
    Option.bind (fX9_least N v14 x3_9 μ) (fun v18 => rec49_8 v18 s16 (x5_11 + 1))
def fX9_lookAt_l49 (N : Nat) (y1 : Int) (μ : Mm) (v5 : Int) : Nat → Int → Int → Int → Option (Int)
  | 0, _, _, _ => none
  | n8 + 1, x3_9, x4_10, x5_11 =>
    if 4 < wr x5_11 then (some x4_10) else (Option.bind (fX9_greatestPart N y1 x5_11 v5 μ) (fun v14 => if wr x3_9 ≤ wr v14 then (fX9_lookAt_j78 N μ x3_9 x5_11 (fX9_lookAt_l49 N y1 μ v5 n8) v14 x4_10) else (fX9_lookAt_j78 N μ x3_9 x5_11 (fX9_lookAt_l49 N y1 μ v5 n8) v14 x5_11)))
def fX9_lookAt_k43 (N : Nat) (y1 : Int) (μ : Mm) (v5 : Int) : Int → Option (Int) := fun x3_7 =>
    fX9_lookAt_l49 N y1 μ v5 N x3_7 (-1) 1
def fX9_lookAt_l22 (N : Nat) (y1 : Int) (μ : Mm) (v5 : Int) : Nat → Int → Int → Option (Int)
  | 0, _, _ => none
  | n20 + 1, x3_21, x4_22 =>
    if 4 ≤ wr x4_22 then (fX9_lookAt_k43 N y1 μ v5 x3_21) else ((fX9_lookAt_l22 N y1 μ v5 n20) (x3_21 + (andI (shrI v5 x4_22) 1)) (x4_22 + 1))
def fX9_lookAt (N : Nat) (y1 : Int) (μ : Mm) : Option (Int) :=
    Option.bind (fX9_isCard N y1 μ) (fun v2 => if wr v2 = 0 then (some (-1000000001)) else (Option.bind (fX9_holesOf N y1 μ) (fun v5 => fX9_lookAt_l22 N y1 μ v5 N 0 0)))
abbrev rmX9_lookAt : Room := { frames := 2, cells := 0, slots := 0, locals := 49 }
set_option maxHeartbeats 4000000 in
set_option maxRecDepth 100000 in
theorem m_X9_lookAt (l : Launch) (D : va_G) (b : Nat) (cs : CS) (N : Nat) {μ : Mm} {y1 : Int} {r : Int} (h : fX9_lookAt N y1 μ = some r) : MI l yX9_lookAt wsX9_lookAt rmX9_lookAt D b cs [jR b 332, jI y1] μ μ r := by
  refine met_in (cc := cX9_lookAt) (maxL := 7) (ret := some .int) (lv0 := [(0, jR b 332), (1, jI y1)]) (by decide +kernel) rfl (Nat.le_of_ble_eq_true rfl) rfl ?_
  intro p e s m args below meth c hx hb hr hlk hml hown hts hP hK ls hl
  have hown : s.vm.findClass RX9 = some m.cls := hown
  have hS : va_S (bA b) s.heap s.heap [] := va_S.rf
  unfold fX9_lookAt at h
  refine j_aload_n hx hb dX9_lookAt_0 rfl (lv_at hl 0 rfl) ?_
  refine j_iload_n hx hb dX9_lookAt_1 rfl (lv_at hl 1 rfl) ?_
  obtain ⟨v2, e1, h⟩ := ob_I h
  refine jc_VI (As := [jI y1]) (rest := []) ⟨hx, hb, hml, hown, hts⟩ hK hP hS (m_X9_isCard l D b cs N e1) (cwV 1 hts gX9_lookAt_X9_isCard rfl rfl rfl (by decide +kernel) ⟨Nat.le_of_ble_eq_true rfl, Nat.le_of_ble_eq_true rfl⟩) kz_332 (by decide) rfl rfl hl.1 rfl (Nat.le_of_ble_eq_true rfl) dX9_lookAt_2 ⟨Nat.zero_le _, Nat.zero_le _⟩ (fun H locs hP hS => ?_)
  refine j_if_ne (A := wr v2) (tgt := 11) hx hb rfl dX9_lookAt_5 (by decide) (fun q3 => ?_) (fun q3 => ?_)
  · replace h := (if_neg q3).symm.trans h
    refine j_aload_n hx hb dX9_lookAt_11 rfl (lv_at hl 0 rfl) ?_
    refine j_iload_n hx hb dX9_lookAt_12 rfl (lv_at hl 1 rfl) ?_
    obtain ⟨v5, e4, h⟩ := ob_I h
    refine jc_VI (As := [jI y1]) (rest := []) ⟨hx, hb, hml, hown, hts⟩ hK hP hS (m_X9_holesOf l D b cs N e4) (cwV 1 hts gX9_lookAt_X9_holesOf rfl rfl rfl (by decide +kernel) ⟨Nat.le_of_ble_eq_true rfl, Nat.le_of_ble_eq_true rfl⟩) kz_332 (by decide) rfl rfl hl.1 rfl (Nat.le_of_ble_eq_true rfl) dX9_lookAt_13 ⟨Nat.zero_le _, Nat.zero_le _⟩ (fun H locs hP hS => ?_)
    refine j_istore_n (lv2 := [(2, jI v5), (0, jR b 332), (1, jI y1)]) hx hb dX9_lookAt_16 rfl hl (by decide) rfl (fun ls hl => ?_)
    refine j_iconst hx hb dX9_lookAt_17 ?_
    refine j_istore_n (lv2 := [(3, jI 0), (2, jI v5), (0, jR b 332), (1, jI y1)]) hx hb dX9_lookAt_18 rfl hl (by decide) rfl (fun ls hl => ?_)
    refine j_iconst hx hb dX9_lookAt_19 ?_
    refine j_istore (lv2 := [(4, jI 0), (3, jI 0), (2, jI v5), (0, jR b 332), (1, jI y1)]) hx hb dX9_lookAt_20 hl (by decide) rfl (fun ls hl => ?_)
    have hk43_6 : ∀ (x3_7 : Int) (H : Heap) (locs : List Loc) (ls : Array Slot), va_P D vwCl (wl b cs μ) H → va_S (bA b) s.heap H locs → lv_has ls 7 [(0, jR b 332), (1, jI y1), (2, jI v5), (3, jI x3_7)] → fX9_lookAt_k43 N y1 μ v5 x3_7 = some r → W p l e rmX9_lookAt s m args below meth c H locs 0 0 (MQ below (QI D b cs μ r) args s 0 0 (bA b)) (F0 m 43 ls []) := by
      intro x3_7 H locs ls hP hS hl h
      unfold fX9_lookAt_k43 at h
      refine j_iconst hx hb dX9_lookAt_43 ?_
      refine j_istore (lv2 := [(4, jI (-1)), (0, jR b 332), (1, jI y1), (2, jI v5), (3, jI x3_7)]) hx hb dX9_lookAt_44 hl (by decide) rfl (fun ls hl => ?_)
      refine j_iconst hx hb dX9_lookAt_46 ?_
      refine j_istore (lv2 := [(5, jI 1), (4, jI (-1)), (0, jR b 332), (1, jI y1), (2, jI v5), (3, jI x3_7)]) hx hb dX9_lookAt_47 hl (by decide) rfl (fun ls hl => ?_)
      have hl49_8 : ∀ (n0 : Nat) (x3_9 : Int) (x4_10 : Int) (x5_11 : Int) (H : Heap) (locs : List Loc) (ls : Array Slot), va_P D vwCl (wl b cs μ) H → va_S (bA b) s.heap H locs → lv_has ls 7 [(0, jR b 332), (1, jI y1), (2, jI v5), (3, jI x3_9), (4, jI x4_10), (5, jI x5_11)] → fX9_lookAt_l49 N y1 μ v5 n0 x3_9 x4_10 x5_11 = some r → W p l e rmX9_lookAt s m args below meth c H locs 0 0 (MQ below (QI D b cs μ r) args s 0 0 (bA b)) (F0 m 49 ls []) := by
        intro n0
        induction n0 with
        | zero => intro x3_9 x4_10 x5_11 H locs ls hP hS hl h; rw [fX9_lookAt_l49] at h; cases h
        | succ n8 ih49_8 =>
          intro x3_9 x4_10 x5_11 H locs ls hP hS hl h
          rw [fX9_lookAt_l49] at h
          refine j_iload hx hb dX9_lookAt_49 (lv_at hl 5 rfl) ?_
          refine j_iconst hx hb dX9_lookAt_51 ?_
          refine j_icmp_gt (A := wr x5_11) (B := 4) (tgt := 93) hx hb rfl (by decide) dX9_lookAt_52 (by decide) (fun q12 => ?_) (fun q12 => ?_)
          · replace h := (if_pos q12).symm.trans h
            refine j_iload hx hb dX9_lookAt_93 (lv_at hl 4 rfl) ?_
            exact j_retI hx hb hK hP hS hr hlk (Option.some.inj h) dX9_lookAt_95
          · replace h := (if_neg q12).symm.trans h
            refine j_aload_n hx hb dX9_lookAt_55 rfl (lv_at hl 0 rfl) ?_
            refine j_iload_n hx hb dX9_lookAt_56 rfl (lv_at hl 1 rfl) ?_
            refine j_iload hx hb dX9_lookAt_57 (lv_at hl 5 rfl) ?_
            refine j_iload_n hx hb dX9_lookAt_59 rfl (lv_at hl 2 rfl) ?_
            obtain ⟨v14, e13, h⟩ := ob_I h
            refine jc_VI (As := [jI y1, jI x5_11, jI v5]) (rest := []) ⟨hx, hb, hml, hown, hts⟩ hK hP hS (m_X9_greatestPart l D b cs N e13) (cwV 3 hts gX9_lookAt_X9_greatestPart rfl rfl rfl (by decide +kernel) ⟨Nat.le_of_ble_eq_true rfl, Nat.le_of_ble_eq_true rfl⟩) kz_332 (by decide) rfl rfl hl.1 rfl (Nat.le_of_ble_eq_true rfl) dX9_lookAt_60 ⟨Nat.zero_le _, Nat.zero_le _⟩ (fun H locs hP hS => ?_)
            refine j_istore (lv2 := [(6, jI v14), (0, jR b 332), (1, jI y1), (2, jI v5), (3, jI x3_9), (4, jI x4_10), (5, jI x5_11)]) hx hb dX9_lookAt_63 hl (by decide) rfl (fun ls hl => ?_)
            refine j_iload hx hb dX9_lookAt_65 (lv_at hl 0 rfl) ?_
            refine j_iload_n hx hb dX9_lookAt_67 rfl (lv_at hl 4 rfl) ?_
            have hj78_15 : ∀ (s16 : Int) (H : Heap) (locs : List Loc) (ls : Array Slot), va_P D vwCl (wl b cs μ) H → va_S (bA b) s.heap H locs → lv_has ls 7 [(0, jR b 332), (1, jI y1), (2, jI v5), (3, jI x3_9), (5, jI x5_11), (6, jI v14)] → fX9_lookAt_j78 N μ x3_9 x5_11 (fX9_lookAt_l49 N y1 μ v5 n8) v14 s16 = some r → W p l e rmX9_lookAt s m args below meth c H locs 0 0 (MQ below (QI D b cs μ r) args s 0 0 (bA b)) (F0 m 78 ls [jI s16]) := by
              intro s16 H locs ls hP hS hl h
              unfold fX9_lookAt_j78 at h
              refine j_istore (lv2 := [(4, jI s16), (0, jR b 332), (1, jI y1), (2, jI v5), (3, jI x3_9), (5, jI x5_11), (6, jI v14)]) hx hb dX9_lookAt_78 hl (by decide) rfl (fun ls hl => ?_)
              refine j_iload hx hb dX9_lookAt_80 (lv_at hl 6 rfl) ?_
              refine j_iload_n hx hb dX9_lookAt_82 rfl (lv_at hl 4 rfl) ?_
              obtain ⟨v18, e17, h⟩ := ob_I h
              refine jc_SI (As := [jI v14, jI x3_9]) (rest := []) ⟨hx, hb, hml, hown, hts⟩ hK hP hS (m_X9_least l D b cs N e17) (va_cwS 2 hts gX9_lookAt_X9_least rfl rfl rfl (by decide +kernel) ⟨Nat.le_of_ble_eq_true rfl, Nat.le_of_ble_eq_true rfl⟩) rfl hl.1 rfl (Nat.le_of_ble_eq_true rfl) dX9_lookAt_83 ⟨Nat.zero_le _, Nat.zero_le _⟩ (fun H locs hP hS => ?_)
              refine j_istore_n (lv2 := [(3, jI v18), (4, jI s16), (0, jR b 332), (1, jI y1), (2, jI v5), (5, jI x5_11), (6, jI v14)]) hx hb dX9_lookAt_86 rfl hl (by decide) rfl (fun ls hl => ?_)
              refine j_iinc (k := 5) (lv2 := [(5, jI (x5_11 + 1)), (3, jI v18), (4, jI s16), (0, jR b 332), (1, jI y1), (2, jI v5), (6, jI v14)]) hx hb dX9_lookAt_87 hl rfl (by decide) rfl (fun ls hl => ?_)
              refine j_goto (tgt := 49) hx hb dX9_lookAt_90 (by decide) ?_
              exact ih49_8 _ _ _ _ _ _ hP hS (lv_sub hl [3, 4, 5, 1, 2, 0] rfl) h
            refine j_icmp_ge (A := wr v14) (B := wr x3_9) (tgt := 76) hx hb rfl rfl dX9_lookAt_68 (by decide) (fun q19 => ?_) (fun q19 => ?_)
            · replace h := (if_pos q19).symm.trans h
              refine j_iload hx hb dX9_lookAt_76 (lv_at hl 5 rfl) ?_
              exact hj78_15 _ _ _ _ hP hS (lv_sub hl [1, 2, 3, 4, 6, 0] rfl) h
            · replace h := (if_neg q19).symm.trans h
              refine j_iload hx hb dX9_lookAt_71 (lv_at hl 6 rfl) ?_
              refine j_goto (tgt := 78) hx hb dX9_lookAt_73 (by decide) ?_
              exact hj78_15 _ _ _ _ hP hS (lv_sub hl [1, 2, 3, 4, 6, 0] rfl) h
      exact hl49_8 N _ _ _ _ _ _ hP hS (lv_sub hl [2, 3, 4, 5, 1, 0] rfl) h
    have hl22_20 : ∀ (n0 : Nat) (x3_21 : Int) (x4_22 : Int) (H : Heap) (locs : List Loc) (ls : Array Slot), va_P D vwCl (wl b cs μ) H → va_S (bA b) s.heap H locs → lv_has ls 7 [(0, jR b 332), (1, jI y1), (2, jI v5), (3, jI x3_21), (4, jI x4_22)] → fX9_lookAt_l22 N y1 μ v5 n0 x3_21 x4_22 = some r → W p l e rmX9_lookAt s m args below meth c H locs 0 0 (MQ below (QI D b cs μ r) args s 0 0 (bA b)) (F0 m 22 ls []) := by
      intro n0
      induction n0 with
      | zero => intro x3_21 x4_22 H locs ls hP hS hl h; rw [fX9_lookAt_l22] at h; cases h
      | succ n20 ih22_20 =>
        intro x3_21 x4_22 H locs ls hP hS hl h
        rw [fX9_lookAt_l22] at h
        refine j_iload hx hb dX9_lookAt_22 (lv_at hl 4 rfl) ?_
        refine j_iconst hx hb dX9_lookAt_24 ?_
        refine j_icmp_ge (A := wr x4_22) (B := 4) (tgt := 43) hx hb rfl (by decide) dX9_lookAt_25 (by decide) (fun q23 => ?_) (fun q23 => ?_)
        · replace h := (if_pos q23).symm.trans h
          exact hk43_6 _ _ _ _ hP hS (lv_sub hl [0, 1, 2, 3] rfl) h
        · replace h := (if_neg q23).symm.trans h
          refine j_iload_n hx hb dX9_lookAt_28 rfl (lv_at hl 3 rfl) ?_
          refine j_iload_n hx hb dX9_lookAt_29 rfl (lv_at hl 2 rfl) ?_
          refine j_iload hx hb dX9_lookAt_30 (lv_at hl 4 rfl) ?_
          refine j_ishr hx hb dX9_lookAt_32 ?_
          refine j_iconst hx hb dX9_lookAt_33 ?_
          refine j_iand hx hb dX9_lookAt_34 ?_
          refine j_iadd hx hb dX9_lookAt_35 ?_
          refine j_istore_n (lv2 := [(3, jI (x3_21 + (andI (shrI v5 x4_22) 1))), (0, jR b 332), (1, jI y1), (2, jI v5), (4, jI x4_22)]) hx hb dX9_lookAt_36 rfl hl (by decide) rfl (fun ls hl => ?_)
          refine j_iinc (k := 4) (lv2 := [(4, jI (x4_22 + 1)), (3, jI (x3_21 + (andI (shrI v5 x4_22) 1))), (0, jR b 332), (1, jI y1), (2, jI v5)]) hx hb dX9_lookAt_37 hl rfl (by decide) rfl (fun ls hl => ?_)
          refine j_goto (tgt := 22) hx hb dX9_lookAt_40 (by decide) ?_
          exact ih22_20 _ _ _ _ _ hP hS (lv_sub hl [2, 3, 4, 1, 0] rfl) h
    exact hl22_20 N _ _ _ _ _ hP hS (lv_sub hl [3, 4, 2, 1, 0] rfl) h
  · replace h := (if_pos q3).symm.trans h
    refine j_ldc (n := (-1000000001)) hx hb hown (hts (.constant RX9 183 (-1000000001)) (by decide +kernel)) (by decide) dX9_lookAt_8 ?_
    exact j_retI hx hb hK hP hS hr hlk (Option.some.inj h) dX9_lookAt_10
def fX9_want_j21 (N : Nat) : Mm → Option (Int × Mm) := fun μ2 =>
    if wr (gI μ2 332 16) = 0 then (some (1, μ2)) else (some (0, μ2))
def fX9_want (N : Nat) (y1 : Int) (y2 : Int) (y3 : Int) (μ : Mm) : Option (Int × Mm) :=
    if wr y1 = 0 then (if wr (gI μ 332 16) = 0 then (Option.bind (some (pI μ 332 16 y2)) (fun μ6 => Option.bind (some (pI μ6 332 17 y3)) (fun μ8 => fX9_want_j21 N μ8))) else (fX9_want_j21 N μ)) else (fX9_want_j21 N μ)
abbrev rmX9_want : Room := { frames := 0, cells := 0, slots := 0, locals := 0 }
set_option maxHeartbeats 4000000 in
set_option maxRecDepth 100000 in
theorem m_X9_want (l : Launch) (D : va_G) (b : Nat) (cs : CS) (N : Nat) {μ μ0 : Mm} {y1 y2 y3 : Int} {r : Int} (h : fX9_want N y1 y2 y3 μ = some (r, μ0)) : MI l yX9_want wsX9_want rmX9_want D b cs [jR b 332, jI y1, jI y2, jI y3] μ μ0 r := by
  refine met_in (cc := cX9_want) (maxL := 4) (ret := some .boolean) (lv0 := [(0, jR b 332), (1, jI y1), (2, jI y2), (3, jI y3)]) (by decide +kernel) rfl (Nat.le_of_ble_eq_true rfl) rfl ?_
  intro p e s m args below meth c hx hb hr hlk hml hown hts hP hK ls hl
  have hown : s.vm.findClass RX9 = some m.cls := hown
  have hS : va_S (bA b) s.heap s.heap [] := va_S.rf
  have hinX9 : ∀ w ∈ u_ws RX9 TX9 27, w ∈ wsX9_want := by decide +kernel
  unfold fX9_want at h
  refine j_iload_n hx hb dX9_want_0 rfl (lv_at hl 1 rfl) ?_
  have hj21_1 : ∀ (μ2 : Mm) (H : Heap) (locs : List Loc) (ls : Array Slot), va_P D vwCl (wl b cs μ2) H → va_S (bA b) s.heap H locs → lv_has ls 4 [(0, jR b 332)] → fX9_want_j21 N μ2 = some (r, μ0) → W p l e rmX9_want s m args below meth c H locs 0 0 (MQ below (QI D b cs μ0 r) args s 0 0 (bA b)) (F0 m 21 ls []) := by
    intro μ2 H locs ls hP hS hl h
    unfold fX9_want_j21 at h
    refine j_aload_n hx hb dX9_want_21 rfl (lv_at hl 0 rfl) ?_
    refine j_get (v := jI (gI μ2 332 16)) hx hb hts hinX9 hown hK hP kz_332 (by decide) rfl 16 (by decide) (hts (.fieldLink RX9 68 "CardBandModel" "faultOf" "I") (by decide +kernel)) rfl (by rw [jI_g]; rfl) dX9_want_22 ?_
    refine j_if_ne (A := wr (gI μ2 332 16)) (tgt := 32) hx hb rfl dX9_want_25 (by decide) (fun q3 => ?_) (fun q3 => ?_)
    · replace h := (if_neg q3).symm.trans h
      refine j_iconst hx hb dX9_want_32 ?_
      obtain ⟨e0, e1⟩ := Prod.mk.inj (Option.some.inj h)
      subst e1
      exact j_retZ hx hb hK hP hS hr hlk (by decide) e0 dX9_want_33
    · replace h := (if_pos q3).symm.trans h
      refine j_iconst hx hb dX9_want_28 ?_
      refine j_goto (tgt := 33) hx hb dX9_want_29 (by decide) ?_
      obtain ⟨e0, e1⟩ := Prod.mk.inj (Option.some.inj h)
      subst e1
      exact j_retZ hx hb hK hP hS hr hlk (by decide) e0 dX9_want_33
  refine j_if_ne (A := wr y1) (tgt := 21) hx hb rfl dX9_want_1 (by decide) (fun q4 => ?_) (fun q4 => ?_)
  · replace h := (if_neg q4).symm.trans h
    exact hj21_1 _ _ _ _ hP hS (lv_sub hl [0] rfl) h
  · replace h := (if_pos q4).symm.trans h
    refine j_aload_n hx hb dX9_want_4 rfl (lv_at hl 0 rfl) ?_
    refine j_get (v := jI (gI μ 332 16)) hx hb hts hinX9 hown hK hP kz_332 (by decide) rfl 16 (by decide) (hts (.fieldLink RX9 68 "CardBandModel" "faultOf" "I") (by decide +kernel)) rfl (by rw [jI_g]; rfl) dX9_want_5 ?_
    refine j_if_ne (A := wr (gI μ 332 16)) (tgt := 21) hx hb rfl dX9_want_8 (by decide) (fun q5 => ?_) (fun q5 => ?_)
    · replace h := (if_neg q5).symm.trans h
      exact hj21_1 _ _ _ _ hP hS (lv_sub hl [0] rfl) h
    · replace h := (if_pos q5).symm.trans h
      refine j_aload_n hx hb dX9_want_11 rfl (lv_at hl 0 rfl) ?_
      refine j_iload_n hx hb dX9_want_12 rfl (lv_at hl 2 rfl) ?_
      obtain ⟨μ6, e7, h⟩ := ob_I h
      refine j_put (ty := .int) (z := y2) hx hb hts hinX9 tyX9 tyX9_ok nmX9 hown hK hP hS kz_332 (by decide) rfl 16 (by decide) (hts (.fieldLink RX9 68 "CardBandModel" "faultOf" "I") (by decide +kernel)) rfl rfl (by decide +kernel) rfl rfl (by simp [flds]) rfl dX9_want_13 (Option.some.inj e7) (fun H locs hP hS => ?_)
      refine j_aload_n hx hb dX9_want_16 rfl (lv_at hl 0 rfl) ?_
      refine j_iload_n hx hb dX9_want_17 rfl (lv_at hl 3 rfl) ?_
      obtain ⟨μ8, e9, h⟩ := ob_I h
      refine j_put (ty := .int) (z := y3) hx hb hts hinX9 tyX9 tyX9_ok nmX9 hown hK hP hS kz_332 (by decide) rfl 17 (by decide) (hts (.fieldLink RX9 32 "CardBandModel" "fault" "I") (by decide +kernel)) rfl rfl (by decide +kernel) rfl rfl (by simp [flds]) rfl dX9_want_18 (Option.some.inj e9) (fun H locs hP hS => ?_)
      exact hj21_1 _ _ _ _ hP hS (lv_sub hl [0] rfl) h
def fX9_takeNumber_j142 (N : Nat) (x2_14 : Int) (μ15 : Mm) : Int → Option (Int × Mm) := fun s17 =>
    bP (fX9_want N s17 2 (gI μ15 332 15) μ15) (fun v19 μ20 => some (x2_14, μ20))
def fX9_takeNumber_k123 (N : Nat) : Int → Mm → Option (Int × Mm) := fun x2_14 μ15 =>
    if 4 ≤ wr ((gI μ15 332 14) - (gI μ15 332 15)) then (fX9_takeNumber_j142 N x2_14 μ15 0) else (fX9_takeNumber_j142 N x2_14 μ15 1)
def fX9_takeNumber_j109 (N : Nat) (μ24 : Mm) (rec49_22 : Int → Mm → Option (Int × Mm)) : Int → Option (Int × Mm) := fun s32 =>
    Option.bind (some (pI μ24 332 14 ((gI μ24 332 14) + 1))) (fun μ33 => rec49_22 s32 μ33)
def fX9_takeNumber_l49 (N : Nat) : Nat → Int → Mm → Option (Int × Mm)
  | 0, _, _ => none
  | n22 + 1, x2_23, μ24 =>
    if wr (gI μ24 332 13) ≤ wr (gI μ24 332 14) then (fX9_takeNumber_k123 N x2_23 μ24) else (Option.bind (ldA μ24 339 240 (gI μ24 332 14)) (fun v26 => Option.bind (fX9_in N (wr v26) 48 57 μ24) (fun v29 => if wr v29 = 0 then (fX9_takeNumber_k123 N x2_23 μ24) else (if wr x2_23 ≤ 99999 then (Option.bind (ldA μ24 339 240 (gI μ24 332 14)) (fun v36 => fX9_takeNumber_j109 N μ24 (fX9_takeNumber_l49 N n22) (((10 * x2_23) + v36) - 48))) else (fX9_takeNumber_j109 N μ24 (fX9_takeNumber_l49 N n22) x2_23)))))
def fX9_takeNumber (N : Nat) (μ : Mm) : Option (Int × Mm) :=
    if wr (gI μ 332 16) ≤ 0 then (bP (fX9_here N μ) (fun v3 μ4 => Option.bind (some (pI μ4 332 15 (gI μ4 332 14))) (fun μ5 => Option.bind (fX9_in N (wr v3) 48 57 μ5) (fun v8 => bP (fX9_want N v8 1 (gI μ5 332 14) μ5) (fun v10 μ11 => if wr v10 = 0 then (some (0, μ11)) else (fX9_takeNumber_l49 N N 0 μ11)))))) else (some (0, μ))
abbrev rmX9_takeNumber : Room := { frames := 1, cells := 0, slots := 0, locals := 25 }
set_option maxHeartbeats 4000000 in
set_option maxRecDepth 100000 in
theorem m_X9_takeNumber (l : Launch) (D : va_G) (b : Nat) (cs : CS) (N : Nat) {μ μ0 : Mm} {r : Int} (h : fX9_takeNumber N μ = some (r, μ0)) : MI l yX9_takeNumber wsX9_takeNumber rmX9_takeNumber D b cs [jR b 332] μ μ0 r := by
  refine met_in (cc := cX9_takeNumber) (maxL := 4) (ret := some .int) (lv0 := [(0, jR b 332)]) (by decide +kernel) rfl (Nat.le_of_ble_eq_true rfl) rfl ?_
  intro p e s m args below meth c hx hb hr hlk hml hown hts hP hK ls hl
  have hown : s.vm.findClass RX9 = some m.cls := hown
  have hS : va_S (bA b) s.heap s.heap [] := va_S.rf
  have hinX9 : ∀ w ∈ u_ws RX9 TX9 27, w ∈ wsX9_takeNumber := by decide +kernel
  unfold fX9_takeNumber at h
  refine j_aload_n hx hb dX9_takeNumber_0 rfl (lv_at hl 0 rfl) ?_
  refine j_get (v := jI (gI μ 332 16)) hx hb hts hinX9 hown hK hP kz_332 (by decide) rfl 16 (by decide) (hts (.fieldLink RX9 68 "CardBandModel" "faultOf" "I") (by decide +kernel)) rfl (by rw [jI_g]; rfl) dX9_takeNumber_1 ?_
  refine j_if_le (A := wr (gI μ 332 16)) (tgt := 9) hx hb rfl dX9_takeNumber_4 (by decide) (fun q1 => ?_) (fun q1 => ?_)
  · replace h := (if_pos q1).symm.trans h
    refine j_aload_n hx hb dX9_takeNumber_9 rfl (lv_at hl 0 rfl) ?_
    obtain ⟨v3, μ4, e2, h⟩ := ob_P h
    refine jc_VI (As := []) (rest := []) ⟨hx, hb, hml, hown, hts⟩ hK hP hS (m_X9_here l D b cs N e2) (cwV 0 hts gX9_takeNumber_X9_here rfl rfl rfl (by decide +kernel) ⟨Nat.le_of_ble_eq_true rfl, Nat.le_of_ble_eq_true rfl⟩) kz_332 (by decide) rfl rfl hl.1 rfl (Nat.le_of_ble_eq_true rfl) dX9_takeNumber_10 ⟨Nat.zero_le _, Nat.zero_le _⟩ (fun H locs hP hS => ?_)
    refine j_istore_n (lv2 := [(1, jI v3), (0, jR b 332)]) hx hb dX9_takeNumber_13 rfl hl (by decide) rfl (fun ls hl => ?_)
    refine j_aload_n hx hb dX9_takeNumber_14 rfl (lv_at hl 1 rfl) ?_
    refine j_aload_n hx hb dX9_takeNumber_15 rfl (lv_at hl 1 rfl) ?_
    refine j_get (v := jI (gI μ4 332 14)) hx hb hts hinX9 hown hK hP kz_332 (by decide) rfl 14 (by decide) (hts (.fieldLink RX9 65 "CardBandModel" "at" "I") (by decide +kernel)) rfl (by rw [jI_g]; rfl) dX9_takeNumber_16 ?_
    obtain ⟨μ5, e6, h⟩ := ob_I h
    refine j_put (ty := .int) (z := (gI μ4 332 14)) hx hb hts hinX9 tyX9 tyX9_ok nmX9 hown hK hP hS kz_332 (by decide) rfl 15 (by decide) (hts (.fieldLink RX9 75 "CardBandModel" "first" "I") (by decide +kernel)) rfl rfl (by decide +kernel) rfl rfl (by simp [flds]) rfl dX9_takeNumber_19 (Option.some.inj e6) (fun H locs hP hS => ?_)
    refine j_aload_n hx hb dX9_takeNumber_22 rfl (lv_at hl 1 rfl) ?_
    refine j_iload_n hx hb dX9_takeNumber_23 rfl (lv_at hl 0 rfl) ?_
    refine j_i2l hx hb dX9_takeNumber_24 ?_
    refine j_ldc2 (n := 48) hx hb hown (hts (.constantLong RX9 78 (48)) (by decide +kernel)) (by decide) dX9_takeNumber_25 ?_
    refine j_ldc2 (n := 57) hx hb hown (hts (.constantLong RX9 80 (57)) (by decide +kernel)) (by decide) dX9_takeNumber_28 ?_
    obtain ⟨v8, e7, h⟩ := ob_I h
    refine jc_SI (As := [jL (wr v3), jL 48, jL 57]) (rest := [jR b 332]) ⟨hx, hb, hml, hown, hts⟩ hK hP hS (m_X9_in l D b cs N e7) (va_cwS 3 hts gX9_takeNumber_X9_in rfl rfl rfl (by decide +kernel) ⟨Nat.le_of_ble_eq_true rfl, Nat.le_of_ble_eq_true rfl⟩) rfl hl.1 rfl (Nat.le_of_ble_eq_true rfl) dX9_takeNumber_31 ⟨Nat.zero_le _, Nat.zero_le _⟩ (fun H locs hP hS => ?_)
    refine j_iconst hx hb dX9_takeNumber_34 ?_
    refine j_aload_n hx hb dX9_takeNumber_35 rfl (lv_at hl 1 rfl) ?_
    refine j_get (v := jI (gI μ5 332 14)) hx hb hts hinX9 hown hK hP kz_332 (by decide) rfl 14 (by decide) (hts (.fieldLink RX9 65 "CardBandModel" "at" "I") (by decide +kernel)) rfl (by rw [jI_g]; rfl) dX9_takeNumber_36 ?_
    obtain ⟨v10, μ11, e9, h⟩ := ob_P h
    refine jc_VI (As := [jI v8, jI 1, jI (gI μ5 332 14)]) (rest := []) ⟨hx, hb, hml, hown, hts⟩ hK hP hS (m_X9_want l D b cs N e9) (cwV 3 hts gX9_takeNumber_X9_want rfl rfl rfl (by decide +kernel) ⟨Nat.le_of_ble_eq_true rfl, Nat.le_of_ble_eq_true rfl⟩) kz_332 (by decide) rfl rfl hl.1 rfl (Nat.le_of_ble_eq_true rfl) dX9_takeNumber_39 ⟨Nat.zero_le _, Nat.zero_le _⟩ (fun H locs hP hS => ?_)
    refine j_if_ne (A := wr v10) (tgt := 47) hx hb rfl dX9_takeNumber_42 (by decide) (fun q12 => ?_) (fun q12 => ?_)
    · replace h := (if_neg q12).symm.trans h
      refine j_iconst hx hb dX9_takeNumber_47 ?_
      refine j_istore_n (lv2 := [(2, jI 0), (1, jI v3), (0, jR b 332)]) hx hb dX9_takeNumber_48 rfl hl (by decide) rfl (fun ls hl => ?_)
      have hk123_13 : ∀ (x2_14 : Int) (μ15 : Mm) (H : Heap) (locs : List Loc) (ls : Array Slot), va_P D vwCl (wl b cs μ15) H → va_S (bA b) s.heap H locs → lv_has ls 4 [(0, jR b 332), (2, jI x2_14)] → fX9_takeNumber_k123 N x2_14 μ15 = some (r, μ0) → W p l e rmX9_takeNumber s m args below meth c H locs 0 0 (MQ below (QI D b cs μ0 r) args s 0 0 (bA b)) (F0 m 123 ls []) := by
        intro x2_14 μ15 H locs ls hP hS hl h
        unfold fX9_takeNumber_k123 at h
        refine j_aload_n hx hb dX9_takeNumber_123 rfl (lv_at hl 0 rfl) ?_
        refine j_aload_n hx hb dX9_takeNumber_124 rfl (lv_at hl 0 rfl) ?_
        refine j_get (v := jI (gI μ15 332 14)) hx hb hts hinX9 hown hK hP kz_332 (by decide) rfl 14 (by decide) (hts (.fieldLink RX9 65 "CardBandModel" "at" "I") (by decide +kernel)) rfl (by rw [jI_g]; rfl) dX9_takeNumber_125 ?_
        refine j_aload_n hx hb dX9_takeNumber_128 rfl (lv_at hl 0 rfl) ?_
        refine j_get (v := jI (gI μ15 332 15)) hx hb hts hinX9 hown hK hP kz_332 (by decide) rfl 15 (by decide) (hts (.fieldLink RX9 75 "CardBandModel" "first" "I") (by decide +kernel)) rfl (by rw [jI_g]; rfl) dX9_takeNumber_129 ?_
        refine j_isub hx hb dX9_takeNumber_132 ?_
        refine j_iconst hx hb dX9_takeNumber_133 ?_
        have hj142_16 : ∀ (s17 : Int) (H : Heap) (locs : List Loc) (ls : Array Slot), va_P D vwCl (wl b cs μ15) H → va_S (bA b) s.heap H locs → lv_has ls 4 [(0, jR b 332), (2, jI x2_14)] → fX9_takeNumber_j142 N x2_14 μ15 s17 = some (r, μ0) → W p l e rmX9_takeNumber s m args below meth c H locs 0 0 (MQ below (QI D b cs μ0 r) args s 0 0 (bA b)) (F0 m 142 ls [jI s17, jR b 332]) := by
          intro s17 H locs ls hP hS hl h
          unfold fX9_takeNumber_j142 at h
          refine j_iconst hx hb dX9_takeNumber_142 ?_
          refine j_aload_n hx hb dX9_takeNumber_143 rfl (lv_at hl 0 rfl) ?_
          refine j_get (v := jI (gI μ15 332 15)) hx hb hts hinX9 hown hK hP kz_332 (by decide) rfl 15 (by decide) (hts (.fieldLink RX9 75 "CardBandModel" "first" "I") (by decide +kernel)) rfl (by rw [jI_g]; rfl) dX9_takeNumber_144 ?_
          obtain ⟨v19, μ20, e18, h⟩ := ob_P h
          refine jc_VI (As := [jI s17, jI 2, jI (gI μ15 332 15)]) (rest := []) ⟨hx, hb, hml, hown, hts⟩ hK hP hS (m_X9_want l D b cs N e18) (cwV 3 hts gX9_takeNumber_X9_want rfl rfl rfl (by decide +kernel) ⟨Nat.le_of_ble_eq_true rfl, Nat.le_of_ble_eq_true rfl⟩) kz_332 (by decide) rfl rfl hl.1 rfl (Nat.le_of_ble_eq_true rfl) dX9_takeNumber_147 ⟨Nat.zero_le _, Nat.zero_le _⟩ (fun H locs hP hS => ?_)
          refine j_istore_n (lv2 := [(3, jI v19), (0, jR b 332), (2, jI x2_14)]) hx hb dX9_takeNumber_150 rfl hl (by decide) rfl (fun ls hl => ?_)
          refine j_iload_n hx hb dX9_takeNumber_151 rfl (lv_at hl 2 rfl) ?_
          obtain ⟨e0, e1⟩ := Prod.mk.inj (Option.some.inj h)
          subst e1
          exact j_retI hx hb hK hP hS hr hlk e0 dX9_takeNumber_152
        refine j_icmp_ge (A := wr ((gI μ15 332 14) - (gI μ15 332 15))) (B := 4) (tgt := 141) hx hb rfl (by decide) dX9_takeNumber_134 (by decide) (fun q21 => ?_) (fun q21 => ?_)
        · replace h := (if_pos q21).symm.trans h
          refine j_iconst hx hb dX9_takeNumber_141 ?_
          exact hj142_16 _ _ _ _ hP hS (lv_sub hl [0, 1] rfl) h
        · replace h := (if_neg q21).symm.trans h
          refine j_iconst hx hb dX9_takeNumber_137 ?_
          refine j_goto (tgt := 142) hx hb dX9_takeNumber_138 (by decide) ?_
          exact hj142_16 _ _ _ _ hP hS (lv_sub hl [0, 1] rfl) h
      have hl49_22 : ∀ (n0 : Nat) (x2_23 : Int) (μ24 : Mm) (H : Heap) (locs : List Loc) (ls : Array Slot), va_P D vwCl (wl b cs μ24) H → va_S (bA b) s.heap H locs → lv_has ls 4 [(0, jR b 332), (2, jI x2_23)] → fX9_takeNumber_l49 N n0 x2_23 μ24 = some (r, μ0) → W p l e rmX9_takeNumber s m args below meth c H locs 0 0 (MQ below (QI D b cs μ0 r) args s 0 0 (bA b)) (F0 m 49 ls []) := by
        intro n0
        induction n0 with
        | zero => intro x2_23 μ24 H locs ls hP hS hl h; rw [fX9_takeNumber_l49] at h; cases h
        | succ n22 ih49_22 =>
          intro x2_23 μ24 H locs ls hP hS hl h
          rw [fX9_takeNumber_l49] at h
          refine j_aload_n hx hb dX9_takeNumber_49 rfl (lv_at hl 0 rfl) ?_
          refine j_get (v := jI (gI μ24 332 14)) hx hb hts hinX9 hown hK hP kz_332 (by decide) rfl 14 (by decide) (hts (.fieldLink RX9 65 "CardBandModel" "at" "I") (by decide +kernel)) rfl (by rw [jI_g]; rfl) dX9_takeNumber_50 ?_
          refine j_aload_n hx hb dX9_takeNumber_53 rfl (lv_at hl 0 rfl) ?_
          refine j_get (v := jI (gI μ24 332 13)) hx hb hts hinX9 hown hK hP kz_332 (by decide) rfl 13 (by decide) (hts (.fieldLink RX9 61 "CardBandModel" "textSize" "I") (by decide +kernel)) rfl (by rw [jI_g]; rfl) dX9_takeNumber_54 ?_
          refine j_icmp_ge (A := wr (gI μ24 332 14)) (B := wr (gI μ24 332 13)) (tgt := 123) hx hb rfl rfl dX9_takeNumber_57 (by decide) (fun q25 => ?_) (fun q25 => ?_)
          · replace h := (if_pos q25).symm.trans h
            exact hk123_13 _ _ _ _ _ hP hS (lv_sub hl [0, 1] rfl) h
          · replace h := (if_neg q25).symm.trans h
            refine j_aload_n hx hb dX9_takeNumber_60 rfl (lv_at hl 0 rfl) ?_
            refine j_get (v := jR b 339) hx hb hts hinX9 hown hK hP kz_332 (by decide) rfl 12 (by decide) (hts (.fieldLink RX9 29 "CardBandModel" "text" "[I") (by decide +kernel)) rfl rfl dX9_takeNumber_61 ?_
            refine j_aload_n hx hb dX9_takeNumber_64 rfl (lv_at hl 0 rfl) ?_
            refine j_get (v := jI (gI μ24 332 14)) hx hb hts hinX9 hown hK hP kz_332 (by decide) rfl 14 (by decide) (hts (.fieldLink RX9 65 "CardBandModel" "at" "I") (by decide +kernel)) rfl (by rw [jI_g]; rfl) dX9_takeNumber_65 ?_
            obtain ⟨v26, e27, h⟩ := ob_I h
            refine j_iaload hx hb hK hP kz_339 e27 dX9_takeNumber_68 ?_
            refine j_i2l hx hb dX9_takeNumber_69 ?_
            refine j_ldc2 (n := 48) hx hb hown (hts (.constantLong RX9 78 (48)) (by decide +kernel)) (by decide) dX9_takeNumber_70 ?_
            refine j_ldc2 (n := 57) hx hb hown (hts (.constantLong RX9 80 (57)) (by decide +kernel)) (by decide) dX9_takeNumber_73 ?_
            obtain ⟨v29, e28, h⟩ := ob_I h
            refine jc_SI (As := [jL (wr v26), jL 48, jL 57]) (rest := []) ⟨hx, hb, hml, hown, hts⟩ hK hP hS (m_X9_in l D b cs N e28) (va_cwS 3 hts gX9_takeNumber_X9_in rfl rfl rfl (by decide +kernel) ⟨Nat.le_of_ble_eq_true rfl, Nat.le_of_ble_eq_true rfl⟩) rfl hl.1 rfl (Nat.le_of_ble_eq_true rfl) dX9_takeNumber_76 ⟨Nat.zero_le _, Nat.zero_le _⟩ (fun H locs hP hS => ?_)
            refine j_if_eq (A := wr v29) (tgt := 123) hx hb rfl dX9_takeNumber_79 (by decide) (fun q30 => ?_) (fun q30 => ?_)
            · replace h := (if_pos q30).symm.trans h
              exact hk123_13 _ _ _ _ _ hP hS (lv_sub hl [0, 1] rfl) h
            · replace h := (if_neg q30).symm.trans h
              refine j_iload_n hx hb dX9_takeNumber_82 rfl (lv_at hl 1 rfl) ?_
              refine j_ldc (n := 99999) hx hb hown (hts (.constant RX9 86 (99999)) (by decide +kernel)) (by decide) dX9_takeNumber_83 ?_
              have hj109_31 : ∀ (s32 : Int) (H : Heap) (locs : List Loc) (ls : Array Slot), va_P D vwCl (wl b cs μ24) H → va_S (bA b) s.heap H locs → lv_has ls 4 [(0, jR b 332)] → fX9_takeNumber_j109 N μ24 (fX9_takeNumber_l49 N n22) s32 = some (r, μ0) → W p l e rmX9_takeNumber s m args below meth c H locs 0 0 (MQ below (QI D b cs μ0 r) args s 0 0 (bA b)) (F0 m 109 ls [jI s32]) := by
                intro s32 H locs ls hP hS hl h
                unfold fX9_takeNumber_j109 at h
                refine j_istore_n (lv2 := [(2, jI s32), (0, jR b 332)]) hx hb dX9_takeNumber_109 rfl hl (by decide) rfl (fun ls hl => ?_)
                refine j_aload_n hx hb dX9_takeNumber_110 rfl (lv_at hl 1 rfl) ?_
                refine j_dup hx hb dX9_takeNumber_111 rfl ?_
                refine j_get (v := jI (gI μ24 332 14)) hx hb hts hinX9 hown hK hP kz_332 (by decide) rfl 14 (by decide) (hts (.fieldLink RX9 65 "CardBandModel" "at" "I") (by decide +kernel)) rfl (by rw [jI_g]; rfl) dX9_takeNumber_112 ?_
                refine j_iconst hx hb dX9_takeNumber_115 ?_
                refine j_iadd hx hb dX9_takeNumber_116 ?_
                obtain ⟨μ33, e34, h⟩ := ob_I h
                refine j_put (ty := .int) (z := ((gI μ24 332 14) + 1)) hx hb hts hinX9 tyX9 tyX9_ok nmX9 hown hK hP hS kz_332 (by decide) rfl 14 (by decide) (hts (.fieldLink RX9 65 "CardBandModel" "at" "I") (by decide +kernel)) rfl rfl (by decide +kernel) rfl rfl (by simp [flds]) rfl dX9_takeNumber_117 (Option.some.inj e34) (fun H locs hP hS => ?_)
                refine j_goto (tgt := 49) hx hb dX9_takeNumber_120 (by decide) ?_
                exact ih49_22 _ _ _ _ _ hP hS (lv_sub hl [1, 0] rfl) h
              refine j_icmp_le (A := wr x2_23) (B := 99999) (tgt := 92) hx hb rfl (by decide) dX9_takeNumber_85 (by decide) (fun q35 => ?_) (fun q35 => ?_)
              · replace h := (if_pos q35).symm.trans h
                refine j_bipush hx hb dX9_takeNumber_92 (by decide) ?_
                refine j_iload_n hx hb dX9_takeNumber_94 rfl (lv_at hl 1 rfl) ?_
                refine j_imul hx hb dX9_takeNumber_95 ?_
                refine j_aload_n hx hb dX9_takeNumber_96 rfl (lv_at hl 0 rfl) ?_
                refine j_get (v := jR b 339) hx hb hts hinX9 hown hK hP kz_332 (by decide) rfl 12 (by decide) (hts (.fieldLink RX9 29 "CardBandModel" "text" "[I") (by decide +kernel)) rfl rfl dX9_takeNumber_97 ?_
                refine j_aload_n hx hb dX9_takeNumber_100 rfl (lv_at hl 0 rfl) ?_
                refine j_get (v := jI (gI μ24 332 14)) hx hb hts hinX9 hown hK hP kz_332 (by decide) rfl 14 (by decide) (hts (.fieldLink RX9 65 "CardBandModel" "at" "I") (by decide +kernel)) rfl (by rw [jI_g]; rfl) dX9_takeNumber_101 ?_
                obtain ⟨v36, e37, h⟩ := ob_I h
                refine j_iaload hx hb hK hP kz_339 e37 dX9_takeNumber_104 ?_
                refine j_iadd hx hb dX9_takeNumber_105 ?_
                refine j_bipush hx hb dX9_takeNumber_106 (by decide) ?_
                refine j_isub hx hb dX9_takeNumber_108 ?_
                exact hj109_31 _ _ _ _ hP hS (lv_sub hl [0] rfl) h
              · replace h := (if_neg q35).symm.trans h
                refine j_iload_n hx hb dX9_takeNumber_88 rfl (lv_at hl 1 rfl) ?_
                refine j_goto (tgt := 109) hx hb dX9_takeNumber_89 (by decide) ?_
                exact hj109_31 _ _ _ _ hP hS (lv_sub hl [0] rfl) h
      exact hl49_22 N _ _ _ _ _ hP hS (lv_sub hl [2, 0] rfl) h
    · replace h := (if_pos q12).symm.trans h
      refine j_iconst hx hb dX9_takeNumber_45 ?_
      obtain ⟨e0, e1⟩ := Prod.mk.inj (Option.some.inj h)
      subst e1
      exact j_retI hx hb hK hP hS hr hlk e0 dX9_takeNumber_46
  · replace h := (if_neg q1).symm.trans h
    refine j_iconst hx hb dX9_takeNumber_7 ?_
    obtain ⟨e0, e1⟩ := Prod.mk.inj (Option.some.inj h)
    subst e1
    exact j_retI hx hb hK hP hS hr hlk e0 dX9_takeNumber_8
def fX9_takeIn_j30 (N : Nat) (v2 : Int) (μ3 : Mm) : Int → Option (Int × Mm) := fun s5 =>
    bP (fX9_want N s5 2 (gI μ3 332 15) μ3) (fun v7 μ8 => if wr (gI μ8 332 16) ≤ 0 then (some (v2, μ8)) else (some (0, μ8)))
def fX9_takeIn (N : Nat) (y1 : Int) (y2 : Int) (μ : Mm) : Option (Int × Mm) :=
    bP (fX9_takeNumber N μ) (fun v2 μ3 => if 0 < wr (gI μ3 332 16) then (fX9_takeIn_j30 N v2 μ3 1) else (Option.bind (fX9_in N (wr v2) (wr y1) (wr y2) μ3) (fun v12 => if wr v12 = 0 then (fX9_takeIn_j30 N v2 μ3 0) else (fX9_takeIn_j30 N v2 μ3 1))))
abbrev rmX9_takeIn : Room := { frames := 2, cells := 0, slots := 0, locals := 48 }
set_option maxHeartbeats 4000000 in
set_option maxRecDepth 100000 in
theorem m_X9_takeIn (l : Launch) (D : va_G) (b : Nat) (cs : CS) (N : Nat) {μ μ0 : Mm} {y1 y2 : Int} {r : Int} (h : fX9_takeIn N y1 y2 μ = some (r, μ0)) : MI l yX9_takeIn wsX9_takeIn rmX9_takeIn D b cs [jR b 332, jI y1, jI y2] μ μ0 r := by
  refine met_in (cc := cX9_takeIn) (maxL := 5) (ret := some .int) (lv0 := [(0, jR b 332), (1, jI y1), (2, jI y2)]) (by decide +kernel) rfl (Nat.le_of_ble_eq_true rfl) rfl ?_
  intro p e s m args below meth c hx hb hr hlk hml hown hts hP hK ls hl
  have hown : s.vm.findClass RX9 = some m.cls := hown
  have hS : va_S (bA b) s.heap s.heap [] := va_S.rf
  have hinX9 : ∀ w ∈ u_ws RX9 TX9 27, w ∈ wsX9_takeIn := by decide +kernel
  unfold fX9_takeIn at h
  refine j_aload_n hx hb dX9_takeIn_0 rfl (lv_at hl 0 rfl) ?_
  obtain ⟨v2, μ3, e1, h⟩ := ob_P h
  refine jc_VI (As := []) (rest := []) ⟨hx, hb, hml, hown, hts⟩ hK hP hS (m_X9_takeNumber l D b cs N e1) (cwV 0 hts gX9_takeIn_X9_takeNumber rfl rfl rfl (by decide +kernel) ⟨Nat.le_of_ble_eq_true rfl, Nat.le_of_ble_eq_true rfl⟩) kz_332 (by decide) rfl rfl hl.1 rfl (Nat.le_of_ble_eq_true rfl) dX9_takeIn_1 ⟨Nat.zero_le _, Nat.zero_le _⟩ (fun H locs hP hS => ?_)
  refine j_istore_n (lv2 := [(3, jI v2), (0, jR b 332), (1, jI y1), (2, jI y2)]) hx hb dX9_takeIn_4 rfl hl (by decide) rfl (fun ls hl => ?_)
  refine j_aload_n hx hb dX9_takeIn_5 rfl (lv_at hl 1 rfl) ?_
  refine j_aload_n hx hb dX9_takeIn_6 rfl (lv_at hl 1 rfl) ?_
  refine j_get (v := jI (gI μ3 332 16)) hx hb hts hinX9 hown hK hP kz_332 (by decide) rfl 16 (by decide) (hts (.fieldLink RX9 68 "CardBandModel" "faultOf" "I") (by decide +kernel)) rfl (by rw [jI_g]; rfl) dX9_takeIn_7 ?_
  have hj30_4 : ∀ (s5 : Int) (H : Heap) (locs : List Loc) (ls : Array Slot), va_P D vwCl (wl b cs μ3) H → va_S (bA b) s.heap H locs → lv_has ls 5 [(0, jR b 332), (3, jI v2)] → fX9_takeIn_j30 N v2 μ3 s5 = some (r, μ0) → W p l e rmX9_takeIn s m args below meth c H locs 0 0 (MQ below (QI D b cs μ0 r) args s 0 0 (bA b)) (F0 m 30 ls [jI s5, jR b 332]) := by
    intro s5 H locs ls hP hS hl h
    unfold fX9_takeIn_j30 at h
    refine j_iconst hx hb dX9_takeIn_30 ?_
    refine j_aload_n hx hb dX9_takeIn_31 rfl (lv_at hl 0 rfl) ?_
    refine j_get (v := jI (gI μ3 332 15)) hx hb hts hinX9 hown hK hP kz_332 (by decide) rfl 15 (by decide) (hts (.fieldLink RX9 75 "CardBandModel" "first" "I") (by decide +kernel)) rfl (by rw [jI_g]; rfl) dX9_takeIn_32 ?_
    obtain ⟨v7, μ8, e6, h⟩ := ob_P h
    refine jc_VI (As := [jI s5, jI 2, jI (gI μ3 332 15)]) (rest := []) ⟨hx, hb, hml, hown, hts⟩ hK hP hS (m_X9_want l D b cs N e6) (cwV 3 hts gX9_takeIn_X9_want rfl rfl rfl (by decide +kernel) ⟨Nat.le_of_ble_eq_true rfl, Nat.le_of_ble_eq_true rfl⟩) kz_332 (by decide) rfl rfl hl.1 rfl (Nat.le_of_ble_eq_true rfl) dX9_takeIn_35 ⟨Nat.zero_le _, Nat.zero_le _⟩ (fun H locs hP hS => ?_)
    refine j_istore (lv2 := [(4, jI v7), (0, jR b 332), (3, jI v2)]) hx hb dX9_takeIn_38 hl (by decide) rfl (fun ls hl => ?_)
    refine j_aload_n hx hb dX9_takeIn_40 rfl (lv_at hl 1 rfl) ?_
    refine j_get (v := jI (gI μ8 332 16)) hx hb hts hinX9 hown hK hP kz_332 (by decide) rfl 16 (by decide) (hts (.fieldLink RX9 68 "CardBandModel" "faultOf" "I") (by decide +kernel)) rfl (by rw [jI_g]; rfl) dX9_takeIn_41 ?_
    refine j_if_le (A := wr (gI μ8 332 16)) (tgt := 51) hx hb rfl dX9_takeIn_44 (by decide) (fun q9 => ?_) (fun q9 => ?_)
    · replace h := (if_pos q9).symm.trans h
      refine j_iload_n hx hb dX9_takeIn_51 rfl (lv_at hl 2 rfl) ?_
      obtain ⟨e0, e1⟩ := Prod.mk.inj (Option.some.inj h)
      subst e1
      exact j_retI hx hb hK hP hS hr hlk e0 dX9_takeIn_52
    · replace h := (if_neg q9).symm.trans h
      refine j_iconst hx hb dX9_takeIn_47 ?_
      refine j_goto (tgt := 52) hx hb dX9_takeIn_48 (by decide) ?_
      obtain ⟨e0, e1⟩ := Prod.mk.inj (Option.some.inj h)
      subst e1
      exact j_retI hx hb hK hP hS hr hlk e0 dX9_takeIn_52
  refine j_if_gt (A := wr (gI μ3 332 16)) (tgt := 25) hx hb rfl dX9_takeIn_10 (by decide) (fun q10 => ?_) (fun q10 => ?_)
  · replace h := (if_pos q10).symm.trans h
    refine j_iconst hx hb dX9_takeIn_25 ?_
    refine j_goto (tgt := 30) hx hb dX9_takeIn_26 (by decide) ?_
    exact hj30_4 _ _ _ _ hP hS (lv_sub hl [1, 0] rfl) h
  · replace h := (if_neg q10).symm.trans h
    refine j_iload_n hx hb dX9_takeIn_13 rfl (lv_at hl 0 rfl) ?_
    refine j_i2l hx hb dX9_takeIn_14 ?_
    refine j_iload_n hx hb dX9_takeIn_15 rfl (lv_at hl 2 rfl) ?_
    refine j_i2l hx hb dX9_takeIn_16 ?_
    refine j_iload_n hx hb dX9_takeIn_17 rfl (lv_at hl 3 rfl) ?_
    refine j_i2l hx hb dX9_takeIn_18 ?_
    obtain ⟨v12, e11, h⟩ := ob_I h
    refine jc_SI (As := [jL (wr v2), jL (wr y1), jL (wr y2)]) (rest := [jR b 332]) ⟨hx, hb, hml, hown, hts⟩ hK hP hS (m_X9_in l D b cs N e11) (va_cwS 3 hts gX9_takeIn_X9_in rfl rfl rfl (by decide +kernel) ⟨Nat.le_of_ble_eq_true rfl, Nat.le_of_ble_eq_true rfl⟩) rfl hl.1 rfl (Nat.le_of_ble_eq_true rfl) dX9_takeIn_19 ⟨Nat.zero_le _, Nat.zero_le _⟩ (fun H locs hP hS => ?_)
    refine j_if_eq (A := wr v12) (tgt := 29) hx hb rfl dX9_takeIn_22 (by decide) (fun q13 => ?_) (fun q13 => ?_)
    · replace h := (if_pos q13).symm.trans h
      refine j_iconst hx hb dX9_takeIn_29 ?_
      exact hj30_4 _ _ _ _ hP hS (lv_sub hl [1, 0] rfl) h
    · replace h := (if_neg q13).symm.trans h
      refine j_iconst hx hb dX9_takeIn_25 ?_
      refine j_goto (tgt := 30) hx hb dX9_takeIn_26 (by decide) ?_
      exact hj30_4 _ _ _ _ hP hS (lv_sub hl [1, 0] rfl) h
def fX9_takeColours_j13 (N : Nat) (y1 : Int) (μ : Mm) : Int → Option (Mm) := fun s2 =>
    bP (fX9_want N s2 3 y1 μ) (fun v4 μ5 => if wr v4 = 0 then (some μ5) else (bP (fX9_takeIn N 1 8 μ5) (fun v8 μ9 => Option.bind (some (pI μ9 332 3 v8)) (fun μ10 => some μ10))))
def fX9_takeColours (N : Nat) (y1 : Int) (μ : Mm) : Option (Mm) :=
    if wr (gI μ 332 3) = 0 then (fX9_takeColours_j13 N y1 μ 1) else (fX9_takeColours_j13 N y1 μ 0)
abbrev rmX9_takeColours : Room := { frames := 3, cells := 0, slots := 0, locals := 72 }
set_option maxHeartbeats 4000000 in
set_option maxRecDepth 100000 in
theorem m_X9_takeColours (l : Launch) (D : va_G) (b : Nat) (cs : CS) (N : Nat) {μ μ0 : Mm} {y1 : Int} (h : fX9_takeColours N y1 μ = some μ0) : MM l yX9_takeColours wsX9_takeColours rmX9_takeColours D b cs [jR b 332, jI y1] μ μ0 := by
  refine met_in (cc := cX9_takeColours) (maxL := 2) (ret := none) (lv0 := [(0, jR b 332), (1, jI y1)]) (by decide +kernel) rfl (Nat.le_of_ble_eq_true rfl) rfl ?_
  intro p e s m args below meth c hx hb hr hlk hml hown hts hP hK ls hl
  have hown : s.vm.findClass RX9 = some m.cls := hown
  have hS : va_S (bA b) s.heap s.heap [] := va_S.rf
  have hinX9 : ∀ w ∈ u_ws RX9 TX9 27, w ∈ wsX9_takeColours := by decide +kernel
  unfold fX9_takeColours at h
  refine j_aload_n hx hb dX9_takeColours_0 rfl (lv_at hl 0 rfl) ?_
  refine j_aload_n hx hb dX9_takeColours_1 rfl (lv_at hl 0 rfl) ?_
  refine j_get (v := jI (gI μ 332 3)) hx hb hts hinX9 hown hK hP kz_332 (by decide) rfl 3 (by decide) (hts (.fieldLink RX9 90 "CardBandModel" "newColours" "I") (by decide +kernel)) rfl (by rw [jI_g]; rfl) dX9_takeColours_2 ?_
  have hj13_1 : ∀ (s2 : Int) (H : Heap) (locs : List Loc) (ls : Array Slot), va_P D vwCl (wl b cs μ) H → va_S (bA b) s.heap H locs → lv_has ls 2 [(0, jR b 332), (1, jI y1)] → fX9_takeColours_j13 N y1 μ s2 = some μ0 → W p l e rmX9_takeColours s m args below meth c H locs 0 0 (MQ below (QM D b cs μ0) args s 0 0 (bA b)) (F0 m 13 ls [jI s2, jR b 332]) := by
    intro s2 H locs ls hP hS hl h
    unfold fX9_takeColours_j13 at h
    refine j_iconst hx hb dX9_takeColours_13 ?_
    refine j_iload_n hx hb dX9_takeColours_14 rfl (lv_at hl 1 rfl) ?_
    obtain ⟨v4, μ5, e3, h⟩ := ob_P h
    refine jc_VI (As := [jI s2, jI 3, jI y1]) (rest := []) ⟨hx, hb, hml, hown, hts⟩ hK hP hS (m_X9_want l D b cs N e3) (cwV 3 hts gX9_takeColours_X9_want rfl rfl rfl (by decide +kernel) ⟨Nat.le_of_ble_eq_true rfl, Nat.le_of_ble_eq_true rfl⟩) kz_332 (by decide) rfl rfl hl.1 rfl (Nat.le_of_ble_eq_true rfl) dX9_takeColours_15 ⟨Nat.zero_le _, Nat.zero_le _⟩ (fun H locs hP hS => ?_)
    refine j_if_eq (A := wr v4) (tgt := 32) hx hb rfl dX9_takeColours_18 (by decide) (fun q6 => ?_) (fun q6 => ?_)
    · replace h := (if_pos q6).symm.trans h
      have e0 := Option.some.inj h
      subst e0
      exact j_retM hx hb hK hP hS hr hlk dX9_takeColours_32
    · replace h := (if_neg q6).symm.trans h
      refine j_aload_n hx hb dX9_takeColours_21 rfl (lv_at hl 0 rfl) ?_
      refine j_aload_n hx hb dX9_takeColours_22 rfl (lv_at hl 0 rfl) ?_
      refine j_iconst hx hb dX9_takeColours_23 ?_
      refine j_bipush hx hb dX9_takeColours_24 (by decide) ?_
      obtain ⟨v8, μ9, e7, h⟩ := ob_P h
      refine jc_VI (As := [jI 1, jI 8]) (rest := [jR b 332]) ⟨hx, hb, hml, hown, hts⟩ hK hP hS (m_X9_takeIn l D b cs N e7) (cwV 2 hts gX9_takeColours_X9_takeIn rfl rfl rfl (by decide +kernel) ⟨Nat.le_of_ble_eq_true rfl, Nat.le_of_ble_eq_true rfl⟩) kz_332 (by decide) rfl rfl hl.1 rfl (Nat.le_of_ble_eq_true rfl) dX9_takeColours_26 ⟨Nat.zero_le _, Nat.zero_le _⟩ (fun H locs hP hS => ?_)
      obtain ⟨μ10, e11, h⟩ := ob_I h
      refine j_put (ty := .int) (z := v8) hx hb hts hinX9 tyX9 tyX9_ok nmX9 hown hK hP hS kz_332 (by decide) rfl 3 (by decide) (hts (.fieldLink RX9 90 "CardBandModel" "newColours" "I") (by decide +kernel)) rfl rfl (by decide +kernel) rfl rfl (by simp [flds]) rfl dX9_takeColours_29 (Option.some.inj e11) (fun H locs hP hS => ?_)
      have e0 := Option.some.inj h
      subst e0
      exact j_retM hx hb hK hP hS hr hlk dX9_takeColours_32
  refine j_if_ne (A := wr (gI μ 332 3)) (tgt := 12) hx hb rfl dX9_takeColours_5 (by decide) (fun q12 => ?_) (fun q12 => ?_)
  · replace h := (if_neg q12).symm.trans h
    refine j_iconst hx hb dX9_takeColours_12 ?_
    exact hj13_1 _ _ _ _ hP hS (lv_sub hl [0, 1] rfl) h
  · replace h := (if_pos q12).symm.trans h
    refine j_iconst hx hb dX9_takeColours_8 ?_
    refine j_goto (tgt := 13) hx hb dX9_takeColours_9 (by decide) ?_
    exact hj13_1 _ _ _ _ hP hS (lv_sub hl [0, 1] rfl) h
def fX9_takeCard_k63 (N : Nat) : Mm → Option (Mm) := fun μ8 =>
    bP (fX9_takeIn N 0 1 μ8) (fun v10 μ11 => Option.bind (stA μ11 336 16 (8 + (gI μ8 332 7)) v10) (fun μ12 => Option.bind (some (pI μ12 332 7 ((gI μ12 332 7) + 1))) (fun μ14 => some μ14)))
def fX9_takeCard_l25 (N : Nat) : Nat → Int → Mm → Option (Mm)
  | 0, _, _ => none
  | n16 + 1, x2_17, μ18 =>
    if 4 ≤ wr x2_17 then (fX9_takeCard_k63 N μ18) else (bP (fX9_takeIn N 0 ((gI μ18 332 3) - 1) μ18) (fun v21 μ22 => Option.bind (stA μ22 335 64 ((32 + (4 * (gI μ18 332 7))) + x2_17) v21) (fun μ23 => (fX9_takeCard_l25 N n16) (x2_17 + 1) μ23)))
def fX9_takeCard_j15 (N : Nat) (y1 : Int) (μ : Mm) : Int → Option (Mm) := fun s2 =>
    bP (fX9_want N s2 3 y1 μ) (fun v4 μ5 => if wr v4 = 0 then (some μ5) else (fX9_takeCard_l25 N N 0 μ5))
def fX9_takeCard (N : Nat) (y1 : Int) (μ : Mm) : Option (Mm) :=
    if 8 ≤ wr (gI μ 332 7) then (fX9_takeCard_j15 N y1 μ 0) else (fX9_takeCard_j15 N y1 μ 1)
abbrev rmX9_takeCard : Room := { frames := 3, cells := 0, slots := 0, locals := 72 }
set_option maxHeartbeats 4000000 in
set_option maxRecDepth 100000 in
theorem m_X9_takeCard (l : Launch) (D : va_G) (b : Nat) (cs : CS) (N : Nat) {μ μ0 : Mm} {y1 : Int} (h : fX9_takeCard N y1 μ = some μ0) : MM l yX9_takeCard wsX9_takeCard rmX9_takeCard D b cs [jR b 332, jI y1] μ μ0 := by
  refine met_in (cc := cX9_takeCard) (maxL := 3) (ret := none) (lv0 := [(0, jR b 332), (1, jI y1)]) (by decide +kernel) rfl (Nat.le_of_ble_eq_true rfl) rfl ?_
  intro p e s m args below meth c hx hb hr hlk hml hown hts hP hK ls hl
  have hown : s.vm.findClass RX9 = some m.cls := hown
  have hS : va_S (bA b) s.heap s.heap [] := va_S.rf
  have hinX9 : ∀ w ∈ u_ws RX9 TX9 27, w ∈ wsX9_takeCard := by decide +kernel
  unfold fX9_takeCard at h
  refine j_aload_n hx hb dX9_takeCard_0 rfl (lv_at hl 0 rfl) ?_
  refine j_aload_n hx hb dX9_takeCard_1 rfl (lv_at hl 0 rfl) ?_
  refine j_get (v := jI (gI μ 332 7)) hx hb hts hinX9 hown hK hP kz_332 (by decide) rfl 7 (by decide) (hts (.fieldLink RX9 97 "CardBandModel" "newCards" "I") (by decide +kernel)) rfl (by rw [jI_g]; rfl) dX9_takeCard_2 ?_
  refine j_bipush hx hb dX9_takeCard_5 (by decide) ?_
  have hj15_1 : ∀ (s2 : Int) (H : Heap) (locs : List Loc) (ls : Array Slot), va_P D vwCl (wl b cs μ) H → va_S (bA b) s.heap H locs → lv_has ls 3 [(0, jR b 332), (1, jI y1)] → fX9_takeCard_j15 N y1 μ s2 = some μ0 → W p l e rmX9_takeCard s m args below meth c H locs 0 0 (MQ below (QM D b cs μ0) args s 0 0 (bA b)) (F0 m 15 ls [jI s2, jR b 332]) := by
    intro s2 H locs ls hP hS hl h
    unfold fX9_takeCard_j15 at h
    refine j_iconst hx hb dX9_takeCard_15 ?_
    refine j_iload_n hx hb dX9_takeCard_16 rfl (lv_at hl 1 rfl) ?_
    obtain ⟨v4, μ5, e3, h⟩ := ob_P h
    refine jc_VI (As := [jI s2, jI 3, jI y1]) (rest := []) ⟨hx, hb, hml, hown, hts⟩ hK hP hS (m_X9_want l D b cs N e3) (cwV 3 hts gX9_takeCard_X9_want rfl rfl rfl (by decide +kernel) ⟨Nat.le_of_ble_eq_true rfl, Nat.le_of_ble_eq_true rfl⟩) kz_332 (by decide) rfl rfl hl.1 rfl (Nat.le_of_ble_eq_true rfl) dX9_takeCard_17 ⟨Nat.zero_le _, Nat.zero_le _⟩ (fun H locs hP hS => ?_)
    refine j_if_eq (A := wr v4) (tgt := 91) hx hb rfl dX9_takeCard_20 (by decide) (fun q6 => ?_) (fun q6 => ?_)
    · replace h := (if_pos q6).symm.trans h
      have e0 := Option.some.inj h
      subst e0
      exact j_retM hx hb hK hP hS hr hlk dX9_takeCard_91
    · replace h := (if_neg q6).symm.trans h
      refine j_iconst hx hb dX9_takeCard_23 ?_
      refine j_istore_n (lv2 := [(2, jI 0), (0, jR b 332), (1, jI y1)]) hx hb dX9_takeCard_24 rfl hl (by decide) rfl (fun ls hl => ?_)
      have hk63_7 : ∀ (μ8 : Mm) (H : Heap) (locs : List Loc) (ls : Array Slot), va_P D vwCl (wl b cs μ8) H → va_S (bA b) s.heap H locs → lv_has ls 3 [(0, jR b 332)] → fX9_takeCard_k63 N μ8 = some μ0 → W p l e rmX9_takeCard s m args below meth c H locs 0 0 (MQ below (QM D b cs μ0) args s 0 0 (bA b)) (F0 m 63 ls []) := by
        intro μ8 H locs ls hP hS hl h
        unfold fX9_takeCard_k63 at h
        refine j_aload_n hx hb dX9_takeCard_63 rfl (lv_at hl 0 rfl) ?_
        refine j_get (v := jR b 336) hx hb hts hinX9 hown hK hP kz_332 (by decide) rfl 5 (by decide) (hts (.fieldLink RX9 20 "CardBandModel" "threaded" "[I") (by decide +kernel)) rfl rfl dX9_takeCard_64 ?_
        refine j_bipush hx hb dX9_takeCard_67 (by decide) ?_
        refine j_aload_n hx hb dX9_takeCard_69 rfl (lv_at hl 0 rfl) ?_
        refine j_get (v := jI (gI μ8 332 7)) hx hb hts hinX9 hown hK hP kz_332 (by decide) rfl 7 (by decide) (hts (.fieldLink RX9 97 "CardBandModel" "newCards" "I") (by decide +kernel)) rfl (by rw [jI_g]; rfl) dX9_takeCard_70 ?_
        refine j_iadd hx hb dX9_takeCard_73 ?_
        refine j_aload_n hx hb dX9_takeCard_74 rfl (lv_at hl 0 rfl) ?_
        refine j_iconst hx hb dX9_takeCard_75 ?_
        refine j_iconst hx hb dX9_takeCard_76 ?_
        obtain ⟨v10, μ11, e9, h⟩ := ob_P h
        refine jc_VI (As := [jI 0, jI 1]) (rest := [jI (8 + (gI μ8 332 7)), jR b 336]) ⟨hx, hb, hml, hown, hts⟩ hK hP hS (m_X9_takeIn l D b cs N e9) (cwV 2 hts gX9_takeCard_X9_takeIn rfl rfl rfl (by decide +kernel) ⟨Nat.le_of_ble_eq_true rfl, Nat.le_of_ble_eq_true rfl⟩) kz_332 (by decide) rfl rfl hl.1 rfl (Nat.le_of_ble_eq_true rfl) dX9_takeCard_77 ⟨Nat.zero_le _, Nat.zero_le _⟩ (fun H locs hP hS => ?_)
        obtain ⟨μ12, e13, h⟩ := ob_I h
        refine j_iastore hx hb hK hP hS kz_336 e13 dX9_takeCard_80 (fun H locs hP hS => ?_)
        refine j_aload_n hx hb dX9_takeCard_81 rfl (lv_at hl 0 rfl) ?_
        refine j_dup hx hb dX9_takeCard_82 rfl ?_
        refine j_get (v := jI (gI μ12 332 7)) hx hb hts hinX9 hown hK hP kz_332 (by decide) rfl 7 (by decide) (hts (.fieldLink RX9 97 "CardBandModel" "newCards" "I") (by decide +kernel)) rfl (by rw [jI_g]; rfl) dX9_takeCard_83 ?_
        refine j_iconst hx hb dX9_takeCard_86 ?_
        refine j_iadd hx hb dX9_takeCard_87 ?_
        obtain ⟨μ14, e15, h⟩ := ob_I h
        refine j_put (ty := .int) (z := ((gI μ12 332 7) + 1)) hx hb hts hinX9 tyX9 tyX9_ok nmX9 hown hK hP hS kz_332 (by decide) rfl 7 (by decide) (hts (.fieldLink RX9 97 "CardBandModel" "newCards" "I") (by decide +kernel)) rfl rfl (by decide +kernel) rfl rfl (by simp [flds]) rfl dX9_takeCard_88 (Option.some.inj e15) (fun H locs hP hS => ?_)
        have e0 := Option.some.inj h
        subst e0
        exact j_retM hx hb hK hP hS hr hlk dX9_takeCard_91
      have hl25_16 : ∀ (n0 : Nat) (x2_17 : Int) (μ18 : Mm) (H : Heap) (locs : List Loc) (ls : Array Slot), va_P D vwCl (wl b cs μ18) H → va_S (bA b) s.heap H locs → lv_has ls 3 [(0, jR b 332), (2, jI x2_17)] → fX9_takeCard_l25 N n0 x2_17 μ18 = some μ0 → W p l e rmX9_takeCard s m args below meth c H locs 0 0 (MQ below (QM D b cs μ0) args s 0 0 (bA b)) (F0 m 25 ls []) := by
        intro n0
        induction n0 with
        | zero => intro x2_17 μ18 H locs ls hP hS hl h; rw [fX9_takeCard_l25] at h; cases h
        | succ n16 ih25_16 =>
          intro x2_17 μ18 H locs ls hP hS hl h
          rw [fX9_takeCard_l25] at h
          refine j_iload_n hx hb dX9_takeCard_25 rfl (lv_at hl 1 rfl) ?_
          refine j_iconst hx hb dX9_takeCard_26 ?_
          refine j_icmp_ge (A := wr x2_17) (B := 4) (tgt := 63) hx hb rfl (by decide) dX9_takeCard_27 (by decide) (fun q19 => ?_) (fun q19 => ?_)
          · replace h := (if_pos q19).symm.trans h
            exact hk63_7 _ _ _ _ hP hS (lv_sub hl [0] rfl) h
          · replace h := (if_neg q19).symm.trans h
            refine j_aload_n hx hb dX9_takeCard_30 rfl (lv_at hl 0 rfl) ?_
            refine j_get (v := jR b 335) hx hb hts hinX9 hown hK hP kz_332 (by decide) rfl 4 (by decide) (hts (.fieldLink RX9 17 "CardBandModel" "hole" "[I") (by decide +kernel)) rfl rfl dX9_takeCard_31 ?_
            refine j_bipush hx hb dX9_takeCard_34 (by decide) ?_
            refine j_iconst hx hb dX9_takeCard_36 ?_
            refine j_aload_n hx hb dX9_takeCard_37 rfl (lv_at hl 0 rfl) ?_
            refine j_get (v := jI (gI μ18 332 7)) hx hb hts hinX9 hown hK hP kz_332 (by decide) rfl 7 (by decide) (hts (.fieldLink RX9 97 "CardBandModel" "newCards" "I") (by decide +kernel)) rfl (by rw [jI_g]; rfl) dX9_takeCard_38 ?_
            refine j_imul hx hb dX9_takeCard_41 ?_
            refine j_iadd hx hb dX9_takeCard_42 ?_
            refine j_iload_n hx hb dX9_takeCard_43 rfl (lv_at hl 1 rfl) ?_
            refine j_iadd hx hb dX9_takeCard_44 ?_
            refine j_aload_n hx hb dX9_takeCard_45 rfl (lv_at hl 0 rfl) ?_
            refine j_iconst hx hb dX9_takeCard_46 ?_
            refine j_aload_n hx hb dX9_takeCard_47 rfl (lv_at hl 0 rfl) ?_
            refine j_get (v := jI (gI μ18 332 3)) hx hb hts hinX9 hown hK hP kz_332 (by decide) rfl 3 (by decide) (hts (.fieldLink RX9 90 "CardBandModel" "newColours" "I") (by decide +kernel)) rfl (by rw [jI_g]; rfl) dX9_takeCard_48 ?_
            refine j_iconst hx hb dX9_takeCard_51 ?_
            refine j_isub hx hb dX9_takeCard_52 ?_
            obtain ⟨v21, μ22, e20, h⟩ := ob_P h
            refine jc_VI (As := [jI 0, jI ((gI μ18 332 3) - 1)]) (rest := [jI ((32 + (4 * (gI μ18 332 7))) + x2_17), jR b 335]) ⟨hx, hb, hml, hown, hts⟩ hK hP hS (m_X9_takeIn l D b cs N e20) (cwV 2 hts gX9_takeCard_X9_takeIn rfl rfl rfl (by decide +kernel) ⟨Nat.le_of_ble_eq_true rfl, Nat.le_of_ble_eq_true rfl⟩) kz_332 (by decide) rfl rfl hl.1 rfl (Nat.le_of_ble_eq_true rfl) dX9_takeCard_53 ⟨Nat.zero_le _, Nat.zero_le _⟩ (fun H locs hP hS => ?_)
            obtain ⟨μ23, e24, h⟩ := ob_I h
            refine j_iastore hx hb hK hP hS kz_335 e24 dX9_takeCard_56 (fun H locs hP hS => ?_)
            refine j_iinc (k := 1) (lv2 := [(2, jI (x2_17 + 1)), (0, jR b 332)]) hx hb dX9_takeCard_57 hl rfl (by decide) rfl (fun ls hl => ?_)
            refine j_goto (tgt := 25) hx hb dX9_takeCard_60 (by decide) ?_
            exact ih25_16 _ _ _ _ _ hP hS (lv_sub hl [1, 0] rfl) h
      exact hl25_16 N _ _ _ _ _ hP hS (lv_sub hl [1, 0] rfl) h
  refine j_icmp_ge (A := wr (gI μ 332 7)) (B := 8) (tgt := 14) hx hb rfl (by decide) dX9_takeCard_7 (by decide) (fun q25 => ?_) (fun q25 => ?_)
  · replace h := (if_pos q25).symm.trans h
    refine j_iconst hx hb dX9_takeCard_14 ?_
    exact hj15_1 _ _ _ _ hP hS (lv_sub hl [0, 1] rfl) h
  · replace h := (if_neg q25).symm.trans h
    refine j_iconst hx hb dX9_takeCard_10 ?_
    refine j_goto (tgt := 15) hx hb dX9_takeCard_11 (by decide) ?_
    exact hj15_1 _ _ _ _ hP hS (lv_sub hl [0, 1] rfl) h
def fX9_takePack_k118 (N : Nat) (v8 : Int) : Mm → Option (Mm) := fun μ16 =>
    Option.bind (stA μ16 337 8 (4 + (gI μ16 332 10)) v8) (fun μ17 => Option.bind (some (pI μ17 332 10 ((gI μ17 332 10) + 1))) (fun μ19 => some μ19))
def fX9_takePack_j103 (N : Nat) (x4_22 : Int) (μ23 : Mm) (rec67_21 : Int → Mm → Option (Mm)) : Int → Option (Mm) := fun s26 =>
    bP (fX9_want N s26 4 (gI μ23 332 15) μ23) (fun v28 μ29 => rec67_21 (x4_22 + 1) μ29)
def fX9_takePack_l67 (N : Nat) (v8 : Int) : Nat → Int → Mm → Option (Mm)
  | 0, _, _ => none
  | n21 + 1, x4_22, μ23 =>
    if wr (gI μ23 332 10) ≤ wr x4_22 then (fX9_takePack_k118 N v8 μ23) else (if 0 < wr (gI μ23 332 16) then (fX9_takePack_j103 N x4_22 μ23 (fX9_takePack_l67 N v8 n21) 1) else (Option.bind (ldA μ23 337 8 (4 + x4_22)) (fun v31 => if wr (andI v8 v31) = 0 then (fX9_takePack_j103 N x4_22 μ23 (fX9_takePack_l67 N v8 n21) 1) else (fX9_takePack_j103 N x4_22 μ23 (fX9_takePack_l67 N v8 n21) 0))))
def fX9_takePack_j55 (N : Nat) (v8 : Int) (μ9 : Mm) : Int → Option (Mm) := fun s11 =>
    bP (fX9_want N s11 2 (gI μ9 332 15) μ9) (fun v13 μ14 => fX9_takePack_l67 N v8 N 0 μ14)
def fX9_takePack_j14 (N : Nat) (y1 : Int) (μ : Mm) : Int → Option (Mm) := fun s2 =>
    bP (fX9_want N s2 3 y1 μ) (fun v4 μ5 => if wr v4 = 0 then (some μ5) else (bP (fX9_takeIn N 1 255 μ5) (fun v8 μ9 => if 0 < wr (gI μ9 332 16) then (fX9_takePack_j55 N v8 μ9 1) else (if wr (shlI 1 (gI μ9 332 7)) ≤ wr v8 then (fX9_takePack_j55 N v8 μ9 0) else (fX9_takePack_j55 N v8 μ9 1)))))
def fX9_takePack (N : Nat) (y1 : Int) (μ : Mm) : Option (Mm) :=
    if 4 ≤ wr (gI μ 332 10) then (fX9_takePack_j14 N y1 μ 0) else (fX9_takePack_j14 N y1 μ 1)
abbrev rmX9_takePack : Room := { frames := 3, cells := 0, slots := 0, locals := 72 }
set_option maxHeartbeats 4000000 in
set_option maxRecDepth 100000 in
theorem m_X9_takePack (l : Launch) (D : va_G) (b : Nat) (cs : CS) (N : Nat) {μ μ0 : Mm} {y1 : Int} (h : fX9_takePack N y1 μ = some μ0) : MM l yX9_takePack wsX9_takePack rmX9_takePack D b cs [jR b 332, jI y1] μ μ0 := by
  refine met_in (cc := cX9_takePack) (maxL := 5) (ret := none) (lv0 := [(0, jR b 332), (1, jI y1)]) (by decide +kernel) rfl (Nat.le_of_ble_eq_true rfl) rfl ?_
  intro p e s m args below meth c hx hb hr hlk hml hown hts hP hK ls hl
  have hown : s.vm.findClass RX9 = some m.cls := hown
  have hS : va_S (bA b) s.heap s.heap [] := va_S.rf
  have hinX9 : ∀ w ∈ u_ws RX9 TX9 27, w ∈ wsX9_takePack := by decide +kernel
  unfold fX9_takePack at h
  refine j_aload_n hx hb dX9_takePack_0 rfl (lv_at hl 0 rfl) ?_
  refine j_aload_n hx hb dX9_takePack_1 rfl (lv_at hl 0 rfl) ?_
  refine j_get (v := jI (gI μ 332 10)) hx hb hts hinX9 hown hK hP kz_332 (by decide) rfl 10 (by decide) (hts (.fieldLink RX9 100 "CardBandModel" "newPacks" "I") (by decide +kernel)) rfl (by rw [jI_g]; rfl) dX9_takePack_2 ?_
  refine j_iconst hx hb dX9_takePack_5 ?_
  have hj14_1 : ∀ (s2 : Int) (H : Heap) (locs : List Loc) (ls : Array Slot), va_P D vwCl (wl b cs μ) H → va_S (bA b) s.heap H locs → lv_has ls 5 [(0, jR b 332), (1, jI y1)] → fX9_takePack_j14 N y1 μ s2 = some μ0 → W p l e rmX9_takePack s m args below meth c H locs 0 0 (MQ below (QM D b cs μ0) args s 0 0 (bA b)) (F0 m 14 ls [jI s2, jR b 332]) := by
    intro s2 H locs ls hP hS hl h
    unfold fX9_takePack_j14 at h
    refine j_iconst hx hb dX9_takePack_14 ?_
    refine j_iload_n hx hb dX9_takePack_15 rfl (lv_at hl 1 rfl) ?_
    obtain ⟨v4, μ5, e3, h⟩ := ob_P h
    refine jc_VI (As := [jI s2, jI 3, jI y1]) (rest := []) ⟨hx, hb, hml, hown, hts⟩ hK hP hS (m_X9_want l D b cs N e3) (cwV 3 hts gX9_takePack_X9_want rfl rfl rfl (by decide +kernel) ⟨Nat.le_of_ble_eq_true rfl, Nat.le_of_ble_eq_true rfl⟩) kz_332 (by decide) rfl rfl hl.1 rfl (Nat.le_of_ble_eq_true rfl) dX9_takePack_16 ⟨Nat.zero_le _, Nat.zero_le _⟩ (fun H locs hP hS => ?_)
    refine j_if_ne (A := wr v4) (tgt := 23) hx hb rfl dX9_takePack_19 (by decide) (fun q6 => ?_) (fun q6 => ?_)
    · replace h := (if_neg q6).symm.trans h
      refine j_aload_n hx hb dX9_takePack_23 rfl (lv_at hl 0 rfl) ?_
      refine j_iconst hx hb dX9_takePack_24 ?_
      refine j_sipush hx hb dX9_takePack_25 (by decide) ?_
      obtain ⟨v8, μ9, e7, h⟩ := ob_P h
      refine jc_VI (As := [jI 1, jI 255]) (rest := []) ⟨hx, hb, hml, hown, hts⟩ hK hP hS (m_X9_takeIn l D b cs N e7) (cwV 2 hts gX9_takePack_X9_takeIn rfl rfl rfl (by decide +kernel) ⟨Nat.le_of_ble_eq_true rfl, Nat.le_of_ble_eq_true rfl⟩) kz_332 (by decide) rfl rfl hl.1 rfl (Nat.le_of_ble_eq_true rfl) dX9_takePack_28 ⟨Nat.zero_le _, Nat.zero_le _⟩ (fun H locs hP hS => ?_)
      refine j_istore_n (lv2 := [(2, jI v8), (0, jR b 332), (1, jI y1)]) hx hb dX9_takePack_31 rfl hl (by decide) rfl (fun ls hl => ?_)
      refine j_aload_n hx hb dX9_takePack_32 rfl (lv_at hl 1 rfl) ?_
      refine j_aload_n hx hb dX9_takePack_33 rfl (lv_at hl 1 rfl) ?_
      refine j_get (v := jI (gI μ9 332 16)) hx hb hts hinX9 hown hK hP kz_332 (by decide) rfl 16 (by decide) (hts (.fieldLink RX9 68 "CardBandModel" "faultOf" "I") (by decide +kernel)) rfl (by rw [jI_g]; rfl) dX9_takePack_34 ?_
      have hj55_10 : ∀ (s11 : Int) (H : Heap) (locs : List Loc) (ls : Array Slot), va_P D vwCl (wl b cs μ9) H → va_S (bA b) s.heap H locs → lv_has ls 5 [(0, jR b 332), (2, jI v8)] → fX9_takePack_j55 N v8 μ9 s11 = some μ0 → W p l e rmX9_takePack s m args below meth c H locs 0 0 (MQ below (QM D b cs μ0) args s 0 0 (bA b)) (F0 m 55 ls [jI s11, jR b 332]) := by
        intro s11 H locs ls hP hS hl h
        unfold fX9_takePack_j55 at h
        refine j_iconst hx hb dX9_takePack_55 ?_
        refine j_aload_n hx hb dX9_takePack_56 rfl (lv_at hl 0 rfl) ?_
        refine j_get (v := jI (gI μ9 332 15)) hx hb hts hinX9 hown hK hP kz_332 (by decide) rfl 15 (by decide) (hts (.fieldLink RX9 75 "CardBandModel" "first" "I") (by decide +kernel)) rfl (by rw [jI_g]; rfl) dX9_takePack_57 ?_
        obtain ⟨v13, μ14, e12, h⟩ := ob_P h
        refine jc_VI (As := [jI s11, jI 2, jI (gI μ9 332 15)]) (rest := []) ⟨hx, hb, hml, hown, hts⟩ hK hP hS (m_X9_want l D b cs N e12) (cwV 3 hts gX9_takePack_X9_want rfl rfl rfl (by decide +kernel) ⟨Nat.le_of_ble_eq_true rfl, Nat.le_of_ble_eq_true rfl⟩) kz_332 (by decide) rfl rfl hl.1 rfl (Nat.le_of_ble_eq_true rfl) dX9_takePack_60 ⟨Nat.zero_le _, Nat.zero_le _⟩ (fun H locs hP hS => ?_)
        refine j_istore_n (lv2 := [(3, jI v13), (0, jR b 332), (2, jI v8)]) hx hb dX9_takePack_63 rfl hl (by decide) rfl (fun ls hl => ?_)
        refine j_iconst hx hb dX9_takePack_64 ?_
        refine j_istore (lv2 := [(4, jI 0), (3, jI v13), (0, jR b 332), (2, jI v8)]) hx hb dX9_takePack_65 hl (by decide) rfl (fun ls hl => ?_)
        have hk118_15 : ∀ (μ16 : Mm) (H : Heap) (locs : List Loc) (ls : Array Slot), va_P D vwCl (wl b cs μ16) H → va_S (bA b) s.heap H locs → lv_has ls 5 [(0, jR b 332), (2, jI v8)] → fX9_takePack_k118 N v8 μ16 = some μ0 → W p l e rmX9_takePack s m args below meth c H locs 0 0 (MQ below (QM D b cs μ0) args s 0 0 (bA b)) (F0 m 118 ls []) := by
          intro μ16 H locs ls hP hS hl h
          unfold fX9_takePack_k118 at h
          refine j_aload_n hx hb dX9_takePack_118 rfl (lv_at hl 0 rfl) ?_
          refine j_get (v := jR b 337) hx hb hts hinX9 hown hK hP kz_332 (by decide) rfl 8 (by decide) (hts (.fieldLink RX9 23 "CardBandModel" "pack" "[I") (by decide +kernel)) rfl rfl dX9_takePack_119 ?_
          refine j_iconst hx hb dX9_takePack_122 ?_
          refine j_aload_n hx hb dX9_takePack_123 rfl (lv_at hl 0 rfl) ?_
          refine j_get (v := jI (gI μ16 332 10)) hx hb hts hinX9 hown hK hP kz_332 (by decide) rfl 10 (by decide) (hts (.fieldLink RX9 100 "CardBandModel" "newPacks" "I") (by decide +kernel)) rfl (by rw [jI_g]; rfl) dX9_takePack_124 ?_
          refine j_iadd hx hb dX9_takePack_127 ?_
          refine j_iload_n hx hb dX9_takePack_128 rfl (lv_at hl 1 rfl) ?_
          obtain ⟨μ17, e18, h⟩ := ob_I h
          refine j_iastore hx hb hK hP hS kz_337 e18 dX9_takePack_129 (fun H locs hP hS => ?_)
          refine j_aload_n hx hb dX9_takePack_130 rfl (lv_at hl 0 rfl) ?_
          refine j_dup hx hb dX9_takePack_131 rfl ?_
          refine j_get (v := jI (gI μ17 332 10)) hx hb hts hinX9 hown hK hP kz_332 (by decide) rfl 10 (by decide) (hts (.fieldLink RX9 100 "CardBandModel" "newPacks" "I") (by decide +kernel)) rfl (by rw [jI_g]; rfl) dX9_takePack_132 ?_
          refine j_iconst hx hb dX9_takePack_135 ?_
          refine j_iadd hx hb dX9_takePack_136 ?_
          obtain ⟨μ19, e20, h⟩ := ob_I h
          refine j_put (ty := .int) (z := ((gI μ17 332 10) + 1)) hx hb hts hinX9 tyX9 tyX9_ok nmX9 hown hK hP hS kz_332 (by decide) rfl 10 (by decide) (hts (.fieldLink RX9 100 "CardBandModel" "newPacks" "I") (by decide +kernel)) rfl rfl (by decide +kernel) rfl rfl (by simp [flds]) rfl dX9_takePack_137 (Option.some.inj e20) (fun H locs hP hS => ?_)
          have e0 := Option.some.inj h
          subst e0
          exact j_retM hx hb hK hP hS hr hlk dX9_takePack_140
        have hl67_21 : ∀ (n0 : Nat) (x4_22 : Int) (μ23 : Mm) (H : Heap) (locs : List Loc) (ls : Array Slot), va_P D vwCl (wl b cs μ23) H → va_S (bA b) s.heap H locs → lv_has ls 5 [(0, jR b 332), (2, jI v8), (4, jI x4_22)] → fX9_takePack_l67 N v8 n0 x4_22 μ23 = some μ0 → W p l e rmX9_takePack s m args below meth c H locs 0 0 (MQ below (QM D b cs μ0) args s 0 0 (bA b)) (F0 m 67 ls []) := by
          intro n0
          induction n0 with
          | zero => intro x4_22 μ23 H locs ls hP hS hl h; rw [fX9_takePack_l67] at h; cases h
          | succ n21 ih67_21 =>
            intro x4_22 μ23 H locs ls hP hS hl h
            rw [fX9_takePack_l67] at h
            refine j_iload hx hb dX9_takePack_67 (lv_at hl 2 rfl) ?_
            refine j_aload_n hx hb dX9_takePack_69 rfl (lv_at hl 0 rfl) ?_
            refine j_get (v := jI (gI μ23 332 10)) hx hb hts hinX9 hown hK hP kz_332 (by decide) rfl 10 (by decide) (hts (.fieldLink RX9 100 "CardBandModel" "newPacks" "I") (by decide +kernel)) rfl (by rw [jI_g]; rfl) dX9_takePack_70 ?_
            refine j_icmp_ge (A := wr x4_22) (B := wr (gI μ23 332 10)) (tgt := 118) hx hb rfl rfl dX9_takePack_73 (by decide) (fun q24 => ?_) (fun q24 => ?_)
            · replace h := (if_pos q24).symm.trans h
              exact hk118_15 _ _ _ _ hP hS (lv_sub hl [0, 1] rfl) h
            · replace h := (if_neg q24).symm.trans h
              refine j_aload_n hx hb dX9_takePack_76 rfl (lv_at hl 0 rfl) ?_
              refine j_aload_n hx hb dX9_takePack_77 rfl (lv_at hl 0 rfl) ?_
              refine j_get (v := jI (gI μ23 332 16)) hx hb hts hinX9 hown hK hP kz_332 (by decide) rfl 16 (by decide) (hts (.fieldLink RX9 68 "CardBandModel" "faultOf" "I") (by decide +kernel)) rfl (by rw [jI_g]; rfl) dX9_takePack_78 ?_
              have hj103_25 : ∀ (s26 : Int) (H : Heap) (locs : List Loc) (ls : Array Slot), va_P D vwCl (wl b cs μ23) H → va_S (bA b) s.heap H locs → lv_has ls 5 [(0, jR b 332), (2, jI v8), (4, jI x4_22)] → fX9_takePack_j103 N x4_22 μ23 (fX9_takePack_l67 N v8 n21) s26 = some μ0 → W p l e rmX9_takePack s m args below meth c H locs 0 0 (MQ below (QM D b cs μ0) args s 0 0 (bA b)) (F0 m 103 ls [jI s26, jR b 332]) := by
                intro s26 H locs ls hP hS hl h
                unfold fX9_takePack_j103 at h
                refine j_iconst hx hb dX9_takePack_103 ?_
                refine j_aload_n hx hb dX9_takePack_104 rfl (lv_at hl 0 rfl) ?_
                refine j_get (v := jI (gI μ23 332 15)) hx hb hts hinX9 hown hK hP kz_332 (by decide) rfl 15 (by decide) (hts (.fieldLink RX9 75 "CardBandModel" "first" "I") (by decide +kernel)) rfl (by rw [jI_g]; rfl) dX9_takePack_105 ?_
                obtain ⟨v28, μ29, e27, h⟩ := ob_P h
                refine jc_VI (As := [jI s26, jI 4, jI (gI μ23 332 15)]) (rest := []) ⟨hx, hb, hml, hown, hts⟩ hK hP hS (m_X9_want l D b cs N e27) (cwV 3 hts gX9_takePack_X9_want rfl rfl rfl (by decide +kernel) ⟨Nat.le_of_ble_eq_true rfl, Nat.le_of_ble_eq_true rfl⟩) kz_332 (by decide) rfl rfl hl.1 rfl (Nat.le_of_ble_eq_true rfl) dX9_takePack_108 ⟨Nat.zero_le _, Nat.zero_le _⟩ (fun H locs hP hS => ?_)
                refine j_istore_n (lv2 := [(3, jI v28), (0, jR b 332), (2, jI v8), (4, jI x4_22)]) hx hb dX9_takePack_111 rfl hl (by decide) rfl (fun ls hl => ?_)
                refine j_iinc (k := 3) (lv2 := [(4, jI (x4_22 + 1)), (3, jI v28), (0, jR b 332), (2, jI v8)]) hx hb dX9_takePack_112 hl rfl (by decide) rfl (fun ls hl => ?_)
                refine j_goto (tgt := 67) hx hb dX9_takePack_115 (by decide) ?_
                exact ih67_21 _ _ _ _ _ hP hS (lv_sub hl [2, 3, 0] rfl) h
              refine j_if_gt (A := wr (gI μ23 332 16)) (tgt := 98) hx hb rfl dX9_takePack_81 (by decide) (fun q30 => ?_) (fun q30 => ?_)
              · replace h := (if_pos q30).symm.trans h
                refine j_iconst hx hb dX9_takePack_98 ?_
                refine j_goto (tgt := 103) hx hb dX9_takePack_99 (by decide) ?_
                exact hj103_25 _ _ _ _ hP hS (lv_sub hl [0, 1, 2] rfl) h
              · replace h := (if_neg q30).symm.trans h
                refine j_iload_n hx hb dX9_takePack_84 rfl (lv_at hl 1 rfl) ?_
                refine j_aload_n hx hb dX9_takePack_85 rfl (lv_at hl 0 rfl) ?_
                refine j_get (v := jR b 337) hx hb hts hinX9 hown hK hP kz_332 (by decide) rfl 8 (by decide) (hts (.fieldLink RX9 23 "CardBandModel" "pack" "[I") (by decide +kernel)) rfl rfl dX9_takePack_86 ?_
                refine j_iconst hx hb dX9_takePack_89 ?_
                refine j_iload hx hb dX9_takePack_90 (lv_at hl 2 rfl) ?_
                refine j_iadd hx hb dX9_takePack_92 ?_
                obtain ⟨v31, e32, h⟩ := ob_I h
                refine j_iaload hx hb hK hP kz_337 e32 dX9_takePack_93 ?_
                refine j_iand hx hb dX9_takePack_94 ?_
                refine j_if_ne (A := wr (andI v8 v31)) (tgt := 102) hx hb rfl dX9_takePack_95 (by decide) (fun q33 => ?_) (fun q33 => ?_)
                · replace h := (if_neg q33).symm.trans h
                  refine j_iconst hx hb dX9_takePack_102 ?_
                  exact hj103_25 _ _ _ _ hP hS (lv_sub hl [0, 1, 2] rfl) h
                · replace h := (if_pos q33).symm.trans h
                  refine j_iconst hx hb dX9_takePack_98 ?_
                  refine j_goto (tgt := 103) hx hb dX9_takePack_99 (by decide) ?_
                  exact hj103_25 _ _ _ _ hP hS (lv_sub hl [0, 1, 2] rfl) h
        exact hl67_21 N _ _ _ _ _ hP hS (lv_sub hl [2, 3, 0] rfl) h
      refine j_if_gt (A := wr (gI μ9 332 16)) (tgt := 50) hx hb rfl dX9_takePack_37 (by decide) (fun q34 => ?_) (fun q34 => ?_)
      · replace h := (if_pos q34).symm.trans h
        refine j_iconst hx hb dX9_takePack_50 ?_
        refine j_goto (tgt := 55) hx hb dX9_takePack_51 (by decide) ?_
        exact hj55_10 _ _ _ _ hP hS (lv_sub hl [1, 0] rfl) h
      · replace h := (if_neg q34).symm.trans h
        refine j_iload_n hx hb dX9_takePack_40 rfl (lv_at hl 0 rfl) ?_
        refine j_iconst hx hb dX9_takePack_41 ?_
        refine j_aload_n hx hb dX9_takePack_42 rfl (lv_at hl 1 rfl) ?_
        refine j_get (v := jI (gI μ9 332 7)) hx hb hts hinX9 hown hK hP kz_332 (by decide) rfl 7 (by decide) (hts (.fieldLink RX9 97 "CardBandModel" "newCards" "I") (by decide +kernel)) rfl (by rw [jI_g]; rfl) dX9_takePack_43 ?_
        refine j_ishl hx hb dX9_takePack_46 ?_
        refine j_icmp_ge (A := wr v8) (B := wr (shlI 1 (gI μ9 332 7))) (tgt := 54) hx hb rfl rfl dX9_takePack_47 (by decide) (fun q35 => ?_) (fun q35 => ?_)
        · replace h := (if_pos q35).symm.trans h
          refine j_iconst hx hb dX9_takePack_54 ?_
          exact hj55_10 _ _ _ _ hP hS (lv_sub hl [1, 0] rfl) h
        · replace h := (if_neg q35).symm.trans h
          refine j_iconst hx hb dX9_takePack_50 ?_
          refine j_goto (tgt := 55) hx hb dX9_takePack_51 (by decide) ?_
          exact hj55_10 _ _ _ _ hP hS (lv_sub hl [1, 0] rfl) h
    · replace h := (if_pos q6).symm.trans h
      have e0 := Option.some.inj h
      subst e0
      exact j_retM hx hb hK hP hS hr hlk dX9_takePack_22
  refine j_icmp_ge (A := wr (gI μ 332 10)) (B := 4) (tgt := 13) hx hb rfl (by decide) dX9_takePack_6 (by decide) (fun q36 => ?_) (fun q36 => ?_)
  · replace h := (if_pos q36).symm.trans h
    refine j_iconst hx hb dX9_takePack_13 ?_
    exact hj14_1 _ _ _ _ hP hS (lv_sub hl [0, 1] rfl) h
  · replace h := (if_neg q36).symm.trans h
    refine j_iconst hx hb dX9_takePack_9 ?_
    refine j_goto (tgt := 14) hx hb dX9_takePack_10 (by decide) ?_
    exact hj14_1 _ _ _ _ hP hS (lv_sub hl [0, 1] rfl) h
def fX9_takeYarn (N : Nat) (μ : Mm) : Option (Mm) :=
    bP (fX9_takeIn N 0 ((gI μ 332 3) - 1) μ) (fun v2 μ3 => bP (fX9_takeIn N 0 999 μ3) (fun v5 μ6 => if wr (gI μ6 332 16) = 0 then (Option.bind (stA μ6 338 8 v2 v5) (fun μ8 => some μ8)) else (some μ6)))
abbrev rmX9_takeYarn : Room := { frames := 3, cells := 0, slots := 0, locals := 72 }
set_option maxHeartbeats 4000000 in
set_option maxRecDepth 100000 in
theorem m_X9_takeYarn (l : Launch) (D : va_G) (b : Nat) (cs : CS) (N : Nat) {μ μ0 : Mm} (h : fX9_takeYarn N μ = some μ0) : MM l yX9_takeYarn wsX9_takeYarn rmX9_takeYarn D b cs [jR b 332] μ μ0 := by
  refine met_in (cc := cX9_takeYarn) (maxL := 3) (ret := none) (lv0 := [(0, jR b 332)]) (by decide +kernel) rfl (Nat.le_of_ble_eq_true rfl) rfl ?_
  intro p e s m args below meth c hx hb hr hlk hml hown hts hP hK ls hl
  have hown : s.vm.findClass RX9 = some m.cls := hown
  have hS : va_S (bA b) s.heap s.heap [] := va_S.rf
  have hinX9 : ∀ w ∈ u_ws RX9 TX9 27, w ∈ wsX9_takeYarn := by decide +kernel
  unfold fX9_takeYarn at h
  refine j_aload_n hx hb dX9_takeYarn_0 rfl (lv_at hl 0 rfl) ?_
  refine j_iconst hx hb dX9_takeYarn_1 ?_
  refine j_aload_n hx hb dX9_takeYarn_2 rfl (lv_at hl 0 rfl) ?_
  refine j_get (v := jI (gI μ 332 3)) hx hb hts hinX9 hown hK hP kz_332 (by decide) rfl 3 (by decide) (hts (.fieldLink RX9 90 "CardBandModel" "newColours" "I") (by decide +kernel)) rfl (by rw [jI_g]; rfl) dX9_takeYarn_3 ?_
  refine j_iconst hx hb dX9_takeYarn_6 ?_
  refine j_isub hx hb dX9_takeYarn_7 ?_
  obtain ⟨v2, μ3, e1, h⟩ := ob_P h
  refine jc_VI (As := [jI 0, jI ((gI μ 332 3) - 1)]) (rest := []) ⟨hx, hb, hml, hown, hts⟩ hK hP hS (m_X9_takeIn l D b cs N e1) (cwV 2 hts gX9_takeYarn_X9_takeIn rfl rfl rfl (by decide +kernel) ⟨Nat.le_of_ble_eq_true rfl, Nat.le_of_ble_eq_true rfl⟩) kz_332 (by decide) rfl rfl hl.1 rfl (Nat.le_of_ble_eq_true rfl) dX9_takeYarn_8 ⟨Nat.zero_le _, Nat.zero_le _⟩ (fun H locs hP hS => ?_)
  refine j_istore_n (lv2 := [(1, jI v2), (0, jR b 332)]) hx hb dX9_takeYarn_11 rfl hl (by decide) rfl (fun ls hl => ?_)
  refine j_aload_n hx hb dX9_takeYarn_12 rfl (lv_at hl 1 rfl) ?_
  refine j_iconst hx hb dX9_takeYarn_13 ?_
  refine j_sipush hx hb dX9_takeYarn_14 (by decide) ?_
  obtain ⟨v5, μ6, e4, h⟩ := ob_P h
  refine jc_VI (As := [jI 0, jI 999]) (rest := []) ⟨hx, hb, hml, hown, hts⟩ hK hP hS (m_X9_takeIn l D b cs N e4) (cwV 2 hts gX9_takeYarn_X9_takeIn rfl rfl rfl (by decide +kernel) ⟨Nat.le_of_ble_eq_true rfl, Nat.le_of_ble_eq_true rfl⟩) kz_332 (by decide) rfl rfl hl.1 rfl (Nat.le_of_ble_eq_true rfl) dX9_takeYarn_17 ⟨Nat.zero_le _, Nat.zero_le _⟩ (fun H locs hP hS => ?_)
  refine j_istore_n (lv2 := [(2, jI v5), (1, jI v2), (0, jR b 332)]) hx hb dX9_takeYarn_20 rfl hl (by decide) rfl (fun ls hl => ?_)
  refine j_aload_n hx hb dX9_takeYarn_21 rfl (lv_at hl 2 rfl) ?_
  refine j_get (v := jI (gI μ6 332 16)) hx hb hts hinX9 hown hK hP kz_332 (by decide) rfl 16 (by decide) (hts (.fieldLink RX9 68 "CardBandModel" "faultOf" "I") (by decide +kernel)) rfl (by rw [jI_g]; rfl) dX9_takeYarn_22 ?_
  refine j_if_ne (A := wr (gI μ6 332 16)) (tgt := 35) hx hb rfl dX9_takeYarn_25 (by decide) (fun q7 => ?_) (fun q7 => ?_)
  · replace h := (if_neg q7).symm.trans h
    have e0 := Option.some.inj h
    subst e0
    exact j_retM hx hb hK hP hS hr hlk dX9_takeYarn_35
  · replace h := (if_pos q7).symm.trans h
    refine j_aload_n hx hb dX9_takeYarn_28 rfl (lv_at hl 2 rfl) ?_
    refine j_get (v := jR b 338) hx hb hts hinX9 hown hK hP kz_332 (by decide) rfl 11 (by decide) (hts (.fieldLink RX9 26 "CardBandModel" "newYarn" "[I") (by decide +kernel)) rfl rfl dX9_takeYarn_29 ?_
    refine j_iload_n hx hb dX9_takeYarn_32 rfl (lv_at hl 1 rfl) ?_
    refine j_iload_n hx hb dX9_takeYarn_33 rfl (lv_at hl 0 rfl) ?_
    obtain ⟨μ8, e9, h⟩ := ob_I h
    refine j_iastore hx hb hK hP hS kz_338 e9 dX9_takeYarn_34 (fun H locs hP hS => ?_)
    have e0 := Option.some.inj h
    subst e0
    exact j_retM hx hb hK hP hS hr hlk dX9_takeYarn_35
def fX9_takeClause_j39 (N : Nat) (v2 : Int) (μ3 : Mm) (μ4 : Mm) : Int → Option (Mm) := fun s7 =>
    bP (fX9_want N s7 1 (gI μ3 332 14) μ4) (fun v9 μ10 => if wr v9 = 0 then (some μ10) else (if wr v2 = 99 then (Option.bind (fX9_takeCard N (gI μ3 332 14) μ10) (fun μ14 => some μ14)) else (if wr v2 = 107 then (Option.bind (fX9_takePack N (gI μ3 332 14) μ10) (fun μ17 => some μ17)) else (if wr v2 = 108 then (Option.bind (fX9_takeColours N (gI μ3 332 14) μ10) (fun μ20 => some μ20)) else (if wr v2 = 121 then (Option.bind (fX9_takeYarn N μ10) (fun μ23 => some μ23)) else (bP (fX9_want N 0 1 (gI μ3 332 14) μ10) (fun v25 μ26 => some μ26)))))))
def fX9_takeClause (N : Nat) (μ : Mm) : Option (Mm) :=
    bP (fX9_here N μ) (fun v2 μ3 => Option.bind (some (pI μ3 332 14 ((gI μ3 332 14) + 1))) (fun μ4 => if wr v2 = 108 then (fX9_takeClause_j39 N v2 μ3 μ4 1) else (if wr (gI μ4 332 3) ≤ 0 then (fX9_takeClause_j39 N v2 μ3 μ4 0) else (fX9_takeClause_j39 N v2 μ3 μ4 1))))
abbrev rmX9_takeClause : Room := { frames := 4, cells := 0, slots := 0, locals := 96 }
set_option maxHeartbeats 4000000 in
set_option maxRecDepth 100000 in
theorem m_X9_takeClause (l : Launch) (D : va_G) (b : Nat) (cs : CS) (N : Nat) {μ μ0 : Mm} (h : fX9_takeClause N μ = some μ0) : MM l yX9_takeClause wsX9_takeClause rmX9_takeClause D b cs [jR b 332] μ μ0 := by
  refine met_in (cc := cX9_takeClause) (maxL := 4) (ret := none) (lv0 := [(0, jR b 332)]) (by decide +kernel) rfl (Nat.le_of_ble_eq_true rfl) rfl ?_
  intro p e s m args below meth c hx hb hr hlk hml hown hts hP hK ls hl
  have hown : s.vm.findClass RX9 = some m.cls := hown
  have hS : va_S (bA b) s.heap s.heap [] := va_S.rf
  have hinX9 : ∀ w ∈ u_ws RX9 TX9 27, w ∈ wsX9_takeClause := by decide +kernel
  unfold fX9_takeClause at h
  refine j_aload_n hx hb dX9_takeClause_0 rfl (lv_at hl 0 rfl) ?_
  obtain ⟨v2, μ3, e1, h⟩ := ob_P h
  refine jc_VI (As := []) (rest := []) ⟨hx, hb, hml, hown, hts⟩ hK hP hS (m_X9_here l D b cs N e1) (cwV 0 hts gX9_takeClause_X9_here rfl rfl rfl (by decide +kernel) ⟨Nat.le_of_ble_eq_true rfl, Nat.le_of_ble_eq_true rfl⟩) kz_332 (by decide) rfl rfl hl.1 rfl (Nat.le_of_ble_eq_true rfl) dX9_takeClause_1 ⟨Nat.zero_le _, Nat.zero_le _⟩ (fun H locs hP hS => ?_)
  refine j_istore_n (lv2 := [(1, jI v2), (0, jR b 332)]) hx hb dX9_takeClause_4 rfl hl (by decide) rfl (fun ls hl => ?_)
  refine j_aload_n hx hb dX9_takeClause_5 rfl (lv_at hl 1 rfl) ?_
  refine j_get (v := jI (gI μ3 332 14)) hx hb hts hinX9 hown hK hP kz_332 (by decide) rfl 14 (by decide) (hts (.fieldLink RX9 65 "CardBandModel" "at" "I") (by decide +kernel)) rfl (by rw [jI_g]; rfl) dX9_takeClause_6 ?_
  refine j_istore_n (lv2 := [(2, jI (gI μ3 332 14)), (1, jI v2), (0, jR b 332)]) hx hb dX9_takeClause_9 rfl hl (by decide) rfl (fun ls hl => ?_)
  refine j_aload_n hx hb dX9_takeClause_10 rfl (lv_at hl 2 rfl) ?_
  refine j_dup hx hb dX9_takeClause_11 rfl ?_
  refine j_get (v := jI (gI μ3 332 14)) hx hb hts hinX9 hown hK hP kz_332 (by decide) rfl 14 (by decide) (hts (.fieldLink RX9 65 "CardBandModel" "at" "I") (by decide +kernel)) rfl (by rw [jI_g]; rfl) dX9_takeClause_12 ?_
  refine j_iconst hx hb dX9_takeClause_15 ?_
  refine j_iadd hx hb dX9_takeClause_16 ?_
  obtain ⟨μ4, e5, h⟩ := ob_I h
  refine j_put (ty := .int) (z := ((gI μ3 332 14) + 1)) hx hb hts hinX9 tyX9 tyX9_ok nmX9 hown hK hP hS kz_332 (by decide) rfl 14 (by decide) (hts (.fieldLink RX9 65 "CardBandModel" "at" "I") (by decide +kernel)) rfl rfl (by decide +kernel) rfl rfl (by simp [flds]) rfl dX9_takeClause_17 (Option.some.inj e5) (fun H locs hP hS => ?_)
  refine j_aload_n hx hb dX9_takeClause_20 rfl (lv_at hl 2 rfl) ?_
  refine j_iload_n hx hb dX9_takeClause_21 rfl (lv_at hl 1 rfl) ?_
  refine j_bipush hx hb dX9_takeClause_22 (by decide) ?_
  have hj39_6 : ∀ (s7 : Int) (H : Heap) (locs : List Loc) (ls : Array Slot), va_P D vwCl (wl b cs μ4) H → va_S (bA b) s.heap H locs → lv_has ls 4 [(0, jR b 332), (1, jI v2), (2, jI (gI μ3 332 14))] → fX9_takeClause_j39 N v2 μ3 μ4 s7 = some μ0 → W p l e rmX9_takeClause s m args below meth c H locs 0 0 (MQ below (QM D b cs μ0) args s 0 0 (bA b)) (F0 m 39 ls [jI s7, jR b 332]) := by
    intro s7 H locs ls hP hS hl h
    unfold fX9_takeClause_j39 at h
    refine j_iconst hx hb dX9_takeClause_39 ?_
    refine j_iload_n hx hb dX9_takeClause_40 rfl (lv_at hl 2 rfl) ?_
    obtain ⟨v9, μ10, e8, h⟩ := ob_P h
    refine jc_VI (As := [jI s7, jI 1, jI (gI μ3 332 14)]) (rest := []) ⟨hx, hb, hml, hown, hts⟩ hK hP hS (m_X9_want l D b cs N e8) (cwV 3 hts gX9_takeClause_X9_want rfl rfl rfl (by decide +kernel) ⟨Nat.le_of_ble_eq_true rfl, Nat.le_of_ble_eq_true rfl⟩) kz_332 (by decide) rfl rfl hl.1 rfl (Nat.le_of_ble_eq_true rfl) dX9_takeClause_41 ⟨Nat.zero_le _, Nat.zero_le _⟩ (fun H locs hP hS => ?_)
    refine j_if_ne (A := wr v9) (tgt := 48) hx hb rfl dX9_takeClause_44 (by decide) (fun q11 => ?_) (fun q11 => ?_)
    · replace h := (if_neg q11).symm.trans h
      refine j_iload_n hx hb dX9_takeClause_48 rfl (lv_at hl 1 rfl) ?_
      by_cases q12 : wr v2 = 99
      · replace h := (if_pos q12).symm.trans h
        refine j_look (A := wr v2) (off := 51) (tgt := 100) hx hb rfl dX9_takeClause_49 (by decide) (by rw [q12]; decide) (by decide) ?_
        refine j_aload_n hx hb dX9_takeClause_100 rfl (lv_at hl 0 rfl) ?_
        refine j_iload_n hx hb dX9_takeClause_101 rfl (lv_at hl 2 rfl) ?_
        obtain ⟨μ14, e13, h⟩ := ob_I h
        refine jc_VM (As := [jI (gI μ3 332 14)]) (rest := []) ⟨hx, hb, hml, hown, hts⟩ hK hP hS (m_X9_takeCard l D b cs N e13) (cwV 1 hts gX9_takeClause_X9_takeCard rfl rfl rfl (by decide +kernel) ⟨Nat.le_of_ble_eq_true rfl, Nat.le_of_ble_eq_true rfl⟩) kz_332 (by decide) rfl rfl hl.1 rfl (Nat.le_of_ble_eq_true rfl) dX9_takeClause_102 ⟨Nat.zero_le _, Nat.zero_le _⟩ (fun H locs hP hS => ?_)
        refine j_goto (tgt := 131) hx hb dX9_takeClause_105 (by decide) ?_
        have e0 := Option.some.inj h
        subst e0
        exact j_retM hx hb hK hP hS hr hlk dX9_takeClause_131
      · replace h := (if_neg q12).symm.trans h
        by_cases q15 : wr v2 = 107
        · replace h := (if_pos q15).symm.trans h
          refine j_look (A := wr v2) (off := 59) (tgt := 108) hx hb rfl dX9_takeClause_49 (by decide) (by rw [q15]; decide) (by decide) ?_
          refine j_aload_n hx hb dX9_takeClause_108 rfl (lv_at hl 0 rfl) ?_
          refine j_iload_n hx hb dX9_takeClause_109 rfl (lv_at hl 2 rfl) ?_
          obtain ⟨μ17, e16, h⟩ := ob_I h
          refine jc_VM (As := [jI (gI μ3 332 14)]) (rest := []) ⟨hx, hb, hml, hown, hts⟩ hK hP hS (m_X9_takePack l D b cs N e16) (cwV 1 hts gX9_takeClause_X9_takePack rfl rfl rfl (by decide +kernel) ⟨Nat.le_of_ble_eq_true rfl, Nat.le_of_ble_eq_true rfl⟩) kz_332 (by decide) rfl rfl hl.1 rfl (Nat.le_of_ble_eq_true rfl) dX9_takeClause_110 ⟨Nat.zero_le _, Nat.zero_le _⟩ (fun H locs hP hS => ?_)
          refine j_goto (tgt := 131) hx hb dX9_takeClause_113 (by decide) ?_
          have e0 := Option.some.inj h
          subst e0
          exact j_retM hx hb hK hP hS hr hlk dX9_takeClause_131
        · replace h := (if_neg q15).symm.trans h
          by_cases q18 : wr v2 = 108
          · replace h := (if_pos q18).symm.trans h
            refine j_look (A := wr v2) (off := 43) (tgt := 92) hx hb rfl dX9_takeClause_49 (by decide) (by rw [q18]; decide) (by decide) ?_
            refine j_aload_n hx hb dX9_takeClause_92 rfl (lv_at hl 0 rfl) ?_
            refine j_iload_n hx hb dX9_takeClause_93 rfl (lv_at hl 2 rfl) ?_
            obtain ⟨μ20, e19, h⟩ := ob_I h
            refine jc_VM (As := [jI (gI μ3 332 14)]) (rest := []) ⟨hx, hb, hml, hown, hts⟩ hK hP hS (m_X9_takeColours l D b cs N e19) (cwV 1 hts gX9_takeClause_X9_takeColours rfl rfl rfl (by decide +kernel) ⟨Nat.le_of_ble_eq_true rfl, Nat.le_of_ble_eq_true rfl⟩) kz_332 (by decide) rfl rfl hl.1 rfl (Nat.le_of_ble_eq_true rfl) dX9_takeClause_94 ⟨Nat.zero_le _, Nat.zero_le _⟩ (fun H locs hP hS => ?_)
            refine j_goto (tgt := 131) hx hb dX9_takeClause_97 (by decide) ?_
            have e0 := Option.some.inj h
            subst e0
            exact j_retM hx hb hK hP hS hr hlk dX9_takeClause_131
          · replace h := (if_neg q18).symm.trans h
            by_cases q21 : wr v2 = 121
            · replace h := (if_pos q21).symm.trans h
              refine j_look (A := wr v2) (off := 67) (tgt := 116) hx hb rfl dX9_takeClause_49 (by decide) (by rw [q21]; decide) (by decide) ?_
              refine j_aload_n hx hb dX9_takeClause_116 rfl (lv_at hl 0 rfl) ?_
              obtain ⟨μ23, e22, h⟩ := ob_I h
              refine jc_VM (As := []) (rest := []) ⟨hx, hb, hml, hown, hts⟩ hK hP hS (m_X9_takeYarn l D b cs N e22) (cwV 0 hts gX9_takeClause_X9_takeYarn rfl rfl rfl (by decide +kernel) ⟨Nat.le_of_ble_eq_true rfl, Nat.le_of_ble_eq_true rfl⟩) kz_332 (by decide) rfl rfl hl.1 rfl (Nat.le_of_ble_eq_true rfl) dX9_takeClause_117 ⟨Nat.zero_le _, Nat.zero_le _⟩ (fun H locs hP hS => ?_)
              refine j_goto (tgt := 131) hx hb dX9_takeClause_120 (by decide) ?_
              have e0 := Option.some.inj h
              subst e0
              exact j_retM hx hb hK hP hS hr hlk dX9_takeClause_131
            · replace h := (if_neg q21).symm.trans h
              refine j_look (A := wr v2) (off := 74) (tgt := 123) hx hb rfl dX9_takeClause_49 (by decide) (look_4 q12 q15 q18 q21) (by decide) ?_
              refine j_aload_n hx hb dX9_takeClause_123 rfl (lv_at hl 0 rfl) ?_
              refine j_iconst hx hb dX9_takeClause_124 ?_
              refine j_iconst hx hb dX9_takeClause_125 ?_
              refine j_iload_n hx hb dX9_takeClause_126 rfl (lv_at hl 2 rfl) ?_
              obtain ⟨v25, μ26, e24, h⟩ := ob_P h
              refine jc_VI (As := [jI 0, jI 1, jI (gI μ3 332 14)]) (rest := []) ⟨hx, hb, hml, hown, hts⟩ hK hP hS (m_X9_want l D b cs N e24) (cwV 3 hts gX9_takeClause_X9_want rfl rfl rfl (by decide +kernel) ⟨Nat.le_of_ble_eq_true rfl, Nat.le_of_ble_eq_true rfl⟩) kz_332 (by decide) rfl rfl hl.1 rfl (Nat.le_of_ble_eq_true rfl) dX9_takeClause_127 ⟨Nat.zero_le _, Nat.zero_le _⟩ (fun H locs hP hS => ?_)
              refine j_istore_n (lv2 := [(3, jI v25), (0, jR b 332), (1, jI v2), (2, jI (gI μ3 332 14))]) hx hb dX9_takeClause_130 rfl hl (by decide) rfl (fun ls hl => ?_)
              have e0 := Option.some.inj h
              subst e0
              exact j_retM hx hb hK hP hS hr hlk dX9_takeClause_131
    · replace h := (if_pos q11).symm.trans h
      have e0 := Option.some.inj h
      subst e0
      exact j_retM hx hb hK hP hS hr hlk dX9_takeClause_47
  refine j_icmp_eq (A := wr v2) (B := 108) (tgt := 34) hx hb rfl (by decide) dX9_takeClause_24 (by decide) (fun q27 => ?_) (fun q27 => ?_)
  · replace h := (if_pos q27).symm.trans h
    refine j_iconst hx hb dX9_takeClause_34 ?_
    refine j_goto (tgt := 39) hx hb dX9_takeClause_35 (by decide) ?_
    exact hj39_6 _ _ _ _ hP hS (lv_sub hl [2, 1, 0] rfl) h
  · replace h := (if_neg q27).symm.trans h
    refine j_aload_n hx hb dX9_takeClause_27 rfl (lv_at hl 2 rfl) ?_
    refine j_get (v := jI (gI μ4 332 3)) hx hb hts hinX9 hown hK hP kz_332 (by decide) rfl 3 (by decide) (hts (.fieldLink RX9 90 "CardBandModel" "newColours" "I") (by decide +kernel)) rfl (by rw [jI_g]; rfl) dX9_takeClause_28 ?_
    refine j_if_le (A := wr (gI μ4 332 3)) (tgt := 38) hx hb rfl dX9_takeClause_31 (by decide) (fun q28 => ?_) (fun q28 => ?_)
    · replace h := (if_pos q28).symm.trans h
      refine j_iconst hx hb dX9_takeClause_38 ?_
      exact hj39_6 _ _ _ _ hP hS (lv_sub hl [2, 1, 0] rfl) h
    · replace h := (if_neg q28).symm.trans h
      refine j_iconst hx hb dX9_takeClause_34 ?_
      refine j_goto (tgt := 39) hx hb dX9_takeClause_35 (by decide) ?_
      exact hj39_6 _ _ _ _ hP hS (lv_sub hl [2, 1, 0] rfl) h
def fX9_take_k249 (N : Nat) : Mm → Option (Mm) := fun μ20 =>
    Option.bind (some (pI μ20 332 23 0)) (fun μ21 => Option.bind (some (pI μ21 332 26 0)) (fun μ23 => Option.bind (some (pI μ23 332 18 0)) (fun μ25 => Option.bind (stA μ25 334 2 0 0) (fun μ27 => Option.bind (stA μ27 334 2 1 0) (fun μ29 => some μ29)))))
def fX9_take_j242 (N : Nat) (x2_32 : Int) (μ33 : Mm) (rec210_31 : Int → Mm → Option (Mm)) : Int → Option (Mm) := fun s36 =>
    Option.bind (stA μ33 333 8262 (40 + x2_32) s36) (fun μ37 => rec210_31 (x2_32 + 1) μ37)
def fX9_take_l210 (N : Nat) : Nat → Int → Mm → Option (Mm)
  | 0, _, _ => none
  | n31 + 1, x2_32, μ33 =>
    if 8 ≤ wr x2_32 then (fX9_take_k249 N μ33) else (if wr (gI μ33 332 2) ≤ wr x2_32 then (fX9_take_j242 N x2_32 μ33 (fX9_take_l210 N n31) 0) else (Option.bind (ldA μ33 338 8 x2_32) (fun v40 => fX9_take_j242 N x2_32 μ33 (fX9_take_l210 N n31) v40)))
def fX9_take_k208 (N : Nat) : Mm → Option (Mm) := fun μ18 =>
    fX9_take_l210 N N 0 μ18
def fX9_take_j201 (N : Nat) (x2_43 : Int) (μ44 : Mm) (rec171_42 : Int → Mm → Option (Mm)) : Int → Option (Mm) := fun s47 =>
    Option.bind (stA μ44 337 8 x2_43 s47) (fun μ48 => rec171_42 (x2_43 + 1) μ48)
def fX9_take_l171 (N : Nat) : Nat → Int → Mm → Option (Mm)
  | 0, _, _ => none
  | n42 + 1, x2_43, μ44 =>
    if 4 ≤ wr x2_43 then (fX9_take_k208 N μ44) else (if wr (gI μ44 332 9) ≤ wr x2_43 then (fX9_take_j201 N x2_43 μ44 (fX9_take_l171 N n42) 0) else (Option.bind (ldA μ44 337 8 (4 + x2_43)) (fun v51 => fX9_take_j201 N x2_43 μ44 (fX9_take_l171 N n42) v51)))
def fX9_take_k169 (N : Nat) : Mm → Option (Mm) := fun μ16 =>
    fX9_take_l171 N N 0 μ16
def fX9_take_j162 (N : Nat) (x2_54 : Int) (rec95_53 : Int → Mm → Option (Mm)) (μ63 : Mm) : Int → Option (Mm) := fun s66 =>
    Option.bind (stA μ63 333 8262 (32 + x2_54) s66) (fun μ67 => rec95_53 (x2_54 + 1) μ67)
def fX9_take_l95 (N : Nat) : Nat → Int → Mm → Option (Mm)
  | 0, _, _ => none
  | n53 + 1, x2_54, μ55 =>
    if 8 ≤ wr x2_54 then (fX9_take_k169 N μ55) else (Option.bind (ldA μ55 336 16 (8 + x2_54)) (fun v57 => Option.bind (stA μ55 336 16 x2_54 v57) (fun μ59 => Option.bind (stA μ59 333 8262 (16 + x2_54) (-1)) (fun μ61 => Option.bind (stA μ61 333 8262 (24 + x2_54) (-1)) (fun μ63 => if wr (gI μ63 332 6) ≤ wr x2_54 then (fX9_take_j162 N x2_54 (fX9_take_l95 N n53) μ63 0) else (Option.bind (ldA μ63 336 16 x2_54) (fun v70 => fX9_take_j162 N x2_54 (fX9_take_l95 N n53) μ63 v70)))))))
def fX9_take_k93 (N : Nat) : Mm → Option (Mm) := fun μ14 =>
    fX9_take_l95 N N 0 μ14
def fX9_take_l66 (N : Nat) : Nat → Int → Mm → Option (Mm)
  | 0, _, _ => none
  | n72 + 1, x2_73, μ74 =>
    if 32 ≤ wr x2_73 then (fX9_take_k93 N μ74) else (Option.bind (ldA μ74 335 64 (32 + x2_73)) (fun v76 => Option.bind (stA μ74 335 64 x2_73 v76) (fun μ78 => (fX9_take_l66 N n72) (x2_73 + 1) μ78)))
def fX9_take_k55 (N : Nat) (v7 : Int) : Mm → Option (Mm) := fun μ10 =>
    Option.bind (stA μ10 333 8262 242 v7) (fun μ11 => fX9_take_l66 N N 0 μ11)
def fX9_take_l35 (N : Nat) (v7 : Int) : Nat → Int → Mm → Option (Mm)
  | 0, _, _ => none
  | n80 + 1, x2_81, μ82 =>
    if 243 ≤ wr x2_81 then (fX9_take_k55 N v7 μ82) else (Option.bind (stA μ82 333 8262 x2_81 0) (fun μ84 => (fX9_take_l35 N v7 n80) (x2_81 + 1) μ84))
def fX9_take (N : Nat) (μ : Mm) : Option (Mm) :=
    Option.bind (some (pI μ 332 2 (gI μ 332 3))) (fun μ1 => Option.bind (some (pI μ1 332 6 (gI μ1 332 7))) (fun μ3 => Option.bind (some (pI μ3 332 9 (gI μ3 332 10))) (fun μ5 => Option.bind (ldA μ5 333 8262 242) (fun v7 => fX9_take_l35 N v7 N 0 μ5))))
abbrev rmX9_take : Room := { frames := 0, cells := 0, slots := 0, locals := 0 }
set_option maxHeartbeats 4000000 in
set_option maxRecDepth 100000 in
theorem m_X9_take (l : Launch) (D : va_G) (b : Nat) (cs : CS) (N : Nat) {μ μ0 : Mm} (h : fX9_take N μ = some μ0) : MM l yX9_take wsX9_take rmX9_take D b cs [jR b 332] μ μ0 := by
  refine met_in (cc := cX9_take) (maxL := 3) (ret := none) (lv0 := [(0, jR b 332)]) (by decide +kernel) rfl (Nat.le_of_ble_eq_true rfl) rfl ?_
  intro p e s m args below meth c hx hb hr hlk hml hown hts hP hK ls hl
  have hown : s.vm.findClass RX9 = some m.cls := hown
  have hS : va_S (bA b) s.heap s.heap [] := va_S.rf
  have hinX9 : ∀ w ∈ u_ws RX9 TX9 27, w ∈ wsX9_take := by decide +kernel
  unfold fX9_take at h
  refine j_aload_n hx hb dX9_take_0 rfl (lv_at hl 0 rfl) ?_
  refine j_aload_n hx hb dX9_take_1 rfl (lv_at hl 0 rfl) ?_
  refine j_get (v := jI (gI μ 332 3)) hx hb hts hinX9 hown hK hP kz_332 (by decide) rfl 3 (by decide) (hts (.fieldLink RX9 90 "CardBandModel" "newColours" "I") (by decide +kernel)) rfl (by rw [jI_g]; rfl) dX9_take_2 ?_
  obtain ⟨μ1, e2, h⟩ := ob_I h
  refine j_put (ty := .int) (z := (gI μ 332 3)) hx hb hts hinX9 tyX9 tyX9_ok nmX9 hown hK hP hS kz_332 (by decide) rfl 2 (by decide) (hts (.fieldLink RX9 125 "CardBandModel" "colours" "I") (by decide +kernel)) rfl rfl (by decide +kernel) rfl rfl (by simp [flds]) rfl dX9_take_5 (Option.some.inj e2) (fun H locs hP hS => ?_)
  refine j_aload_n hx hb dX9_take_8 rfl (lv_at hl 0 rfl) ?_
  refine j_aload_n hx hb dX9_take_9 rfl (lv_at hl 0 rfl) ?_
  refine j_get (v := jI (gI μ1 332 7)) hx hb hts hinX9 hown hK hP kz_332 (by decide) rfl 7 (by decide) (hts (.fieldLink RX9 97 "CardBandModel" "newCards" "I") (by decide +kernel)) rfl (by rw [jI_g]; rfl) dX9_take_10 ?_
  obtain ⟨μ3, e4, h⟩ := ob_I h
  refine j_put (ty := .int) (z := (gI μ1 332 7)) hx hb hts hinX9 tyX9 tyX9_ok nmX9 hown hK hP hS kz_332 (by decide) rfl 6 (by decide) (hts (.fieldLink RX9 122 "CardBandModel" "cards" "I") (by decide +kernel)) rfl rfl (by decide +kernel) rfl rfl (by simp [flds]) rfl dX9_take_13 (Option.some.inj e4) (fun H locs hP hS => ?_)
  refine j_aload_n hx hb dX9_take_16 rfl (lv_at hl 0 rfl) ?_
  refine j_aload_n hx hb dX9_take_17 rfl (lv_at hl 0 rfl) ?_
  refine j_get (v := jI (gI μ3 332 10)) hx hb hts hinX9 hown hK hP kz_332 (by decide) rfl 10 (by decide) (hts (.fieldLink RX9 100 "CardBandModel" "newPacks" "I") (by decide +kernel)) rfl (by rw [jI_g]; rfl) dX9_take_18 ?_
  obtain ⟨μ5, e6, h⟩ := ob_I h
  refine j_put (ty := .int) (z := (gI μ3 332 10)) hx hb hts hinX9 tyX9 tyX9_ok nmX9 hown hK hP hS kz_332 (by decide) rfl 9 (by decide) (hts (.fieldLink RX9 128 "CardBandModel" "packs" "I") (by decide +kernel)) rfl rfl (by decide +kernel) rfl rfl (by simp [flds]) rfl dX9_take_21 (Option.some.inj e6) (fun H locs hP hS => ?_)
  refine j_aload_n hx hb dX9_take_24 rfl (lv_at hl 0 rfl) ?_
  refine j_get (v := jR b 333) hx hb hts hinX9 hown hK hP kz_332 (by decide) rfl 0 (by decide) (hts (.fieldLink RX9 7 "CardBandModel" "w" "[I") (by decide +kernel)) rfl rfl dX9_take_25 ?_
  refine j_sipush hx hb dX9_take_28 (by decide) ?_
  obtain ⟨v7, e8, h⟩ := ob_I h
  refine j_iaload hx hb hK hP kz_333 e8 dX9_take_31 ?_
  refine j_istore_n (lv2 := [(1, jI v7), (0, jR b 332)]) hx hb dX9_take_32 rfl hl (by decide) rfl (fun ls hl => ?_)
  refine j_iconst hx hb dX9_take_33 ?_
  refine j_istore_n (lv2 := [(2, jI 0), (1, jI v7), (0, jR b 332)]) hx hb dX9_take_34 rfl hl (by decide) rfl (fun ls hl => ?_)
  have hk55_9 : ∀ (μ10 : Mm) (H : Heap) (locs : List Loc) (ls : Array Slot), va_P D vwCl (wl b cs μ10) H → va_S (bA b) s.heap H locs → lv_has ls 3 [(0, jR b 332), (1, jI v7)] → fX9_take_k55 N v7 μ10 = some μ0 → W p l e rmX9_take s m args below meth c H locs 0 0 (MQ below (QM D b cs μ0) args s 0 0 (bA b)) (F0 m 55 ls []) := by
    intro μ10 H locs ls hP hS hl h
    unfold fX9_take_k55 at h
    refine j_aload_n hx hb dX9_take_55 rfl (lv_at hl 0 rfl) ?_
    refine j_get (v := jR b 333) hx hb hts hinX9 hown hK hP kz_332 (by decide) rfl 0 (by decide) (hts (.fieldLink RX9 7 "CardBandModel" "w" "[I") (by decide +kernel)) rfl rfl dX9_take_56 ?_
    refine j_sipush hx hb dX9_take_59 (by decide) ?_
    refine j_iload_n hx hb dX9_take_62 rfl (lv_at hl 1 rfl) ?_
    obtain ⟨μ11, e12, h⟩ := ob_I h
    refine j_iastore hx hb hK hP hS kz_333 e12 dX9_take_63 (fun H locs hP hS => ?_)
    refine j_iconst hx hb dX9_take_64 ?_
    refine j_istore_n (lv2 := [(2, jI 0), (0, jR b 332), (1, jI v7)]) hx hb dX9_take_65 rfl hl (by decide) rfl (fun ls hl => ?_)
    have hk93_13 : ∀ (μ14 : Mm) (H : Heap) (locs : List Loc) (ls : Array Slot), va_P D vwCl (wl b cs μ14) H → va_S (bA b) s.heap H locs → lv_has ls 3 [(0, jR b 332)] → fX9_take_k93 N μ14 = some μ0 → W p l e rmX9_take s m args below meth c H locs 0 0 (MQ below (QM D b cs μ0) args s 0 0 (bA b)) (F0 m 93 ls []) := by
      intro μ14 H locs ls hP hS hl h
      unfold fX9_take_k93 at h
      refine j_iconst hx hb dX9_take_93 ?_
      refine j_istore_n (lv2 := [(2, jI 0), (0, jR b 332)]) hx hb dX9_take_94 rfl hl (by decide) rfl (fun ls hl => ?_)
      have hk169_15 : ∀ (μ16 : Mm) (H : Heap) (locs : List Loc) (ls : Array Slot), va_P D vwCl (wl b cs μ16) H → va_S (bA b) s.heap H locs → lv_has ls 3 [(0, jR b 332)] → fX9_take_k169 N μ16 = some μ0 → W p l e rmX9_take s m args below meth c H locs 0 0 (MQ below (QM D b cs μ0) args s 0 0 (bA b)) (F0 m 169 ls []) := by
        intro μ16 H locs ls hP hS hl h
        unfold fX9_take_k169 at h
        refine j_iconst hx hb dX9_take_169 ?_
        refine j_istore_n (lv2 := [(2, jI 0), (0, jR b 332)]) hx hb dX9_take_170 rfl hl (by decide) rfl (fun ls hl => ?_)
        have hk208_17 : ∀ (μ18 : Mm) (H : Heap) (locs : List Loc) (ls : Array Slot), va_P D vwCl (wl b cs μ18) H → va_S (bA b) s.heap H locs → lv_has ls 3 [(0, jR b 332)] → fX9_take_k208 N μ18 = some μ0 → W p l e rmX9_take s m args below meth c H locs 0 0 (MQ below (QM D b cs μ0) args s 0 0 (bA b)) (F0 m 208 ls []) := by
          intro μ18 H locs ls hP hS hl h
          unfold fX9_take_k208 at h
          refine j_iconst hx hb dX9_take_208 ?_
          refine j_istore_n (lv2 := [(2, jI 0), (0, jR b 332)]) hx hb dX9_take_209 rfl hl (by decide) rfl (fun ls hl => ?_)
          have hk249_19 : ∀ (μ20 : Mm) (H : Heap) (locs : List Loc) (ls : Array Slot), va_P D vwCl (wl b cs μ20) H → va_S (bA b) s.heap H locs → lv_has ls 3 [(0, jR b 332)] → fX9_take_k249 N μ20 = some μ0 → W p l e rmX9_take s m args below meth c H locs 0 0 (MQ below (QM D b cs μ0) args s 0 0 (bA b)) (F0 m 249 ls []) := by
            intro μ20 H locs ls hP hS hl h
            unfold fX9_take_k249 at h
            refine j_aload_n hx hb dX9_take_249 rfl (lv_at hl 0 rfl) ?_
            refine j_iconst hx hb dX9_take_250 ?_
            obtain ⟨μ21, e22, h⟩ := ob_I h
            refine j_put (ty := .int) (z := 0) hx hb hts hinX9 tyX9 tyX9_ok nmX9 hown hK hP hS kz_332 (by decide) rfl 23 (by decide) (hts (.fieldLink RX9 131 "CardBandModel" "seen" "I") (by decide +kernel)) rfl rfl (by decide +kernel) rfl rfl (by simp [flds]) rfl dX9_take_251 (Option.some.inj e22) (fun H locs hP hS => ?_)
            refine j_aload_n hx hb dX9_take_254 rfl (lv_at hl 0 rfl) ?_
            refine j_iconst hx hb dX9_take_255 ?_
            obtain ⟨μ23, e24, h⟩ := ob_I h
            refine j_put (ty := .int) (z := 0) hx hb hts hinX9 tyX9 tyX9_ok nmX9 hown hK hP hS kz_332 (by decide) rfl 26 (by decide) (hts (.fieldLink RX9 134 "CardBandModel" "written" "I") (by decide +kernel)) rfl rfl (by decide +kernel) rfl rfl (by simp [flds]) rfl dX9_take_256 (Option.some.inj e24) (fun H locs hP hS => ?_)
            refine j_aload_n hx hb dX9_take_259 rfl (lv_at hl 0 rfl) ?_
            refine j_iconst hx hb dX9_take_260 ?_
            obtain ⟨μ25, e26, h⟩ := ob_I h
            refine j_put (ty := .int) (z := 0) hx hb hts hinX9 tyX9 tyX9_ok nmX9 hown hK hP hS kz_332 (by decide) rfl 18 (by decide) (hts (.fieldLink RX9 137 "CardBandModel" "undoMany" "I") (by decide +kernel)) rfl rfl (by decide +kernel) rfl rfl (by simp [flds]) rfl dX9_take_261 (Option.some.inj e26) (fun H locs hP hS => ?_)
            refine j_aload_n hx hb dX9_take_264 rfl (lv_at hl 0 rfl) ?_
            refine j_get (v := jR b 334) hx hb hts hinX9 hown hK hP kz_332 (by decide) rfl 1 (by decide) (hts (.fieldLink RX9 13 "CardBandModel" "isKept" "[Z") (by decide +kernel)) rfl rfl dX9_take_265 ?_
            refine j_iconst hx hb dX9_take_268 ?_
            refine j_iconst hx hb dX9_take_269 ?_
            obtain ⟨μ27, e28, h⟩ := ob_I h
            refine j_zastore hx hb hK hP hS kz_334 (by decide) e28 dX9_take_270 (fun H locs hP hS => ?_)
            refine j_aload_n hx hb dX9_take_271 rfl (lv_at hl 0 rfl) ?_
            refine j_get (v := jR b 334) hx hb hts hinX9 hown hK hP kz_332 (by decide) rfl 1 (by decide) (hts (.fieldLink RX9 13 "CardBandModel" "isKept" "[Z") (by decide +kernel)) rfl rfl dX9_take_272 ?_
            refine j_iconst hx hb dX9_take_275 ?_
            refine j_iconst hx hb dX9_take_276 ?_
            obtain ⟨μ29, e30, h⟩ := ob_I h
            refine j_zastore hx hb hK hP hS kz_334 (by decide) e30 dX9_take_277 (fun H locs hP hS => ?_)
            have e0 := Option.some.inj h
            subst e0
            exact j_retM hx hb hK hP hS hr hlk dX9_take_278
          have hl210_31 : ∀ (n0 : Nat) (x2_32 : Int) (μ33 : Mm) (H : Heap) (locs : List Loc) (ls : Array Slot), va_P D vwCl (wl b cs μ33) H → va_S (bA b) s.heap H locs → lv_has ls 3 [(0, jR b 332), (2, jI x2_32)] → fX9_take_l210 N n0 x2_32 μ33 = some μ0 → W p l e rmX9_take s m args below meth c H locs 0 0 (MQ below (QM D b cs μ0) args s 0 0 (bA b)) (F0 m 210 ls []) := by
            intro n0
            induction n0 with
            | zero => intro x2_32 μ33 H locs ls hP hS hl h; rw [fX9_take_l210] at h; cases h
            | succ n31 ih210_31 =>
              intro x2_32 μ33 H locs ls hP hS hl h
              rw [fX9_take_l210] at h
              refine j_iload_n hx hb dX9_take_210 rfl (lv_at hl 1 rfl) ?_
              refine j_bipush hx hb dX9_take_211 (by decide) ?_
              refine j_icmp_ge (A := wr x2_32) (B := 8) (tgt := 249) hx hb rfl (by decide) dX9_take_213 (by decide) (fun q34 => ?_) (fun q34 => ?_)
              · replace h := (if_pos q34).symm.trans h
                exact hk249_19 _ _ _ _ hP hS (lv_sub hl [0] rfl) h
              · replace h := (if_neg q34).symm.trans h
                refine j_aload_n hx hb dX9_take_216 rfl (lv_at hl 0 rfl) ?_
                refine j_get (v := jR b 333) hx hb hts hinX9 hown hK hP kz_332 (by decide) rfl 0 (by decide) (hts (.fieldLink RX9 7 "CardBandModel" "w" "[I") (by decide +kernel)) rfl rfl dX9_take_217 ?_
                refine j_bipush hx hb dX9_take_220 (by decide) ?_
                refine j_iload_n hx hb dX9_take_222 rfl (lv_at hl 1 rfl) ?_
                refine j_iadd hx hb dX9_take_223 ?_
                refine j_iload_n hx hb dX9_take_224 rfl (lv_at hl 1 rfl) ?_
                refine j_aload_n hx hb dX9_take_225 rfl (lv_at hl 0 rfl) ?_
                refine j_get (v := jI (gI μ33 332 2)) hx hb hts hinX9 hown hK hP kz_332 (by decide) rfl 2 (by decide) (hts (.fieldLink RX9 125 "CardBandModel" "colours" "I") (by decide +kernel)) rfl (by rw [jI_g]; rfl) dX9_take_226 ?_
                have hj242_35 : ∀ (s36 : Int) (H : Heap) (locs : List Loc) (ls : Array Slot), va_P D vwCl (wl b cs μ33) H → va_S (bA b) s.heap H locs → lv_has ls 3 [(0, jR b 332), (2, jI x2_32)] → fX9_take_j242 N x2_32 μ33 (fX9_take_l210 N n31) s36 = some μ0 → W p l e rmX9_take s m args below meth c H locs 0 0 (MQ below (QM D b cs μ0) args s 0 0 (bA b)) (F0 m 242 ls [jI s36, jI (40 + x2_32), jR b 333]) := by
                  intro s36 H locs ls hP hS hl h
                  unfold fX9_take_j242 at h
                  obtain ⟨μ37, e38, h⟩ := ob_I h
                  refine j_iastore hx hb hK hP hS kz_333 e38 dX9_take_242 (fun H locs hP hS => ?_)
                  refine j_iinc (k := 1) (lv2 := [(2, jI (x2_32 + 1)), (0, jR b 332)]) hx hb dX9_take_243 hl rfl (by decide) rfl (fun ls hl => ?_)
                  refine j_goto (tgt := 210) hx hb dX9_take_246 (by decide) ?_
                  exact ih210_31 _ _ _ _ _ hP hS (lv_sub hl [1, 0] rfl) h
                refine j_icmp_ge (A := wr x2_32) (B := wr (gI μ33 332 2)) (tgt := 241) hx hb rfl rfl dX9_take_229 (by decide) (fun q39 => ?_) (fun q39 => ?_)
                · replace h := (if_pos q39).symm.trans h
                  refine j_iconst hx hb dX9_take_241 ?_
                  exact hj242_35 _ _ _ _ hP hS (lv_sub hl [0, 1] rfl) h
                · replace h := (if_neg q39).symm.trans h
                  refine j_aload_n hx hb dX9_take_232 rfl (lv_at hl 0 rfl) ?_
                  refine j_get (v := jR b 338) hx hb hts hinX9 hown hK hP kz_332 (by decide) rfl 11 (by decide) (hts (.fieldLink RX9 26 "CardBandModel" "newYarn" "[I") (by decide +kernel)) rfl rfl dX9_take_233 ?_
                  refine j_iload_n hx hb dX9_take_236 rfl (lv_at hl 1 rfl) ?_
                  obtain ⟨v40, e41, h⟩ := ob_I h
                  refine j_iaload hx hb hK hP kz_338 e41 dX9_take_237 ?_
                  refine j_goto (tgt := 242) hx hb dX9_take_238 (by decide) ?_
                  exact hj242_35 _ _ _ _ hP hS (lv_sub hl [0, 1] rfl) h
          exact hl210_31 N _ _ _ _ _ hP hS (lv_sub hl [1, 0] rfl) h
        have hl171_42 : ∀ (n0 : Nat) (x2_43 : Int) (μ44 : Mm) (H : Heap) (locs : List Loc) (ls : Array Slot), va_P D vwCl (wl b cs μ44) H → va_S (bA b) s.heap H locs → lv_has ls 3 [(0, jR b 332), (2, jI x2_43)] → fX9_take_l171 N n0 x2_43 μ44 = some μ0 → W p l e rmX9_take s m args below meth c H locs 0 0 (MQ below (QM D b cs μ0) args s 0 0 (bA b)) (F0 m 171 ls []) := by
          intro n0
          induction n0 with
          | zero => intro x2_43 μ44 H locs ls hP hS hl h; rw [fX9_take_l171] at h; cases h
          | succ n42 ih171_42 =>
            intro x2_43 μ44 H locs ls hP hS hl h
            rw [fX9_take_l171] at h
            refine j_iload_n hx hb dX9_take_171 rfl (lv_at hl 1 rfl) ?_
            refine j_iconst hx hb dX9_take_172 ?_
            refine j_icmp_ge (A := wr x2_43) (B := 4) (tgt := 208) hx hb rfl (by decide) dX9_take_173 (by decide) (fun q45 => ?_) (fun q45 => ?_)
            · replace h := (if_pos q45).symm.trans h
              exact hk208_17 _ _ _ _ hP hS (lv_sub hl [0] rfl) h
            · replace h := (if_neg q45).symm.trans h
              refine j_aload_n hx hb dX9_take_176 rfl (lv_at hl 0 rfl) ?_
              refine j_get (v := jR b 337) hx hb hts hinX9 hown hK hP kz_332 (by decide) rfl 8 (by decide) (hts (.fieldLink RX9 23 "CardBandModel" "pack" "[I") (by decide +kernel)) rfl rfl dX9_take_177 ?_
              refine j_iload_n hx hb dX9_take_180 rfl (lv_at hl 1 rfl) ?_
              refine j_iload_n hx hb dX9_take_181 rfl (lv_at hl 1 rfl) ?_
              refine j_aload_n hx hb dX9_take_182 rfl (lv_at hl 0 rfl) ?_
              refine j_get (v := jI (gI μ44 332 9)) hx hb hts hinX9 hown hK hP kz_332 (by decide) rfl 9 (by decide) (hts (.fieldLink RX9 128 "CardBandModel" "packs" "I") (by decide +kernel)) rfl (by rw [jI_g]; rfl) dX9_take_183 ?_
              have hj201_46 : ∀ (s47 : Int) (H : Heap) (locs : List Loc) (ls : Array Slot), va_P D vwCl (wl b cs μ44) H → va_S (bA b) s.heap H locs → lv_has ls 3 [(0, jR b 332), (2, jI x2_43)] → fX9_take_j201 N x2_43 μ44 (fX9_take_l171 N n42) s47 = some μ0 → W p l e rmX9_take s m args below meth c H locs 0 0 (MQ below (QM D b cs μ0) args s 0 0 (bA b)) (F0 m 201 ls [jI s47, jI x2_43, jR b 337]) := by
                intro s47 H locs ls hP hS hl h
                unfold fX9_take_j201 at h
                obtain ⟨μ48, e49, h⟩ := ob_I h
                refine j_iastore hx hb hK hP hS kz_337 e49 dX9_take_201 (fun H locs hP hS => ?_)
                refine j_iinc (k := 1) (lv2 := [(2, jI (x2_43 + 1)), (0, jR b 332)]) hx hb dX9_take_202 hl rfl (by decide) rfl (fun ls hl => ?_)
                refine j_goto (tgt := 171) hx hb dX9_take_205 (by decide) ?_
                exact ih171_42 _ _ _ _ _ hP hS (lv_sub hl [1, 0] rfl) h
              refine j_icmp_ge (A := wr x2_43) (B := wr (gI μ44 332 9)) (tgt := 200) hx hb rfl rfl dX9_take_186 (by decide) (fun q50 => ?_) (fun q50 => ?_)
              · replace h := (if_pos q50).symm.trans h
                refine j_iconst hx hb dX9_take_200 ?_
                exact hj201_46 _ _ _ _ hP hS (lv_sub hl [0, 1] rfl) h
              · replace h := (if_neg q50).symm.trans h
                refine j_aload_n hx hb dX9_take_189 rfl (lv_at hl 0 rfl) ?_
                refine j_get (v := jR b 337) hx hb hts hinX9 hown hK hP kz_332 (by decide) rfl 8 (by decide) (hts (.fieldLink RX9 23 "CardBandModel" "pack" "[I") (by decide +kernel)) rfl rfl dX9_take_190 ?_
                refine j_iconst hx hb dX9_take_193 ?_
                refine j_iload_n hx hb dX9_take_194 rfl (lv_at hl 1 rfl) ?_
                refine j_iadd hx hb dX9_take_195 ?_
                obtain ⟨v51, e52, h⟩ := ob_I h
                refine j_iaload hx hb hK hP kz_337 e52 dX9_take_196 ?_
                refine j_goto (tgt := 201) hx hb dX9_take_197 (by decide) ?_
                exact hj201_46 _ _ _ _ hP hS (lv_sub hl [0, 1] rfl) h
        exact hl171_42 N _ _ _ _ _ hP hS (lv_sub hl [1, 0] rfl) h
      have hl95_53 : ∀ (n0 : Nat) (x2_54 : Int) (μ55 : Mm) (H : Heap) (locs : List Loc) (ls : Array Slot), va_P D vwCl (wl b cs μ55) H → va_S (bA b) s.heap H locs → lv_has ls 3 [(0, jR b 332), (2, jI x2_54)] → fX9_take_l95 N n0 x2_54 μ55 = some μ0 → W p l e rmX9_take s m args below meth c H locs 0 0 (MQ below (QM D b cs μ0) args s 0 0 (bA b)) (F0 m 95 ls []) := by
        intro n0
        induction n0 with
        | zero => intro x2_54 μ55 H locs ls hP hS hl h; rw [fX9_take_l95] at h; cases h
        | succ n53 ih95_53 =>
          intro x2_54 μ55 H locs ls hP hS hl h
          rw [fX9_take_l95] at h
          refine j_iload_n hx hb dX9_take_95 rfl (lv_at hl 1 rfl) ?_
          refine j_bipush hx hb dX9_take_96 (by decide) ?_
          refine j_icmp_ge (A := wr x2_54) (B := 8) (tgt := 169) hx hb rfl (by decide) dX9_take_98 (by decide) (fun q56 => ?_) (fun q56 => ?_)
          · replace h := (if_pos q56).symm.trans h
            exact hk169_15 _ _ _ _ hP hS (lv_sub hl [0] rfl) h
          · replace h := (if_neg q56).symm.trans h
            refine j_aload_n hx hb dX9_take_101 rfl (lv_at hl 0 rfl) ?_
            refine j_get (v := jR b 336) hx hb hts hinX9 hown hK hP kz_332 (by decide) rfl 5 (by decide) (hts (.fieldLink RX9 20 "CardBandModel" "threaded" "[I") (by decide +kernel)) rfl rfl dX9_take_102 ?_
            refine j_iload_n hx hb dX9_take_105 rfl (lv_at hl 1 rfl) ?_
            refine j_aload_n hx hb dX9_take_106 rfl (lv_at hl 0 rfl) ?_
            refine j_get (v := jR b 336) hx hb hts hinX9 hown hK hP kz_332 (by decide) rfl 5 (by decide) (hts (.fieldLink RX9 20 "CardBandModel" "threaded" "[I") (by decide +kernel)) rfl rfl dX9_take_107 ?_
            refine j_bipush hx hb dX9_take_110 (by decide) ?_
            refine j_iload_n hx hb dX9_take_112 rfl (lv_at hl 1 rfl) ?_
            refine j_iadd hx hb dX9_take_113 ?_
            obtain ⟨v57, e58, h⟩ := ob_I h
            refine j_iaload hx hb hK hP kz_336 e58 dX9_take_114 ?_
            obtain ⟨μ59, e60, h⟩ := ob_I h
            refine j_iastore hx hb hK hP hS kz_336 e60 dX9_take_115 (fun H locs hP hS => ?_)
            refine j_aload_n hx hb dX9_take_116 rfl (lv_at hl 0 rfl) ?_
            refine j_get (v := jR b 333) hx hb hts hinX9 hown hK hP kz_332 (by decide) rfl 0 (by decide) (hts (.fieldLink RX9 7 "CardBandModel" "w" "[I") (by decide +kernel)) rfl rfl dX9_take_117 ?_
            refine j_bipush hx hb dX9_take_120 (by decide) ?_
            refine j_iload_n hx hb dX9_take_122 rfl (lv_at hl 1 rfl) ?_
            refine j_iadd hx hb dX9_take_123 ?_
            refine j_iconst hx hb dX9_take_124 ?_
            obtain ⟨μ61, e62, h⟩ := ob_I h
            refine j_iastore hx hb hK hP hS kz_333 e62 dX9_take_125 (fun H locs hP hS => ?_)
            refine j_aload_n hx hb dX9_take_126 rfl (lv_at hl 0 rfl) ?_
            refine j_get (v := jR b 333) hx hb hts hinX9 hown hK hP kz_332 (by decide) rfl 0 (by decide) (hts (.fieldLink RX9 7 "CardBandModel" "w" "[I") (by decide +kernel)) rfl rfl dX9_take_127 ?_
            refine j_bipush hx hb dX9_take_130 (by decide) ?_
            refine j_iload_n hx hb dX9_take_132 rfl (lv_at hl 1 rfl) ?_
            refine j_iadd hx hb dX9_take_133 ?_
            refine j_iconst hx hb dX9_take_134 ?_
            obtain ⟨μ63, e64, h⟩ := ob_I h
            refine j_iastore hx hb hK hP hS kz_333 e64 dX9_take_135 (fun H locs hP hS => ?_)
            refine j_aload_n hx hb dX9_take_136 rfl (lv_at hl 0 rfl) ?_
            refine j_get (v := jR b 333) hx hb hts hinX9 hown hK hP kz_332 (by decide) rfl 0 (by decide) (hts (.fieldLink RX9 7 "CardBandModel" "w" "[I") (by decide +kernel)) rfl rfl dX9_take_137 ?_
            refine j_bipush hx hb dX9_take_140 (by decide) ?_
            refine j_iload_n hx hb dX9_take_142 rfl (lv_at hl 1 rfl) ?_
            refine j_iadd hx hb dX9_take_143 ?_
            refine j_iload_n hx hb dX9_take_144 rfl (lv_at hl 1 rfl) ?_
            refine j_aload_n hx hb dX9_take_145 rfl (lv_at hl 0 rfl) ?_
            refine j_get (v := jI (gI μ63 332 6)) hx hb hts hinX9 hown hK hP kz_332 (by decide) rfl 6 (by decide) (hts (.fieldLink RX9 122 "CardBandModel" "cards" "I") (by decide +kernel)) rfl (by rw [jI_g]; rfl) dX9_take_146 ?_
            have hj162_65 : ∀ (s66 : Int) (H : Heap) (locs : List Loc) (ls : Array Slot), va_P D vwCl (wl b cs μ63) H → va_S (bA b) s.heap H locs → lv_has ls 3 [(0, jR b 332), (2, jI x2_54)] → fX9_take_j162 N x2_54 (fX9_take_l95 N n53) μ63 s66 = some μ0 → W p l e rmX9_take s m args below meth c H locs 0 0 (MQ below (QM D b cs μ0) args s 0 0 (bA b)) (F0 m 162 ls [jI s66, jI (32 + x2_54), jR b 333]) := by
              intro s66 H locs ls hP hS hl h
              unfold fX9_take_j162 at h
              obtain ⟨μ67, e68, h⟩ := ob_I h
              refine j_iastore hx hb hK hP hS kz_333 e68 dX9_take_162 (fun H locs hP hS => ?_)
              refine j_iinc (k := 1) (lv2 := [(2, jI (x2_54 + 1)), (0, jR b 332)]) hx hb dX9_take_163 hl rfl (by decide) rfl (fun ls hl => ?_)
              refine j_goto (tgt := 95) hx hb dX9_take_166 (by decide) ?_
              exact ih95_53 _ _ _ _ _ hP hS (lv_sub hl [1, 0] rfl) h
            refine j_icmp_ge (A := wr x2_54) (B := wr (gI μ63 332 6)) (tgt := 161) hx hb rfl rfl dX9_take_149 (by decide) (fun q69 => ?_) (fun q69 => ?_)
            · replace h := (if_pos q69).symm.trans h
              refine j_iconst hx hb dX9_take_161 ?_
              exact hj162_65 _ _ _ _ hP hS (lv_sub hl [0, 1] rfl) h
            · replace h := (if_neg q69).symm.trans h
              refine j_aload_n hx hb dX9_take_152 rfl (lv_at hl 0 rfl) ?_
              refine j_get (v := jR b 336) hx hb hts hinX9 hown hK hP kz_332 (by decide) rfl 5 (by decide) (hts (.fieldLink RX9 20 "CardBandModel" "threaded" "[I") (by decide +kernel)) rfl rfl dX9_take_153 ?_
              refine j_iload_n hx hb dX9_take_156 rfl (lv_at hl 1 rfl) ?_
              obtain ⟨v70, e71, h⟩ := ob_I h
              refine j_iaload hx hb hK hP kz_336 e71 dX9_take_157 ?_
              refine j_goto (tgt := 162) hx hb dX9_take_158 (by decide) ?_
              exact hj162_65 _ _ _ _ hP hS (lv_sub hl [0, 1] rfl) h
      exact hl95_53 N _ _ _ _ _ hP hS (lv_sub hl [1, 0] rfl) h
    have hl66_72 : ∀ (n0 : Nat) (x2_73 : Int) (μ74 : Mm) (H : Heap) (locs : List Loc) (ls : Array Slot), va_P D vwCl (wl b cs μ74) H → va_S (bA b) s.heap H locs → lv_has ls 3 [(0, jR b 332), (2, jI x2_73)] → fX9_take_l66 N n0 x2_73 μ74 = some μ0 → W p l e rmX9_take s m args below meth c H locs 0 0 (MQ below (QM D b cs μ0) args s 0 0 (bA b)) (F0 m 66 ls []) := by
      intro n0
      induction n0 with
      | zero => intro x2_73 μ74 H locs ls hP hS hl h; rw [fX9_take_l66] at h; cases h
      | succ n72 ih66_72 =>
        intro x2_73 μ74 H locs ls hP hS hl h
        rw [fX9_take_l66] at h
        refine j_iload_n hx hb dX9_take_66 rfl (lv_at hl 1 rfl) ?_
        refine j_bipush hx hb dX9_take_67 (by decide) ?_
        refine j_icmp_ge (A := wr x2_73) (B := 32) (tgt := 93) hx hb rfl (by decide) dX9_take_69 (by decide) (fun q75 => ?_) (fun q75 => ?_)
        · replace h := (if_pos q75).symm.trans h
          exact hk93_13 _ _ _ _ hP hS (lv_sub hl [0] rfl) h
        · replace h := (if_neg q75).symm.trans h
          refine j_aload_n hx hb dX9_take_72 rfl (lv_at hl 0 rfl) ?_
          refine j_get (v := jR b 335) hx hb hts hinX9 hown hK hP kz_332 (by decide) rfl 4 (by decide) (hts (.fieldLink RX9 17 "CardBandModel" "hole" "[I") (by decide +kernel)) rfl rfl dX9_take_73 ?_
          refine j_iload_n hx hb dX9_take_76 rfl (lv_at hl 1 rfl) ?_
          refine j_aload_n hx hb dX9_take_77 rfl (lv_at hl 0 rfl) ?_
          refine j_get (v := jR b 335) hx hb hts hinX9 hown hK hP kz_332 (by decide) rfl 4 (by decide) (hts (.fieldLink RX9 17 "CardBandModel" "hole" "[I") (by decide +kernel)) rfl rfl dX9_take_78 ?_
          refine j_bipush hx hb dX9_take_81 (by decide) ?_
          refine j_iload_n hx hb dX9_take_83 rfl (lv_at hl 1 rfl) ?_
          refine j_iadd hx hb dX9_take_84 ?_
          obtain ⟨v76, e77, h⟩ := ob_I h
          refine j_iaload hx hb hK hP kz_335 e77 dX9_take_85 ?_
          obtain ⟨μ78, e79, h⟩ := ob_I h
          refine j_iastore hx hb hK hP hS kz_335 e79 dX9_take_86 (fun H locs hP hS => ?_)
          refine j_iinc (k := 1) (lv2 := [(2, jI (x2_73 + 1)), (0, jR b 332)]) hx hb dX9_take_87 hl rfl (by decide) rfl (fun ls hl => ?_)
          refine j_goto (tgt := 66) hx hb dX9_take_90 (by decide) ?_
          exact ih66_72 _ _ _ _ _ hP hS (lv_sub hl [1, 0] rfl) h
    exact hl66_72 N _ _ _ _ _ hP hS (lv_sub hl [1, 0] rfl) h
  have hl35_80 : ∀ (n0 : Nat) (x2_81 : Int) (μ82 : Mm) (H : Heap) (locs : List Loc) (ls : Array Slot), va_P D vwCl (wl b cs μ82) H → va_S (bA b) s.heap H locs → lv_has ls 3 [(0, jR b 332), (1, jI v7), (2, jI x2_81)] → fX9_take_l35 N v7 n0 x2_81 μ82 = some μ0 → W p l e rmX9_take s m args below meth c H locs 0 0 (MQ below (QM D b cs μ0) args s 0 0 (bA b)) (F0 m 35 ls []) := by
    intro n0
    induction n0 with
    | zero => intro x2_81 μ82 H locs ls hP hS hl h; rw [fX9_take_l35] at h; cases h
    | succ n80 ih35_80 =>
      intro x2_81 μ82 H locs ls hP hS hl h
      rw [fX9_take_l35] at h
      refine j_iload_n hx hb dX9_take_35 rfl (lv_at hl 2 rfl) ?_
      refine j_sipush hx hb dX9_take_36 (by decide) ?_
      refine j_icmp_ge (A := wr x2_81) (B := 243) (tgt := 55) hx hb rfl (by decide) dX9_take_39 (by decide) (fun q83 => ?_) (fun q83 => ?_)
      · replace h := (if_pos q83).symm.trans h
        exact hk55_9 _ _ _ _ hP hS (lv_sub hl [0, 1] rfl) h
      · replace h := (if_neg q83).symm.trans h
        refine j_aload_n hx hb dX9_take_42 rfl (lv_at hl 0 rfl) ?_
        refine j_get (v := jR b 333) hx hb hts hinX9 hown hK hP kz_332 (by decide) rfl 0 (by decide) (hts (.fieldLink RX9 7 "CardBandModel" "w" "[I") (by decide +kernel)) rfl rfl dX9_take_43 ?_
        refine j_iload_n hx hb dX9_take_46 rfl (lv_at hl 2 rfl) ?_
        refine j_iconst hx hb dX9_take_47 ?_
        obtain ⟨μ84, e85, h⟩ := ob_I h
        refine j_iastore hx hb hK hP hS kz_333 e85 dX9_take_48 (fun H locs hP hS => ?_)
        refine j_iinc (k := 2) (lv2 := [(2, jI (x2_81 + 1)), (0, jR b 332), (1, jI v7)]) hx hb dX9_take_49 hl rfl (by decide) rfl (fun ls hl => ?_)
        refine j_goto (tgt := 35) hx hb dX9_take_52 (by decide) ?_
        exact ih35_80 _ _ _ _ _ hP hS (lv_sub hl [1, 2, 0] rfl) h
  exact hl35_80 N _ _ _ _ _ hP hS (lv_sub hl [2, 1, 0] rfl) h
def fX9_loom_k117 (N : Nat) : Mm → Option (Int × Mm) := fun μ16 =>
    Option.bind (some (pI μ16 332 13 0)) (fun μ17 => if wr (gI μ17 332 16) ≤ 0 then (Option.bind (fX9_take N μ17) (fun μ21 => some ((gI μ21 332 6), μ21))) else (some (((-10) - (gI μ17 332 16)), μ17)))
def fX9_loom_j93 (N : Nat) (rec53_22 : Mm → Option (Int × Mm)) (μ34 : Mm) : Int → Option (Int × Mm) := fun s36 =>
    bP (fX9_want N s36 1 (gI μ34 332 14) μ34) (fun v38 μ39 => if wr v38 = 0 then (rec53_22 μ39) else (Option.bind (some (pI μ39 332 14 ((gI μ39 332 14) + 1))) (fun μ41 => rec53_22 μ41)))
def fX9_loom_l53 (N : Nat) : Nat → Mm → Option (Int × Mm)
  | 0, _ => none
  | n22 + 1, μ23 =>
    if wr (gI μ23 332 16) = 0 then (bP (fX9_here N μ23) (fun v26 μ27 => if wr v26 < 0 then (fX9_loom_k117 N μ27) else (Option.bind (fX9_takeClause N μ27) (fun μ30 => if wr (gI μ30 332 16) = 0 then (bP (fX9_here N μ30) (fun v33 μ34 => if wr v33 = 59 then (fX9_loom_j93 N (fX9_loom_l53 N n22) μ34 1) else (fX9_loom_j93 N (fX9_loom_l53 N n22) μ34 0))) else ((fX9_loom_l53 N n22) μ30))))) else (fX9_loom_k117 N μ23)
def fX9_loom_k53 (N : Nat) : Mm → Option (Int × Mm) := fun μ14 =>
    fX9_loom_l53 N N μ14
def fX9_loom_l32 (N : Nat) : Nat → Int → Mm → Option (Int × Mm)
  | 0, _, _ => none
  | n44 + 1, x1_45, μ46 =>
    if 8 ≤ wr x1_45 then (fX9_loom_k53 N μ46) else (Option.bind (stA μ46 338 8 x1_45 500) (fun μ48 => (fX9_loom_l32 N n44) (x1_45 + 1) μ48))
def fX9_loom (N : Nat) (μ : Mm) : Option (Int × Mm) :=
    Option.bind (some (pI μ 332 14 0)) (fun μ1 => Option.bind (some (pI μ1 332 16 0)) (fun μ3 => Option.bind (some (pI μ3 332 17 (-1))) (fun μ5 => Option.bind (some (pI μ5 332 3 0)) (fun μ7 => Option.bind (some (pI μ7 332 7 0)) (fun μ9 => Option.bind (some (pI μ9 332 10 0)) (fun μ11 => fX9_loom_l32 N N 0 μ11))))))
abbrev rmX9_loom : Room := { frames := 5, cells := 0, slots := 0, locals := 119 }
set_option maxHeartbeats 4000000 in
set_option maxRecDepth 100000 in
theorem m_X9_loom (l : Launch) (D : va_G) (b : Nat) (cs : CS) (N : Nat) {μ μ0 : Mm} {r : Int} (h : fX9_loom N μ = some (r, μ0)) : MI l yX9_loom wsX9_loom rmX9_loom D b cs [jR b 332] μ μ0 r := by
  refine met_in (cc := cX9_loom) (maxL := 2) (ret := some .int) (lv0 := [(0, jR b 332)]) (by decide +kernel) rfl (Nat.le_of_ble_eq_true rfl) rfl ?_
  intro p e s m args below meth c hx hb hr hlk hml hown hts hP hK ls hl
  have hown : s.vm.findClass RX9 = some m.cls := hown
  have hS : va_S (bA b) s.heap s.heap [] := va_S.rf
  have hinX9 : ∀ w ∈ u_ws RX9 TX9 27, w ∈ wsX9_loom := by decide +kernel
  unfold fX9_loom at h
  refine j_aload_n hx hb dX9_loom_0 rfl (lv_at hl 0 rfl) ?_
  refine j_iconst hx hb dX9_loom_1 ?_
  obtain ⟨μ1, e2, h⟩ := ob_I h
  refine j_put (ty := .int) (z := 0) hx hb hts hinX9 tyX9 tyX9_ok nmX9 hown hK hP hS kz_332 (by decide) rfl 14 (by decide) (hts (.fieldLink RX9 65 "CardBandModel" "at" "I") (by decide +kernel)) rfl rfl (by decide +kernel) rfl rfl (by simp [flds]) rfl dX9_loom_2 (Option.some.inj e2) (fun H locs hP hS => ?_)
  refine j_aload_n hx hb dX9_loom_5 rfl (lv_at hl 0 rfl) ?_
  refine j_iconst hx hb dX9_loom_6 ?_
  obtain ⟨μ3, e4, h⟩ := ob_I h
  refine j_put (ty := .int) (z := 0) hx hb hts hinX9 tyX9 tyX9_ok nmX9 hown hK hP hS kz_332 (by decide) rfl 16 (by decide) (hts (.fieldLink RX9 68 "CardBandModel" "faultOf" "I") (by decide +kernel)) rfl rfl (by decide +kernel) rfl rfl (by simp [flds]) rfl dX9_loom_7 (Option.some.inj e4) (fun H locs hP hS => ?_)
  refine j_aload_n hx hb dX9_loom_10 rfl (lv_at hl 0 rfl) ?_
  refine j_iconst hx hb dX9_loom_11 ?_
  obtain ⟨μ5, e6, h⟩ := ob_I h
  refine j_put (ty := .int) (z := (-1)) hx hb hts hinX9 tyX9 tyX9_ok nmX9 hown hK hP hS kz_332 (by decide) rfl 17 (by decide) (hts (.fieldLink RX9 32 "CardBandModel" "fault" "I") (by decide +kernel)) rfl rfl (by decide +kernel) rfl rfl (by simp [flds]) rfl dX9_loom_12 (Option.some.inj e6) (fun H locs hP hS => ?_)
  refine j_aload_n hx hb dX9_loom_15 rfl (lv_at hl 0 rfl) ?_
  refine j_iconst hx hb dX9_loom_16 ?_
  obtain ⟨μ7, e8, h⟩ := ob_I h
  refine j_put (ty := .int) (z := 0) hx hb hts hinX9 tyX9 tyX9_ok nmX9 hown hK hP hS kz_332 (by decide) rfl 3 (by decide) (hts (.fieldLink RX9 90 "CardBandModel" "newColours" "I") (by decide +kernel)) rfl rfl (by decide +kernel) rfl rfl (by simp [flds]) rfl dX9_loom_17 (Option.some.inj e8) (fun H locs hP hS => ?_)
  refine j_aload_n hx hb dX9_loom_20 rfl (lv_at hl 0 rfl) ?_
  refine j_iconst hx hb dX9_loom_21 ?_
  obtain ⟨μ9, e10, h⟩ := ob_I h
  refine j_put (ty := .int) (z := 0) hx hb hts hinX9 tyX9 tyX9_ok nmX9 hown hK hP hS kz_332 (by decide) rfl 7 (by decide) (hts (.fieldLink RX9 97 "CardBandModel" "newCards" "I") (by decide +kernel)) rfl rfl (by decide +kernel) rfl rfl (by simp [flds]) rfl dX9_loom_22 (Option.some.inj e10) (fun H locs hP hS => ?_)
  refine j_aload_n hx hb dX9_loom_25 rfl (lv_at hl 0 rfl) ?_
  refine j_iconst hx hb dX9_loom_26 ?_
  obtain ⟨μ11, e12, h⟩ := ob_I h
  refine j_put (ty := .int) (z := 0) hx hb hts hinX9 tyX9 tyX9_ok nmX9 hown hK hP hS kz_332 (by decide) rfl 10 (by decide) (hts (.fieldLink RX9 100 "CardBandModel" "newPacks" "I") (by decide +kernel)) rfl rfl (by decide +kernel) rfl rfl (by simp [flds]) rfl dX9_loom_27 (Option.some.inj e12) (fun H locs hP hS => ?_)
  refine j_iconst hx hb dX9_loom_30 ?_
  refine j_istore_n (lv2 := [(1, jI 0), (0, jR b 332)]) hx hb dX9_loom_31 rfl hl (by decide) rfl (fun ls hl => ?_)
  have hk53_13 : ∀ (μ14 : Mm) (H : Heap) (locs : List Loc) (ls : Array Slot), va_P D vwCl (wl b cs μ14) H → va_S (bA b) s.heap H locs → lv_has ls 2 [(0, jR b 332)] → fX9_loom_k53 N μ14 = some (r, μ0) → W p l e rmX9_loom s m args below meth c H locs 0 0 (MQ below (QI D b cs μ0 r) args s 0 0 (bA b)) (F0 m 53 ls []) := by
    intro μ14 H locs ls hP hS hl h
    unfold fX9_loom_k53 at h
    have hk117_15 : ∀ (μ16 : Mm) (H : Heap) (locs : List Loc) (ls : Array Slot), va_P D vwCl (wl b cs μ16) H → va_S (bA b) s.heap H locs → lv_has ls 2 [(0, jR b 332)] → fX9_loom_k117 N μ16 = some (r, μ0) → W p l e rmX9_loom s m args below meth c H locs 0 0 (MQ below (QI D b cs μ0 r) args s 0 0 (bA b)) (F0 m 117 ls []) := by
      intro μ16 H locs ls hP hS hl h
      unfold fX9_loom_k117 at h
      refine j_aload_n hx hb dX9_loom_117 rfl (lv_at hl 0 rfl) ?_
      refine j_iconst hx hb dX9_loom_118 ?_
      obtain ⟨μ17, e18, h⟩ := ob_I h
      refine j_put (ty := .int) (z := 0) hx hb hts hinX9 tyX9 tyX9_ok nmX9 hown hK hP hS kz_332 (by decide) rfl 13 (by decide) (hts (.fieldLink RX9 61 "CardBandModel" "textSize" "I") (by decide +kernel)) rfl rfl (by decide +kernel) rfl rfl (by simp [flds]) rfl dX9_loom_119 (Option.some.inj e18) (fun H locs hP hS => ?_)
      refine j_aload_n hx hb dX9_loom_122 rfl (lv_at hl 0 rfl) ?_
      refine j_get (v := jI (gI μ17 332 16)) hx hb hts hinX9 hown hK hP kz_332 (by decide) rfl 16 (by decide) (hts (.fieldLink RX9 68 "CardBandModel" "faultOf" "I") (by decide +kernel)) rfl (by rw [jI_g]; rfl) dX9_loom_123 ?_
      refine j_if_le (A := wr (gI μ17 332 16)) (tgt := 137) hx hb rfl dX9_loom_126 (by decide) (fun q19 => ?_) (fun q19 => ?_)
      · replace h := (if_pos q19).symm.trans h
        refine j_aload_n hx hb dX9_loom_137 rfl (lv_at hl 0 rfl) ?_
        obtain ⟨μ21, e20, h⟩ := ob_I h
        refine jc_VM (As := []) (rest := []) ⟨hx, hb, hml, hown, hts⟩ hK hP hS (m_X9_take l D b cs N e20) (cwV 0 hts gX9_loom_X9_take rfl rfl rfl (by decide +kernel) ⟨Nat.le_of_ble_eq_true rfl, Nat.le_of_ble_eq_true rfl⟩) kz_332 (by decide) rfl rfl hl.1 rfl (Nat.le_of_ble_eq_true rfl) dX9_loom_138 ⟨Nat.zero_le _, Nat.zero_le _⟩ (fun H locs hP hS => ?_)
        refine j_aload_n hx hb dX9_loom_141 rfl (lv_at hl 0 rfl) ?_
        refine j_get (v := jI (gI μ21 332 6)) hx hb hts hinX9 hown hK hP kz_332 (by decide) rfl 6 (by decide) (hts (.fieldLink RX9 122 "CardBandModel" "cards" "I") (by decide +kernel)) rfl (by rw [jI_g]; rfl) dX9_loom_142 ?_
        obtain ⟨e0, e1⟩ := Prod.mk.inj (Option.some.inj h)
        subst e1
        exact j_retI hx hb hK hP hS hr hlk e0 dX9_loom_145
      · replace h := (if_neg q19).symm.trans h
        refine j_bipush hx hb dX9_loom_129 (by decide) ?_
        refine j_aload_n hx hb dX9_loom_131 rfl (lv_at hl 0 rfl) ?_
        refine j_get (v := jI (gI μ17 332 16)) hx hb hts hinX9 hown hK hP kz_332 (by decide) rfl 16 (by decide) (hts (.fieldLink RX9 68 "CardBandModel" "faultOf" "I") (by decide +kernel)) rfl (by rw [jI_g]; rfl) dX9_loom_132 ?_
        refine j_isub hx hb dX9_loom_135 ?_
        obtain ⟨e0, e1⟩ := Prod.mk.inj (Option.some.inj h)
        subst e1
        exact j_retI hx hb hK hP hS hr hlk e0 dX9_loom_136
    have hl53_22 : ∀ (n0 : Nat) (μ23 : Mm) (H : Heap) (locs : List Loc) (ls : Array Slot), va_P D vwCl (wl b cs μ23) H → va_S (bA b) s.heap H locs → lv_has ls 2 [(0, jR b 332)] → fX9_loom_l53 N n0 μ23 = some (r, μ0) → W p l e rmX9_loom s m args below meth c H locs 0 0 (MQ below (QI D b cs μ0 r) args s 0 0 (bA b)) (F0 m 53 ls []) := by
      intro n0
      induction n0 with
      | zero => intro μ23 H locs ls hP hS hl h; rw [fX9_loom_l53] at h; cases h
      | succ n22 ih53_22 =>
        intro μ23 H locs ls hP hS hl h
        rw [fX9_loom_l53] at h
        refine j_aload_n hx hb dX9_loom_53 rfl (lv_at hl 0 rfl) ?_
        refine j_get (v := jI (gI μ23 332 16)) hx hb hts hinX9 hown hK hP kz_332 (by decide) rfl 16 (by decide) (hts (.fieldLink RX9 68 "CardBandModel" "faultOf" "I") (by decide +kernel)) rfl (by rw [jI_g]; rfl) dX9_loom_54 ?_
        refine j_if_ne (A := wr (gI μ23 332 16)) (tgt := 117) hx hb rfl dX9_loom_57 (by decide) (fun q24 => ?_) (fun q24 => ?_)
        · replace h := (if_neg q24).symm.trans h
          exact hk117_15 _ _ _ _ hP hS (lv_sub hl [0] rfl) h
        · replace h := (if_pos q24).symm.trans h
          refine j_aload_n hx hb dX9_loom_60 rfl (lv_at hl 0 rfl) ?_
          obtain ⟨v26, μ27, e25, h⟩ := ob_P h
          refine jc_VI (As := []) (rest := []) ⟨hx, hb, hml, hown, hts⟩ hK hP hS (m_X9_here l D b cs N e25) (cwV 0 hts gX9_loom_X9_here rfl rfl rfl (by decide +kernel) ⟨Nat.le_of_ble_eq_true rfl, Nat.le_of_ble_eq_true rfl⟩) kz_332 (by decide) rfl rfl hl.1 rfl (Nat.le_of_ble_eq_true rfl) dX9_loom_61 ⟨Nat.zero_le _, Nat.zero_le _⟩ (fun H locs hP hS => ?_)
          refine j_if_lt (A := wr v26) (tgt := 117) hx hb rfl dX9_loom_64 (by decide) (fun q28 => ?_) (fun q28 => ?_)
          · replace h := (if_pos q28).symm.trans h
            exact hk117_15 _ _ _ _ hP hS (lv_sub hl [0] rfl) h
          · replace h := (if_neg q28).symm.trans h
            refine j_aload_n hx hb dX9_loom_67 rfl (lv_at hl 0 rfl) ?_
            obtain ⟨μ30, e29, h⟩ := ob_I h
            refine jc_VM (As := []) (rest := []) ⟨hx, hb, hml, hown, hts⟩ hK hP hS (m_X9_takeClause l D b cs N e29) (cwV 0 hts gX9_loom_X9_takeClause rfl rfl rfl (by decide +kernel) ⟨Nat.le_of_ble_eq_true rfl, Nat.le_of_ble_eq_true rfl⟩) kz_332 (by decide) rfl rfl hl.1 rfl (Nat.le_of_ble_eq_true rfl) dX9_loom_68 ⟨Nat.zero_le _, Nat.zero_le _⟩ (fun H locs hP hS => ?_)
            refine j_aload_n hx hb dX9_loom_71 rfl (lv_at hl 0 rfl) ?_
            refine j_get (v := jI (gI μ30 332 16)) hx hb hts hinX9 hown hK hP kz_332 (by decide) rfl 16 (by decide) (hts (.fieldLink RX9 68 "CardBandModel" "faultOf" "I") (by decide +kernel)) rfl (by rw [jI_g]; rfl) dX9_loom_72 ?_
            refine j_if_ne (A := wr (gI μ30 332 16)) (tgt := 53) hx hb rfl dX9_loom_75 (by decide) (fun q31 => ?_) (fun q31 => ?_)
            · replace h := (if_neg q31).symm.trans h
              exact ih53_22 _ _ _ _ hP hS (lv_sub hl [0] rfl) h
            · replace h := (if_pos q31).symm.trans h
              refine j_aload_n hx hb dX9_loom_78 rfl (lv_at hl 0 rfl) ?_
              refine j_aload_n hx hb dX9_loom_79 rfl (lv_at hl 0 rfl) ?_
              obtain ⟨v33, μ34, e32, h⟩ := ob_P h
              refine jc_VI (As := []) (rest := [jR b 332]) ⟨hx, hb, hml, hown, hts⟩ hK hP hS (m_X9_here l D b cs N e32) (cwV 0 hts gX9_loom_X9_here rfl rfl rfl (by decide +kernel) ⟨Nat.le_of_ble_eq_true rfl, Nat.le_of_ble_eq_true rfl⟩) kz_332 (by decide) rfl rfl hl.1 rfl (Nat.le_of_ble_eq_true rfl) dX9_loom_80 ⟨Nat.zero_le _, Nat.zero_le _⟩ (fun H locs hP hS => ?_)
              refine j_bipush hx hb dX9_loom_83 (by decide) ?_
              have hj93_35 : ∀ (s36 : Int) (H : Heap) (locs : List Loc) (ls : Array Slot), va_P D vwCl (wl b cs μ34) H → va_S (bA b) s.heap H locs → lv_has ls 2 [(0, jR b 332)] → fX9_loom_j93 N (fX9_loom_l53 N n22) μ34 s36 = some (r, μ0) → W p l e rmX9_loom s m args below meth c H locs 0 0 (MQ below (QI D b cs μ0 r) args s 0 0 (bA b)) (F0 m 93 ls [jI s36, jR b 332]) := by
                intro s36 H locs ls hP hS hl h
                unfold fX9_loom_j93 at h
                refine j_iconst hx hb dX9_loom_93 ?_
                refine j_aload_n hx hb dX9_loom_94 rfl (lv_at hl 0 rfl) ?_
                refine j_get (v := jI (gI μ34 332 14)) hx hb hts hinX9 hown hK hP kz_332 (by decide) rfl 14 (by decide) (hts (.fieldLink RX9 65 "CardBandModel" "at" "I") (by decide +kernel)) rfl (by rw [jI_g]; rfl) dX9_loom_95 ?_
                obtain ⟨v38, μ39, e37, h⟩ := ob_P h
                refine jc_VI (As := [jI s36, jI 1, jI (gI μ34 332 14)]) (rest := []) ⟨hx, hb, hml, hown, hts⟩ hK hP hS (m_X9_want l D b cs N e37) (cwV 3 hts gX9_loom_X9_want rfl rfl rfl (by decide +kernel) ⟨Nat.le_of_ble_eq_true rfl, Nat.le_of_ble_eq_true rfl⟩) kz_332 (by decide) rfl rfl hl.1 rfl (Nat.le_of_ble_eq_true rfl) dX9_loom_98 ⟨Nat.zero_le _, Nat.zero_le _⟩ (fun H locs hP hS => ?_)
                refine j_if_eq (A := wr v38) (tgt := 53) hx hb rfl dX9_loom_101 (by decide) (fun q40 => ?_) (fun q40 => ?_)
                · replace h := (if_pos q40).symm.trans h
                  exact ih53_22 _ _ _ _ hP hS (lv_sub hl [0] rfl) h
                · replace h := (if_neg q40).symm.trans h
                  refine j_aload_n hx hb dX9_loom_104 rfl (lv_at hl 0 rfl) ?_
                  refine j_dup hx hb dX9_loom_105 rfl ?_
                  refine j_get (v := jI (gI μ39 332 14)) hx hb hts hinX9 hown hK hP kz_332 (by decide) rfl 14 (by decide) (hts (.fieldLink RX9 65 "CardBandModel" "at" "I") (by decide +kernel)) rfl (by rw [jI_g]; rfl) dX9_loom_106 ?_
                  refine j_iconst hx hb dX9_loom_109 ?_
                  refine j_iadd hx hb dX9_loom_110 ?_
                  obtain ⟨μ41, e42, h⟩ := ob_I h
                  refine j_put (ty := .int) (z := ((gI μ39 332 14) + 1)) hx hb hts hinX9 tyX9 tyX9_ok nmX9 hown hK hP hS kz_332 (by decide) rfl 14 (by decide) (hts (.fieldLink RX9 65 "CardBandModel" "at" "I") (by decide +kernel)) rfl rfl (by decide +kernel) rfl rfl (by simp [flds]) rfl dX9_loom_111 (Option.some.inj e42) (fun H locs hP hS => ?_)
                  refine j_goto (tgt := 53) hx hb dX9_loom_114 (by decide) ?_
                  exact ih53_22 _ _ _ _ hP hS (lv_sub hl [0] rfl) h
              refine j_icmp_ne (A := wr v33) (B := 59) (tgt := 92) hx hb rfl (by decide) dX9_loom_85 (by decide) (fun q43 => ?_) (fun q43 => ?_)
              · replace h := (if_neg q43).symm.trans h
                refine j_iconst hx hb dX9_loom_92 ?_
                exact hj93_35 _ _ _ _ hP hS (lv_sub hl [0] rfl) h
              · replace h := (if_pos q43).symm.trans h
                refine j_iconst hx hb dX9_loom_88 ?_
                refine j_goto (tgt := 93) hx hb dX9_loom_89 (by decide) ?_
                exact hj93_35 _ _ _ _ hP hS (lv_sub hl [0] rfl) h
    exact hl53_22 N _ _ _ _ hP hS (lv_sub hl [0] rfl) h
  have hl32_44 : ∀ (n0 : Nat) (x1_45 : Int) (μ46 : Mm) (H : Heap) (locs : List Loc) (ls : Array Slot), va_P D vwCl (wl b cs μ46) H → va_S (bA b) s.heap H locs → lv_has ls 2 [(0, jR b 332), (1, jI x1_45)] → fX9_loom_l32 N n0 x1_45 μ46 = some (r, μ0) → W p l e rmX9_loom s m args below meth c H locs 0 0 (MQ below (QI D b cs μ0 r) args s 0 0 (bA b)) (F0 m 32 ls []) := by
    intro n0
    induction n0 with
    | zero => intro x1_45 μ46 H locs ls hP hS hl h; rw [fX9_loom_l32] at h; cases h
    | succ n44 ih32_44 =>
      intro x1_45 μ46 H locs ls hP hS hl h
      rw [fX9_loom_l32] at h
      refine j_iload_n hx hb dX9_loom_32 rfl (lv_at hl 1 rfl) ?_
      refine j_bipush hx hb dX9_loom_33 (by decide) ?_
      refine j_icmp_ge (A := wr x1_45) (B := 8) (tgt := 53) hx hb rfl (by decide) dX9_loom_35 (by decide) (fun q47 => ?_) (fun q47 => ?_)
      · replace h := (if_pos q47).symm.trans h
        exact hk53_13 _ _ _ _ hP hS (lv_sub hl [0] rfl) h
      · replace h := (if_neg q47).symm.trans h
        refine j_aload_n hx hb dX9_loom_38 rfl (lv_at hl 0 rfl) ?_
        refine j_get (v := jR b 338) hx hb hts hinX9 hown hK hP kz_332 (by decide) rfl 11 (by decide) (hts (.fieldLink RX9 26 "CardBandModel" "newYarn" "[I") (by decide +kernel)) rfl rfl dX9_loom_39 ?_
        refine j_iload_n hx hb dX9_loom_42 rfl (lv_at hl 1 rfl) ?_
        refine j_sipush hx hb dX9_loom_43 (by decide) ?_
        obtain ⟨μ48, e49, h⟩ := ob_I h
        refine j_iastore hx hb hK hP hS kz_338 e49 dX9_loom_46 (fun H locs hP hS => ?_)
        refine j_iinc (k := 1) (lv2 := [(1, jI (x1_45 + 1)), (0, jR b 332)]) hx hb dX9_loom_47 hl rfl (by decide) rfl (fun ls hl => ?_)
        refine j_goto (tgt := 32) hx hb dX9_loom_50 (by decide) ?_
        exact ih32_44 _ _ _ _ _ hP hS (lv_sub hl [1, 0] rfl) h
  exact hl32_44 N _ _ _ _ _ hP hS (lv_sub hl [1, 0] rfl) h
def fX9_mirrored_k69 (N : Nat) (μ : Mm) (x1_2 : Int) (x2_3 : Int) (rec4_1 : Int → Int → Option (Int)) : Int → Option (Int) := fun x3_8 =>
    Option.bind (fX9_one N x3_8 μ) (fun v10 => rec4_1 (x1_2 + v10) (x2_3 + 1))
def fX9_mirrored_l20 (N : Nat) (μ : Mm) (x1_2 : Int) (x2_3 : Int) (rec4_1 : Int → Int → Option (Int)) : Nat → Int → Int → Option (Int)
  | 0, _, _ => none
  | n11 + 1, x3_12, x4_13 =>
    if wr (gI μ 332 6) ≤ wr x4_13 then (fX9_mirrored_k69 N μ x1_2 x2_3 rec4_1 x3_12) else (if wr x3_12 = 0 then ((fX9_mirrored_l20 N μ x1_2 x2_3 rec4_1 n11) 0 (x4_13 + 1)) else (Option.bind (fX9_was N x2_3 x4_13 μ) (fun v17 => Option.bind (fX9_was N x2_3 (((gI μ 332 6) - 1) - x4_13) μ) (fun v19 => if wr v17 = wr v19 then ((fX9_mirrored_l20 N μ x1_2 x2_3 rec4_1 n11) 1 (x4_13 + 1)) else ((fX9_mirrored_l20 N μ x1_2 x2_3 rec4_1 n11) 0 (x4_13 + 1))))))
def fX9_mirrored_l4 (N : Nat) (μ : Mm) : Nat → Int → Int → Option (Int)
  | 0, _, _ => none
  | n1 + 1, x1_2, x2_3 =>
    Option.bind (ldA μ 333 8262 49) (fun v4 => if wr v4 ≤ wr x2_3 then (some x1_2) else (fX9_mirrored_l20 N μ x1_2 x2_3 (fX9_mirrored_l4 N μ n1) N 1 0))
def fX9_mirrored (N : Nat) (μ : Mm) : Option (Int) :=
    fX9_mirrored_l4 N μ N 0 0
abbrev rmX9_mirrored : Room := { frames := 1, cells := 0, slots := 0, locals := 22 }
set_option maxHeartbeats 4000000 in
set_option maxRecDepth 100000 in
theorem m_X9_mirrored (l : Launch) (D : va_G) (b : Nat) (cs : CS) (N : Nat) {μ : Mm} {r : Int} (h : fX9_mirrored N μ = some r) : MI l yX9_mirrored wsX9_mirrored rmX9_mirrored D b cs [jR b 332] μ μ r := by
  refine met_in (cc := cX9_mirrored) (maxL := 5) (ret := some .int) (lv0 := [(0, jR b 332)]) (by decide +kernel) rfl (Nat.le_of_ble_eq_true rfl) rfl ?_
  intro p e s m args below meth c hx hb hr hlk hml hown hts hP hK ls hl
  have hown : s.vm.findClass RX9 = some m.cls := hown
  have hS : va_S (bA b) s.heap s.heap [] := va_S.rf
  have hinX9 : ∀ w ∈ u_ws RX9 TX9 27, w ∈ wsX9_mirrored := by decide +kernel
  unfold fX9_mirrored at h
  refine j_iconst hx hb dX9_mirrored_0 ?_
  refine j_istore_n (lv2 := [(1, jI 0), (0, jR b 332)]) hx hb dX9_mirrored_1 rfl hl (by decide) rfl (fun ls hl => ?_)
  refine j_iconst hx hb dX9_mirrored_2 ?_
  refine j_istore_n (lv2 := [(2, jI 0), (1, jI 0), (0, jR b 332)]) hx hb dX9_mirrored_3 rfl hl (by decide) rfl (fun ls hl => ?_)
  have hl4_1 : ∀ (n0 : Nat) (x1_2 : Int) (x2_3 : Int) (H : Heap) (locs : List Loc) (ls : Array Slot), va_P D vwCl (wl b cs μ) H → va_S (bA b) s.heap H locs → lv_has ls 5 [(0, jR b 332), (1, jI x1_2), (2, jI x2_3)] → fX9_mirrored_l4 N μ n0 x1_2 x2_3 = some r → W p l e rmX9_mirrored s m args below meth c H locs 0 0 (MQ below (QI D b cs μ r) args s 0 0 (bA b)) (F0 m 4 ls []) := by
    intro n0
    induction n0 with
    | zero => intro x1_2 x2_3 H locs ls hP hS hl h; rw [fX9_mirrored_l4] at h; cases h
    | succ n1 ih4_1 =>
      intro x1_2 x2_3 H locs ls hP hS hl h
      rw [fX9_mirrored_l4] at h
      refine j_iload_n hx hb dX9_mirrored_4 rfl (lv_at hl 2 rfl) ?_
      refine j_aload_n hx hb dX9_mirrored_5 rfl (lv_at hl 0 rfl) ?_
      refine j_get (v := jR b 333) hx hb hts hinX9 hown hK hP kz_332 (by decide) rfl 0 (by decide) (hts (.fieldLink RX9 7 "CardBandModel" "w" "[I") (by decide +kernel)) rfl rfl dX9_mirrored_6 ?_
      refine j_bipush hx hb dX9_mirrored_9 (by decide) ?_
      obtain ⟨v4, e5, h⟩ := ob_I h
      refine j_iaload hx hb hK hP kz_333 e5 dX9_mirrored_11 ?_
      refine j_icmp_ge (A := wr x2_3) (B := wr v4) (tgt := 82) hx hb rfl rfl dX9_mirrored_12 (by decide) (fun q6 => ?_) (fun q6 => ?_)
      · replace h := (if_pos q6).symm.trans h
        refine j_iload_n hx hb dX9_mirrored_82 rfl (lv_at hl 1 rfl) ?_
        exact j_retI hx hb hK hP hS hr hlk (Option.some.inj h) dX9_mirrored_83
      · replace h := (if_neg q6).symm.trans h
        refine j_iconst hx hb dX9_mirrored_15 ?_
        refine j_istore_n (lv2 := [(3, jI 1), (0, jR b 332), (1, jI x1_2), (2, jI x2_3)]) hx hb dX9_mirrored_16 rfl hl (by decide) rfl (fun ls hl => ?_)
        refine j_iconst hx hb dX9_mirrored_17 ?_
        refine j_istore (lv2 := [(4, jI 0), (3, jI 1), (0, jR b 332), (1, jI x1_2), (2, jI x2_3)]) hx hb dX9_mirrored_18 hl (by decide) rfl (fun ls hl => ?_)
        have hk69_7 : ∀ (x3_8 : Int) (H : Heap) (locs : List Loc) (ls : Array Slot), va_P D vwCl (wl b cs μ) H → va_S (bA b) s.heap H locs → lv_has ls 5 [(0, jR b 332), (1, jI x1_2), (2, jI x2_3), (3, jI x3_8)] → fX9_mirrored_k69 N μ x1_2 x2_3 (fX9_mirrored_l4 N μ n1) x3_8 = some r → W p l e rmX9_mirrored s m args below meth c H locs 0 0 (MQ below (QI D b cs μ r) args s 0 0 (bA b)) (F0 m 69 ls []) := by
          intro x3_8 H locs ls hP hS hl h
          unfold fX9_mirrored_k69 at h
          refine j_iload_n hx hb dX9_mirrored_69 rfl (lv_at hl 1 rfl) ?_
          refine j_iload_n hx hb dX9_mirrored_70 rfl (lv_at hl 3 rfl) ?_
          obtain ⟨v10, e9, h⟩ := ob_I h
          refine jc_SI (As := [jI x3_8]) (rest := [jI x1_2]) ⟨hx, hb, hml, hown, hts⟩ hK hP hS (m_X9_one l D b cs N e9) (va_cwS 1 hts gX9_mirrored_X9_one rfl rfl rfl (by decide +kernel) ⟨Nat.le_of_ble_eq_true rfl, Nat.le_of_ble_eq_true rfl⟩) rfl hl.1 rfl (Nat.le_of_ble_eq_true rfl) dX9_mirrored_71 ⟨Nat.zero_le _, Nat.zero_le _⟩ (fun H locs hP hS => ?_)
          refine j_iadd hx hb dX9_mirrored_74 ?_
          refine j_istore_n (lv2 := [(1, jI (x1_2 + v10)), (0, jR b 332), (2, jI x2_3), (3, jI x3_8)]) hx hb dX9_mirrored_75 rfl hl (by decide) rfl (fun ls hl => ?_)
          refine j_iinc (k := 2) (lv2 := [(2, jI (x2_3 + 1)), (1, jI (x1_2 + v10)), (0, jR b 332), (3, jI x3_8)]) hx hb dX9_mirrored_76 hl rfl (by decide) rfl (fun ls hl => ?_)
          refine j_goto (tgt := 4) hx hb dX9_mirrored_79 (by decide) ?_
          exact ih4_1 _ _ _ _ _ hP hS (lv_sub hl [2, 1, 0] rfl) h
        have hl20_11 : ∀ (n0 : Nat) (x3_12 : Int) (x4_13 : Int) (H : Heap) (locs : List Loc) (ls : Array Slot), va_P D vwCl (wl b cs μ) H → va_S (bA b) s.heap H locs → lv_has ls 5 [(0, jR b 332), (1, jI x1_2), (2, jI x2_3), (3, jI x3_12), (4, jI x4_13)] → fX9_mirrored_l20 N μ x1_2 x2_3 (fX9_mirrored_l4 N μ n1) n0 x3_12 x4_13 = some r → W p l e rmX9_mirrored s m args below meth c H locs 0 0 (MQ below (QI D b cs μ r) args s 0 0 (bA b)) (F0 m 20 ls []) := by
          intro n0
          induction n0 with
          | zero => intro x3_12 x4_13 H locs ls hP hS hl h; rw [fX9_mirrored_l20] at h; cases h
          | succ n11 ih20_11 =>
            intro x3_12 x4_13 H locs ls hP hS hl h
            rw [fX9_mirrored_l20] at h
            refine j_iload hx hb dX9_mirrored_20 (lv_at hl 4 rfl) ?_
            refine j_aload_n hx hb dX9_mirrored_22 rfl (lv_at hl 0 rfl) ?_
            refine j_get (v := jI (gI μ 332 6)) hx hb hts hinX9 hown hK hP kz_332 (by decide) rfl 6 (by decide) (hts (.fieldLink RX9 122 "CardBandModel" "cards" "I") (by decide +kernel)) rfl (by rw [jI_g]; rfl) dX9_mirrored_23 ?_
            refine j_icmp_ge (A := wr x4_13) (B := wr (gI μ 332 6)) (tgt := 69) hx hb rfl rfl dX9_mirrored_26 (by decide) (fun q14 => ?_) (fun q14 => ?_)
            · replace h := (if_pos q14).symm.trans h
              exact hk69_7 _ _ _ _ hP hS (lv_sub hl [0, 1, 2, 3] rfl) h
            · replace h := (if_neg q14).symm.trans h
              refine j_iload_n hx hb dX9_mirrored_29 rfl (lv_at hl 3 rfl) ?_
              refine j_if_eq (A := wr x3_12) (tgt := 61) hx hb rfl dX9_mirrored_30 (by decide) (fun q15 => ?_) (fun q15 => ?_)
              · replace h := (if_pos q15).symm.trans h
                refine j_iconst hx hb dX9_mirrored_61 ?_
                refine j_istore_n (lv2 := [(3, jI 0), (0, jR b 332), (1, jI x1_2), (2, jI x2_3), (4, jI x4_13)]) hx hb dX9_mirrored_62 rfl hl (by decide) rfl (fun ls hl => ?_)
                refine j_iinc (k := 4) (lv2 := [(4, jI (x4_13 + 1)), (3, jI 0), (0, jR b 332), (1, jI x1_2), (2, jI x2_3)]) hx hb dX9_mirrored_63 hl rfl (by decide) rfl (fun ls hl => ?_)
                refine j_goto (tgt := 20) hx hb dX9_mirrored_66 (by decide) ?_
                exact ih20_11 _ _ _ _ _ hP hS (lv_sub hl [2, 3, 4, 1, 0] rfl) h
              · replace h := (if_neg q15).symm.trans h
                refine j_aload_n hx hb dX9_mirrored_33 rfl (lv_at hl 0 rfl) ?_
                refine j_iload_n hx hb dX9_mirrored_34 rfl (lv_at hl 2 rfl) ?_
                refine j_iload hx hb dX9_mirrored_35 (lv_at hl 4 rfl) ?_
                obtain ⟨v17, e16, h⟩ := ob_I h
                refine jc_VI (As := [jI x2_3, jI x4_13]) (rest := []) ⟨hx, hb, hml, hown, hts⟩ hK hP hS (m_X9_was l D b cs N e16) (cwV 2 hts gX9_mirrored_X9_was rfl rfl rfl (by decide +kernel) ⟨Nat.le_of_ble_eq_true rfl, Nat.le_of_ble_eq_true rfl⟩) kz_332 (by decide) rfl rfl hl.1 rfl (Nat.le_of_ble_eq_true rfl) dX9_mirrored_37 ⟨Nat.zero_le _, Nat.zero_le _⟩ (fun H locs hP hS => ?_)
                refine j_aload_n hx hb dX9_mirrored_40 rfl (lv_at hl 0 rfl) ?_
                refine j_iload_n hx hb dX9_mirrored_41 rfl (lv_at hl 2 rfl) ?_
                refine j_aload_n hx hb dX9_mirrored_42 rfl (lv_at hl 0 rfl) ?_
                refine j_get (v := jI (gI μ 332 6)) hx hb hts hinX9 hown hK hP kz_332 (by decide) rfl 6 (by decide) (hts (.fieldLink RX9 122 "CardBandModel" "cards" "I") (by decide +kernel)) rfl (by rw [jI_g]; rfl) dX9_mirrored_43 ?_
                refine j_iconst hx hb dX9_mirrored_46 ?_
                refine j_isub hx hb dX9_mirrored_47 ?_
                refine j_iload hx hb dX9_mirrored_48 (lv_at hl 4 rfl) ?_
                refine j_isub hx hb dX9_mirrored_50 ?_
                obtain ⟨v19, e18, h⟩ := ob_I h
                refine jc_VI (As := [jI x2_3, jI (((gI μ 332 6) - 1) - x4_13)]) (rest := [jI v17]) ⟨hx, hb, hml, hown, hts⟩ hK hP hS (m_X9_was l D b cs N e18) (cwV 2 hts gX9_mirrored_X9_was rfl rfl rfl (by decide +kernel) ⟨Nat.le_of_ble_eq_true rfl, Nat.le_of_ble_eq_true rfl⟩) kz_332 (by decide) rfl rfl hl.1 rfl (Nat.le_of_ble_eq_true rfl) dX9_mirrored_51 ⟨Nat.zero_le _, Nat.zero_le _⟩ (fun H locs hP hS => ?_)
                refine j_icmp_ne (A := wr v17) (B := wr v19) (tgt := 61) hx hb rfl rfl dX9_mirrored_54 (by decide) (fun q20 => ?_) (fun q20 => ?_)
                · replace h := (if_neg q20).symm.trans h
                  refine j_iconst hx hb dX9_mirrored_61 ?_
                  refine j_istore_n (lv2 := [(3, jI 0), (0, jR b 332), (1, jI x1_2), (2, jI x2_3), (4, jI x4_13)]) hx hb dX9_mirrored_62 rfl hl (by decide) rfl (fun ls hl => ?_)
                  refine j_iinc (k := 4) (lv2 := [(4, jI (x4_13 + 1)), (3, jI 0), (0, jR b 332), (1, jI x1_2), (2, jI x2_3)]) hx hb dX9_mirrored_63 hl rfl (by decide) rfl (fun ls hl => ?_)
                  refine j_goto (tgt := 20) hx hb dX9_mirrored_66 (by decide) ?_
                  exact ih20_11 _ _ _ _ _ hP hS (lv_sub hl [2, 3, 4, 1, 0] rfl) h
                · replace h := (if_pos q20).symm.trans h
                  refine j_iconst hx hb dX9_mirrored_57 ?_
                  refine j_goto (tgt := 62) hx hb dX9_mirrored_58 (by decide) ?_
                  refine j_istore_n (lv2 := [(3, jI 1), (0, jR b 332), (1, jI x1_2), (2, jI x2_3), (4, jI x4_13)]) hx hb dX9_mirrored_62 rfl hl (by decide) rfl (fun ls hl => ?_)
                  refine j_iinc (k := 4) (lv2 := [(4, jI (x4_13 + 1)), (3, jI 1), (0, jR b 332), (1, jI x1_2), (2, jI x2_3)]) hx hb dX9_mirrored_63 hl rfl (by decide) rfl (fun ls hl => ?_)
                  refine j_goto (tgt := 20) hx hb dX9_mirrored_66 (by decide) ?_
                  exact ih20_11 _ _ _ _ _ hP hS (lv_sub hl [2, 3, 4, 1, 0] rfl) h
        exact hl20_11 N _ _ _ _ _ hP hS (lv_sub hl [2, 3, 4, 1, 0] rfl) h
  exact hl4_1 N _ _ _ _ _ hP hS (lv_sub hl [2, 1, 0] rfl) h
def fX9_shownOf_j44 (N : Nat) (μ : Mm) (x2_8 : Int) (x4_9 : Int) (rec18_7 : Int → Int → Option (Int)) : Int → Option (Int) := fun s14 =>
    Option.bind (fX9_one N s14 μ) (fun v16 => rec18_7 (x2_8 + v16) (x4_9 + 1))
def fX9_shownOf_l18 (N : Nat) (y1 : Int) (μ : Mm) (x3_3 : Int) (rec4_1 : Int → Int → Option (Int)) : Nat → Int → Int → Option (Int)
  | 0, _, _ => none
  | n7 + 1, x2_8, x4_9 =>
    if wr (gI μ 332 6) ≤ wr x4_9 then (rec4_1 x2_8 (x3_3 + 1)) else (Option.bind (fX9_was N x3_3 x4_9 μ) (fun v12 => if wr v12 = wr y1 then (fX9_shownOf_j44 N μ x2_8 x4_9 (fX9_shownOf_l18 N y1 μ x3_3 rec4_1 n7) 1) else (fX9_shownOf_j44 N μ x2_8 x4_9 (fX9_shownOf_l18 N y1 μ x3_3 rec4_1 n7) 0)))
def fX9_shownOf_l4 (N : Nat) (y1 : Int) (μ : Mm) : Nat → Int → Int → Option (Int)
  | 0, _, _ => none
  | n1 + 1, x2_2, x3_3 =>
    Option.bind (ldA μ 333 8262 49) (fun v4 => if wr v4 ≤ wr x3_3 then (some x2_2) else (fX9_shownOf_l18 N y1 μ x3_3 (fX9_shownOf_l4 N y1 μ n1) N x2_2 0))
def fX9_shownOf (N : Nat) (y1 : Int) (μ : Mm) : Option (Int) :=
    fX9_shownOf_l4 N y1 μ N 0 0
abbrev rmX9_shownOf : Room := { frames := 1, cells := 0, slots := 0, locals := 22 }
set_option maxHeartbeats 4000000 in
set_option maxRecDepth 100000 in
theorem m_X9_shownOf (l : Launch) (D : va_G) (b : Nat) (cs : CS) (N : Nat) {μ : Mm} {y1 : Int} {r : Int} (h : fX9_shownOf N y1 μ = some r) : MI l yX9_shownOf wsX9_shownOf rmX9_shownOf D b cs [jR b 332, jI y1] μ μ r := by
  refine met_in (cc := cX9_shownOf) (maxL := 5) (ret := some .int) (lv0 := [(0, jR b 332), (1, jI y1)]) (by decide +kernel) rfl (Nat.le_of_ble_eq_true rfl) rfl ?_
  intro p e s m args below meth c hx hb hr hlk hml hown hts hP hK ls hl
  have hown : s.vm.findClass RX9 = some m.cls := hown
  have hS : va_S (bA b) s.heap s.heap [] := va_S.rf
  have hinX9 : ∀ w ∈ u_ws RX9 TX9 27, w ∈ wsX9_shownOf := by decide +kernel
  unfold fX9_shownOf at h
  refine j_iconst hx hb dX9_shownOf_0 ?_
  refine j_istore_n (lv2 := [(2, jI 0), (0, jR b 332), (1, jI y1)]) hx hb dX9_shownOf_1 rfl hl (by decide) rfl (fun ls hl => ?_)
  refine j_iconst hx hb dX9_shownOf_2 ?_
  refine j_istore_n (lv2 := [(3, jI 0), (2, jI 0), (0, jR b 332), (1, jI y1)]) hx hb dX9_shownOf_3 rfl hl (by decide) rfl (fun ls hl => ?_)
  have hl4_1 : ∀ (n0 : Nat) (x2_2 : Int) (x3_3 : Int) (H : Heap) (locs : List Loc) (ls : Array Slot), va_P D vwCl (wl b cs μ) H → va_S (bA b) s.heap H locs → lv_has ls 5 [(0, jR b 332), (1, jI y1), (2, jI x2_2), (3, jI x3_3)] → fX9_shownOf_l4 N y1 μ n0 x2_2 x3_3 = some r → W p l e rmX9_shownOf s m args below meth c H locs 0 0 (MQ below (QI D b cs μ r) args s 0 0 (bA b)) (F0 m 4 ls []) := by
    intro n0
    induction n0 with
    | zero => intro x2_2 x3_3 H locs ls hP hS hl h; rw [fX9_shownOf_l4] at h; cases h
    | succ n1 ih4_1 =>
      intro x2_2 x3_3 H locs ls hP hS hl h
      rw [fX9_shownOf_l4] at h
      refine j_iload_n hx hb dX9_shownOf_4 rfl (lv_at hl 3 rfl) ?_
      refine j_aload_n hx hb dX9_shownOf_5 rfl (lv_at hl 0 rfl) ?_
      refine j_get (v := jR b 333) hx hb hts hinX9 hown hK hP kz_332 (by decide) rfl 0 (by decide) (hts (.fieldLink RX9 7 "CardBandModel" "w" "[I") (by decide +kernel)) rfl rfl dX9_shownOf_6 ?_
      refine j_bipush hx hb dX9_shownOf_9 (by decide) ?_
      obtain ⟨v4, e5, h⟩ := ob_I h
      refine j_iaload hx hb hK hP kz_333 e5 dX9_shownOf_11 ?_
      refine j_icmp_ge (A := wr x3_3) (B := wr v4) (tgt := 61) hx hb rfl rfl dX9_shownOf_12 (by decide) (fun q6 => ?_) (fun q6 => ?_)
      · replace h := (if_pos q6).symm.trans h
        refine j_iload_n hx hb dX9_shownOf_61 rfl (lv_at hl 2 rfl) ?_
        exact j_retI hx hb hK hP hS hr hlk (Option.some.inj h) dX9_shownOf_62
      · replace h := (if_neg q6).symm.trans h
        refine j_iconst hx hb dX9_shownOf_15 ?_
        refine j_istore (lv2 := [(4, jI 0), (0, jR b 332), (1, jI y1), (2, jI x2_2), (3, jI x3_3)]) hx hb dX9_shownOf_16 hl (by decide) rfl (fun ls hl => ?_)
        have hl18_7 : ∀ (n0 : Nat) (x2_8 : Int) (x4_9 : Int) (H : Heap) (locs : List Loc) (ls : Array Slot), va_P D vwCl (wl b cs μ) H → va_S (bA b) s.heap H locs → lv_has ls 5 [(0, jR b 332), (1, jI y1), (2, jI x2_8), (3, jI x3_3), (4, jI x4_9)] → fX9_shownOf_l18 N y1 μ x3_3 (fX9_shownOf_l4 N y1 μ n1) n0 x2_8 x4_9 = some r → W p l e rmX9_shownOf s m args below meth c H locs 0 0 (MQ below (QI D b cs μ r) args s 0 0 (bA b)) (F0 m 18 ls []) := by
          intro n0
          induction n0 with
          | zero => intro x2_8 x4_9 H locs ls hP hS hl h; rw [fX9_shownOf_l18] at h; cases h
          | succ n7 ih18_7 =>
            intro x2_8 x4_9 H locs ls hP hS hl h
            rw [fX9_shownOf_l18] at h
            refine j_iload hx hb dX9_shownOf_18 (lv_at hl 4 rfl) ?_
            refine j_aload_n hx hb dX9_shownOf_20 rfl (lv_at hl 0 rfl) ?_
            refine j_get (v := jI (gI μ 332 6)) hx hb hts hinX9 hown hK hP kz_332 (by decide) rfl 6 (by decide) (hts (.fieldLink RX9 122 "CardBandModel" "cards" "I") (by decide +kernel)) rfl (by rw [jI_g]; rfl) dX9_shownOf_21 ?_
            refine j_icmp_ge (A := wr x4_9) (B := wr (gI μ 332 6)) (tgt := 55) hx hb rfl rfl dX9_shownOf_24 (by decide) (fun q10 => ?_) (fun q10 => ?_)
            · replace h := (if_pos q10).symm.trans h
              refine j_iinc (k := 3) (lv2 := [(3, jI (x3_3 + 1)), (0, jR b 332), (1, jI y1), (2, jI x2_8), (4, jI x4_9)]) hx hb dX9_shownOf_55 hl rfl (by decide) rfl (fun ls hl => ?_)
              refine j_goto (tgt := 4) hx hb dX9_shownOf_58 (by decide) ?_
              exact ih4_1 _ _ _ _ _ hP hS (lv_sub hl [1, 2, 3, 0] rfl) h
            · replace h := (if_neg q10).symm.trans h
              refine j_iload_n hx hb dX9_shownOf_27 rfl (lv_at hl 2 rfl) ?_
              refine j_aload_n hx hb dX9_shownOf_28 rfl (lv_at hl 0 rfl) ?_
              refine j_iload_n hx hb dX9_shownOf_29 rfl (lv_at hl 3 rfl) ?_
              refine j_iload hx hb dX9_shownOf_30 (lv_at hl 4 rfl) ?_
              obtain ⟨v12, e11, h⟩ := ob_I h
              refine jc_VI (As := [jI x3_3, jI x4_9]) (rest := [jI x2_8]) ⟨hx, hb, hml, hown, hts⟩ hK hP hS (m_X9_was l D b cs N e11) (cwV 2 hts gX9_shownOf_X9_was rfl rfl rfl (by decide +kernel) ⟨Nat.le_of_ble_eq_true rfl, Nat.le_of_ble_eq_true rfl⟩) kz_332 (by decide) rfl rfl hl.1 rfl (Nat.le_of_ble_eq_true rfl) dX9_shownOf_32 ⟨Nat.zero_le _, Nat.zero_le _⟩ (fun H locs hP hS => ?_)
              refine j_iload_n hx hb dX9_shownOf_35 rfl (lv_at hl 1 rfl) ?_
              have hj44_13 : ∀ (s14 : Int) (H : Heap) (locs : List Loc) (ls : Array Slot), va_P D vwCl (wl b cs μ) H → va_S (bA b) s.heap H locs → lv_has ls 5 [(0, jR b 332), (1, jI y1), (3, jI x3_3), (4, jI x4_9)] → fX9_shownOf_j44 N μ x2_8 x4_9 (fX9_shownOf_l18 N y1 μ x3_3 (fX9_shownOf_l4 N y1 μ n1) n7) s14 = some r → W p l e rmX9_shownOf s m args below meth c H locs 0 0 (MQ below (QI D b cs μ r) args s 0 0 (bA b)) (F0 m 44 ls [jI s14, jI x2_8]) := by
                intro s14 H locs ls hP hS hl h
                unfold fX9_shownOf_j44 at h
                obtain ⟨v16, e15, h⟩ := ob_I h
                refine jc_SI (As := [jI s14]) (rest := [jI x2_8]) ⟨hx, hb, hml, hown, hts⟩ hK hP hS (m_X9_one l D b cs N e15) (va_cwS 1 hts gX9_shownOf_X9_one rfl rfl rfl (by decide +kernel) ⟨Nat.le_of_ble_eq_true rfl, Nat.le_of_ble_eq_true rfl⟩) rfl hl.1 rfl (Nat.le_of_ble_eq_true rfl) dX9_shownOf_44 ⟨Nat.zero_le _, Nat.zero_le _⟩ (fun H locs hP hS => ?_)
                refine j_iadd hx hb dX9_shownOf_47 ?_
                refine j_istore_n (lv2 := [(2, jI (x2_8 + v16)), (0, jR b 332), (1, jI y1), (3, jI x3_3), (4, jI x4_9)]) hx hb dX9_shownOf_48 rfl hl (by decide) rfl (fun ls hl => ?_)
                refine j_iinc (k := 4) (lv2 := [(4, jI (x4_9 + 1)), (2, jI (x2_8 + v16)), (0, jR b 332), (1, jI y1), (3, jI x3_3)]) hx hb dX9_shownOf_49 hl rfl (by decide) rfl (fun ls hl => ?_)
                refine j_goto (tgt := 18) hx hb dX9_shownOf_52 (by decide) ?_
                exact ih18_7 _ _ _ _ _ hP hS (lv_sub hl [2, 3, 1, 4, 0] rfl) h
              refine j_icmp_ne (A := wr v12) (B := wr y1) (tgt := 43) hx hb rfl rfl dX9_shownOf_36 (by decide) (fun q17 => ?_) (fun q17 => ?_)
              · replace h := (if_neg q17).symm.trans h
                refine j_iconst hx hb dX9_shownOf_43 ?_
                exact hj44_13 _ _ _ _ hP hS (lv_sub hl [0, 1, 3, 4] rfl) h
              · replace h := (if_pos q17).symm.trans h
                refine j_iconst hx hb dX9_shownOf_39 ?_
                refine j_goto (tgt := 44) hx hb dX9_shownOf_40 (by decide) ?_
                exact hj44_13 _ _ _ _ hP hS (lv_sub hl [0, 1, 3, 4] rfl) h
        exact hl18_7 N _ _ _ _ _ hP hS (lv_sub hl [1, 2, 3, 4, 0] rfl) h
  exact hl4_1 N _ _ _ _ _ hP hS (lv_sub hl [2, 3, 1, 0] rfl) h
def fX9_mostShown_j32 (N : Nat) (μ : Mm) (x2_3 : Int) (x3_4 : Int) (rec6_1 : Int → Int → Int → Option (Int)) (v7 : Int) : Int → Option (Int) := fun s9 =>
    Option.bind (fX9_most N v7 x2_3 μ) (fun v11 => rec6_1 s9 v11 (x3_4 + 1))
def fX9_mostShown_l6 (N : Nat) (μ : Mm) : Nat → Int → Int → Int → Option (Int)
  | 0, _, _, _ => none
  | n1 + 1, x1_2, x2_3, x3_4 =>
    if wr (gI μ 332 2) ≤ wr x3_4 then (some x1_2) else (Option.bind (fX9_shownOf N x3_4 μ) (fun v7 => if wr v7 ≤ wr x2_3 then (fX9_mostShown_j32 N μ x2_3 x3_4 (fX9_mostShown_l6 N μ n1) v7 x1_2) else (fX9_mostShown_j32 N μ x2_3 x3_4 (fX9_mostShown_l6 N μ n1) v7 x3_4)))
def fX9_mostShown (N : Nat) (μ : Mm) : Option (Int) :=
    fX9_mostShown_l6 N μ N (-1) 0 0
abbrev rmX9_mostShown : Room := { frames := 2, cells := 0, slots := 0, locals := 46 }
set_option maxHeartbeats 4000000 in
set_option maxRecDepth 100000 in
theorem m_X9_mostShown (l : Launch) (D : va_G) (b : Nat) (cs : CS) (N : Nat) {μ : Mm} {r : Int} (h : fX9_mostShown N μ = some r) : MI l yX9_mostShown wsX9_mostShown rmX9_mostShown D b cs [jR b 332] μ μ r := by
  refine met_in (cc := cX9_mostShown) (maxL := 5) (ret := some .int) (lv0 := [(0, jR b 332)]) (by decide +kernel) rfl (Nat.le_of_ble_eq_true rfl) rfl ?_
  intro p e s m args below meth c hx hb hr hlk hml hown hts hP hK ls hl
  have hown : s.vm.findClass RX9 = some m.cls := hown
  have hS : va_S (bA b) s.heap s.heap [] := va_S.rf
  have hinX9 : ∀ w ∈ u_ws RX9 TX9 27, w ∈ wsX9_mostShown := by decide +kernel
  unfold fX9_mostShown at h
  refine j_iconst hx hb dX9_mostShown_0 ?_
  refine j_istore_n (lv2 := [(1, jI (-1)), (0, jR b 332)]) hx hb dX9_mostShown_1 rfl hl (by decide) rfl (fun ls hl => ?_)
  refine j_iconst hx hb dX9_mostShown_2 ?_
  refine j_istore_n (lv2 := [(2, jI 0), (1, jI (-1)), (0, jR b 332)]) hx hb dX9_mostShown_3 rfl hl (by decide) rfl (fun ls hl => ?_)
  refine j_iconst hx hb dX9_mostShown_4 ?_
  refine j_istore_n (lv2 := [(3, jI 0), (2, jI 0), (1, jI (-1)), (0, jR b 332)]) hx hb dX9_mostShown_5 rfl hl (by decide) rfl (fun ls hl => ?_)
  have hl6_1 : ∀ (n0 : Nat) (x1_2 : Int) (x2_3 : Int) (x3_4 : Int) (H : Heap) (locs : List Loc) (ls : Array Slot), va_P D vwCl (wl b cs μ) H → va_S (bA b) s.heap H locs → lv_has ls 5 [(0, jR b 332), (1, jI x1_2), (2, jI x2_3), (3, jI x3_4)] → fX9_mostShown_l6 N μ n0 x1_2 x2_3 x3_4 = some r → W p l e rmX9_mostShown s m args below meth c H locs 0 0 (MQ below (QI D b cs μ r) args s 0 0 (bA b)) (F0 m 6 ls []) := by
    intro n0
    induction n0 with
    | zero => intro x1_2 x2_3 x3_4 H locs ls hP hS hl h; rw [fX9_mostShown_l6] at h; cases h
    | succ n1 ih6_1 =>
      intro x1_2 x2_3 x3_4 H locs ls hP hS hl h
      rw [fX9_mostShown_l6] at h
      refine j_iload_n hx hb dX9_mostShown_6 rfl (lv_at hl 3 rfl) ?_
      refine j_aload_n hx hb dX9_mostShown_7 rfl (lv_at hl 0 rfl) ?_
      refine j_get (v := jI (gI μ 332 2)) hx hb hts hinX9 hown hK hP kz_332 (by decide) rfl 2 (by decide) (hts (.fieldLink RX9 125 "CardBandModel" "colours" "I") (by decide +kernel)) rfl (by rw [jI_g]; rfl) dX9_mostShown_8 ?_
      refine j_icmp_ge (A := wr x3_4) (B := wr (gI μ 332 2)) (tgt := 46) hx hb rfl rfl dX9_mostShown_11 (by decide) (fun q5 => ?_) (fun q5 => ?_)
      · replace h := (if_pos q5).symm.trans h
        refine j_iload_n hx hb dX9_mostShown_46 rfl (lv_at hl 1 rfl) ?_
        exact j_retI hx hb hK hP hS hr hlk (Option.some.inj h) dX9_mostShown_47
      · replace h := (if_neg q5).symm.trans h
        refine j_aload_n hx hb dX9_mostShown_14 rfl (lv_at hl 0 rfl) ?_
        refine j_iload_n hx hb dX9_mostShown_15 rfl (lv_at hl 3 rfl) ?_
        obtain ⟨v7, e6, h⟩ := ob_I h
        refine jc_VI (As := [jI x3_4]) (rest := []) ⟨hx, hb, hml, hown, hts⟩ hK hP hS (m_X9_shownOf l D b cs N e6) (cwV 1 hts gX9_mostShown_X9_shownOf rfl rfl rfl (by decide +kernel) ⟨Nat.le_of_ble_eq_true rfl, Nat.le_of_ble_eq_true rfl⟩) kz_332 (by decide) rfl rfl hl.1 rfl (Nat.le_of_ble_eq_true rfl) dX9_mostShown_16 ⟨Nat.zero_le _, Nat.zero_le _⟩ (fun H locs hP hS => ?_)
        refine j_istore (lv2 := [(4, jI v7), (0, jR b 332), (1, jI x1_2), (2, jI x2_3), (3, jI x3_4)]) hx hb dX9_mostShown_19 hl (by decide) rfl (fun ls hl => ?_)
        refine j_iload hx hb dX9_mostShown_21 (lv_at hl 0 rfl) ?_
        refine j_iload_n hx hb dX9_mostShown_23 rfl (lv_at hl 3 rfl) ?_
        have hj32_8 : ∀ (s9 : Int) (H : Heap) (locs : List Loc) (ls : Array Slot), va_P D vwCl (wl b cs μ) H → va_S (bA b) s.heap H locs → lv_has ls 5 [(0, jR b 332), (2, jI x2_3), (3, jI x3_4), (4, jI v7)] → fX9_mostShown_j32 N μ x2_3 x3_4 (fX9_mostShown_l6 N μ n1) v7 s9 = some r → W p l e rmX9_mostShown s m args below meth c H locs 0 0 (MQ below (QI D b cs μ r) args s 0 0 (bA b)) (F0 m 32 ls [jI s9]) := by
          intro s9 H locs ls hP hS hl h
          unfold fX9_mostShown_j32 at h
          refine j_istore_n (lv2 := [(1, jI s9), (0, jR b 332), (2, jI x2_3), (3, jI x3_4), (4, jI v7)]) hx hb dX9_mostShown_32 rfl hl (by decide) rfl (fun ls hl => ?_)
          refine j_iload hx hb dX9_mostShown_33 (lv_at hl 4 rfl) ?_
          refine j_iload_n hx hb dX9_mostShown_35 rfl (lv_at hl 2 rfl) ?_
          obtain ⟨v11, e10, h⟩ := ob_I h
          refine jc_SI (As := [jI v7, jI x2_3]) (rest := []) ⟨hx, hb, hml, hown, hts⟩ hK hP hS (m_X9_most l D b cs N e10) (va_cwS 2 hts gX9_mostShown_X9_most rfl rfl rfl (by decide +kernel) ⟨Nat.le_of_ble_eq_true rfl, Nat.le_of_ble_eq_true rfl⟩) rfl hl.1 rfl (Nat.le_of_ble_eq_true rfl) dX9_mostShown_36 ⟨Nat.zero_le _, Nat.zero_le _⟩ (fun H locs hP hS => ?_)
          refine j_istore_n (lv2 := [(2, jI v11), (1, jI s9), (0, jR b 332), (3, jI x3_4), (4, jI v7)]) hx hb dX9_mostShown_39 rfl hl (by decide) rfl (fun ls hl => ?_)
          refine j_iinc (k := 3) (lv2 := [(3, jI (x3_4 + 1)), (2, jI v11), (1, jI s9), (0, jR b 332), (4, jI v7)]) hx hb dX9_mostShown_40 hl rfl (by decide) rfl (fun ls hl => ?_)
          refine j_goto (tgt := 6) hx hb dX9_mostShown_43 (by decide) ?_
          exact ih6_1 _ _ _ _ _ _ hP hS (lv_sub hl [3, 2, 1, 0] rfl) h
        refine j_icmp_le (A := wr v7) (B := wr x2_3) (tgt := 31) hx hb rfl rfl dX9_mostShown_24 (by decide) (fun q12 => ?_) (fun q12 => ?_)
        · replace h := (if_pos q12).symm.trans h
          refine j_iload_n hx hb dX9_mostShown_31 rfl (lv_at hl 2 rfl) ?_
          exact hj32_8 _ _ _ _ hP hS (lv_sub hl [1, 3, 4, 0] rfl) h
        · replace h := (if_neg q12).symm.trans h
          refine j_iload_n hx hb dX9_mostShown_27 rfl (lv_at hl 4 rfl) ?_
          refine j_goto (tgt := 32) hx hb dX9_mostShown_28 (by decide) ?_
          exact hj32_8 _ _ _ _ hP hS (lv_sub hl [1, 3, 4, 0] rfl) h
  exact hl6_1 N _ _ _ _ _ _ hP hS (lv_sub hl [3, 2, 1, 0] rfl) h
def fX9_pack (N : Nat) (y1 : Int) (μ : Mm) : Option (Int) :=
    Option.bind (fX9_in N (wr y1) 0 (wr ((gI μ 332 9) - 1)) μ) (fun v2 => if wr v2 = 0 then (some (-1000000001)) else (Option.bind (ldA μ 337 8 y1) (fun v4 => some v4)))
abbrev rmX9_pack : Room := { frames := 1, cells := 0, slots := 0, locals := 25 }
set_option maxHeartbeats 4000000 in
set_option maxRecDepth 100000 in
theorem m_X9_pack (l : Launch) (D : va_G) (b : Nat) (cs : CS) (N : Nat) {μ : Mm} {y1 : Int} {r : Int} (h : fX9_pack N y1 μ = some r) : MI l yX9_pack wsX9_pack rmX9_pack D b cs [jR b 332, jI y1] μ μ r := by
  refine met_in (cc := cX9_pack) (maxL := 2) (ret := some .int) (lv0 := [(0, jR b 332), (1, jI y1)]) (by decide +kernel) rfl (Nat.le_of_ble_eq_true rfl) rfl ?_
  intro p e s m args below meth c hx hb hr hlk hml hown hts hP hK ls hl
  have hown : s.vm.findClass RX9 = some m.cls := hown
  have hS : va_S (bA b) s.heap s.heap [] := va_S.rf
  have hinX9 : ∀ w ∈ u_ws RX9 TX9 27, w ∈ wsX9_pack := by decide +kernel
  unfold fX9_pack at h
  refine j_iload_n hx hb dX9_pack_0 rfl (lv_at hl 1 rfl) ?_
  refine j_i2l hx hb dX9_pack_1 ?_
  refine j_lconst (n := 0) hx hb dX9_pack_2 (by decide) ?_
  refine j_aload_n hx hb dX9_pack_3 rfl (lv_at hl 0 rfl) ?_
  refine j_get (v := jI (gI μ 332 9)) hx hb hts hinX9 hown hK hP kz_332 (by decide) rfl 9 (by decide) (hts (.fieldLink RX9 128 "CardBandModel" "packs" "I") (by decide +kernel)) rfl (by rw [jI_g]; rfl) dX9_pack_4 ?_
  refine j_iconst hx hb dX9_pack_7 ?_
  refine j_isub hx hb dX9_pack_8 ?_
  refine j_i2l hx hb dX9_pack_9 ?_
  obtain ⟨v2, e1, h⟩ := ob_I h
  refine jc_SI (As := [jL (wr y1), jL 0, jL (wr ((gI μ 332 9) - 1))]) (rest := []) ⟨hx, hb, hml, hown, hts⟩ hK hP hS (m_X9_in l D b cs N e1) (va_cwS 3 hts gX9_pack_X9_in rfl rfl rfl (by decide +kernel) ⟨Nat.le_of_ble_eq_true rfl, Nat.le_of_ble_eq_true rfl⟩) rfl hl.1 rfl (Nat.le_of_ble_eq_true rfl) dX9_pack_10 ⟨Nat.zero_le _, Nat.zero_le _⟩ (fun H locs hP hS => ?_)
  refine j_if_eq (A := wr v2) (tgt := 25) hx hb rfl dX9_pack_13 (by decide) (fun q3 => ?_) (fun q3 => ?_)
  · replace h := (if_pos q3).symm.trans h
    refine j_ldc (n := (-1000000001)) hx hb hown (hts (.constant RX9 183 (-1000000001)) (by decide +kernel)) (by decide) dX9_pack_25 ?_
    exact j_retI hx hb hK hP hS hr hlk (Option.some.inj h) dX9_pack_27
  · replace h := (if_neg q3).symm.trans h
    refine j_aload_n hx hb dX9_pack_16 rfl (lv_at hl 0 rfl) ?_
    refine j_get (v := jR b 337) hx hb hts hinX9 hown hK hP kz_332 (by decide) rfl 8 (by decide) (hts (.fieldLink RX9 23 "CardBandModel" "pack" "[I") (by decide +kernel)) rfl rfl dX9_pack_17 ?_
    refine j_iload_n hx hb dX9_pack_20 rfl (lv_at hl 1 rfl) ?_
    obtain ⟨v4, e5, h⟩ := ob_I h
    refine j_iaload hx hb hK hP kz_337 e5 dX9_pack_21 ?_
    refine j_goto (tgt := 27) hx hb dX9_pack_22 (by decide) ?_
    exact j_retI hx hb hK hP hS hr hlk (Option.some.inj h) dX9_pack_27
def fX9_packsOf_l4 (N : Nat) (y1 : Int) (μ : Mm) : Nat → Int → Int → Option (Int)
  | 0, _, _ => none
  | n1 + 1, x2_2, x3_3 =>
    if wr (gI μ 332 9) ≤ wr x3_3 then (some x2_2) else (Option.bind (ldA μ 337 8 x3_3) (fun v5 => (fX9_packsOf_l4 N y1 μ n1) (orI x2_2 (andI y1 v5)) (x3_3 + 1)))
def fX9_packsOf (N : Nat) (y1 : Int) (μ : Mm) : Option (Int) :=
    fX9_packsOf_l4 N y1 μ N 0 0
abbrev rmX9_packsOf : Room := { frames := 0, cells := 0, slots := 0, locals := 0 }
set_option maxHeartbeats 4000000 in
set_option maxRecDepth 100000 in
theorem m_X9_packsOf (l : Launch) (D : va_G) (b : Nat) (cs : CS) (N : Nat) {μ : Mm} {y1 : Int} {r : Int} (h : fX9_packsOf N y1 μ = some r) : MI l yX9_packsOf wsX9_packsOf rmX9_packsOf D b cs [jR b 332, jI y1] μ μ r := by
  refine met_in (cc := cX9_packsOf) (maxL := 4) (ret := some .int) (lv0 := [(0, jR b 332), (1, jI y1)]) (by decide +kernel) rfl (Nat.le_of_ble_eq_true rfl) rfl ?_
  intro p e s m args below meth c hx hb hr hlk hml hown hts hP hK ls hl
  have hown : s.vm.findClass RX9 = some m.cls := hown
  have hS : va_S (bA b) s.heap s.heap [] := va_S.rf
  have hinX9 : ∀ w ∈ u_ws RX9 TX9 27, w ∈ wsX9_packsOf := by decide +kernel
  unfold fX9_packsOf at h
  refine j_iconst hx hb dX9_packsOf_0 ?_
  refine j_istore_n (lv2 := [(2, jI 0), (0, jR b 332), (1, jI y1)]) hx hb dX9_packsOf_1 rfl hl (by decide) rfl (fun ls hl => ?_)
  refine j_iconst hx hb dX9_packsOf_2 ?_
  refine j_istore_n (lv2 := [(3, jI 0), (2, jI 0), (0, jR b 332), (1, jI y1)]) hx hb dX9_packsOf_3 rfl hl (by decide) rfl (fun ls hl => ?_)
  have hl4_1 : ∀ (n0 : Nat) (x2_2 : Int) (x3_3 : Int) (H : Heap) (locs : List Loc) (ls : Array Slot), va_P D vwCl (wl b cs μ) H → va_S (bA b) s.heap H locs → lv_has ls 4 [(0, jR b 332), (1, jI y1), (2, jI x2_2), (3, jI x3_3)] → fX9_packsOf_l4 N y1 μ n0 x2_2 x3_3 = some r → W p l e rmX9_packsOf s m args below meth c H locs 0 0 (MQ below (QI D b cs μ r) args s 0 0 (bA b)) (F0 m 4 ls []) := by
    intro n0
    induction n0 with
    | zero => intro x2_2 x3_3 H locs ls hP hS hl h; rw [fX9_packsOf_l4] at h; cases h
    | succ n1 ih4_1 =>
      intro x2_2 x3_3 H locs ls hP hS hl h
      rw [fX9_packsOf_l4] at h
      refine j_iload_n hx hb dX9_packsOf_4 rfl (lv_at hl 3 rfl) ?_
      refine j_aload_n hx hb dX9_packsOf_5 rfl (lv_at hl 0 rfl) ?_
      refine j_get (v := jI (gI μ 332 9)) hx hb hts hinX9 hown hK hP kz_332 (by decide) rfl 9 (by decide) (hts (.fieldLink RX9 128 "CardBandModel" "packs" "I") (by decide +kernel)) rfl (by rw [jI_g]; rfl) dX9_packsOf_6 ?_
      refine j_icmp_ge (A := wr x3_3) (B := wr (gI μ 332 9)) (tgt := 29) hx hb rfl rfl dX9_packsOf_9 (by decide) (fun q4 => ?_) (fun q4 => ?_)
      · replace h := (if_pos q4).symm.trans h
        refine j_iload_n hx hb dX9_packsOf_29 rfl (lv_at hl 2 rfl) ?_
        exact j_retI hx hb hK hP hS hr hlk (Option.some.inj h) dX9_packsOf_30
      · replace h := (if_neg q4).symm.trans h
        refine j_iload_n hx hb dX9_packsOf_12 rfl (lv_at hl 2 rfl) ?_
        refine j_iload_n hx hb dX9_packsOf_13 rfl (lv_at hl 1 rfl) ?_
        refine j_aload_n hx hb dX9_packsOf_14 rfl (lv_at hl 0 rfl) ?_
        refine j_get (v := jR b 337) hx hb hts hinX9 hown hK hP kz_332 (by decide) rfl 8 (by decide) (hts (.fieldLink RX9 23 "CardBandModel" "pack" "[I") (by decide +kernel)) rfl rfl dX9_packsOf_15 ?_
        refine j_iload_n hx hb dX9_packsOf_18 rfl (lv_at hl 3 rfl) ?_
        obtain ⟨v5, e6, h⟩ := ob_I h
        refine j_iaload hx hb hK hP kz_337 e6 dX9_packsOf_19 ?_
        refine j_iand hx hb dX9_packsOf_20 ?_
        refine j_ior hx hb dX9_packsOf_21 ?_
        refine j_istore_n (lv2 := [(2, jI (orI x2_2 (andI y1 v5))), (0, jR b 332), (1, jI y1), (3, jI x3_3)]) hx hb dX9_packsOf_22 rfl hl (by decide) rfl (fun ls hl => ?_)
        refine j_iinc (k := 3) (lv2 := [(3, jI (x3_3 + 1)), (2, jI (orI x2_2 (andI y1 v5))), (0, jR b 332), (1, jI y1)]) hx hb dX9_packsOf_23 hl rfl (by decide) rfl (fun ls hl => ?_)
        refine j_goto (tgt := 4) hx hb dX9_packsOf_26 (by decide) ?_
        exact ih4_1 _ _ _ _ _ hP hS (lv_sub hl [2, 3, 1, 0] rfl) h
  exact hl4_1 N _ _ _ _ _ hP hS (lv_sub hl [2, 3, 1, 0] rfl) h
def fX9_period_l16 (N : Nat) (μ : Mm) : Nat → Int → Option (Int)
  | 0, _ => none
  | n5 + 1, x1_6 =>
    if wr x1_6 ≤ 0 then (some x1_6) else (Option.bind (fX9_isPeriod N x1_6 μ) (fun v9 => if wr v9 = 0 then ((fX9_period_l16 N μ n5) (x1_6 + 1)) else (some x1_6)))
def fX9_period_j15 (N : Nat) (μ : Mm) : Int → Option (Int) := fun s4 =>
    fX9_period_l16 N μ N s4
def fX9_period (N : Nat) (μ : Mm) : Option (Int) :=
    Option.bind (ldA μ 333 8262 49) (fun v1 => if wr v1 = 0 then (fX9_period_j15 N μ 0) else (fX9_period_j15 N μ 1))
abbrev rmX9_period : Room := { frames := 2, cells := 0, slots := 0, locals := 46 }
set_option maxHeartbeats 4000000 in
set_option maxRecDepth 100000 in
theorem m_X9_period (l : Launch) (D : va_G) (b : Nat) (cs : CS) (N : Nat) {μ : Mm} {r : Int} (h : fX9_period N μ = some r) : MI l yX9_period wsX9_period rmX9_period D b cs [jR b 332] μ μ r := by
  refine met_in (cc := cX9_period) (maxL := 2) (ret := some .int) (lv0 := [(0, jR b 332)]) (by decide +kernel) rfl (Nat.le_of_ble_eq_true rfl) rfl ?_
  intro p e s m args below meth c hx hb hr hlk hml hown hts hP hK ls hl
  have hown : s.vm.findClass RX9 = some m.cls := hown
  have hS : va_S (bA b) s.heap s.heap [] := va_S.rf
  have hinX9 : ∀ w ∈ u_ws RX9 TX9 27, w ∈ wsX9_period := by decide +kernel
  unfold fX9_period at h
  refine j_aload_n hx hb dX9_period_0 rfl (lv_at hl 0 rfl) ?_
  refine j_get (v := jR b 333) hx hb hts hinX9 hown hK hP kz_332 (by decide) rfl 0 (by decide) (hts (.fieldLink RX9 7 "CardBandModel" "w" "[I") (by decide +kernel)) rfl rfl dX9_period_1 ?_
  refine j_bipush hx hb dX9_period_4 (by decide) ?_
  obtain ⟨v1, e2, h⟩ := ob_I h
  refine j_iaload hx hb hK hP kz_333 e2 dX9_period_6 ?_
  have hj15_3 : ∀ (s4 : Int) (H : Heap) (locs : List Loc) (ls : Array Slot), va_P D vwCl (wl b cs μ) H → va_S (bA b) s.heap H locs → lv_has ls 2 [(0, jR b 332)] → fX9_period_j15 N μ s4 = some r → W p l e rmX9_period s m args below meth c H locs 0 0 (MQ below (QI D b cs μ r) args s 0 0 (bA b)) (F0 m 15 ls [jI s4]) := by
    intro s4 H locs ls hP hS hl h
    unfold fX9_period_j15 at h
    refine j_istore_n (lv2 := [(1, jI s4), (0, jR b 332)]) hx hb dX9_period_15 rfl hl (by decide) rfl (fun ls hl => ?_)
    have hl16_5 : ∀ (n0 : Nat) (x1_6 : Int) (H : Heap) (locs : List Loc) (ls : Array Slot), va_P D vwCl (wl b cs μ) H → va_S (bA b) s.heap H locs → lv_has ls 2 [(0, jR b 332), (1, jI x1_6)] → fX9_period_l16 N μ n0 x1_6 = some r → W p l e rmX9_period s m args below meth c H locs 0 0 (MQ below (QI D b cs μ r) args s 0 0 (bA b)) (F0 m 16 ls []) := by
      intro n0
      induction n0 with
      | zero => intro x1_6 H locs ls hP hS hl h; rw [fX9_period_l16] at h; cases h
      | succ n5 ih16_5 =>
        intro x1_6 H locs ls hP hS hl h
        rw [fX9_period_l16] at h
        refine j_iload_n hx hb dX9_period_16 rfl (lv_at hl 1 rfl) ?_
        refine j_if_le (A := wr x1_6) (tgt := 34) hx hb rfl dX9_period_17 (by decide) (fun q7 => ?_) (fun q7 => ?_)
        · replace h := (if_pos q7).symm.trans h
          refine j_iload_n hx hb dX9_period_34 rfl (lv_at hl 1 rfl) ?_
          exact j_retI hx hb hK hP hS hr hlk (Option.some.inj h) dX9_period_35
        · replace h := (if_neg q7).symm.trans h
          refine j_aload_n hx hb dX9_period_20 rfl (lv_at hl 0 rfl) ?_
          refine j_iload_n hx hb dX9_period_21 rfl (lv_at hl 1 rfl) ?_
          obtain ⟨v9, e8, h⟩ := ob_I h
          refine jc_VI (As := [jI x1_6]) (rest := []) ⟨hx, hb, hml, hown, hts⟩ hK hP hS (m_X9_isPeriod l D b cs N e8) (cwV 1 hts gX9_period_X9_isPeriod rfl rfl rfl (by decide +kernel) ⟨Nat.le_of_ble_eq_true rfl, Nat.le_of_ble_eq_true rfl⟩) kz_332 (by decide) rfl rfl hl.1 rfl (Nat.le_of_ble_eq_true rfl) dX9_period_22 ⟨Nat.zero_le _, Nat.zero_le _⟩ (fun H locs hP hS => ?_)
          refine j_if_ne (A := wr v9) (tgt := 34) hx hb rfl dX9_period_25 (by decide) (fun q10 => ?_) (fun q10 => ?_)
          · replace h := (if_neg q10).symm.trans h
            refine j_iload_n hx hb dX9_period_34 rfl (lv_at hl 1 rfl) ?_
            exact j_retI hx hb hK hP hS hr hlk (Option.some.inj h) dX9_period_35
          · replace h := (if_pos q10).symm.trans h
            refine j_iinc (k := 1) (lv2 := [(1, jI (x1_6 + 1)), (0, jR b 332)]) hx hb dX9_period_28 hl rfl (by decide) rfl (fun ls hl => ?_)
            refine j_goto (tgt := 16) hx hb dX9_period_31 (by decide) ?_
            exact ih16_5 _ _ _ _ hP hS (lv_sub hl [1, 0] rfl) h
    exact hl16_5 N _ _ _ _ hP hS (lv_sub hl [1, 0] rfl) h
  refine j_if_ne (A := wr v1) (tgt := 14) hx hb rfl dX9_period_7 (by decide) (fun q11 => ?_) (fun q11 => ?_)
  · replace h := (if_neg q11).symm.trans h
    refine j_iconst hx hb dX9_period_14 ?_
    exact hj15_3 _ _ _ _ hP hS (lv_sub hl [0] rfl) h
  · replace h := (if_pos q11).symm.trans h
    refine j_iconst hx hb dX9_period_10 ?_
    refine j_goto (tgt := 15) hx hb dX9_period_11 (by decide) ?_
    exact hj15_3 _ _ _ _ hP hS (lv_sub hl [0] rfl) h
def fX9_pick_k81 (N : Nat) : Mm → Option (Int × Mm) := fun μ18 =>
    Option.bind (ldA μ18 333 8262 48) (fun v19 => some (v19, μ18))
def fX9_pick_l60 (N : Nat) (y1 : Int) (y2 : Int) : Nat → Int → Mm → Option (Int × Mm)
  | 0, _, _ => none
  | n21 + 1, x3_22, μ23 =>
    if wr y2 ≤ wr x3_22 then (fX9_pick_k81 N μ23) else (Option.bind (fX9_remember N μ23) (fun μ26 => Option.bind (fX9_pickIn N 0 y1 μ26) (fun μ28 => (fX9_pick_l60 N y1 y2 n21) (x3_22 + 1) μ28)))
def fX9_pick (N : Nat) (y1 : Int) (y2 : Int) (μ : Mm) : Option (Int × Mm) :=
    Option.bind (fX9_isMoves N y1 μ) (fun v2 => if wr v2 = 0 then (some ((-1000000002), μ)) else (Option.bind (fX9_in N (wr y2) 1 30 μ) (fun v5 => if wr v5 = 0 then (some ((-1000000002), μ)) else (Option.bind (fX9_isLoom N μ) (fun v8 => if wr v8 = 0 then (some ((-1000000003), μ)) else (bP (fX9_canPick N y1 y2 μ) (fun v11 μ12 => if wr v11 = 0 then (some ((-1000000003), μ12)) else (Option.bind (ldA μ12 333 8262 48) (fun v14 => if wr v14 ≤ 9000 then (fX9_pick_l60 N y1 y2 N 0 μ12) else (some ((-1000000004), μ12)))))))))))
abbrev rmX9_pick : Room := { frames := 4, cells := 0, slots := 0, locals := 95 }
set_option maxHeartbeats 4000000 in
set_option maxRecDepth 100000 in
theorem m_X9_pick (l : Launch) (D : va_G) (b : Nat) (cs : CS) (N : Nat) {μ μ0 : Mm} {y1 y2 : Int} {r : Int} (h : fX9_pick N y1 y2 μ = some (r, μ0)) : MI l yX9_pick wsX9_pick rmX9_pick D b cs [jR b 332, jI y1, jI y2] μ μ0 r := by
  refine met_in (cc := cX9_pick) (maxL := 4) (ret := some .int) (lv0 := [(0, jR b 332), (1, jI y1), (2, jI y2)]) (by decide +kernel) rfl (Nat.le_of_ble_eq_true rfl) rfl ?_
  intro p e s m args below meth c hx hb hr hlk hml hown hts hP hK ls hl
  have hown : s.vm.findClass RX9 = some m.cls := hown
  have hS : va_S (bA b) s.heap s.heap [] := va_S.rf
  have hinX9 : ∀ w ∈ u_ws RX9 TX9 27, w ∈ wsX9_pick := by decide +kernel
  unfold fX9_pick at h
  refine j_aload_n hx hb dX9_pick_0 rfl (lv_at hl 0 rfl) ?_
  refine j_iload_n hx hb dX9_pick_1 rfl (lv_at hl 1 rfl) ?_
  obtain ⟨v2, e1, h⟩ := ob_I h
  refine jc_VI (As := [jI y1]) (rest := []) ⟨hx, hb, hml, hown, hts⟩ hK hP hS (m_X9_isMoves l D b cs N e1) (cwV 1 hts gX9_pick_X9_isMoves rfl rfl rfl (by decide +kernel) ⟨Nat.le_of_ble_eq_true rfl, Nat.le_of_ble_eq_true rfl⟩) kz_332 (by decide) rfl rfl hl.1 rfl (Nat.le_of_ble_eq_true rfl) dX9_pick_2 ⟨Nat.zero_le _, Nat.zero_le _⟩ (fun H locs hP hS => ?_)
  refine j_if_eq (A := wr v2) (tgt := 20) hx hb rfl dX9_pick_5 (by decide) (fun q3 => ?_) (fun q3 => ?_)
  · replace h := (if_pos q3).symm.trans h
    refine j_ldc (n := (-1000000002)) hx hb hown (hts (.constant RX9 60 (-1000000002)) (by decide +kernel)) (by decide) dX9_pick_20 ?_
    obtain ⟨e0, e1⟩ := Prod.mk.inj (Option.some.inj h)
    subst e1
    exact j_retI hx hb hK hP hS hr hlk e0 dX9_pick_22
  · replace h := (if_neg q3).symm.trans h
    refine j_iload_n hx hb dX9_pick_8 rfl (lv_at hl 2 rfl) ?_
    refine j_i2l hx hb dX9_pick_9 ?_
    refine j_lconst (n := 1) hx hb dX9_pick_10 (by decide) ?_
    refine j_ldc2 (n := 30) hx hb hown (hts (.constantLong RX9 222 (30)) (by decide +kernel)) (by decide) dX9_pick_11 ?_
    obtain ⟨v5, e4, h⟩ := ob_I h
    refine jc_SI (As := [jL (wr y2), jL 1, jL 30]) (rest := []) ⟨hx, hb, hml, hown, hts⟩ hK hP hS (m_X9_in l D b cs N e4) (va_cwS 3 hts gX9_pick_X9_in rfl rfl rfl (by decide +kernel) ⟨Nat.le_of_ble_eq_true rfl, Nat.le_of_ble_eq_true rfl⟩) rfl hl.1 rfl (Nat.le_of_ble_eq_true rfl) dX9_pick_14 ⟨Nat.zero_le _, Nat.zero_le _⟩ (fun H locs hP hS => ?_)
    refine j_if_ne (A := wr v5) (tgt := 23) hx hb rfl dX9_pick_17 (by decide) (fun q6 => ?_) (fun q6 => ?_)
    · replace h := (if_neg q6).symm.trans h
      refine j_aload_n hx hb dX9_pick_23 rfl (lv_at hl 0 rfl) ?_
      obtain ⟨v8, e7, h⟩ := ob_I h
      refine jc_VI (As := []) (rest := []) ⟨hx, hb, hml, hown, hts⟩ hK hP hS (m_X9_isLoom l D b cs N e7) (cwV 0 hts gX9_pick_X9_isLoom rfl rfl rfl (by decide +kernel) ⟨Nat.le_of_ble_eq_true rfl, Nat.le_of_ble_eq_true rfl⟩) kz_332 (by decide) rfl rfl hl.1 rfl (Nat.le_of_ble_eq_true rfl) dX9_pick_24 ⟨Nat.zero_le _, Nat.zero_le _⟩ (fun H locs hP hS => ?_)
      refine j_if_eq (A := wr v8) (tgt := 39) hx hb rfl dX9_pick_27 (by decide) (fun q9 => ?_) (fun q9 => ?_)
      · replace h := (if_pos q9).symm.trans h
        refine j_ldc (n := (-1000000003)) hx hb hown (hts (.constant RX9 231 (-1000000003)) (by decide +kernel)) (by decide) dX9_pick_39 ?_
        obtain ⟨e0, e1⟩ := Prod.mk.inj (Option.some.inj h)
        subst e1
        exact j_retI hx hb hK hP hS hr hlk e0 dX9_pick_41
      · replace h := (if_neg q9).symm.trans h
        refine j_aload_n hx hb dX9_pick_30 rfl (lv_at hl 0 rfl) ?_
        refine j_iload_n hx hb dX9_pick_31 rfl (lv_at hl 1 rfl) ?_
        refine j_iload_n hx hb dX9_pick_32 rfl (lv_at hl 2 rfl) ?_
        obtain ⟨v11, μ12, e10, h⟩ := ob_P h
        refine jc_VI (As := [jI y1, jI y2]) (rest := []) ⟨hx, hb, hml, hown, hts⟩ hK hP hS (m_X9_canPick l D b cs N e10) (cwV 2 hts gX9_pick_X9_canPick rfl rfl rfl (by decide +kernel) ⟨Nat.le_of_ble_eq_true rfl, Nat.le_of_ble_eq_true rfl⟩) kz_332 (by decide) rfl rfl hl.1 rfl (Nat.le_of_ble_eq_true rfl) dX9_pick_33 ⟨Nat.zero_le _, Nat.zero_le _⟩ (fun H locs hP hS => ?_)
        refine j_if_ne (A := wr v11) (tgt := 42) hx hb rfl dX9_pick_36 (by decide) (fun q13 => ?_) (fun q13 => ?_)
        · replace h := (if_neg q13).symm.trans h
          refine j_aload_n hx hb dX9_pick_42 rfl (lv_at hl 0 rfl) ?_
          refine j_get (v := jR b 333) hx hb hts hinX9 hown hK hP kz_332 (by decide) rfl 0 (by decide) (hts (.fieldLink RX9 7 "CardBandModel" "w" "[I") (by decide +kernel)) rfl rfl dX9_pick_43 ?_
          refine j_bipush hx hb dX9_pick_46 (by decide) ?_
          obtain ⟨v14, e15, h⟩ := ob_I h
          refine j_iaload hx hb hK hP kz_333 e15 dX9_pick_48 ?_
          refine j_sipush hx hb dX9_pick_49 (by decide) ?_
          refine j_icmp_le (A := wr v14) (B := 9000) (tgt := 58) hx hb rfl (by decide) dX9_pick_52 (by decide) (fun q16 => ?_) (fun q16 => ?_)
          · replace h := (if_pos q16).symm.trans h
            refine j_iconst hx hb dX9_pick_58 ?_
            refine j_istore_n (lv2 := [(3, jI 0), (0, jR b 332), (1, jI y1), (2, jI y2)]) hx hb dX9_pick_59 rfl hl (by decide) rfl (fun ls hl => ?_)
            have hk81_17 : ∀ (μ18 : Mm) (H : Heap) (locs : List Loc) (ls : Array Slot), va_P D vwCl (wl b cs μ18) H → va_S (bA b) s.heap H locs → lv_has ls 4 [(0, jR b 332)] → fX9_pick_k81 N μ18 = some (r, μ0) → W p l e rmX9_pick s m args below meth c H locs 0 0 (MQ below (QI D b cs μ0 r) args s 0 0 (bA b)) (F0 m 81 ls []) := by
              intro μ18 H locs ls hP hS hl h
              unfold fX9_pick_k81 at h
              refine j_aload_n hx hb dX9_pick_81 rfl (lv_at hl 0 rfl) ?_
              refine j_get (v := jR b 333) hx hb hts hinX9 hown hK hP kz_332 (by decide) rfl 0 (by decide) (hts (.fieldLink RX9 7 "CardBandModel" "w" "[I") (by decide +kernel)) rfl rfl dX9_pick_82 ?_
              refine j_bipush hx hb dX9_pick_85 (by decide) ?_
              obtain ⟨v19, e20, h⟩ := ob_I h
              refine j_iaload hx hb hK hP kz_333 e20 dX9_pick_87 ?_
              obtain ⟨e0, e1⟩ := Prod.mk.inj (Option.some.inj h)
              subst e1
              exact j_retI hx hb hK hP hS hr hlk e0 dX9_pick_88
            have hl60_21 : ∀ (n0 : Nat) (x3_22 : Int) (μ23 : Mm) (H : Heap) (locs : List Loc) (ls : Array Slot), va_P D vwCl (wl b cs μ23) H → va_S (bA b) s.heap H locs → lv_has ls 4 [(0, jR b 332), (1, jI y1), (2, jI y2), (3, jI x3_22)] → fX9_pick_l60 N y1 y2 n0 x3_22 μ23 = some (r, μ0) → W p l e rmX9_pick s m args below meth c H locs 0 0 (MQ below (QI D b cs μ0 r) args s 0 0 (bA b)) (F0 m 60 ls []) := by
              intro n0
              induction n0 with
              | zero => intro x3_22 μ23 H locs ls hP hS hl h; rw [fX9_pick_l60] at h; cases h
              | succ n21 ih60_21 =>
                intro x3_22 μ23 H locs ls hP hS hl h
                rw [fX9_pick_l60] at h
                refine j_iload_n hx hb dX9_pick_60 rfl (lv_at hl 3 rfl) ?_
                refine j_iload_n hx hb dX9_pick_61 rfl (lv_at hl 2 rfl) ?_
                refine j_icmp_ge (A := wr x3_22) (B := wr y2) (tgt := 81) hx hb rfl rfl dX9_pick_62 (by decide) (fun q24 => ?_) (fun q24 => ?_)
                · replace h := (if_pos q24).symm.trans h
                  exact hk81_17 _ _ _ _ hP hS (lv_sub hl [0] rfl) h
                · replace h := (if_neg q24).symm.trans h
                  refine j_aload_n hx hb dX9_pick_65 rfl (lv_at hl 0 rfl) ?_
                  obtain ⟨μ26, e25, h⟩ := ob_I h
                  refine jc_VM (As := []) (rest := []) ⟨hx, hb, hml, hown, hts⟩ hK hP hS (m_X9_remember l D b cs N e25) (cwV 0 hts gX9_pick_X9_remember rfl rfl rfl (by decide +kernel) ⟨Nat.le_of_ble_eq_true rfl, Nat.le_of_ble_eq_true rfl⟩) kz_332 (by decide) rfl rfl hl.1 rfl (Nat.le_of_ble_eq_true rfl) dX9_pick_66 ⟨Nat.zero_le _, Nat.zero_le _⟩ (fun H locs hP hS => ?_)
                  refine j_aload_n hx hb dX9_pick_69 rfl (lv_at hl 0 rfl) ?_
                  refine j_iconst hx hb dX9_pick_70 ?_
                  refine j_iload_n hx hb dX9_pick_71 rfl (lv_at hl 1 rfl) ?_
                  obtain ⟨μ28, e27, h⟩ := ob_I h
                  refine jc_VM (As := [jI 0, jI y1]) (rest := []) ⟨hx, hb, hml, hown, hts⟩ hK hP hS (m_X9_pickIn l D b cs N e27) (cwV 2 hts gX9_pick_X9_pickIn rfl rfl rfl (by decide +kernel) ⟨Nat.le_of_ble_eq_true rfl, Nat.le_of_ble_eq_true rfl⟩) kz_332 (by decide) rfl rfl hl.1 rfl (Nat.le_of_ble_eq_true rfl) dX9_pick_72 ⟨Nat.zero_le _, Nat.zero_le _⟩ (fun H locs hP hS => ?_)
                  refine j_iinc (k := 3) (lv2 := [(3, jI (x3_22 + 1)), (0, jR b 332), (1, jI y1), (2, jI y2)]) hx hb dX9_pick_75 hl rfl (by decide) rfl (fun ls hl => ?_)
                  refine j_goto (tgt := 60) hx hb dX9_pick_78 (by decide) ?_
                  exact ih60_21 _ _ _ _ _ hP hS (lv_sub hl [1, 2, 3, 0] rfl) h
            exact hl60_21 N _ _ _ _ _ hP hS (lv_sub hl [1, 2, 3, 0] rfl) h
          · replace h := (if_neg q16).symm.trans h
            refine j_ldc (n := (-1000000004)) hx hb hown (hts (.constant RX9 64 (-1000000004)) (by decide +kernel)) (by decide) dX9_pick_55 ?_
            obtain ⟨e0, e1⟩ := Prod.mk.inj (Option.some.inj h)
            subst e1
            exact j_retI hx hb hK hP hS hr hlk e0 dX9_pick_57
        · replace h := (if_pos q13).symm.trans h
          refine j_ldc (n := (-1000000003)) hx hb hown (hts (.constant RX9 231 (-1000000003)) (by decide +kernel)) (by decide) dX9_pick_39 ?_
          obtain ⟨e0, e1⟩ := Prod.mk.inj (Option.some.inj h)
          subst e1
          exact j_retI hx hb hK hP hS hr hlk e0 dX9_pick_41
    · replace h := (if_pos q6).symm.trans h
      refine j_ldc (n := (-1000000002)) hx hb hown (hts (.constant RX9 60 (-1000000002)) (by decide +kernel)) (by decide) dX9_pick_20 ?_
      obtain ⟨e0, e1⟩ := Prod.mk.inj (Option.some.inj h)
      subst e1
      exact j_retI hx hb hK hP hS hr hlk e0 dX9_pick_22
def fX9_plain_l34 (N : Nat) (y1 : Int) (y2 : Int) : Nat → Int → Int → Option (Int)
  | 0, _, _ => none
  | n7 + 1, x3_8, x5_9 =>
    if wr y1 ≤ wr x5_9 then (some x3_8) else ((fX9_plain_l34 N y1 y2 n7) (dvL (x3_8 * (wr y2)) 100) (x5_9 + 1))
def fX9_plain (N : Nat) (y1 : Int) (y2 : Int) (μ : Mm) : Option (Int) :=
    Option.bind (fX9_in N (wr y1) 0 60 μ) (fun v2 => if wr v2 = 0 then (some (-1000000002)) else (Option.bind (fX9_in N (wr y2) 0 100 μ) (fun v5 => if wr v5 = 0 then (some (-1000000002)) else (fX9_plain_l34 N y1 y2 N 1000000000 0))))
abbrev rmX9_plain : Room := { frames := 1, cells := 0, slots := 0, locals := 25 }
set_option maxHeartbeats 4000000 in
set_option maxRecDepth 100000 in
theorem m_X9_plain (l : Launch) (D : va_G) (b : Nat) (cs : CS) (N : Nat) {μ : Mm} {y1 y2 : Int} {r : Int} (h : fX9_plain N y1 y2 μ = some r) : MI l yX9_plain wsX9_plain rmX9_plain D b cs [jR b 332, jI y1, jI y2] μ μ r := by
  refine met_in (cc := cX9_plain) (maxL := 6) (ret := some .int) (lv0 := [(0, jR b 332), (1, jI y1), (2, jI y2)]) (by decide +kernel) rfl (Nat.le_of_ble_eq_true rfl) rfl ?_
  intro p e s m args below meth c hx hb hr hlk hml hown hts hP hK ls hl
  have hown : s.vm.findClass RX9 = some m.cls := hown
  have hS : va_S (bA b) s.heap s.heap [] := va_S.rf
  unfold fX9_plain at h
  refine j_iload_n hx hb dX9_plain_0 rfl (lv_at hl 1 rfl) ?_
  refine j_i2l hx hb dX9_plain_1 ?_
  refine j_lconst (n := 0) hx hb dX9_plain_2 (by decide) ?_
  refine j_ldc2 (n := 60) hx hb hown (hts (.constantLong RX9 284 (60)) (by decide +kernel)) (by decide) dX9_plain_3 ?_
  obtain ⟨v2, e1, h⟩ := ob_I h
  refine jc_SI (As := [jL (wr y1), jL 0, jL 60]) (rest := []) ⟨hx, hb, hml, hown, hts⟩ hK hP hS (m_X9_in l D b cs N e1) (va_cwS 3 hts gX9_plain_X9_in rfl rfl rfl (by decide +kernel) ⟨Nat.le_of_ble_eq_true rfl, Nat.le_of_ble_eq_true rfl⟩) rfl hl.1 rfl (Nat.le_of_ble_eq_true rfl) dX9_plain_6 ⟨Nat.zero_le _, Nat.zero_le _⟩ (fun H locs hP hS => ?_)
  refine j_if_eq (A := wr v2) (tgt := 24) hx hb rfl dX9_plain_9 (by decide) (fun q3 => ?_) (fun q3 => ?_)
  · replace h := (if_pos q3).symm.trans h
    refine j_ldc (n := (-1000000002)) hx hb hown (hts (.constant RX9 60 (-1000000002)) (by decide +kernel)) (by decide) dX9_plain_24 ?_
    exact j_retI hx hb hK hP hS hr hlk (Option.some.inj h) dX9_plain_26
  · replace h := (if_neg q3).symm.trans h
    refine j_iload_n hx hb dX9_plain_12 rfl (lv_at hl 2 rfl) ?_
    refine j_i2l hx hb dX9_plain_13 ?_
    refine j_lconst (n := 0) hx hb dX9_plain_14 (by decide) ?_
    refine j_ldc2 (n := 100) hx hb hown (hts (.constantLong RX9 286 (100)) (by decide +kernel)) (by decide) dX9_plain_15 ?_
    obtain ⟨v5, e4, h⟩ := ob_I h
    refine jc_SI (As := [jL (wr y2), jL 0, jL 100]) (rest := []) ⟨hx, hb, hml, hown, hts⟩ hK hP hS (m_X9_in l D b cs N e4) (va_cwS 3 hts gX9_plain_X9_in rfl rfl rfl (by decide +kernel) ⟨Nat.le_of_ble_eq_true rfl, Nat.le_of_ble_eq_true rfl⟩) rfl hl.1 rfl (Nat.le_of_ble_eq_true rfl) dX9_plain_18 ⟨Nat.zero_le _, Nat.zero_le _⟩ (fun H locs hP hS => ?_)
    refine j_if_ne (A := wr v5) (tgt := 27) hx hb rfl dX9_plain_21 (by decide) (fun q6 => ?_) (fun q6 => ?_)
    · replace h := (if_neg q6).symm.trans h
      refine j_ldc2 (n := 1000000000) hx hb hown (hts (.constantLong RX9 288 (1000000000)) (by decide +kernel)) (by decide) dX9_plain_27 ?_
      refine j_lstore_n (lv2 := [(3, jL 1000000000), (0, jR b 332), (1, jI y1), (2, jI y2)]) hx hb dX9_plain_30 rfl hl (by decide) rfl (fun ls hl => ?_)
      refine j_iconst hx hb dX9_plain_31 ?_
      refine j_istore (lv2 := [(5, jI 0), (3, jL 1000000000), (0, jR b 332), (1, jI y1), (2, jI y2)]) hx hb dX9_plain_32 hl (by decide) rfl (fun ls hl => ?_)
      have hl34_7 : ∀ (n0 : Nat) (x3_8 : Int) (x5_9 : Int) (H : Heap) (locs : List Loc) (ls : Array Slot), va_P D vwCl (wl b cs μ) H → va_S (bA b) s.heap H locs → lv_has ls 6 [(1, jI y1), (2, jI y2), (3, jL x3_8), (5, jI x5_9)] → fX9_plain_l34 N y1 y2 n0 x3_8 x5_9 = some r → W p l e rmX9_plain s m args below meth c H locs 0 0 (MQ below (QI D b cs μ r) args s 0 0 (bA b)) (F0 m 34 ls []) := by
        intro n0
        induction n0 with
        | zero => intro x3_8 x5_9 H locs ls hP hS hl h; rw [fX9_plain_l34] at h; cases h
        | succ n7 ih34_7 =>
          intro x3_8 x5_9 H locs ls hP hS hl h
          rw [fX9_plain_l34] at h
          refine j_iload hx hb dX9_plain_34 (lv_at hl 3 rfl) ?_
          refine j_iload_n hx hb dX9_plain_36 rfl (lv_at hl 0 rfl) ?_
          refine j_icmp_ge (A := wr x5_9) (B := wr y1) (tgt := 55) hx hb rfl rfl dX9_plain_37 (by decide) (fun q10 => ?_) (fun q10 => ?_)
          · replace h := (if_pos q10).symm.trans h
            refine j_lload_n hx hb dX9_plain_55 rfl (lv_at hl 2 rfl) ?_
            refine j_l2i hx hb dX9_plain_56 ?_
            exact j_retI hx hb hK hP hS hr hlk (Option.some.inj h) dX9_plain_57
          · replace h := (if_neg q10).symm.trans h
            refine j_lload_n hx hb dX9_plain_40 rfl (lv_at hl 2 rfl) ?_
            refine j_iload_n hx hb dX9_plain_41 rfl (lv_at hl 1 rfl) ?_
            refine j_i2l hx hb dX9_plain_42 ?_
            refine j_lmul hx hb dX9_plain_43 ?_
            refine j_ldc2 (n := 100) hx hb hown (hts (.constantLong RX9 286 (100)) (by decide +kernel)) (by decide) dX9_plain_44 ?_
            refine j_ldiv hx hb dX9_plain_47 (by decide) ?_
            refine j_lstore_n (lv2 := [(3, jL (dvL (x3_8 * (wr y2)) 100)), (1, jI y1), (2, jI y2), (5, jI x5_9)]) hx hb dX9_plain_48 rfl hl (by decide) rfl (fun ls hl => ?_)
            refine j_iinc (k := 3) (lv2 := [(5, jI (x5_9 + 1)), (3, jL (dvL (x3_8 * (wr y2)) 100)), (1, jI y1), (2, jI y2)]) hx hb dX9_plain_49 hl rfl (by decide) rfl (fun ls hl => ?_)
            refine j_goto (tgt := 34) hx hb dX9_plain_52 (by decide) ?_
            exact ih34_7 _ _ _ _ _ hP hS (lv_sub hl [2, 3, 1, 0] rfl) h
      exact hl34_7 N _ _ _ _ _ hP hS (lv_sub hl [3, 4, 1, 0] rfl) h
    · replace h := (if_pos q6).symm.trans h
      refine j_ldc (n := (-1000000002)) hx hb hown (hts (.constant RX9 60 (-1000000002)) (by decide +kernel)) (by decide) dX9_plain_24 ?_
      exact j_retI hx hb hK hP hS hr hlk (Option.some.inj h) dX9_plain_26
def fX9_repeat_k99 (N : Nat) : Int → Int → Option (Int) := fun x1_5 x2_6 =>
    if wr x1_5 = 0 then (if wr x2_6 = 0 then (some 4) else (some 2)) else (some 1)
def fX9_repeat_j63 (N : Nat) (μ : Mm) (x1_10 : Int) (x3_12 : Int) (rec16_9 : Int → Int → Int → Option (Int)) : Int → Option (Int) := fun s15 =>
    if wr x1_10 = 0 then (rec16_9 0 s15 (x3_12 + 1)) else (if wr s15 = 0 then (rec16_9 0 s15 (x3_12 + 1)) else (Option.bind (fX9_colourOf N x3_12 0 μ) (fun v19 => Option.bind (fX9_colourOf N x3_12 1 μ) (fun v21 => if wr v19 = wr v21 then (rec16_9 1 s15 (x3_12 + 1)) else (rec16_9 0 s15 (x3_12 + 1))))))
def fX9_repeat_l16 (N : Nat) (μ : Mm) : Nat → Int → Int → Int → Option (Int)
  | 0, _, _, _ => none
  | n9 + 1, x1_10, x2_11, x3_12 =>
    if wr (gI μ 332 6) ≤ wr x3_12 then (fX9_repeat_k99 N x1_10 x2_11) else (if wr x2_11 = 0 then (fX9_repeat_j63 N μ x1_10 x3_12 (fX9_repeat_l16 N μ n9) 0) else (Option.bind (fX9_colourOf N x3_12 0 μ) (fun v25 => Option.bind (fX9_colourOf N x3_12 2 μ) (fun v27 => if wr v25 = wr v27 then (Option.bind (fX9_colourOf N x3_12 1 μ) (fun v30 => Option.bind (fX9_colourOf N x3_12 3 μ) (fun v32 => if wr v30 = wr v32 then (fX9_repeat_j63 N μ x1_10 x3_12 (fX9_repeat_l16 N μ n9) 1) else (fX9_repeat_j63 N μ x1_10 x3_12 (fX9_repeat_l16 N μ n9) 0)))) else (fX9_repeat_j63 N μ x1_10 x3_12 (fX9_repeat_l16 N μ n9) 0)))))
def fX9_repeat (N : Nat) (μ : Mm) : Option (Int) :=
    Option.bind (fX9_isLoom N μ) (fun v2 => if wr v2 = 0 then (some (-1000000003)) else (fX9_repeat_l16 N μ N 1 1 0))
abbrev rmX9_repeat : Room := { frames := 1, cells := 0, slots := 0, locals := 22 }
set_option maxHeartbeats 4000000 in
set_option maxRecDepth 100000 in
theorem m_X9_repeat (l : Launch) (D : va_G) (b : Nat) (cs : CS) (N : Nat) {μ : Mm} {r : Int} (h : fX9_repeat N μ = some r) : MI l yX9_repeat wsX9_repeat rmX9_repeat D b cs [jR b 332] μ μ r := by
  refine met_in (cc := cX9_repeat) (maxL := 4) (ret := some .int) (lv0 := [(0, jR b 332)]) (by decide +kernel) rfl (Nat.le_of_ble_eq_true rfl) rfl ?_
  intro p e s m args below meth c hx hb hr hlk hml hown hts hP hK ls hl
  have hown : s.vm.findClass RX9 = some m.cls := hown
  have hS : va_S (bA b) s.heap s.heap [] := va_S.rf
  have hinX9 : ∀ w ∈ u_ws RX9 TX9 27, w ∈ wsX9_repeat := by decide +kernel
  unfold fX9_repeat at h
  refine j_aload_n hx hb dX9_repeat_0 rfl (lv_at hl 0 rfl) ?_
  obtain ⟨v2, e1, h⟩ := ob_I h
  refine jc_VI (As := []) (rest := []) ⟨hx, hb, hml, hown, hts⟩ hK hP hS (m_X9_isLoom l D b cs N e1) (cwV 0 hts gX9_repeat_X9_isLoom rfl rfl rfl (by decide +kernel) ⟨Nat.le_of_ble_eq_true rfl, Nat.le_of_ble_eq_true rfl⟩) kz_332 (by decide) rfl rfl hl.1 rfl (Nat.le_of_ble_eq_true rfl) dX9_repeat_1 ⟨Nat.zero_le _, Nat.zero_le _⟩ (fun H locs hP hS => ?_)
  refine j_if_ne (A := wr v2) (tgt := 10) hx hb rfl dX9_repeat_4 (by decide) (fun q3 => ?_) (fun q3 => ?_)
  · replace h := (if_neg q3).symm.trans h
    refine j_iconst hx hb dX9_repeat_10 ?_
    refine j_istore_n (lv2 := [(1, jI 1), (0, jR b 332)]) hx hb dX9_repeat_11 rfl hl (by decide) rfl (fun ls hl => ?_)
    refine j_iconst hx hb dX9_repeat_12 ?_
    refine j_istore_n (lv2 := [(2, jI 1), (1, jI 1), (0, jR b 332)]) hx hb dX9_repeat_13 rfl hl (by decide) rfl (fun ls hl => ?_)
    refine j_iconst hx hb dX9_repeat_14 ?_
    refine j_istore_n (lv2 := [(3, jI 0), (2, jI 1), (1, jI 1), (0, jR b 332)]) hx hb dX9_repeat_15 rfl hl (by decide) rfl (fun ls hl => ?_)
    have hk99_4 : ∀ (x1_5 : Int) (x2_6 : Int) (H : Heap) (locs : List Loc) (ls : Array Slot), va_P D vwCl (wl b cs μ) H → va_S (bA b) s.heap H locs → lv_has ls 4 [(1, jI x1_5), (2, jI x2_6)] → fX9_repeat_k99 N x1_5 x2_6 = some r → W p l e rmX9_repeat s m args below meth c H locs 0 0 (MQ below (QI D b cs μ r) args s 0 0 (bA b)) (F0 m 99 ls []) := by
      intro x1_5 x2_6 H locs ls hP hS hl h
      unfold fX9_repeat_k99 at h
      refine j_iload_n hx hb dX9_repeat_99 rfl (lv_at hl 0 rfl) ?_
      refine j_if_eq (A := wr x1_5) (tgt := 107) hx hb rfl dX9_repeat_100 (by decide) (fun q7 => ?_) (fun q7 => ?_)
      · replace h := (if_pos q7).symm.trans h
        refine j_iload_n hx hb dX9_repeat_107 rfl (lv_at hl 1 rfl) ?_
        refine j_if_eq (A := wr x2_6) (tgt := 115) hx hb rfl dX9_repeat_108 (by decide) (fun q8 => ?_) (fun q8 => ?_)
        · replace h := (if_pos q8).symm.trans h
          refine j_iconst hx hb dX9_repeat_115 ?_
          exact j_retI hx hb hK hP hS hr hlk (Option.some.inj h) dX9_repeat_116
        · replace h := (if_neg q8).symm.trans h
          refine j_iconst hx hb dX9_repeat_111 ?_
          refine j_goto (tgt := 116) hx hb dX9_repeat_112 (by decide) ?_
          exact j_retI hx hb hK hP hS hr hlk (Option.some.inj h) dX9_repeat_116
      · replace h := (if_neg q7).symm.trans h
        refine j_iconst hx hb dX9_repeat_103 ?_
        refine j_goto (tgt := 116) hx hb dX9_repeat_104 (by decide) ?_
        exact j_retI hx hb hK hP hS hr hlk (Option.some.inj h) dX9_repeat_116
    have hl16_9 : ∀ (n0 : Nat) (x1_10 : Int) (x2_11 : Int) (x3_12 : Int) (H : Heap) (locs : List Loc) (ls : Array Slot), va_P D vwCl (wl b cs μ) H → va_S (bA b) s.heap H locs → lv_has ls 4 [(0, jR b 332), (1, jI x1_10), (2, jI x2_11), (3, jI x3_12)] → fX9_repeat_l16 N μ n0 x1_10 x2_11 x3_12 = some r → W p l e rmX9_repeat s m args below meth c H locs 0 0 (MQ below (QI D b cs μ r) args s 0 0 (bA b)) (F0 m 16 ls []) := by
      intro n0
      induction n0 with
      | zero => intro x1_10 x2_11 x3_12 H locs ls hP hS hl h; rw [fX9_repeat_l16] at h; cases h
      | succ n9 ih16_9 =>
        intro x1_10 x2_11 x3_12 H locs ls hP hS hl h
        rw [fX9_repeat_l16] at h
        refine j_iload_n hx hb dX9_repeat_16 rfl (lv_at hl 3 rfl) ?_
        refine j_aload_n hx hb dX9_repeat_17 rfl (lv_at hl 0 rfl) ?_
        refine j_get (v := jI (gI μ 332 6)) hx hb hts hinX9 hown hK hP kz_332 (by decide) rfl 6 (by decide) (hts (.fieldLink RX9 122 "CardBandModel" "cards" "I") (by decide +kernel)) rfl (by rw [jI_g]; rfl) dX9_repeat_18 ?_
        refine j_icmp_ge (A := wr x3_12) (B := wr (gI μ 332 6)) (tgt := 99) hx hb rfl rfl dX9_repeat_21 (by decide) (fun q13 => ?_) (fun q13 => ?_)
        · replace h := (if_pos q13).symm.trans h
          exact hk99_4 _ _ _ _ _ hP hS (lv_sub hl [1, 2] rfl) h
        · replace h := (if_neg q13).symm.trans h
          refine j_iload_n hx hb dX9_repeat_24 rfl (lv_at hl 2 rfl) ?_
          have hj63_14 : ∀ (s15 : Int) (H : Heap) (locs : List Loc) (ls : Array Slot), va_P D vwCl (wl b cs μ) H → va_S (bA b) s.heap H locs → lv_has ls 4 [(0, jR b 332), (1, jI x1_10), (3, jI x3_12)] → fX9_repeat_j63 N μ x1_10 x3_12 (fX9_repeat_l16 N μ n9) s15 = some r → W p l e rmX9_repeat s m args below meth c H locs 0 0 (MQ below (QI D b cs μ r) args s 0 0 (bA b)) (F0 m 63 ls [jI s15]) := by
            intro s15 H locs ls hP hS hl h
            unfold fX9_repeat_j63 at h
            refine j_istore_n (lv2 := [(2, jI s15), (0, jR b 332), (1, jI x1_10), (3, jI x3_12)]) hx hb dX9_repeat_63 rfl hl (by decide) rfl (fun ls hl => ?_)
            refine j_iload_n hx hb dX9_repeat_64 rfl (lv_at hl 2 rfl) ?_
            refine j_if_eq (A := wr x1_10) (tgt := 91) hx hb rfl dX9_repeat_65 (by decide) (fun q16 => ?_) (fun q16 => ?_)
            · replace h := (if_pos q16).symm.trans h
              refine j_iconst hx hb dX9_repeat_91 ?_
              refine j_istore_n (lv2 := [(1, jI 0), (2, jI s15), (0, jR b 332), (3, jI x3_12)]) hx hb dX9_repeat_92 rfl hl (by decide) rfl (fun ls hl => ?_)
              refine j_iinc (k := 3) (lv2 := [(3, jI (x3_12 + 1)), (1, jI 0), (2, jI s15), (0, jR b 332)]) hx hb dX9_repeat_93 hl rfl (by decide) rfl (fun ls hl => ?_)
              refine j_goto (tgt := 16) hx hb dX9_repeat_96 (by decide) ?_
              exact ih16_9 _ _ _ _ _ _ hP hS (lv_sub hl [3, 1, 2, 0] rfl) h
            · replace h := (if_neg q16).symm.trans h
              refine j_iload_n hx hb dX9_repeat_68 rfl (lv_at hl 0 rfl) ?_
              refine j_if_eq (A := wr s15) (tgt := 91) hx hb rfl dX9_repeat_69 (by decide) (fun q17 => ?_) (fun q17 => ?_)
              · replace h := (if_pos q17).symm.trans h
                refine j_iconst hx hb dX9_repeat_91 ?_
                refine j_istore_n (lv2 := [(1, jI 0), (2, jI s15), (0, jR b 332), (3, jI x3_12)]) hx hb dX9_repeat_92 rfl hl (by decide) rfl (fun ls hl => ?_)
                refine j_iinc (k := 3) (lv2 := [(3, jI (x3_12 + 1)), (1, jI 0), (2, jI s15), (0, jR b 332)]) hx hb dX9_repeat_93 hl rfl (by decide) rfl (fun ls hl => ?_)
                refine j_goto (tgt := 16) hx hb dX9_repeat_96 (by decide) ?_
                exact ih16_9 _ _ _ _ _ _ hP hS (lv_sub hl [3, 1, 2, 0] rfl) h
              · replace h := (if_neg q17).symm.trans h
                refine j_aload_n hx hb dX9_repeat_72 rfl (lv_at hl 1 rfl) ?_
                refine j_iload_n hx hb dX9_repeat_73 rfl (lv_at hl 3 rfl) ?_
                refine j_iconst hx hb dX9_repeat_74 ?_
                obtain ⟨v19, e18, h⟩ := ob_I h
                refine jc_VI (As := [jI x3_12, jI 0]) (rest := []) ⟨hx, hb, hml, hown, hts⟩ hK hP hS (m_X9_colourOf l D b cs N e18) (cwV 2 hts gX9_repeat_X9_colourOf rfl rfl rfl (by decide +kernel) ⟨Nat.le_of_ble_eq_true rfl, Nat.le_of_ble_eq_true rfl⟩) kz_332 (by decide) rfl rfl hl.1 rfl (Nat.le_of_ble_eq_true rfl) dX9_repeat_75 ⟨Nat.zero_le _, Nat.zero_le _⟩ (fun H locs hP hS => ?_)
                refine j_aload_n hx hb dX9_repeat_78 rfl (lv_at hl 1 rfl) ?_
                refine j_iload_n hx hb dX9_repeat_79 rfl (lv_at hl 3 rfl) ?_
                refine j_iconst hx hb dX9_repeat_80 ?_
                obtain ⟨v21, e20, h⟩ := ob_I h
                refine jc_VI (As := [jI x3_12, jI 1]) (rest := [jI v19]) ⟨hx, hb, hml, hown, hts⟩ hK hP hS (m_X9_colourOf l D b cs N e20) (cwV 2 hts gX9_repeat_X9_colourOf rfl rfl rfl (by decide +kernel) ⟨Nat.le_of_ble_eq_true rfl, Nat.le_of_ble_eq_true rfl⟩) kz_332 (by decide) rfl rfl hl.1 rfl (Nat.le_of_ble_eq_true rfl) dX9_repeat_81 ⟨Nat.zero_le _, Nat.zero_le _⟩ (fun H locs hP hS => ?_)
                refine j_icmp_ne (A := wr v19) (B := wr v21) (tgt := 91) hx hb rfl rfl dX9_repeat_84 (by decide) (fun q22 => ?_) (fun q22 => ?_)
                · replace h := (if_neg q22).symm.trans h
                  refine j_iconst hx hb dX9_repeat_91 ?_
                  refine j_istore_n (lv2 := [(1, jI 0), (2, jI s15), (0, jR b 332), (3, jI x3_12)]) hx hb dX9_repeat_92 rfl hl (by decide) rfl (fun ls hl => ?_)
                  refine j_iinc (k := 3) (lv2 := [(3, jI (x3_12 + 1)), (1, jI 0), (2, jI s15), (0, jR b 332)]) hx hb dX9_repeat_93 hl rfl (by decide) rfl (fun ls hl => ?_)
                  refine j_goto (tgt := 16) hx hb dX9_repeat_96 (by decide) ?_
                  exact ih16_9 _ _ _ _ _ _ hP hS (lv_sub hl [3, 1, 2, 0] rfl) h
                · replace h := (if_pos q22).symm.trans h
                  refine j_iconst hx hb dX9_repeat_87 ?_
                  refine j_goto (tgt := 92) hx hb dX9_repeat_88 (by decide) ?_
                  refine j_istore_n (lv2 := [(1, jI 1), (2, jI s15), (0, jR b 332), (3, jI x3_12)]) hx hb dX9_repeat_92 rfl hl (by decide) rfl (fun ls hl => ?_)
                  refine j_iinc (k := 3) (lv2 := [(3, jI (x3_12 + 1)), (1, jI 1), (2, jI s15), (0, jR b 332)]) hx hb dX9_repeat_93 hl rfl (by decide) rfl (fun ls hl => ?_)
                  refine j_goto (tgt := 16) hx hb dX9_repeat_96 (by decide) ?_
                  exact ih16_9 _ _ _ _ _ _ hP hS (lv_sub hl [3, 1, 2, 0] rfl) h
          refine j_if_eq (A := wr x2_11) (tgt := 62) hx hb rfl dX9_repeat_25 (by decide) (fun q23 => ?_) (fun q23 => ?_)
          · replace h := (if_pos q23).symm.trans h
            refine j_iconst hx hb dX9_repeat_62 ?_
            exact hj63_14 _ _ _ _ hP hS (lv_sub hl [0, 1, 3] rfl) h
          · replace h := (if_neg q23).symm.trans h
            refine j_aload_n hx hb dX9_repeat_28 rfl (lv_at hl 0 rfl) ?_
            refine j_iload_n hx hb dX9_repeat_29 rfl (lv_at hl 3 rfl) ?_
            refine j_iconst hx hb dX9_repeat_30 ?_
            obtain ⟨v25, e24, h⟩ := ob_I h
            refine jc_VI (As := [jI x3_12, jI 0]) (rest := []) ⟨hx, hb, hml, hown, hts⟩ hK hP hS (m_X9_colourOf l D b cs N e24) (cwV 2 hts gX9_repeat_X9_colourOf rfl rfl rfl (by decide +kernel) ⟨Nat.le_of_ble_eq_true rfl, Nat.le_of_ble_eq_true rfl⟩) kz_332 (by decide) rfl rfl hl.1 rfl (Nat.le_of_ble_eq_true rfl) dX9_repeat_31 ⟨Nat.zero_le _, Nat.zero_le _⟩ (fun H locs hP hS => ?_)
            refine j_aload_n hx hb dX9_repeat_34 rfl (lv_at hl 0 rfl) ?_
            refine j_iload_n hx hb dX9_repeat_35 rfl (lv_at hl 3 rfl) ?_
            refine j_iconst hx hb dX9_repeat_36 ?_
            obtain ⟨v27, e26, h⟩ := ob_I h
            refine jc_VI (As := [jI x3_12, jI 2]) (rest := [jI v25]) ⟨hx, hb, hml, hown, hts⟩ hK hP hS (m_X9_colourOf l D b cs N e26) (cwV 2 hts gX9_repeat_X9_colourOf rfl rfl rfl (by decide +kernel) ⟨Nat.le_of_ble_eq_true rfl, Nat.le_of_ble_eq_true rfl⟩) kz_332 (by decide) rfl rfl hl.1 rfl (Nat.le_of_ble_eq_true rfl) dX9_repeat_37 ⟨Nat.zero_le _, Nat.zero_le _⟩ (fun H locs hP hS => ?_)
            refine j_icmp_ne (A := wr v25) (B := wr v27) (tgt := 62) hx hb rfl rfl dX9_repeat_40 (by decide) (fun q28 => ?_) (fun q28 => ?_)
            · replace h := (if_neg q28).symm.trans h
              refine j_iconst hx hb dX9_repeat_62 ?_
              exact hj63_14 _ _ _ _ hP hS (lv_sub hl [0, 1, 3] rfl) h
            · replace h := (if_pos q28).symm.trans h
              refine j_aload_n hx hb dX9_repeat_43 rfl (lv_at hl 0 rfl) ?_
              refine j_iload_n hx hb dX9_repeat_44 rfl (lv_at hl 3 rfl) ?_
              refine j_iconst hx hb dX9_repeat_45 ?_
              obtain ⟨v30, e29, h⟩ := ob_I h
              refine jc_VI (As := [jI x3_12, jI 1]) (rest := []) ⟨hx, hb, hml, hown, hts⟩ hK hP hS (m_X9_colourOf l D b cs N e29) (cwV 2 hts gX9_repeat_X9_colourOf rfl rfl rfl (by decide +kernel) ⟨Nat.le_of_ble_eq_true rfl, Nat.le_of_ble_eq_true rfl⟩) kz_332 (by decide) rfl rfl hl.1 rfl (Nat.le_of_ble_eq_true rfl) dX9_repeat_46 ⟨Nat.zero_le _, Nat.zero_le _⟩ (fun H locs hP hS => ?_)
              refine j_aload_n hx hb dX9_repeat_49 rfl (lv_at hl 0 rfl) ?_
              refine j_iload_n hx hb dX9_repeat_50 rfl (lv_at hl 3 rfl) ?_
              refine j_iconst hx hb dX9_repeat_51 ?_
              obtain ⟨v32, e31, h⟩ := ob_I h
              refine jc_VI (As := [jI x3_12, jI 3]) (rest := [jI v30]) ⟨hx, hb, hml, hown, hts⟩ hK hP hS (m_X9_colourOf l D b cs N e31) (cwV 2 hts gX9_repeat_X9_colourOf rfl rfl rfl (by decide +kernel) ⟨Nat.le_of_ble_eq_true rfl, Nat.le_of_ble_eq_true rfl⟩) kz_332 (by decide) rfl rfl hl.1 rfl (Nat.le_of_ble_eq_true rfl) dX9_repeat_52 ⟨Nat.zero_le _, Nat.zero_le _⟩ (fun H locs hP hS => ?_)
              refine j_icmp_ne (A := wr v30) (B := wr v32) (tgt := 62) hx hb rfl rfl dX9_repeat_55 (by decide) (fun q33 => ?_) (fun q33 => ?_)
              · replace h := (if_neg q33).symm.trans h
                refine j_iconst hx hb dX9_repeat_62 ?_
                exact hj63_14 _ _ _ _ hP hS (lv_sub hl [0, 1, 3] rfl) h
              · replace h := (if_pos q33).symm.trans h
                refine j_iconst hx hb dX9_repeat_58 ?_
                refine j_goto (tgt := 63) hx hb dX9_repeat_59 (by decide) ?_
                exact hj63_14 _ _ _ _ hP hS (lv_sub hl [0, 1, 3] rfl) h
    exact hl16_9 N _ _ _ _ _ _ hP hS (lv_sub hl [3, 2, 1, 0] rfl) h
  · replace h := (if_pos q3).symm.trans h
    refine j_ldc (n := (-1000000003)) hx hb hown (hts (.constant RX9 231 (-1000000003)) (by decide +kernel)) (by decide) dX9_repeat_7 ?_
    exact j_retI hx hb hK hP hS hr hlk (Option.some.inj h) dX9_repeat_9
def fX9_row (N : Nat) (y1 : Int) (y2 : Int) (μ : Mm) : Option (Int) :=
    Option.bind (fX9_isCard N y2 μ) (fun v2 => if wr v2 = 0 then (some (-1000000001)) else (Option.bind (ldA μ 333 8262 49) (fun v4 => Option.bind (fX9_in N (wr y1) 0 (wr (v4 - 1)) μ) (fun v7 => if wr v7 = 0 then (some (-1)) else (Option.bind (fX9_was N y1 y2 μ) (fun v10 => some v10))))))
abbrev rmX9_row : Room := { frames := 2, cells := 0, slots := 0, locals := 46 }
set_option maxHeartbeats 4000000 in
set_option maxRecDepth 100000 in
theorem m_X9_row (l : Launch) (D : va_G) (b : Nat) (cs : CS) (N : Nat) {μ : Mm} {y1 y2 : Int} {r : Int} (h : fX9_row N y1 y2 μ = some r) : MI l yX9_row wsX9_row rmX9_row D b cs [jR b 332, jI y1, jI y2] μ μ r := by
  refine met_in (cc := cX9_row) (maxL := 3) (ret := some .int) (lv0 := [(0, jR b 332), (1, jI y1), (2, jI y2)]) (by decide +kernel) rfl (Nat.le_of_ble_eq_true rfl) rfl ?_
  intro p e s m args below meth c hx hb hr hlk hml hown hts hP hK ls hl
  have hown : s.vm.findClass RX9 = some m.cls := hown
  have hS : va_S (bA b) s.heap s.heap [] := va_S.rf
  have hinX9 : ∀ w ∈ u_ws RX9 TX9 27, w ∈ wsX9_row := by decide +kernel
  unfold fX9_row at h
  refine j_aload_n hx hb dX9_row_0 rfl (lv_at hl 0 rfl) ?_
  refine j_iload_n hx hb dX9_row_1 rfl (lv_at hl 2 rfl) ?_
  obtain ⟨v2, e1, h⟩ := ob_I h
  refine jc_VI (As := [jI y2]) (rest := []) ⟨hx, hb, hml, hown, hts⟩ hK hP hS (m_X9_isCard l D b cs N e1) (cwV 1 hts gX9_row_X9_isCard rfl rfl rfl (by decide +kernel) ⟨Nat.le_of_ble_eq_true rfl, Nat.le_of_ble_eq_true rfl⟩) kz_332 (by decide) rfl rfl hl.1 rfl (Nat.le_of_ble_eq_true rfl) dX9_row_2 ⟨Nat.zero_le _, Nat.zero_le _⟩ (fun H locs hP hS => ?_)
  refine j_if_ne (A := wr v2) (tgt := 11) hx hb rfl dX9_row_5 (by decide) (fun q3 => ?_) (fun q3 => ?_)
  · replace h := (if_neg q3).symm.trans h
    refine j_iload_n hx hb dX9_row_11 rfl (lv_at hl 1 rfl) ?_
    refine j_i2l hx hb dX9_row_12 ?_
    refine j_lconst (n := 0) hx hb dX9_row_13 (by decide) ?_
    refine j_aload_n hx hb dX9_row_14 rfl (lv_at hl 0 rfl) ?_
    refine j_get (v := jR b 333) hx hb hts hinX9 hown hK hP kz_332 (by decide) rfl 0 (by decide) (hts (.fieldLink RX9 7 "CardBandModel" "w" "[I") (by decide +kernel)) rfl rfl dX9_row_15 ?_
    refine j_bipush hx hb dX9_row_18 (by decide) ?_
    obtain ⟨v4, e5, h⟩ := ob_I h
    refine j_iaload hx hb hK hP kz_333 e5 dX9_row_20 ?_
    refine j_iconst hx hb dX9_row_21 ?_
    refine j_isub hx hb dX9_row_22 ?_
    refine j_i2l hx hb dX9_row_23 ?_
    obtain ⟨v7, e6, h⟩ := ob_I h
    refine jc_SI (As := [jL (wr y1), jL 0, jL (wr (v4 - 1))]) (rest := []) ⟨hx, hb, hml, hown, hts⟩ hK hP hS (m_X9_in l D b cs N e6) (va_cwS 3 hts gX9_row_X9_in rfl rfl rfl (by decide +kernel) ⟨Nat.le_of_ble_eq_true rfl, Nat.le_of_ble_eq_true rfl⟩) rfl hl.1 rfl (Nat.le_of_ble_eq_true rfl) dX9_row_24 ⟨Nat.zero_le _, Nat.zero_le _⟩ (fun H locs hP hS => ?_)
    refine j_if_eq (A := wr v7) (tgt := 39) hx hb rfl dX9_row_27 (by decide) (fun q8 => ?_) (fun q8 => ?_)
    · replace h := (if_pos q8).symm.trans h
      refine j_iconst hx hb dX9_row_39 ?_
      exact j_retI hx hb hK hP hS hr hlk (Option.some.inj h) dX9_row_40
    · replace h := (if_neg q8).symm.trans h
      refine j_aload_n hx hb dX9_row_30 rfl (lv_at hl 0 rfl) ?_
      refine j_iload_n hx hb dX9_row_31 rfl (lv_at hl 1 rfl) ?_
      refine j_iload_n hx hb dX9_row_32 rfl (lv_at hl 2 rfl) ?_
      obtain ⟨v10, e9, h⟩ := ob_I h
      refine jc_VI (As := [jI y1, jI y2]) (rest := []) ⟨hx, hb, hml, hown, hts⟩ hK hP hS (m_X9_was l D b cs N e9) (cwV 2 hts gX9_row_X9_was rfl rfl rfl (by decide +kernel) ⟨Nat.le_of_ble_eq_true rfl, Nat.le_of_ble_eq_true rfl⟩) kz_332 (by decide) rfl rfl hl.1 rfl (Nat.le_of_ble_eq_true rfl) dX9_row_33 ⟨Nat.zero_le _, Nat.zero_le _⟩ (fun H locs hP hS => ?_)
      refine j_goto (tgt := 40) hx hb dX9_row_36 (by decide) ?_
      exact j_retI hx hb hK hP hS hr hlk (Option.some.inj h) dX9_row_40
  · replace h := (if_pos q3).symm.trans h
    refine j_ldc (n := (-1000000001)) hx hb hown (hts (.constant RX9 183 (-1000000001)) (by decide +kernel)) (by decide) dX9_row_8 ?_
    exact j_retI hx hb hK hP hS hr hlk (Option.some.inj h) dX9_row_10
def fX9_see (N : Nat) (y1 : Int) (y2 : Int) (y3 : Int) (μ : Mm) : Option (Int × Mm) :=
    Option.bind (fX9_isCard N y1 μ) (fun v2 => if wr v2 = 0 then (some ((-1000000001), μ)) else (Option.bind (fX9_isColour N y3 μ) (fun v5 => if wr v5 = 0 then (some ((-1000000001), μ)) else (Option.bind (fX9_in N (wr y2) 1 99 μ) (fun v8 => if wr v8 = 0 then (some ((-1000000002), μ)) else (if wr (gI μ 332 23) = 8 then (some ((-1000000004), μ)) else (Option.bind (stA μ 341 8 (gI μ 332 23) y1) (fun μ11 => Option.bind (stA μ11 342 8 (gI μ11 332 23) y2) (fun μ13 => Option.bind (stA μ13 343 8 (gI μ13 332 23) y3) (fun μ15 => Option.bind (some (pI μ15 332 23 ((gI μ15 332 23) + 1))) (fun μ17 => some ((gI μ17 332 23), μ17))))))))))))
abbrev rmX9_see : Room := { frames := 2, cells := 0, slots := 0, locals := 46 }
set_option maxHeartbeats 4000000 in
set_option maxRecDepth 100000 in
theorem m_X9_see (l : Launch) (D : va_G) (b : Nat) (cs : CS) (N : Nat) {μ μ0 : Mm} {y1 y2 y3 : Int} {r : Int} (h : fX9_see N y1 y2 y3 μ = some (r, μ0)) : MI l yX9_see wsX9_see rmX9_see D b cs [jR b 332, jI y1, jI y2, jI y3] μ μ0 r := by
  refine met_in (cc := cX9_see) (maxL := 4) (ret := some .int) (lv0 := [(0, jR b 332), (1, jI y1), (2, jI y2), (3, jI y3)]) (by decide +kernel) rfl (Nat.le_of_ble_eq_true rfl) rfl ?_
  intro p e s m args below meth c hx hb hr hlk hml hown hts hP hK ls hl
  have hown : s.vm.findClass RX9 = some m.cls := hown
  have hS : va_S (bA b) s.heap s.heap [] := va_S.rf
  have hinX9 : ∀ w ∈ u_ws RX9 TX9 27, w ∈ wsX9_see := by decide +kernel
  unfold fX9_see at h
  refine j_aload_n hx hb dX9_see_0 rfl (lv_at hl 0 rfl) ?_
  refine j_iload_n hx hb dX9_see_1 rfl (lv_at hl 1 rfl) ?_
  obtain ⟨v2, e1, h⟩ := ob_I h
  refine jc_VI (As := [jI y1]) (rest := []) ⟨hx, hb, hml, hown, hts⟩ hK hP hS (m_X9_isCard l D b cs N e1) (cwV 1 hts gX9_see_X9_isCard rfl rfl rfl (by decide +kernel) ⟨Nat.le_of_ble_eq_true rfl, Nat.le_of_ble_eq_true rfl⟩) kz_332 (by decide) rfl rfl hl.1 rfl (Nat.le_of_ble_eq_true rfl) dX9_see_2 ⟨Nat.zero_le _, Nat.zero_le _⟩ (fun H locs hP hS => ?_)
  refine j_if_eq (A := wr v2) (tgt := 16) hx hb rfl dX9_see_5 (by decide) (fun q3 => ?_) (fun q3 => ?_)
  · replace h := (if_pos q3).symm.trans h
    refine j_ldc (n := (-1000000001)) hx hb hown (hts (.constant RX9 183 (-1000000001)) (by decide +kernel)) (by decide) dX9_see_16 ?_
    obtain ⟨e0, e1⟩ := Prod.mk.inj (Option.some.inj h)
    subst e1
    exact j_retI hx hb hK hP hS hr hlk e0 dX9_see_18
  · replace h := (if_neg q3).symm.trans h
    refine j_aload_n hx hb dX9_see_8 rfl (lv_at hl 0 rfl) ?_
    refine j_iload_n hx hb dX9_see_9 rfl (lv_at hl 3 rfl) ?_
    obtain ⟨v5, e4, h⟩ := ob_I h
    refine jc_VI (As := [jI y3]) (rest := []) ⟨hx, hb, hml, hown, hts⟩ hK hP hS (m_X9_isColour l D b cs N e4) (cwV 1 hts gX9_see_X9_isColour rfl rfl rfl (by decide +kernel) ⟨Nat.le_of_ble_eq_true rfl, Nat.le_of_ble_eq_true rfl⟩) kz_332 (by decide) rfl rfl hl.1 rfl (Nat.le_of_ble_eq_true rfl) dX9_see_10 ⟨Nat.zero_le _, Nat.zero_le _⟩ (fun H locs hP hS => ?_)
    refine j_if_ne (A := wr v5) (tgt := 19) hx hb rfl dX9_see_13 (by decide) (fun q6 => ?_) (fun q6 => ?_)
    · replace h := (if_neg q6).symm.trans h
      refine j_iload_n hx hb dX9_see_19 rfl (lv_at hl 2 rfl) ?_
      refine j_i2l hx hb dX9_see_20 ?_
      refine j_lconst (n := 1) hx hb dX9_see_21 (by decide) ?_
      refine j_ldc2 (n := 99) hx hb hown (hts (.constantLong RX9 255 (99)) (by decide +kernel)) (by decide) dX9_see_22 ?_
      obtain ⟨v8, e7, h⟩ := ob_I h
      refine jc_SI (As := [jL (wr y2), jL 1, jL 99]) (rest := []) ⟨hx, hb, hml, hown, hts⟩ hK hP hS (m_X9_in l D b cs N e7) (va_cwS 3 hts gX9_see_X9_in rfl rfl rfl (by decide +kernel) ⟨Nat.le_of_ble_eq_true rfl, Nat.le_of_ble_eq_true rfl⟩) rfl hl.1 rfl (Nat.le_of_ble_eq_true rfl) dX9_see_25 ⟨Nat.zero_le _, Nat.zero_le _⟩ (fun H locs hP hS => ?_)
      refine j_if_ne (A := wr v8) (tgt := 34) hx hb rfl dX9_see_28 (by decide) (fun q9 => ?_) (fun q9 => ?_)
      · replace h := (if_neg q9).symm.trans h
        refine j_aload_n hx hb dX9_see_34 rfl (lv_at hl 0 rfl) ?_
        refine j_get (v := jI (gI μ 332 23)) hx hb hts hinX9 hown hK hP kz_332 (by decide) rfl 23 (by decide) (hts (.fieldLink RX9 131 "CardBandModel" "seen" "I") (by decide +kernel)) rfl (by rw [jI_g]; rfl) dX9_see_35 ?_
        refine j_bipush hx hb dX9_see_38 (by decide) ?_
        refine j_icmp_ne (A := wr (gI μ 332 23)) (B := 8) (tgt := 46) hx hb rfl (by decide) dX9_see_40 (by decide) (fun q10 => ?_) (fun q10 => ?_)
        · replace h := (if_neg q10).symm.trans h
          refine j_aload_n hx hb dX9_see_46 rfl (lv_at hl 0 rfl) ?_
          refine j_get (v := jR b 341) hx hb hts hinX9 hown hK hP kz_332 (by decide) rfl 20 (by decide) (hts (.fieldLink RX9 39 "CardBandModel" "seenCard" "[I") (by decide +kernel)) rfl rfl dX9_see_47 ?_
          refine j_aload_n hx hb dX9_see_50 rfl (lv_at hl 0 rfl) ?_
          refine j_get (v := jI (gI μ 332 23)) hx hb hts hinX9 hown hK hP kz_332 (by decide) rfl 23 (by decide) (hts (.fieldLink RX9 131 "CardBandModel" "seen" "I") (by decide +kernel)) rfl (by rw [jI_g]; rfl) dX9_see_51 ?_
          refine j_iload_n hx hb dX9_see_54 rfl (lv_at hl 1 rfl) ?_
          obtain ⟨μ11, e12, h⟩ := ob_I h
          refine j_iastore hx hb hK hP hS kz_341 e12 dX9_see_55 (fun H locs hP hS => ?_)
          refine j_aload_n hx hb dX9_see_56 rfl (lv_at hl 0 rfl) ?_
          refine j_get (v := jR b 342) hx hb hts hinX9 hown hK hP kz_332 (by decide) rfl 21 (by decide) (hts (.fieldLink RX9 42 "CardBandModel" "seenTurns" "[I") (by decide +kernel)) rfl rfl dX9_see_57 ?_
          refine j_aload_n hx hb dX9_see_60 rfl (lv_at hl 0 rfl) ?_
          refine j_get (v := jI (gI μ11 332 23)) hx hb hts hinX9 hown hK hP kz_332 (by decide) rfl 23 (by decide) (hts (.fieldLink RX9 131 "CardBandModel" "seen" "I") (by decide +kernel)) rfl (by rw [jI_g]; rfl) dX9_see_61 ?_
          refine j_iload_n hx hb dX9_see_64 rfl (lv_at hl 2 rfl) ?_
          obtain ⟨μ13, e14, h⟩ := ob_I h
          refine j_iastore hx hb hK hP hS kz_342 e14 dX9_see_65 (fun H locs hP hS => ?_)
          refine j_aload_n hx hb dX9_see_66 rfl (lv_at hl 0 rfl) ?_
          refine j_get (v := jR b 343) hx hb hts hinX9 hown hK hP kz_332 (by decide) rfl 22 (by decide) (hts (.fieldLink RX9 45 "CardBandModel" "seenColour" "[I") (by decide +kernel)) rfl rfl dX9_see_67 ?_
          refine j_aload_n hx hb dX9_see_70 rfl (lv_at hl 0 rfl) ?_
          refine j_get (v := jI (gI μ13 332 23)) hx hb hts hinX9 hown hK hP kz_332 (by decide) rfl 23 (by decide) (hts (.fieldLink RX9 131 "CardBandModel" "seen" "I") (by decide +kernel)) rfl (by rw [jI_g]; rfl) dX9_see_71 ?_
          refine j_iload_n hx hb dX9_see_74 rfl (lv_at hl 3 rfl) ?_
          obtain ⟨μ15, e16, h⟩ := ob_I h
          refine j_iastore hx hb hK hP hS kz_343 e16 dX9_see_75 (fun H locs hP hS => ?_)
          refine j_aload_n hx hb dX9_see_76 rfl (lv_at hl 0 rfl) ?_
          refine j_dup hx hb dX9_see_77 rfl ?_
          refine j_get (v := jI (gI μ15 332 23)) hx hb hts hinX9 hown hK hP kz_332 (by decide) rfl 23 (by decide) (hts (.fieldLink RX9 131 "CardBandModel" "seen" "I") (by decide +kernel)) rfl (by rw [jI_g]; rfl) dX9_see_78 ?_
          refine j_iconst hx hb dX9_see_81 ?_
          refine j_iadd hx hb dX9_see_82 ?_
          obtain ⟨μ17, e18, h⟩ := ob_I h
          refine j_put (ty := .int) (z := ((gI μ15 332 23) + 1)) hx hb hts hinX9 tyX9 tyX9_ok nmX9 hown hK hP hS kz_332 (by decide) rfl 23 (by decide) (hts (.fieldLink RX9 131 "CardBandModel" "seen" "I") (by decide +kernel)) rfl rfl (by decide +kernel) rfl rfl (by simp [flds]) rfl dX9_see_83 (Option.some.inj e18) (fun H locs hP hS => ?_)
          refine j_aload_n hx hb dX9_see_86 rfl (lv_at hl 0 rfl) ?_
          refine j_get (v := jI (gI μ17 332 23)) hx hb hts hinX9 hown hK hP kz_332 (by decide) rfl 23 (by decide) (hts (.fieldLink RX9 131 "CardBandModel" "seen" "I") (by decide +kernel)) rfl (by rw [jI_g]; rfl) dX9_see_87 ?_
          obtain ⟨e0, e1⟩ := Prod.mk.inj (Option.some.inj h)
          subst e1
          exact j_retI hx hb hK hP hS hr hlk e0 dX9_see_90
        · replace h := (if_pos q10).symm.trans h
          refine j_ldc (n := (-1000000004)) hx hb hown (hts (.constant RX9 64 (-1000000004)) (by decide +kernel)) (by decide) dX9_see_43 ?_
          obtain ⟨e0, e1⟩ := Prod.mk.inj (Option.some.inj h)
          subst e1
          exact j_retI hx hb hK hP hS hr hlk e0 dX9_see_45
      · replace h := (if_pos q9).symm.trans h
        refine j_ldc (n := (-1000000002)) hx hb hown (hts (.constant RX9 60 (-1000000002)) (by decide +kernel)) (by decide) dX9_see_31 ?_
        obtain ⟨e0, e1⟩ := Prod.mk.inj (Option.some.inj h)
        subst e1
        exact j_retI hx hb hK hP hS hr hlk e0 dX9_see_33
    · replace h := (if_pos q6).symm.trans h
      refine j_ldc (n := (-1000000001)) hx hb hown (hts (.constant RX9 183 (-1000000001)) (by decide +kernel)) (by decide) dX9_see_16 ?_
      obtain ⟨e0, e1⟩ := Prod.mk.inj (Option.some.inj h)
      subst e1
      exact j_retI hx hb hK hP hS hr hlk e0 dX9_see_18
def fX9_seed (N : Nat) (y1 : Int) (μ : Mm) : Option (Int × Mm) :=
    if 0 ≤ wr y1 then (Option.bind (ldA μ 333 8262 242) (fun v2 => Option.bind (stA μ 333 8262 242 y1) (fun μ4 => some (v2, μ4)))) else (some ((-1000000002), μ))
abbrev rmX9_seed : Room := { frames := 0, cells := 0, slots := 0, locals := 0 }
set_option maxHeartbeats 4000000 in
set_option maxRecDepth 100000 in
theorem m_X9_seed (l : Launch) (D : va_G) (b : Nat) (cs : CS) (N : Nat) {μ μ0 : Mm} {y1 : Int} {r : Int} (h : fX9_seed N y1 μ = some (r, μ0)) : MI l yX9_seed wsX9_seed rmX9_seed D b cs [jR b 332, jI y1] μ μ0 r := by
  refine met_in (cc := cX9_seed) (maxL := 3) (ret := some .int) (lv0 := [(0, jR b 332), (1, jI y1)]) (by decide +kernel) rfl (Nat.le_of_ble_eq_true rfl) rfl ?_
  intro p e s m args below meth c hx hb hr hlk hml hown hts hP hK ls hl
  have hown : s.vm.findClass RX9 = some m.cls := hown
  have hS : va_S (bA b) s.heap s.heap [] := va_S.rf
  have hinX9 : ∀ w ∈ u_ws RX9 TX9 27, w ∈ wsX9_seed := by decide +kernel
  unfold fX9_seed at h
  refine j_iload_n hx hb dX9_seed_0 rfl (lv_at hl 1 rfl) ?_
  refine j_if_ge (A := wr y1) (tgt := 7) hx hb rfl dX9_seed_1 (by decide) (fun q1 => ?_) (fun q1 => ?_)
  · replace h := (if_pos q1).symm.trans h
    refine j_aload_n hx hb dX9_seed_7 rfl (lv_at hl 0 rfl) ?_
    refine j_get (v := jR b 333) hx hb hts hinX9 hown hK hP kz_332 (by decide) rfl 0 (by decide) (hts (.fieldLink RX9 7 "CardBandModel" "w" "[I") (by decide +kernel)) rfl rfl dX9_seed_8 ?_
    refine j_sipush hx hb dX9_seed_11 (by decide) ?_
    obtain ⟨v2, e3, h⟩ := ob_I h
    refine j_iaload hx hb hK hP kz_333 e3 dX9_seed_14 ?_
    refine j_istore_n (lv2 := [(2, jI v2), (0, jR b 332), (1, jI y1)]) hx hb dX9_seed_15 rfl hl (by decide) rfl (fun ls hl => ?_)
    refine j_aload_n hx hb dX9_seed_16 rfl (lv_at hl 1 rfl) ?_
    refine j_get (v := jR b 333) hx hb hts hinX9 hown hK hP kz_332 (by decide) rfl 0 (by decide) (hts (.fieldLink RX9 7 "CardBandModel" "w" "[I") (by decide +kernel)) rfl rfl dX9_seed_17 ?_
    refine j_sipush hx hb dX9_seed_20 (by decide) ?_
    refine j_iload_n hx hb dX9_seed_23 rfl (lv_at hl 2 rfl) ?_
    obtain ⟨μ4, e5, h⟩ := ob_I h
    refine j_iastore hx hb hK hP hS kz_333 e5 dX9_seed_24 (fun H locs hP hS => ?_)
    refine j_iload_n hx hb dX9_seed_25 rfl (lv_at hl 0 rfl) ?_
    obtain ⟨e0, e1⟩ := Prod.mk.inj (Option.some.inj h)
    subst e1
    exact j_retI hx hb hK hP hS hr hlk e0 dX9_seed_26
  · replace h := (if_neg q1).symm.trans h
    refine j_ldc (n := (-1000000002)) hx hb hown (hts (.constant RX9 60 (-1000000002)) (by decide +kernel)) (by decide) dX9_seed_4 ?_
    obtain ⟨e0, e1⟩ := Prod.mk.inj (Option.some.inj h)
    subst e1
    exact j_retI hx hb hK hP hS hr hlk e0 dX9_seed_6
def fX9_shareOf_k58 (N : Nat) (y1 : Int) (μ : Mm) : Int → Option (Int) := fun x3_2 =>
    if wr (gI μ 332 6) = 0 then (some 0) else (gd (decide (¬ wr (4 * (gI μ 332 6)) = 0)) (some (dvI (y1 * x3_2) (4 * (gI μ 332 6)))))
def fX9_shareOf_j41 (N : Nat) (μ : Mm) (x3_10 : Int) (x5_11 : Int) (rec17_9 : Int → Int → Option (Int)) : Int → Option (Int) := fun s16 =>
    Option.bind (fX9_one N s16 μ) (fun v18 => rec17_9 (x3_10 + v18) (x5_11 + 1))
def fX9_shareOf_l17 (N : Nat) (y2 : Int) (μ : Mm) (x4_7 : Int) (rec5_5 : Int → Int → Option (Int)) : Nat → Int → Int → Option (Int)
  | 0, _, _ => none
  | n9 + 1, x3_10, x5_11 =>
    if 4 ≤ wr x5_11 then (rec5_5 x3_10 (x4_7 + 1)) else (Option.bind (fX9_colourOf N x4_7 x5_11 μ) (fun v14 => if wr v14 = wr y2 then (fX9_shareOf_j41 N μ x3_10 x5_11 (fX9_shareOf_l17 N y2 μ x4_7 rec5_5 n9) 1) else (fX9_shareOf_j41 N μ x3_10 x5_11 (fX9_shareOf_l17 N y2 μ x4_7 rec5_5 n9) 0)))
def fX9_shareOf_l5 (N : Nat) (y1 : Int) (y2 : Int) (μ : Mm) : Nat → Int → Int → Option (Int)
  | 0, _, _ => none
  | n5 + 1, x3_6, x4_7 =>
    if wr (gI μ 332 6) ≤ wr x4_7 then (fX9_shareOf_k58 N y1 μ x3_6) else (fX9_shareOf_l17 N y2 μ x4_7 (fX9_shareOf_l5 N y1 y2 μ n5) N x3_6 0)
def fX9_shareOf (N : Nat) (y1 : Int) (y2 : Int) (μ : Mm) : Option (Int) :=
    fX9_shareOf_l5 N y1 y2 μ N 0 0
abbrev rmX9_shareOf : Room := { frames := 1, cells := 0, slots := 0, locals := 22 }
set_option maxHeartbeats 4000000 in
set_option maxRecDepth 100000 in
theorem m_X9_shareOf (l : Launch) (D : va_G) (b : Nat) (cs : CS) (N : Nat) {μ : Mm} {y1 y2 : Int} {r : Int} (h : fX9_shareOf N y1 y2 μ = some r) : MI l yX9_shareOf wsX9_shareOf rmX9_shareOf D b cs [jR b 332, jI y1, jI y2] μ μ r := by
  refine met_in (cc := cX9_shareOf) (maxL := 6) (ret := some .int) (lv0 := [(0, jR b 332), (1, jI y1), (2, jI y2)]) (by decide +kernel) rfl (Nat.le_of_ble_eq_true rfl) rfl ?_
  intro p e s m args below meth c hx hb hr hlk hml hown hts hP hK ls hl
  have hown : s.vm.findClass RX9 = some m.cls := hown
  have hS : va_S (bA b) s.heap s.heap [] := va_S.rf
  have hinX9 : ∀ w ∈ u_ws RX9 TX9 27, w ∈ wsX9_shareOf := by decide +kernel
  unfold fX9_shareOf at h
  refine j_iconst hx hb dX9_shareOf_0 ?_
  refine j_istore_n (lv2 := [(3, jI 0), (0, jR b 332), (1, jI y1), (2, jI y2)]) hx hb dX9_shareOf_1 rfl hl (by decide) rfl (fun ls hl => ?_)
  refine j_iconst hx hb dX9_shareOf_2 ?_
  refine j_istore (lv2 := [(4, jI 0), (3, jI 0), (0, jR b 332), (1, jI y1), (2, jI y2)]) hx hb dX9_shareOf_3 hl (by decide) rfl (fun ls hl => ?_)
  have hk58_1 : ∀ (x3_2 : Int) (H : Heap) (locs : List Loc) (ls : Array Slot), va_P D vwCl (wl b cs μ) H → va_S (bA b) s.heap H locs → lv_has ls 6 [(0, jR b 332), (1, jI y1), (3, jI x3_2)] → fX9_shareOf_k58 N y1 μ x3_2 = some r → W p l e rmX9_shareOf s m args below meth c H locs 0 0 (MQ below (QI D b cs μ r) args s 0 0 (bA b)) (F0 m 58 ls []) := by
    intro x3_2 H locs ls hP hS hl h
    unfold fX9_shareOf_k58 at h
    refine j_aload_n hx hb dX9_shareOf_58 rfl (lv_at hl 0 rfl) ?_
    refine j_get (v := jI (gI μ 332 6)) hx hb hts hinX9 hown hK hP kz_332 (by decide) rfl 6 (by decide) (hts (.fieldLink RX9 122 "CardBandModel" "cards" "I") (by decide +kernel)) rfl (by rw [jI_g]; rfl) dX9_shareOf_59 ?_
    refine j_if_ne (A := wr (gI μ 332 6)) (tgt := 69) hx hb rfl dX9_shareOf_62 (by decide) (fun q3 => ?_) (fun q3 => ?_)
    · replace h := (if_neg q3).symm.trans h
      refine j_iload_n hx hb dX9_shareOf_69 rfl (lv_at hl 1 rfl) ?_
      refine j_iload_n hx hb dX9_shareOf_70 rfl (lv_at hl 2 rfl) ?_
      refine j_imul hx hb dX9_shareOf_71 ?_
      refine j_iconst hx hb dX9_shareOf_72 ?_
      refine j_aload_n hx hb dX9_shareOf_73 rfl (lv_at hl 0 rfl) ?_
      refine j_get (v := jI (gI μ 332 6)) hx hb hts hinX9 hown hK hP kz_332 (by decide) rfl 6 (by decide) (hts (.fieldLink RX9 122 "CardBandModel" "cards" "I") (by decide +kernel)) rfl (by rw [jI_g]; rfl) dX9_shareOf_74 ?_
      refine j_imul hx hb dX9_shareOf_77 ?_
      obtain ⟨g4, h⟩ := ob_g h
      replace g4 := of_decide_eq_true g4
      refine j_idiv hx hb dX9_shareOf_78 g4 ?_
      exact j_retI hx hb hK hP hS hr hlk (Option.some.inj h) dX9_shareOf_79
    · replace h := (if_pos q3).symm.trans h
      refine j_iconst hx hb dX9_shareOf_65 ?_
      refine j_goto (tgt := 79) hx hb dX9_shareOf_66 (by decide) ?_
      exact j_retI hx hb hK hP hS hr hlk (Option.some.inj h) dX9_shareOf_79
  have hl5_5 : ∀ (n0 : Nat) (x3_6 : Int) (x4_7 : Int) (H : Heap) (locs : List Loc) (ls : Array Slot), va_P D vwCl (wl b cs μ) H → va_S (bA b) s.heap H locs → lv_has ls 6 [(0, jR b 332), (1, jI y1), (2, jI y2), (3, jI x3_6), (4, jI x4_7)] → fX9_shareOf_l5 N y1 y2 μ n0 x3_6 x4_7 = some r → W p l e rmX9_shareOf s m args below meth c H locs 0 0 (MQ below (QI D b cs μ r) args s 0 0 (bA b)) (F0 m 5 ls []) := by
    intro n0
    induction n0 with
    | zero => intro x3_6 x4_7 H locs ls hP hS hl h; rw [fX9_shareOf_l5] at h; cases h
    | succ n5 ih5_5 =>
      intro x3_6 x4_7 H locs ls hP hS hl h
      rw [fX9_shareOf_l5] at h
      refine j_iload hx hb dX9_shareOf_5 (lv_at hl 4 rfl) ?_
      refine j_aload_n hx hb dX9_shareOf_7 rfl (lv_at hl 0 rfl) ?_
      refine j_get (v := jI (gI μ 332 6)) hx hb hts hinX9 hown hK hP kz_332 (by decide) rfl 6 (by decide) (hts (.fieldLink RX9 122 "CardBandModel" "cards" "I") (by decide +kernel)) rfl (by rw [jI_g]; rfl) dX9_shareOf_8 ?_
      refine j_icmp_ge (A := wr x4_7) (B := wr (gI μ 332 6)) (tgt := 58) hx hb rfl rfl dX9_shareOf_11 (by decide) (fun q8 => ?_) (fun q8 => ?_)
      · replace h := (if_pos q8).symm.trans h
        exact hk58_1 _ _ _ _ hP hS (lv_sub hl [0, 1, 3] rfl) h
      · replace h := (if_neg q8).symm.trans h
        refine j_iconst hx hb dX9_shareOf_14 ?_
        refine j_istore (lv2 := [(5, jI 0), (0, jR b 332), (1, jI y1), (2, jI y2), (3, jI x3_6), (4, jI x4_7)]) hx hb dX9_shareOf_15 hl (by decide) rfl (fun ls hl => ?_)
        have hl17_9 : ∀ (n0 : Nat) (x3_10 : Int) (x5_11 : Int) (H : Heap) (locs : List Loc) (ls : Array Slot), va_P D vwCl (wl b cs μ) H → va_S (bA b) s.heap H locs → lv_has ls 6 [(0, jR b 332), (1, jI y1), (2, jI y2), (3, jI x3_10), (4, jI x4_7), (5, jI x5_11)] → fX9_shareOf_l17 N y2 μ x4_7 (fX9_shareOf_l5 N y1 y2 μ n5) n0 x3_10 x5_11 = some r → W p l e rmX9_shareOf s m args below meth c H locs 0 0 (MQ below (QI D b cs μ r) args s 0 0 (bA b)) (F0 m 17 ls []) := by
          intro n0
          induction n0 with
          | zero => intro x3_10 x5_11 H locs ls hP hS hl h; rw [fX9_shareOf_l17] at h; cases h
          | succ n9 ih17_9 =>
            intro x3_10 x5_11 H locs ls hP hS hl h
            rw [fX9_shareOf_l17] at h
            refine j_iload hx hb dX9_shareOf_17 (lv_at hl 5 rfl) ?_
            refine j_iconst hx hb dX9_shareOf_19 ?_
            refine j_icmp_ge (A := wr x5_11) (B := 4) (tgt := 52) hx hb rfl (by decide) dX9_shareOf_20 (by decide) (fun q12 => ?_) (fun q12 => ?_)
            · replace h := (if_pos q12).symm.trans h
              refine j_iinc (k := 4) (lv2 := [(4, jI (x4_7 + 1)), (0, jR b 332), (1, jI y1), (2, jI y2), (3, jI x3_10), (5, jI x5_11)]) hx hb dX9_shareOf_52 hl rfl (by decide) rfl (fun ls hl => ?_)
              refine j_goto (tgt := 5) hx hb dX9_shareOf_55 (by decide) ?_
              exact ih5_5 _ _ _ _ _ hP hS (lv_sub hl [1, 2, 3, 4, 0] rfl) h
            · replace h := (if_neg q12).symm.trans h
              refine j_iload_n hx hb dX9_shareOf_23 rfl (lv_at hl 3 rfl) ?_
              refine j_aload_n hx hb dX9_shareOf_24 rfl (lv_at hl 0 rfl) ?_
              refine j_iload hx hb dX9_shareOf_25 (lv_at hl 4 rfl) ?_
              refine j_iload hx hb dX9_shareOf_27 (lv_at hl 5 rfl) ?_
              obtain ⟨v14, e13, h⟩ := ob_I h
              refine jc_VI (As := [jI x4_7, jI x5_11]) (rest := [jI x3_10]) ⟨hx, hb, hml, hown, hts⟩ hK hP hS (m_X9_colourOf l D b cs N e13) (cwV 2 hts gX9_shareOf_X9_colourOf rfl rfl rfl (by decide +kernel) ⟨Nat.le_of_ble_eq_true rfl, Nat.le_of_ble_eq_true rfl⟩) kz_332 (by decide) rfl rfl hl.1 rfl (Nat.le_of_ble_eq_true rfl) dX9_shareOf_29 ⟨Nat.zero_le _, Nat.zero_le _⟩ (fun H locs hP hS => ?_)
              refine j_iload_n hx hb dX9_shareOf_32 rfl (lv_at hl 2 rfl) ?_
              have hj41_15 : ∀ (s16 : Int) (H : Heap) (locs : List Loc) (ls : Array Slot), va_P D vwCl (wl b cs μ) H → va_S (bA b) s.heap H locs → lv_has ls 6 [(0, jR b 332), (1, jI y1), (2, jI y2), (4, jI x4_7), (5, jI x5_11)] → fX9_shareOf_j41 N μ x3_10 x5_11 (fX9_shareOf_l17 N y2 μ x4_7 (fX9_shareOf_l5 N y1 y2 μ n5) n9) s16 = some r → W p l e rmX9_shareOf s m args below meth c H locs 0 0 (MQ below (QI D b cs μ r) args s 0 0 (bA b)) (F0 m 41 ls [jI s16, jI x3_10]) := by
                intro s16 H locs ls hP hS hl h
                unfold fX9_shareOf_j41 at h
                obtain ⟨v18, e17, h⟩ := ob_I h
                refine jc_SI (As := [jI s16]) (rest := [jI x3_10]) ⟨hx, hb, hml, hown, hts⟩ hK hP hS (m_X9_one l D b cs N e17) (va_cwS 1 hts gX9_shareOf_X9_one rfl rfl rfl (by decide +kernel) ⟨Nat.le_of_ble_eq_true rfl, Nat.le_of_ble_eq_true rfl⟩) rfl hl.1 rfl (Nat.le_of_ble_eq_true rfl) dX9_shareOf_41 ⟨Nat.zero_le _, Nat.zero_le _⟩ (fun H locs hP hS => ?_)
                refine j_iadd hx hb dX9_shareOf_44 ?_
                refine j_istore_n (lv2 := [(3, jI (x3_10 + v18)), (0, jR b 332), (1, jI y1), (2, jI y2), (4, jI x4_7), (5, jI x5_11)]) hx hb dX9_shareOf_45 rfl hl (by decide) rfl (fun ls hl => ?_)
                refine j_iinc (k := 5) (lv2 := [(5, jI (x5_11 + 1)), (3, jI (x3_10 + v18)), (0, jR b 332), (1, jI y1), (2, jI y2), (4, jI x4_7)]) hx hb dX9_shareOf_46 hl rfl (by decide) rfl (fun ls hl => ?_)
                refine j_goto (tgt := 17) hx hb dX9_shareOf_49 (by decide) ?_
                exact ih17_9 _ _ _ _ _ hP hS (lv_sub hl [2, 3, 4, 1, 5, 0] rfl) h
              refine j_icmp_ne (A := wr v14) (B := wr y2) (tgt := 40) hx hb rfl rfl dX9_shareOf_33 (by decide) (fun q19 => ?_) (fun q19 => ?_)
              · replace h := (if_neg q19).symm.trans h
                refine j_iconst hx hb dX9_shareOf_40 ?_
                exact hj41_15 _ _ _ _ hP hS (lv_sub hl [0, 1, 2, 4, 5] rfl) h
              · replace h := (if_pos q19).symm.trans h
                refine j_iconst hx hb dX9_shareOf_36 ?_
                refine j_goto (tgt := 41) hx hb dX9_shareOf_37 (by decide) ?_
                exact hj41_15 _ _ _ _ hP hS (lv_sub hl [0, 1, 2, 4, 5] rfl) h
        exact hl17_9 N _ _ _ _ _ hP hS (lv_sub hl [1, 2, 3, 4, 5, 0] rfl) h
  exact hl5_5 N _ _ _ _ _ hP hS (lv_sub hl [2, 3, 4, 1, 0] rfl) h
def fX9_share_k61 (N : Nat) (y1 : Int) (y2 : Int) (μ : Mm) : Int → Option (Int) := fun x3_6 =>
    if wr y2 = (-1) then (some x3_6) else (Option.bind (fX9_shareOf N y1 y2 μ) (fun v9 => some v9))
def fX9_share_l36 (N : Nat) (y1 : Int) (y2 : Int) (μ : Mm) : Nat → Int → Int → Option (Int)
  | 0, _, _ => none
  | n10 + 1, x3_11, x4_12 =>
    if wr (gI μ 332 2) ≤ wr x4_12 then (fX9_share_k61 N y1 y2 μ x3_11) else (Option.bind (fX9_shareOf N y1 x4_12 μ) (fun v15 => (fX9_share_l36 N y1 y2 μ n10) (x3_11 - v15) (x4_12 + 1)))
def fX9_share_k61_22 (N : Nat) (y1 : Int) (y2 : Int) (μ : Mm) : Int → Option (Int) := fun x3_23 =>
    if wr y2 = (-1) then (some x3_23) else (Option.bind (fX9_shareOf N y1 y2 μ) (fun v26 => some v26))
def fX9_share_l36_27 (N : Nat) (y1 : Int) (y2 : Int) (μ : Mm) : Nat → Int → Int → Option (Int)
  | 0, _, _ => none
  | n27 + 1, x3_28, x4_29 =>
    if wr (gI μ 332 2) ≤ wr x4_29 then (fX9_share_k61_22 N y1 y2 μ x3_28) else (Option.bind (fX9_shareOf N y1 x4_29 μ) (fun v32 => (fX9_share_l36_27 N y1 y2 μ n27) (x3_28 - v32) (x4_29 + 1)))
def fX9_share (N : Nat) (y1 : Int) (y2 : Int) (μ : Mm) : Option (Int) :=
    if wr y2 = (-1) then (Option.bind (fX9_in N (wr y1) 0 999 μ) (fun v3 => if wr v3 = 0 then (some (-1000000002)) else (fX9_share_l36 N y1 y2 μ N y1 0))) else (Option.bind (fX9_isColour N y2 μ) (fun v17 => if wr v17 = 0 then (some (-1000000001)) else (Option.bind (fX9_in N (wr y1) 0 999 μ) (fun v20 => if wr v20 = 0 then (some (-1000000002)) else (fX9_share_l36_27 N y1 y2 μ N y1 0)))))
abbrev rmX9_share : Room := { frames := 2, cells := 0, slots := 0, locals := 47 }
set_option maxHeartbeats 4000000 in
set_option maxRecDepth 100000 in
theorem m_X9_share (l : Launch) (D : va_G) (b : Nat) (cs : CS) (N : Nat) {μ : Mm} {y1 y2 : Int} {r : Int} (h : fX9_share N y1 y2 μ = some r) : MI l yX9_share wsX9_share rmX9_share D b cs [jR b 332, jI y1, jI y2] μ μ r := by
  refine met_in (cc := cX9_share) (maxL := 5) (ret := some .int) (lv0 := [(0, jR b 332), (1, jI y1), (2, jI y2)]) (by decide +kernel) rfl (Nat.le_of_ble_eq_true rfl) rfl ?_
  intro p e s m args below meth c hx hb hr hlk hml hown hts hP hK ls hl
  have hown : s.vm.findClass RX9 = some m.cls := hown
  have hS : va_S (bA b) s.heap s.heap [] := va_S.rf
  have hinX9 : ∀ w ∈ u_ws RX9 TX9 27, w ∈ wsX9_share := by decide +kernel
  unfold fX9_share at h
  refine j_iload_n hx hb dX9_share_0 rfl (lv_at hl 2 rfl) ?_
  refine j_iconst hx hb dX9_share_1 ?_
  refine j_icmp_eq (A := wr y2) (B := (-1)) (tgt := 16) hx hb rfl (by decide) dX9_share_2 (by decide) (fun q1 => ?_) (fun q1 => ?_)
  · replace h := (if_pos q1).symm.trans h
    refine j_iload_n hx hb dX9_share_16 rfl (lv_at hl 1 rfl) ?_
    refine j_i2l hx hb dX9_share_17 ?_
    refine j_lconst (n := 0) hx hb dX9_share_18 (by decide) ?_
    refine j_ldc2 (n := 999) hx hb hown (hts (.constantLong RX9 237 (999)) (by decide +kernel)) (by decide) dX9_share_19 ?_
    obtain ⟨v3, e2, h⟩ := ob_I h
    refine jc_SI (As := [jL (wr y1), jL 0, jL 999]) (rest := []) ⟨hx, hb, hml, hown, hts⟩ hK hP hS (m_X9_in l D b cs N e2) (va_cwS 3 hts gX9_share_X9_in rfl rfl rfl (by decide +kernel) ⟨Nat.le_of_ble_eq_true rfl, Nat.le_of_ble_eq_true rfl⟩) rfl hl.1 rfl (Nat.le_of_ble_eq_true rfl) dX9_share_22 ⟨Nat.zero_le _, Nat.zero_le _⟩ (fun H locs hP hS => ?_)
    refine j_if_ne (A := wr v3) (tgt := 31) hx hb rfl dX9_share_25 (by decide) (fun q4 => ?_) (fun q4 => ?_)
    · replace h := (if_neg q4).symm.trans h
      refine j_iload_n hx hb dX9_share_31 rfl (lv_at hl 1 rfl) ?_
      refine j_istore_n (lv2 := [(3, jI y1), (0, jR b 332), (1, jI y1), (2, jI y2)]) hx hb dX9_share_32 rfl hl (by decide) rfl (fun ls hl => ?_)
      refine j_iconst hx hb dX9_share_33 ?_
      refine j_istore (lv2 := [(4, jI 0), (3, jI y1), (0, jR b 332), (1, jI y1), (2, jI y2)]) hx hb dX9_share_34 hl (by decide) rfl (fun ls hl => ?_)
      have hk61_5 : ∀ (x3_6 : Int) (H : Heap) (locs : List Loc) (ls : Array Slot), va_P D vwCl (wl b cs μ) H → va_S (bA b) s.heap H locs → lv_has ls 5 [(0, jR b 332), (1, jI y1), (2, jI y2), (3, jI x3_6)] → fX9_share_k61 N y1 y2 μ x3_6 = some r → W p l e rmX9_share s m args below meth c H locs 0 0 (MQ below (QI D b cs μ r) args s 0 0 (bA b)) (F0 m 61 ls []) := by
        intro x3_6 H locs ls hP hS hl h
        unfold fX9_share_k61 at h
        refine j_iload_n hx hb dX9_share_61 rfl (lv_at hl 2 rfl) ?_
        refine j_iconst hx hb dX9_share_62 ?_
        refine j_icmp_ne (A := wr y2) (B := (-1)) (tgt := 70) hx hb rfl (by decide) dX9_share_63 (by decide) (fun q7 => ?_) (fun q7 => ?_)
        · replace h := (if_neg q7).symm.trans h
          refine j_aload_n hx hb dX9_share_70 rfl (lv_at hl 0 rfl) ?_
          refine j_iload_n hx hb dX9_share_71 rfl (lv_at hl 1 rfl) ?_
          refine j_iload_n hx hb dX9_share_72 rfl (lv_at hl 2 rfl) ?_
          obtain ⟨v9, e8, h⟩ := ob_I h
          refine jc_VI (As := [jI y1, jI y2]) (rest := []) ⟨hx, hb, hml, hown, hts⟩ hK hP hS (m_X9_shareOf l D b cs N e8) (cwV 2 hts gX9_share_X9_shareOf rfl rfl rfl (by decide +kernel) ⟨Nat.le_of_ble_eq_true rfl, Nat.le_of_ble_eq_true rfl⟩) kz_332 (by decide) rfl rfl hl.1 rfl (Nat.le_of_ble_eq_true rfl) dX9_share_73 ⟨Nat.zero_le _, Nat.zero_le _⟩ (fun H locs hP hS => ?_)
          exact j_retI hx hb hK hP hS hr hlk (Option.some.inj h) dX9_share_76
        · replace h := (if_pos q7).symm.trans h
          refine j_iload_n hx hb dX9_share_66 rfl (lv_at hl 3 rfl) ?_
          refine j_goto (tgt := 76) hx hb dX9_share_67 (by decide) ?_
          exact j_retI hx hb hK hP hS hr hlk (Option.some.inj h) dX9_share_76
      have hl36_10 : ∀ (n0 : Nat) (x3_11 : Int) (x4_12 : Int) (H : Heap) (locs : List Loc) (ls : Array Slot), va_P D vwCl (wl b cs μ) H → va_S (bA b) s.heap H locs → lv_has ls 5 [(0, jR b 332), (1, jI y1), (2, jI y2), (3, jI x3_11), (4, jI x4_12)] → fX9_share_l36 N y1 y2 μ n0 x3_11 x4_12 = some r → W p l e rmX9_share s m args below meth c H locs 0 0 (MQ below (QI D b cs μ r) args s 0 0 (bA b)) (F0 m 36 ls []) := by
        intro n0
        induction n0 with
        | zero => intro x3_11 x4_12 H locs ls hP hS hl h; rw [fX9_share_l36] at h; cases h
        | succ n10 ih36_10 =>
          intro x3_11 x4_12 H locs ls hP hS hl h
          rw [fX9_share_l36] at h
          refine j_iload hx hb dX9_share_36 (lv_at hl 4 rfl) ?_
          refine j_aload_n hx hb dX9_share_38 rfl (lv_at hl 0 rfl) ?_
          refine j_get (v := jI (gI μ 332 2)) hx hb hts hinX9 hown hK hP kz_332 (by decide) rfl 2 (by decide) (hts (.fieldLink RX9 125 "CardBandModel" "colours" "I") (by decide +kernel)) rfl (by rw [jI_g]; rfl) dX9_share_39 ?_
          refine j_icmp_ge (A := wr x4_12) (B := wr (gI μ 332 2)) (tgt := 61) hx hb rfl rfl dX9_share_42 (by decide) (fun q13 => ?_) (fun q13 => ?_)
          · replace h := (if_pos q13).symm.trans h
            exact hk61_5 _ _ _ _ hP hS (lv_sub hl [0, 1, 2, 3] rfl) h
          · replace h := (if_neg q13).symm.trans h
            refine j_iload_n hx hb dX9_share_45 rfl (lv_at hl 3 rfl) ?_
            refine j_aload_n hx hb dX9_share_46 rfl (lv_at hl 0 rfl) ?_
            refine j_iload_n hx hb dX9_share_47 rfl (lv_at hl 1 rfl) ?_
            refine j_iload hx hb dX9_share_48 (lv_at hl 4 rfl) ?_
            obtain ⟨v15, e14, h⟩ := ob_I h
            refine jc_VI (As := [jI y1, jI x4_12]) (rest := [jI x3_11]) ⟨hx, hb, hml, hown, hts⟩ hK hP hS (m_X9_shareOf l D b cs N e14) (cwV 2 hts gX9_share_X9_shareOf rfl rfl rfl (by decide +kernel) ⟨Nat.le_of_ble_eq_true rfl, Nat.le_of_ble_eq_true rfl⟩) kz_332 (by decide) rfl rfl hl.1 rfl (Nat.le_of_ble_eq_true rfl) dX9_share_50 ⟨Nat.zero_le _, Nat.zero_le _⟩ (fun H locs hP hS => ?_)
            refine j_isub hx hb dX9_share_53 ?_
            refine j_istore_n (lv2 := [(3, jI (x3_11 - v15)), (0, jR b 332), (1, jI y1), (2, jI y2), (4, jI x4_12)]) hx hb dX9_share_54 rfl hl (by decide) rfl (fun ls hl => ?_)
            refine j_iinc (k := 4) (lv2 := [(4, jI (x4_12 + 1)), (3, jI (x3_11 - v15)), (0, jR b 332), (1, jI y1), (2, jI y2)]) hx hb dX9_share_55 hl rfl (by decide) rfl (fun ls hl => ?_)
            refine j_goto (tgt := 36) hx hb dX9_share_58 (by decide) ?_
            exact ih36_10 _ _ _ _ _ hP hS (lv_sub hl [2, 3, 4, 1, 0] rfl) h
      exact hl36_10 N _ _ _ _ _ hP hS (lv_sub hl [2, 3, 4, 1, 0] rfl) h
    · replace h := (if_pos q4).symm.trans h
      refine j_ldc (n := (-1000000002)) hx hb hown (hts (.constant RX9 60 (-1000000002)) (by decide +kernel)) (by decide) dX9_share_28 ?_
      exact j_retI hx hb hK hP hS hr hlk (Option.some.inj h) dX9_share_30
  · replace h := (if_neg q1).symm.trans h
    refine j_aload_n hx hb dX9_share_5 rfl (lv_at hl 0 rfl) ?_
    refine j_iload_n hx hb dX9_share_6 rfl (lv_at hl 2 rfl) ?_
    obtain ⟨v17, e16, h⟩ := ob_I h
    refine jc_VI (As := [jI y2]) (rest := []) ⟨hx, hb, hml, hown, hts⟩ hK hP hS (m_X9_isColour l D b cs N e16) (cwV 1 hts gX9_share_X9_isColour rfl rfl rfl (by decide +kernel) ⟨Nat.le_of_ble_eq_true rfl, Nat.le_of_ble_eq_true rfl⟩) kz_332 (by decide) rfl rfl hl.1 rfl (Nat.le_of_ble_eq_true rfl) dX9_share_7 ⟨Nat.zero_le _, Nat.zero_le _⟩ (fun H locs hP hS => ?_)
    refine j_if_ne (A := wr v17) (tgt := 16) hx hb rfl dX9_share_10 (by decide) (fun q18 => ?_) (fun q18 => ?_)
    · replace h := (if_neg q18).symm.trans h
      refine j_iload_n hx hb dX9_share_16 rfl (lv_at hl 1 rfl) ?_
      refine j_i2l hx hb dX9_share_17 ?_
      refine j_lconst (n := 0) hx hb dX9_share_18 (by decide) ?_
      refine j_ldc2 (n := 999) hx hb hown (hts (.constantLong RX9 237 (999)) (by decide +kernel)) (by decide) dX9_share_19 ?_
      obtain ⟨v20, e19, h⟩ := ob_I h
      refine jc_SI (As := [jL (wr y1), jL 0, jL 999]) (rest := []) ⟨hx, hb, hml, hown, hts⟩ hK hP hS (m_X9_in l D b cs N e19) (va_cwS 3 hts gX9_share_X9_in rfl rfl rfl (by decide +kernel) ⟨Nat.le_of_ble_eq_true rfl, Nat.le_of_ble_eq_true rfl⟩) rfl hl.1 rfl (Nat.le_of_ble_eq_true rfl) dX9_share_22 ⟨Nat.zero_le _, Nat.zero_le _⟩ (fun H locs hP hS => ?_)
      refine j_if_ne (A := wr v20) (tgt := 31) hx hb rfl dX9_share_25 (by decide) (fun q21 => ?_) (fun q21 => ?_)
      · replace h := (if_neg q21).symm.trans h
        refine j_iload_n hx hb dX9_share_31 rfl (lv_at hl 1 rfl) ?_
        refine j_istore_n (lv2 := [(3, jI y1), (0, jR b 332), (1, jI y1), (2, jI y2)]) hx hb dX9_share_32 rfl hl (by decide) rfl (fun ls hl => ?_)
        refine j_iconst hx hb dX9_share_33 ?_
        refine j_istore (lv2 := [(4, jI 0), (3, jI y1), (0, jR b 332), (1, jI y1), (2, jI y2)]) hx hb dX9_share_34 hl (by decide) rfl (fun ls hl => ?_)
        have hk61_22 : ∀ (x3_23 : Int) (H : Heap) (locs : List Loc) (ls : Array Slot), va_P D vwCl (wl b cs μ) H → va_S (bA b) s.heap H locs → lv_has ls 5 [(0, jR b 332), (1, jI y1), (2, jI y2), (3, jI x3_23)] → fX9_share_k61_22 N y1 y2 μ x3_23 = some r → W p l e rmX9_share s m args below meth c H locs 0 0 (MQ below (QI D b cs μ r) args s 0 0 (bA b)) (F0 m 61 ls []) := by
          intro x3_23 H locs ls hP hS hl h
          unfold fX9_share_k61_22 at h
          refine j_iload_n hx hb dX9_share_61 rfl (lv_at hl 2 rfl) ?_
          refine j_iconst hx hb dX9_share_62 ?_
          refine j_icmp_ne (A := wr y2) (B := (-1)) (tgt := 70) hx hb rfl (by decide) dX9_share_63 (by decide) (fun q24 => ?_) (fun q24 => ?_)
          · replace h := (if_neg q24).symm.trans h
            refine j_aload_n hx hb dX9_share_70 rfl (lv_at hl 0 rfl) ?_
            refine j_iload_n hx hb dX9_share_71 rfl (lv_at hl 1 rfl) ?_
            refine j_iload_n hx hb dX9_share_72 rfl (lv_at hl 2 rfl) ?_
            obtain ⟨v26, e25, h⟩ := ob_I h
            refine jc_VI (As := [jI y1, jI y2]) (rest := []) ⟨hx, hb, hml, hown, hts⟩ hK hP hS (m_X9_shareOf l D b cs N e25) (cwV 2 hts gX9_share_X9_shareOf rfl rfl rfl (by decide +kernel) ⟨Nat.le_of_ble_eq_true rfl, Nat.le_of_ble_eq_true rfl⟩) kz_332 (by decide) rfl rfl hl.1 rfl (Nat.le_of_ble_eq_true rfl) dX9_share_73 ⟨Nat.zero_le _, Nat.zero_le _⟩ (fun H locs hP hS => ?_)
            exact j_retI hx hb hK hP hS hr hlk (Option.some.inj h) dX9_share_76
          · replace h := (if_pos q24).symm.trans h
            refine j_iload_n hx hb dX9_share_66 rfl (lv_at hl 3 rfl) ?_
            refine j_goto (tgt := 76) hx hb dX9_share_67 (by decide) ?_
            exact j_retI hx hb hK hP hS hr hlk (Option.some.inj h) dX9_share_76
        have hl36_27 : ∀ (n0 : Nat) (x3_28 : Int) (x4_29 : Int) (H : Heap) (locs : List Loc) (ls : Array Slot), va_P D vwCl (wl b cs μ) H → va_S (bA b) s.heap H locs → lv_has ls 5 [(0, jR b 332), (1, jI y1), (2, jI y2), (3, jI x3_28), (4, jI x4_29)] → fX9_share_l36_27 N y1 y2 μ n0 x3_28 x4_29 = some r → W p l e rmX9_share s m args below meth c H locs 0 0 (MQ below (QI D b cs μ r) args s 0 0 (bA b)) (F0 m 36 ls []) := by
          intro n0
          induction n0 with
          | zero => intro x3_28 x4_29 H locs ls hP hS hl h; rw [fX9_share_l36_27] at h; cases h
          | succ n27 ih36_27 =>
            intro x3_28 x4_29 H locs ls hP hS hl h
            rw [fX9_share_l36_27] at h
            refine j_iload hx hb dX9_share_36 (lv_at hl 4 rfl) ?_
            refine j_aload_n hx hb dX9_share_38 rfl (lv_at hl 0 rfl) ?_
            refine j_get (v := jI (gI μ 332 2)) hx hb hts hinX9 hown hK hP kz_332 (by decide) rfl 2 (by decide) (hts (.fieldLink RX9 125 "CardBandModel" "colours" "I") (by decide +kernel)) rfl (by rw [jI_g]; rfl) dX9_share_39 ?_
            refine j_icmp_ge (A := wr x4_29) (B := wr (gI μ 332 2)) (tgt := 61) hx hb rfl rfl dX9_share_42 (by decide) (fun q30 => ?_) (fun q30 => ?_)
            · replace h := (if_pos q30).symm.trans h
              exact hk61_22 _ _ _ _ hP hS (lv_sub hl [0, 1, 2, 3] rfl) h
            · replace h := (if_neg q30).symm.trans h
              refine j_iload_n hx hb dX9_share_45 rfl (lv_at hl 3 rfl) ?_
              refine j_aload_n hx hb dX9_share_46 rfl (lv_at hl 0 rfl) ?_
              refine j_iload_n hx hb dX9_share_47 rfl (lv_at hl 1 rfl) ?_
              refine j_iload hx hb dX9_share_48 (lv_at hl 4 rfl) ?_
              obtain ⟨v32, e31, h⟩ := ob_I h
              refine jc_VI (As := [jI y1, jI x4_29]) (rest := [jI x3_28]) ⟨hx, hb, hml, hown, hts⟩ hK hP hS (m_X9_shareOf l D b cs N e31) (cwV 2 hts gX9_share_X9_shareOf rfl rfl rfl (by decide +kernel) ⟨Nat.le_of_ble_eq_true rfl, Nat.le_of_ble_eq_true rfl⟩) kz_332 (by decide) rfl rfl hl.1 rfl (Nat.le_of_ble_eq_true rfl) dX9_share_50 ⟨Nat.zero_le _, Nat.zero_le _⟩ (fun H locs hP hS => ?_)
              refine j_isub hx hb dX9_share_53 ?_
              refine j_istore_n (lv2 := [(3, jI (x3_28 - v32)), (0, jR b 332), (1, jI y1), (2, jI y2), (4, jI x4_29)]) hx hb dX9_share_54 rfl hl (by decide) rfl (fun ls hl => ?_)
              refine j_iinc (k := 4) (lv2 := [(4, jI (x4_29 + 1)), (3, jI (x3_28 - v32)), (0, jR b 332), (1, jI y1), (2, jI y2)]) hx hb dX9_share_55 hl rfl (by decide) rfl (fun ls hl => ?_)
              refine j_goto (tgt := 36) hx hb dX9_share_58 (by decide) ?_
              exact ih36_27 _ _ _ _ _ hP hS (lv_sub hl [2, 3, 4, 1, 0] rfl) h
        exact hl36_27 N _ _ _ _ _ hP hS (lv_sub hl [2, 3, 4, 1, 0] rfl) h
      · replace h := (if_pos q21).symm.trans h
        refine j_ldc (n := (-1000000002)) hx hb hown (hts (.constant RX9 60 (-1000000002)) (by decide +kernel)) (by decide) dX9_share_28 ?_
        exact j_retI hx hb hK hP hS hr hlk (Option.some.inj h) dX9_share_30
    · replace h := (if_pos q18).symm.trans h
      refine j_ldc (n := (-1000000001)) hx hb hown (hts (.constant RX9 183 (-1000000001)) (by decide +kernel)) (by decide) dX9_share_13 ?_
      exact j_retI hx hb hK hP hS hr hlk (Option.some.inj h) dX9_share_15
def fX9_shift (N : Nat) (y1 : Int) (y2 : Int) (μ : Mm) : Option (Int × Mm) :=
    Option.bind (fX9_isCard N y1 μ) (fun v2 => if wr v2 = 0 then (some ((-1000000001), μ)) else (Option.bind (fX9_in N (wr y2) 0 3 μ) (fun v5 => if wr v5 = 0 then (some ((-1000000002), μ)) else (Option.bind (fX9_remember N μ) (fun μ8 => Option.bind (ldA μ8 333 8262 y1) (fun v9 => Option.bind (stA μ8 333 8262 y1 (rmI (v9 + y2) 4)) (fun μ11 => Option.bind (ldA μ11 333 8262 y1) (fun v13 => some (v13, μ11)))))))))
abbrev rmX9_shift : Room := { frames := 2, cells := 0, slots := 0, locals := 46 }
set_option maxHeartbeats 4000000 in
set_option maxRecDepth 100000 in
theorem m_X9_shift (l : Launch) (D : va_G) (b : Nat) (cs : CS) (N : Nat) {μ μ0 : Mm} {y1 y2 : Int} {r : Int} (h : fX9_shift N y1 y2 μ = some (r, μ0)) : MI l yX9_shift wsX9_shift rmX9_shift D b cs [jR b 332, jI y1, jI y2] μ μ0 r := by
  refine met_in (cc := cX9_shift) (maxL := 3) (ret := some .int) (lv0 := [(0, jR b 332), (1, jI y1), (2, jI y2)]) (by decide +kernel) rfl (Nat.le_of_ble_eq_true rfl) rfl ?_
  intro p e s m args below meth c hx hb hr hlk hml hown hts hP hK ls hl
  have hown : s.vm.findClass RX9 = some m.cls := hown
  have hS : va_S (bA b) s.heap s.heap [] := va_S.rf
  have hinX9 : ∀ w ∈ u_ws RX9 TX9 27, w ∈ wsX9_shift := by decide +kernel
  unfold fX9_shift at h
  refine j_aload_n hx hb dX9_shift_0 rfl (lv_at hl 0 rfl) ?_
  refine j_iload_n hx hb dX9_shift_1 rfl (lv_at hl 1 rfl) ?_
  obtain ⟨v2, e1, h⟩ := ob_I h
  refine jc_VI (As := [jI y1]) (rest := []) ⟨hx, hb, hml, hown, hts⟩ hK hP hS (m_X9_isCard l D b cs N e1) (cwV 1 hts gX9_shift_X9_isCard rfl rfl rfl (by decide +kernel) ⟨Nat.le_of_ble_eq_true rfl, Nat.le_of_ble_eq_true rfl⟩) kz_332 (by decide) rfl rfl hl.1 rfl (Nat.le_of_ble_eq_true rfl) dX9_shift_2 ⟨Nat.zero_le _, Nat.zero_le _⟩ (fun H locs hP hS => ?_)
  refine j_if_ne (A := wr v2) (tgt := 11) hx hb rfl dX9_shift_5 (by decide) (fun q3 => ?_) (fun q3 => ?_)
  · replace h := (if_neg q3).symm.trans h
    refine j_iload_n hx hb dX9_shift_11 rfl (lv_at hl 2 rfl) ?_
    refine j_i2l hx hb dX9_shift_12 ?_
    refine j_lconst (n := 0) hx hb dX9_shift_13 (by decide) ?_
    refine j_ldc2 (n := 3) hx hb hown (hts (.constantLong RX9 235 (3)) (by decide +kernel)) (by decide) dX9_shift_14 ?_
    obtain ⟨v5, e4, h⟩ := ob_I h
    refine jc_SI (As := [jL (wr y2), jL 0, jL 3]) (rest := []) ⟨hx, hb, hml, hown, hts⟩ hK hP hS (m_X9_in l D b cs N e4) (va_cwS 3 hts gX9_shift_X9_in rfl rfl rfl (by decide +kernel) ⟨Nat.le_of_ble_eq_true rfl, Nat.le_of_ble_eq_true rfl⟩) rfl hl.1 rfl (Nat.le_of_ble_eq_true rfl) dX9_shift_17 ⟨Nat.zero_le _, Nat.zero_le _⟩ (fun H locs hP hS => ?_)
    refine j_if_ne (A := wr v5) (tgt := 26) hx hb rfl dX9_shift_20 (by decide) (fun q6 => ?_) (fun q6 => ?_)
    · replace h := (if_neg q6).symm.trans h
      refine j_aload_n hx hb dX9_shift_26 rfl (lv_at hl 0 rfl) ?_
      obtain ⟨μ8, e7, h⟩ := ob_I h
      refine jc_VM (As := []) (rest := []) ⟨hx, hb, hml, hown, hts⟩ hK hP hS (m_X9_remember l D b cs N e7) (cwV 0 hts gX9_shift_X9_remember rfl rfl rfl (by decide +kernel) ⟨Nat.le_of_ble_eq_true rfl, Nat.le_of_ble_eq_true rfl⟩) kz_332 (by decide) rfl rfl hl.1 rfl (Nat.le_of_ble_eq_true rfl) dX9_shift_27 ⟨Nat.zero_le _, Nat.zero_le _⟩ (fun H locs hP hS => ?_)
      refine j_aload_n hx hb dX9_shift_30 rfl (lv_at hl 0 rfl) ?_
      refine j_get (v := jR b 333) hx hb hts hinX9 hown hK hP kz_332 (by decide) rfl 0 (by decide) (hts (.fieldLink RX9 7 "CardBandModel" "w" "[I") (by decide +kernel)) rfl rfl dX9_shift_31 ?_
      refine j_iload_n hx hb dX9_shift_34 rfl (lv_at hl 1 rfl) ?_
      refine j_aload_n hx hb dX9_shift_35 rfl (lv_at hl 0 rfl) ?_
      refine j_get (v := jR b 333) hx hb hts hinX9 hown hK hP kz_332 (by decide) rfl 0 (by decide) (hts (.fieldLink RX9 7 "CardBandModel" "w" "[I") (by decide +kernel)) rfl rfl dX9_shift_36 ?_
      refine j_iload_n hx hb dX9_shift_39 rfl (lv_at hl 1 rfl) ?_
      obtain ⟨v9, e10, h⟩ := ob_I h
      refine j_iaload hx hb hK hP kz_333 e10 dX9_shift_40 ?_
      refine j_iload_n hx hb dX9_shift_41 rfl (lv_at hl 2 rfl) ?_
      refine j_iadd hx hb dX9_shift_42 ?_
      refine j_iconst hx hb dX9_shift_43 ?_
      refine j_irem hx hb dX9_shift_44 (by decide) ?_
      obtain ⟨μ11, e12, h⟩ := ob_I h
      refine j_iastore hx hb hK hP hS kz_333 e12 dX9_shift_45 (fun H locs hP hS => ?_)
      refine j_aload_n hx hb dX9_shift_46 rfl (lv_at hl 0 rfl) ?_
      refine j_get (v := jR b 333) hx hb hts hinX9 hown hK hP kz_332 (by decide) rfl 0 (by decide) (hts (.fieldLink RX9 7 "CardBandModel" "w" "[I") (by decide +kernel)) rfl rfl dX9_shift_47 ?_
      refine j_iload_n hx hb dX9_shift_50 rfl (lv_at hl 1 rfl) ?_
      obtain ⟨v13, e14, h⟩ := ob_I h
      refine j_iaload hx hb hK hP kz_333 e14 dX9_shift_51 ?_
      obtain ⟨e0, e1⟩ := Prod.mk.inj (Option.some.inj h)
      subst e1
      exact j_retI hx hb hK hP hS hr hlk e0 dX9_shift_52
    · replace h := (if_pos q6).symm.trans h
      refine j_ldc (n := (-1000000002)) hx hb hown (hts (.constant RX9 60 (-1000000002)) (by decide +kernel)) (by decide) dX9_shift_23 ?_
      obtain ⟨e0, e1⟩ := Prod.mk.inj (Option.some.inj h)
      subst e1
      exact j_retI hx hb hK hP hS hr hlk e0 dX9_shift_25
  · replace h := (if_pos q3).symm.trans h
    refine j_ldc (n := (-1000000001)) hx hb hown (hts (.constant RX9 183 (-1000000001)) (by decide +kernel)) (by decide) dX9_shift_8 ?_
    obtain ⟨e0, e1⟩ := Prod.mk.inj (Option.some.inj h)
    subst e1
    exact j_retI hx hb hK hP hS hr hlk e0 dX9_shift_10
def fX9_shown (N : Nat) (y1 : Int) (μ : Mm) : Option (Int) :=
    Option.bind (fX9_isColour N y1 μ) (fun v2 => if wr v2 = 0 then (some (-1000000001)) else (Option.bind (fX9_shownOf N y1 μ) (fun v5 => some v5)))
abbrev rmX9_shown : Room := { frames := 2, cells := 0, slots := 0, locals := 46 }
set_option maxHeartbeats 4000000 in
set_option maxRecDepth 100000 in
theorem m_X9_shown (l : Launch) (D : va_G) (b : Nat) (cs : CS) (N : Nat) {μ : Mm} {y1 : Int} {r : Int} (h : fX9_shown N y1 μ = some r) : MI l yX9_shown wsX9_shown rmX9_shown D b cs [jR b 332, jI y1] μ μ r := by
  refine met_in (cc := cX9_shown) (maxL := 2) (ret := some .int) (lv0 := [(0, jR b 332), (1, jI y1)]) (by decide +kernel) rfl (Nat.le_of_ble_eq_true rfl) rfl ?_
  intro p e s m args below meth c hx hb hr hlk hml hown hts hP hK ls hl
  have hown : s.vm.findClass RX9 = some m.cls := hown
  have hS : va_S (bA b) s.heap s.heap [] := va_S.rf
  unfold fX9_shown at h
  refine j_aload_n hx hb dX9_shown_0 rfl (lv_at hl 0 rfl) ?_
  refine j_iload_n hx hb dX9_shown_1 rfl (lv_at hl 1 rfl) ?_
  obtain ⟨v2, e1, h⟩ := ob_I h
  refine jc_VI (As := [jI y1]) (rest := []) ⟨hx, hb, hml, hown, hts⟩ hK hP hS (m_X9_isColour l D b cs N e1) (cwV 1 hts gX9_shown_X9_isColour rfl rfl rfl (by decide +kernel) ⟨Nat.le_of_ble_eq_true rfl, Nat.le_of_ble_eq_true rfl⟩) kz_332 (by decide) rfl rfl hl.1 rfl (Nat.le_of_ble_eq_true rfl) dX9_shown_2 ⟨Nat.zero_le _, Nat.zero_le _⟩ (fun H locs hP hS => ?_)
  refine j_if_eq (A := wr v2) (tgt := 16) hx hb rfl dX9_shown_5 (by decide) (fun q3 => ?_) (fun q3 => ?_)
  · replace h := (if_pos q3).symm.trans h
    refine j_ldc (n := (-1000000001)) hx hb hown (hts (.constant RX9 183 (-1000000001)) (by decide +kernel)) (by decide) dX9_shown_16 ?_
    exact j_retI hx hb hK hP hS hr hlk (Option.some.inj h) dX9_shown_18
  · replace h := (if_neg q3).symm.trans h
    refine j_aload_n hx hb dX9_shown_8 rfl (lv_at hl 0 rfl) ?_
    refine j_iload_n hx hb dX9_shown_9 rfl (lv_at hl 1 rfl) ?_
    obtain ⟨v5, e4, h⟩ := ob_I h
    refine jc_VI (As := [jI y1]) (rest := []) ⟨hx, hb, hml, hown, hts⟩ hK hP hS (m_X9_shownOf l D b cs N e4) (cwV 1 hts gX9_shown_X9_shownOf rfl rfl rfl (by decide +kernel) ⟨Nat.le_of_ble_eq_true rfl, Nat.le_of_ble_eq_true rfl⟩) kz_332 (by decide) rfl rfl hl.1 rfl (Nat.le_of_ble_eq_true rfl) dX9_shown_10 ⟨Nat.zero_le _, Nat.zero_le _⟩ (fun H locs hP hS => ?_)
    refine j_goto (tgt := 18) hx hb dX9_shown_13 (by decide) ?_
    exact j_retI hx hb hK hP hS hr hlk (Option.some.inj h) dX9_shown_18
def fX9_tear (N : Nat) (μ : Mm) : Option (Int × Mm) :=
    Option.bind (some (pI μ 332 23 0)) (fun μ1 => Option.bind (some (pI μ1 332 26 0)) (fun μ3 => some (((gI μ 332 23) + (gI μ 332 26)), μ3)))
abbrev rmX9_tear : Room := { frames := 0, cells := 0, slots := 0, locals := 0 }
set_option maxHeartbeats 4000000 in
set_option maxRecDepth 100000 in
theorem m_X9_tear (l : Launch) (D : va_G) (b : Nat) (cs : CS) (N : Nat) {μ μ0 : Mm} {r : Int} (h : fX9_tear N μ = some (r, μ0)) : MI l yX9_tear wsX9_tear rmX9_tear D b cs [jR b 332] μ μ0 r := by
  refine met_in (cc := cX9_tear) (maxL := 2) (ret := some .int) (lv0 := [(0, jR b 332)]) (by decide +kernel) rfl (Nat.le_of_ble_eq_true rfl) rfl ?_
  intro p e s m args below meth c hx hb hr hlk hml hown hts hP hK ls hl
  have hown : s.vm.findClass RX9 = some m.cls := hown
  have hS : va_S (bA b) s.heap s.heap [] := va_S.rf
  have hinX9 : ∀ w ∈ u_ws RX9 TX9 27, w ∈ wsX9_tear := by decide +kernel
  unfold fX9_tear at h
  refine j_aload_n hx hb dX9_tear_0 rfl (lv_at hl 0 rfl) ?_
  refine j_get (v := jI (gI μ 332 23)) hx hb hts hinX9 hown hK hP kz_332 (by decide) rfl 23 (by decide) (hts (.fieldLink RX9 131 "CardBandModel" "seen" "I") (by decide +kernel)) rfl (by rw [jI_g]; rfl) dX9_tear_1 ?_
  refine j_aload_n hx hb dX9_tear_4 rfl (lv_at hl 0 rfl) ?_
  refine j_get (v := jI (gI μ 332 26)) hx hb hts hinX9 hown hK hP kz_332 (by decide) rfl 26 (by decide) (hts (.fieldLink RX9 134 "CardBandModel" "written" "I") (by decide +kernel)) rfl (by rw [jI_g]; rfl) dX9_tear_5 ?_
  refine j_iadd hx hb dX9_tear_8 ?_
  refine j_istore_n (lv2 := [(1, jI ((gI μ 332 23) + (gI μ 332 26))), (0, jR b 332)]) hx hb dX9_tear_9 rfl hl (by decide) rfl (fun ls hl => ?_)
  refine j_aload_n hx hb dX9_tear_10 rfl (lv_at hl 1 rfl) ?_
  refine j_iconst hx hb dX9_tear_11 ?_
  obtain ⟨μ1, e2, h⟩ := ob_I h
  refine j_put (ty := .int) (z := 0) hx hb hts hinX9 tyX9 tyX9_ok nmX9 hown hK hP hS kz_332 (by decide) rfl 23 (by decide) (hts (.fieldLink RX9 131 "CardBandModel" "seen" "I") (by decide +kernel)) rfl rfl (by decide +kernel) rfl rfl (by simp [flds]) rfl dX9_tear_12 (Option.some.inj e2) (fun H locs hP hS => ?_)
  refine j_aload_n hx hb dX9_tear_15 rfl (lv_at hl 1 rfl) ?_
  refine j_iconst hx hb dX9_tear_16 ?_
  obtain ⟨μ3, e4, h⟩ := ob_I h
  refine j_put (ty := .int) (z := 0) hx hb hts hinX9 tyX9 tyX9_ok nmX9 hown hK hP hS kz_332 (by decide) rfl 26 (by decide) (hts (.fieldLink RX9 134 "CardBandModel" "written" "I") (by decide +kernel)) rfl rfl (by decide +kernel) rfl rfl (by simp [flds]) rfl dX9_tear_17 (Option.some.inj e4) (fun H locs hP hS => ?_)
  refine j_iload_n hx hb dX9_tear_20 rfl (lv_at hl 0 rfl) ?_
  obtain ⟨e0, e1⟩ := Prod.mk.inj (Option.some.inj h)
  subst e1
  exact j_retI hx hb hK hP hS hr hlk e0 dX9_tear_21
def fX9_together_k204 (N : Nat) (x5_27 : Int) (x6_28 : Int) (x7_29 : Int) (rec159_26 : Int → Int → Int → Mm → Option (Int × Mm)) (μ35 : Mm) : Int → Option (Int × Mm) := fun x8_37 =>
    rec159_26 (x5_27 + (x6_28 * x8_37)) (x6_28 * 3) (x7_29 + 1) μ35
def fX9_together_l185 (N : Nat) (x4_19 : Int) (x5_27 : Int) (x6_28 : Int) (x7_29 : Int) (rec159_26 : Int → Int → Int → Mm → Option (Int × Mm)) (μ35 : Mm) : Nat → Int → Option (Int × Mm)
  | 0, _ => none
  | n38 + 1, x8_39 =>
    Option.bind (fX9_farBehind N x8_39 μ35) (fun v41 => if wr v41 ≤ wr (x4_19 - 1) then (fX9_together_k204 N x5_27 x6_28 x7_29 rec159_26 μ35 x8_39) else ((fX9_together_l185 N x4_19 x5_27 x6_28 x7_29 rec159_26 μ35 n38) (x8_39 + 1)))
def fX9_together_l159 (N : Nat) (y1 : Int) (y2 : Int) (x4_19 : Int) : Nat → Int → Int → Int → Mm → Option (Int × Mm)
  | 0, _, _, _, _ => none
  | n26 + 1, x5_27, x6_28, x7_29, μ30 =>
    if wr (gI μ30 332 9) ≤ wr x7_29 then (some (x5_27, μ30)) else (Option.bind (ldA μ30 337 8 x7_29) (fun v32 => Option.bind (fX9_layFar N (andI y1 v32) y2 μ30) (fun μ35 => fX9_together_l185 N x4_19 x5_27 x6_28 x7_29 (fX9_together_l159 N y1 y2 x4_19 n26) μ35 N 0)))
def fX9_together_k120 (N : Nat) (y1 : Int) (y2 : Int) (y3 : Int) : Int → Mm → Option (Int × Mm) := fun x4_19 μ20 =>
    if 99 ≤ wr x4_19 then (if wr x4_19 < 99 then (some (x4_19, μ20)) else (some ((-1), μ20))) else (if wr x4_19 = 0 then (if wr x4_19 < 99 then (some (x4_19, μ20)) else (some ((-1), μ20))) else (if wr y3 = 0 then (if wr x4_19 < 99 then (some (x4_19, μ20)) else (some ((-1), μ20))) else (fX9_together_l159 N y1 y2 x4_19 N 0 1 0 μ20)))
def fX9_together_l78 (N : Nat) (y1 : Int) (y2 : Int) (y3 : Int) : Nat → Int → Int → Mm → Option (Int × Mm)
  | 0, _, _, _ => none
  | n44 + 1, x4_45, x5_46, μ47 =>
    if wr (gI μ47 332 9) ≤ wr x5_46 then (fX9_together_k120 N y1 y2 y3 x4_45 μ47) else (Option.bind (ldA μ47 337 8 x5_46) (fun v49 => Option.bind (fX9_layFar N (andI y1 v49) y2 μ47) (fun μ52 => Option.bind (ldA μ52 340 20 4) (fun v53 => Option.bind (fX9_most N x4_45 v53 μ52) (fun v56 => (fX9_together_l78 N y1 y2 y3 n44) v56 (x5_46 + 1) μ52)))))
def fX9_together (N : Nat) (y1 : Int) (y2 : Int) (y3 : Int) (μ : Mm) : Option (Int × Mm) :=
    Option.bind (fX9_in N (wr y1) 0 (wr ((shlI 1 (gI μ 332 6)) - 1)) μ) (fun v2 => if wr v2 = 0 then (some ((-1000000001), μ)) else (Option.bind (fX9_isColour N y2 μ) (fun v5 => if wr v5 = 0 then (some ((-1000000001), μ)) else (Option.bind (fX9_in N (wr y3) 0 1 μ) (fun v8 => if wr v8 = 0 then (some ((-1000000002), μ)) else (Option.bind (fX9_isLoom N μ) (fun v11 => if wr v11 = 0 then (some ((-1000000003), μ)) else (Option.bind (fX9_packsOf N y1 μ) (fun v14 => Option.bind (fX9_allShow N (andI y1 (xorI v14 (-1))) y2 4 μ) (fun v16 => if wr v16 = 0 then (some ((-1), μ)) else (fX9_together_l78 N y1 y2 y3 N 0 0 μ)))))))))))
abbrev rmX9_together : Room := { frames := 3, cells := 0, slots := 0, locals := 75 }
set_option maxHeartbeats 4000000 in
set_option maxRecDepth 100000 in
theorem m_X9_together (l : Launch) (D : va_G) (b : Nat) (cs : CS) (N : Nat) {μ μ0 : Mm} {y1 y2 y3 : Int} {r : Int} (h : fX9_together N y1 y2 y3 μ = some (r, μ0)) : MI l yX9_together wsX9_together rmX9_together D b cs [jR b 332, jI y1, jI y2, jI y3] μ μ0 r := by
  refine met_in (cc := cX9_together) (maxL := 9) (ret := some .int) (lv0 := [(0, jR b 332), (1, jI y1), (2, jI y2), (3, jI y3)]) (by decide +kernel) rfl (Nat.le_of_ble_eq_true rfl) rfl ?_
  intro p e s m args below meth c hx hb hr hlk hml hown hts hP hK ls hl
  have hown : s.vm.findClass RX9 = some m.cls := hown
  have hS : va_S (bA b) s.heap s.heap [] := va_S.rf
  have hinX9 : ∀ w ∈ u_ws RX9 TX9 27, w ∈ wsX9_together := by decide +kernel
  unfold fX9_together at h
  refine j_iload_n hx hb dX9_together_0 rfl (lv_at hl 1 rfl) ?_
  refine j_i2l hx hb dX9_together_1 ?_
  refine j_lconst (n := 0) hx hb dX9_together_2 (by decide) ?_
  refine j_iconst hx hb dX9_together_3 ?_
  refine j_aload_n hx hb dX9_together_4 rfl (lv_at hl 0 rfl) ?_
  refine j_get (v := jI (gI μ 332 6)) hx hb hts hinX9 hown hK hP kz_332 (by decide) rfl 6 (by decide) (hts (.fieldLink RX9 122 "CardBandModel" "cards" "I") (by decide +kernel)) rfl (by rw [jI_g]; rfl) dX9_together_5 ?_
  refine j_ishl hx hb dX9_together_8 ?_
  refine j_iconst hx hb dX9_together_9 ?_
  refine j_isub hx hb dX9_together_10 ?_
  refine j_i2l hx hb dX9_together_11 ?_
  obtain ⟨v2, e1, h⟩ := ob_I h
  refine jc_SI (As := [jL (wr y1), jL 0, jL (wr ((shlI 1 (gI μ 332 6)) - 1))]) (rest := []) ⟨hx, hb, hml, hown, hts⟩ hK hP hS (m_X9_in l D b cs N e1) (va_cwS 3 hts gX9_together_X9_in rfl rfl rfl (by decide +kernel) ⟨Nat.le_of_ble_eq_true rfl, Nat.le_of_ble_eq_true rfl⟩) rfl hl.1 rfl (Nat.le_of_ble_eq_true rfl) dX9_together_12 ⟨Nat.zero_le _, Nat.zero_le _⟩ (fun H locs hP hS => ?_)
  refine j_if_eq (A := wr v2) (tgt := 26) hx hb rfl dX9_together_15 (by decide) (fun q3 => ?_) (fun q3 => ?_)
  · replace h := (if_pos q3).symm.trans h
    refine j_ldc (n := (-1000000001)) hx hb hown (hts (.constant RX9 183 (-1000000001)) (by decide +kernel)) (by decide) dX9_together_26 ?_
    obtain ⟨e0, e1⟩ := Prod.mk.inj (Option.some.inj h)
    subst e1
    exact j_retI hx hb hK hP hS hr hlk e0 dX9_together_28
  · replace h := (if_neg q3).symm.trans h
    refine j_aload_n hx hb dX9_together_18 rfl (lv_at hl 0 rfl) ?_
    refine j_iload_n hx hb dX9_together_19 rfl (lv_at hl 2 rfl) ?_
    obtain ⟨v5, e4, h⟩ := ob_I h
    refine jc_VI (As := [jI y2]) (rest := []) ⟨hx, hb, hml, hown, hts⟩ hK hP hS (m_X9_isColour l D b cs N e4) (cwV 1 hts gX9_together_X9_isColour rfl rfl rfl (by decide +kernel) ⟨Nat.le_of_ble_eq_true rfl, Nat.le_of_ble_eq_true rfl⟩) kz_332 (by decide) rfl rfl hl.1 rfl (Nat.le_of_ble_eq_true rfl) dX9_together_20 ⟨Nat.zero_le _, Nat.zero_le _⟩ (fun H locs hP hS => ?_)
    refine j_if_ne (A := wr v5) (tgt := 29) hx hb rfl dX9_together_23 (by decide) (fun q6 => ?_) (fun q6 => ?_)
    · replace h := (if_neg q6).symm.trans h
      refine j_iload_n hx hb dX9_together_29 rfl (lv_at hl 3 rfl) ?_
      refine j_i2l hx hb dX9_together_30 ?_
      refine j_lconst (n := 0) hx hb dX9_together_31 (by decide) ?_
      refine j_lconst (n := 1) hx hb dX9_together_32 (by decide) ?_
      obtain ⟨v8, e7, h⟩ := ob_I h
      refine jc_SI (As := [jL (wr y3), jL 0, jL 1]) (rest := []) ⟨hx, hb, hml, hown, hts⟩ hK hP hS (m_X9_in l D b cs N e7) (va_cwS 3 hts gX9_together_X9_in rfl rfl rfl (by decide +kernel) ⟨Nat.le_of_ble_eq_true rfl, Nat.le_of_ble_eq_true rfl⟩) rfl hl.1 rfl (Nat.le_of_ble_eq_true rfl) dX9_together_33 ⟨Nat.zero_le _, Nat.zero_le _⟩ (fun H locs hP hS => ?_)
      refine j_if_ne (A := wr v8) (tgt := 42) hx hb rfl dX9_together_36 (by decide) (fun q9 => ?_) (fun q9 => ?_)
      · replace h := (if_neg q9).symm.trans h
        refine j_aload_n hx hb dX9_together_42 rfl (lv_at hl 0 rfl) ?_
        obtain ⟨v11, e10, h⟩ := ob_I h
        refine jc_VI (As := []) (rest := []) ⟨hx, hb, hml, hown, hts⟩ hK hP hS (m_X9_isLoom l D b cs N e10) (cwV 0 hts gX9_together_X9_isLoom rfl rfl rfl (by decide +kernel) ⟨Nat.le_of_ble_eq_true rfl, Nat.le_of_ble_eq_true rfl⟩) kz_332 (by decide) rfl rfl hl.1 rfl (Nat.le_of_ble_eq_true rfl) dX9_together_43 ⟨Nat.zero_le _, Nat.zero_le _⟩ (fun H locs hP hS => ?_)
        refine j_if_ne (A := wr v11) (tgt := 52) hx hb rfl dX9_together_46 (by decide) (fun q12 => ?_) (fun q12 => ?_)
        · replace h := (if_neg q12).symm.trans h
          refine j_aload_n hx hb dX9_together_52 rfl (lv_at hl 0 rfl) ?_
          refine j_iload_n hx hb dX9_together_53 rfl (lv_at hl 1 rfl) ?_
          refine j_aload_n hx hb dX9_together_54 rfl (lv_at hl 0 rfl) ?_
          refine j_iload_n hx hb dX9_together_55 rfl (lv_at hl 1 rfl) ?_
          obtain ⟨v14, e13, h⟩ := ob_I h
          refine jc_VI (As := [jI y1]) (rest := [jI y1, jR b 332]) ⟨hx, hb, hml, hown, hts⟩ hK hP hS (m_X9_packsOf l D b cs N e13) (cwV 1 hts gX9_together_X9_packsOf rfl rfl rfl (by decide +kernel) ⟨Nat.le_of_ble_eq_true rfl, Nat.le_of_ble_eq_true rfl⟩) kz_332 (by decide) rfl rfl hl.1 rfl (Nat.le_of_ble_eq_true rfl) dX9_together_56 ⟨Nat.zero_le _, Nat.zero_le _⟩ (fun H locs hP hS => ?_)
          refine j_iconst hx hb dX9_together_59 ?_
          refine j_ixor hx hb dX9_together_60 ?_
          refine j_iand hx hb dX9_together_61 ?_
          refine j_iload_n hx hb dX9_together_62 rfl (lv_at hl 2 rfl) ?_
          refine j_iconst hx hb dX9_together_63 ?_
          obtain ⟨v16, e15, h⟩ := ob_I h
          refine jc_VI (As := [jI (andI y1 (xorI v14 (-1))), jI y2, jI 4]) (rest := []) ⟨hx, hb, hml, hown, hts⟩ hK hP hS (m_X9_allShow l D b cs N e15) (cwV 3 hts gX9_together_X9_allShow rfl rfl rfl (by decide +kernel) ⟨Nat.le_of_ble_eq_true rfl, Nat.le_of_ble_eq_true rfl⟩) kz_332 (by decide) rfl rfl hl.1 rfl (Nat.le_of_ble_eq_true rfl) dX9_together_64 ⟨Nat.zero_le _, Nat.zero_le _⟩ (fun H locs hP hS => ?_)
          refine j_if_ne (A := wr v16) (tgt := 72) hx hb rfl dX9_together_67 (by decide) (fun q17 => ?_) (fun q17 => ?_)
          · replace h := (if_neg q17).symm.trans h
            refine j_iconst hx hb dX9_together_72 ?_
            refine j_istore (lv2 := [(4, jI 0), (0, jR b 332), (1, jI y1), (2, jI y2), (3, jI y3)]) hx hb dX9_together_73 hl (by decide) rfl (fun ls hl => ?_)
            refine j_iconst hx hb dX9_together_75 ?_
            refine j_istore (lv2 := [(5, jI 0), (4, jI 0), (0, jR b 332), (1, jI y1), (2, jI y2), (3, jI y3)]) hx hb dX9_together_76 hl (by decide) rfl (fun ls hl => ?_)
            have hk120_18 : ∀ (x4_19 : Int) (μ20 : Mm) (H : Heap) (locs : List Loc) (ls : Array Slot), va_P D vwCl (wl b cs μ20) H → va_S (bA b) s.heap H locs → lv_has ls 9 [(0, jR b 332), (1, jI y1), (2, jI y2), (3, jI y3), (4, jI x4_19)] → fX9_together_k120 N y1 y2 y3 x4_19 μ20 = some (r, μ0) → W p l e rmX9_together s m args below meth c H locs 0 0 (MQ below (QI D b cs μ0 r) args s 0 0 (bA b)) (F0 m 120 ls []) := by
              intro x4_19 μ20 H locs ls hP hS hl h
              unfold fX9_together_k120 at h
              refine j_iload hx hb dX9_together_120 (lv_at hl 4 rfl) ?_
              refine j_bipush hx hb dX9_together_122 (by decide) ?_
              refine j_icmp_ge (A := wr x4_19) (B := 99) (tgt := 136) hx hb rfl (by decide) dX9_together_124 (by decide) (fun q21 => ?_) (fun q21 => ?_)
              · replace h := (if_pos q21).symm.trans h
                refine j_iload hx hb dX9_together_136 (lv_at hl 4 rfl) ?_
                refine j_bipush hx hb dX9_together_138 (by decide) ?_
                refine j_icmp_lt (A := wr x4_19) (B := 99) (tgt := 147) hx hb rfl (by decide) dX9_together_140 (by decide) (fun q22 => ?_) (fun q22 => ?_)
                · replace h := (if_pos q22).symm.trans h
                  refine j_iload hx hb dX9_together_147 (lv_at hl 4 rfl) ?_
                  obtain ⟨e0, e1⟩ := Prod.mk.inj (Option.some.inj h)
                  subst e1
                  exact j_retI hx hb hK hP hS hr hlk e0 dX9_together_149
                · replace h := (if_neg q22).symm.trans h
                  refine j_iconst hx hb dX9_together_143 ?_
                  refine j_goto (tgt := 149) hx hb dX9_together_144 (by decide) ?_
                  obtain ⟨e0, e1⟩ := Prod.mk.inj (Option.some.inj h)
                  subst e1
                  exact j_retI hx hb hK hP hS hr hlk e0 dX9_together_149
              · replace h := (if_neg q21).symm.trans h
                refine j_iload hx hb dX9_together_127 (lv_at hl 4 rfl) ?_
                refine j_if_eq (A := wr x4_19) (tgt := 136) hx hb rfl dX9_together_129 (by decide) (fun q23 => ?_) (fun q23 => ?_)
                · replace h := (if_pos q23).symm.trans h
                  refine j_iload hx hb dX9_together_136 (lv_at hl 4 rfl) ?_
                  refine j_bipush hx hb dX9_together_138 (by decide) ?_
                  refine j_icmp_lt (A := wr x4_19) (B := 99) (tgt := 147) hx hb rfl (by decide) dX9_together_140 (by decide) (fun q24 => ?_) (fun q24 => ?_)
                  · replace h := (if_pos q24).symm.trans h
                    refine j_iload hx hb dX9_together_147 (lv_at hl 4 rfl) ?_
                    obtain ⟨e0, e1⟩ := Prod.mk.inj (Option.some.inj h)
                    subst e1
                    exact j_retI hx hb hK hP hS hr hlk e0 dX9_together_149
                  · replace h := (if_neg q24).symm.trans h
                    refine j_iconst hx hb dX9_together_143 ?_
                    refine j_goto (tgt := 149) hx hb dX9_together_144 (by decide) ?_
                    obtain ⟨e0, e1⟩ := Prod.mk.inj (Option.some.inj h)
                    subst e1
                    exact j_retI hx hb hK hP hS hr hlk e0 dX9_together_149
                · replace h := (if_neg q23).symm.trans h
                  refine j_iload_n hx hb dX9_together_132 rfl (lv_at hl 3 rfl) ?_
                  refine j_if_ne (A := wr y3) (tgt := 150) hx hb rfl dX9_together_133 (by decide) (fun q25 => ?_) (fun q25 => ?_)
                  · replace h := (if_neg q25).symm.trans h
                    refine j_iconst hx hb dX9_together_150 ?_
                    refine j_istore (lv2 := [(5, jI 0), (0, jR b 332), (1, jI y1), (2, jI y2), (3, jI y3), (4, jI x4_19)]) hx hb dX9_together_151 hl (by decide) rfl (fun ls hl => ?_)
                    refine j_iconst hx hb dX9_together_153 ?_
                    refine j_istore (lv2 := [(6, jI 1), (5, jI 0), (0, jR b 332), (1, jI y1), (2, jI y2), (3, jI y3), (4, jI x4_19)]) hx hb dX9_together_154 hl (by decide) rfl (fun ls hl => ?_)
                    refine j_iconst hx hb dX9_together_156 ?_
                    refine j_istore (lv2 := [(7, jI 0), (6, jI 1), (5, jI 0), (0, jR b 332), (1, jI y1), (2, jI y2), (3, jI y3), (4, jI x4_19)]) hx hb dX9_together_157 hl (by decide) rfl (fun ls hl => ?_)
                    have hl159_26 : ∀ (n0 : Nat) (x5_27 : Int) (x6_28 : Int) (x7_29 : Int) (μ30 : Mm) (H : Heap) (locs : List Loc) (ls : Array Slot), va_P D vwCl (wl b cs μ30) H → va_S (bA b) s.heap H locs → lv_has ls 9 [(0, jR b 332), (1, jI y1), (2, jI y2), (4, jI x4_19), (5, jI x5_27), (6, jI x6_28), (7, jI x7_29)] → fX9_together_l159 N y1 y2 x4_19 n0 x5_27 x6_28 x7_29 μ30 = some (r, μ0) → W p l e rmX9_together s m args below meth c H locs 0 0 (MQ below (QI D b cs μ0 r) args s 0 0 (bA b)) (F0 m 159 ls []) := by
                      intro n0
                      induction n0 with
                      | zero => intro x5_27 x6_28 x7_29 μ30 H locs ls hP hS hl h; rw [fX9_together_l159] at h; cases h
                      | succ n26 ih159_26 =>
                        intro x5_27 x6_28 x7_29 μ30 H locs ls hP hS hl h
                        rw [fX9_together_l159] at h
                        refine j_iload hx hb dX9_together_159 (lv_at hl 6 rfl) ?_
                        refine j_aload_n hx hb dX9_together_161 rfl (lv_at hl 0 rfl) ?_
                        refine j_get (v := jI (gI μ30 332 9)) hx hb hts hinX9 hown hK hP kz_332 (by decide) rfl 9 (by decide) (hts (.fieldLink RX9 128 "CardBandModel" "packs" "I") (by decide +kernel)) rfl (by rw [jI_g]; rfl) dX9_together_162 ?_
                        refine j_icmp_ge (A := wr x7_29) (B := wr (gI μ30 332 9)) (tgt := 226) hx hb rfl rfl dX9_together_165 (by decide) (fun q31 => ?_) (fun q31 => ?_)
                        · replace h := (if_pos q31).symm.trans h
                          refine j_iload hx hb dX9_together_226 (lv_at hl 4 rfl) ?_
                          obtain ⟨e0, e1⟩ := Prod.mk.inj (Option.some.inj h)
                          subst e1
                          exact j_retI hx hb hK hP hS hr hlk e0 dX9_together_228
                        · replace h := (if_neg q31).symm.trans h
                          refine j_aload_n hx hb dX9_together_168 rfl (lv_at hl 0 rfl) ?_
                          refine j_iload_n hx hb dX9_together_169 rfl (lv_at hl 1 rfl) ?_
                          refine j_aload_n hx hb dX9_together_170 rfl (lv_at hl 0 rfl) ?_
                          refine j_get (v := jR b 337) hx hb hts hinX9 hown hK hP kz_332 (by decide) rfl 8 (by decide) (hts (.fieldLink RX9 23 "CardBandModel" "pack" "[I") (by decide +kernel)) rfl rfl dX9_together_171 ?_
                          refine j_iload hx hb dX9_together_174 (lv_at hl 6 rfl) ?_
                          obtain ⟨v32, e33, h⟩ := ob_I h
                          refine j_iaload hx hb hK hP kz_337 e33 dX9_together_176 ?_
                          refine j_iand hx hb dX9_together_177 ?_
                          refine j_iload_n hx hb dX9_together_178 rfl (lv_at hl 2 rfl) ?_
                          obtain ⟨μ35, e34, h⟩ := ob_I h
                          refine jc_VM (As := [jI (andI y1 v32), jI y2]) (rest := []) ⟨hx, hb, hml, hown, hts⟩ hK hP hS (m_X9_layFar l D b cs N e34) (cwV 2 hts gX9_together_X9_layFar rfl rfl rfl (by decide +kernel) ⟨Nat.le_of_ble_eq_true rfl, Nat.le_of_ble_eq_true rfl⟩) kz_332 (by decide) rfl rfl hl.1 rfl (Nat.le_of_ble_eq_true rfl) dX9_together_179 ⟨Nat.zero_le _, Nat.zero_le _⟩ (fun H locs hP hS => ?_)
                          refine j_iconst hx hb dX9_together_182 ?_
                          refine j_istore (lv2 := [(8, jI 0), (0, jR b 332), (1, jI y1), (2, jI y2), (4, jI x4_19), (5, jI x5_27), (6, jI x6_28), (7, jI x7_29)]) hx hb dX9_together_183 hl (by decide) rfl (fun ls hl => ?_)
                          have hk204_36 : ∀ (x8_37 : Int) (H : Heap) (locs : List Loc) (ls : Array Slot), va_P D vwCl (wl b cs μ35) H → va_S (bA b) s.heap H locs → lv_has ls 9 [(0, jR b 332), (1, jI y1), (2, jI y2), (4, jI x4_19), (5, jI x5_27), (6, jI x6_28), (7, jI x7_29), (8, jI x8_37)] → fX9_together_k204 N x5_27 x6_28 x7_29 (fX9_together_l159 N y1 y2 x4_19 n26) μ35 x8_37 = some (r, μ0) → W p l e rmX9_together s m args below meth c H locs 0 0 (MQ below (QI D b cs μ0 r) args s 0 0 (bA b)) (F0 m 204 ls []) := by
                            intro x8_37 H locs ls hP hS hl h
                            unfold fX9_together_k204 at h
                            refine j_iload hx hb dX9_together_204 (lv_at hl 4 rfl) ?_
                            refine j_iload hx hb dX9_together_206 (lv_at hl 5 rfl) ?_
                            refine j_iload hx hb dX9_together_208 (lv_at hl 7 rfl) ?_
                            refine j_imul hx hb dX9_together_210 ?_
                            refine j_iadd hx hb dX9_together_211 ?_
                            refine j_istore (lv2 := [(5, jI (x5_27 + (x6_28 * x8_37))), (0, jR b 332), (1, jI y1), (2, jI y2), (4, jI x4_19), (6, jI x6_28), (7, jI x7_29), (8, jI x8_37)]) hx hb dX9_together_212 hl (by decide) rfl (fun ls hl => ?_)
                            refine j_iload hx hb dX9_together_214 (lv_at hl 5 rfl) ?_
                            refine j_iconst hx hb dX9_together_216 ?_
                            refine j_imul hx hb dX9_together_217 ?_
                            refine j_istore (lv2 := [(6, jI (x6_28 * 3)), (5, jI (x5_27 + (x6_28 * x8_37))), (0, jR b 332), (1, jI y1), (2, jI y2), (4, jI x4_19), (7, jI x7_29), (8, jI x8_37)]) hx hb dX9_together_218 hl (by decide) rfl (fun ls hl => ?_)
                            refine j_iinc (k := 6) (lv2 := [(7, jI (x7_29 + 1)), (6, jI (x6_28 * 3)), (5, jI (x5_27 + (x6_28 * x8_37))), (0, jR b 332), (1, jI y1), (2, jI y2), (4, jI x4_19), (8, jI x8_37)]) hx hb dX9_together_220 hl rfl (by decide) rfl (fun ls hl => ?_)
                            refine j_goto (tgt := 159) hx hb dX9_together_223 (by decide) ?_
                            exact ih159_26 _ _ _ _ _ _ _ hP hS (lv_sub hl [3, 4, 5, 6, 2, 1, 0] rfl) h
                          have hl185_38 : ∀ (n0 : Nat) (x8_39 : Int) (H : Heap) (locs : List Loc) (ls : Array Slot), va_P D vwCl (wl b cs μ35) H → va_S (bA b) s.heap H locs → lv_has ls 9 [(0, jR b 332), (1, jI y1), (2, jI y2), (4, jI x4_19), (5, jI x5_27), (6, jI x6_28), (7, jI x7_29), (8, jI x8_39)] → fX9_together_l185 N x4_19 x5_27 x6_28 x7_29 (fX9_together_l159 N y1 y2 x4_19 n26) μ35 n0 x8_39 = some (r, μ0) → W p l e rmX9_together s m args below meth c H locs 0 0 (MQ below (QI D b cs μ0 r) args s 0 0 (bA b)) (F0 m 185 ls []) := by
                            intro n0
                            induction n0 with
                            | zero => intro x8_39 H locs ls hP hS hl h; rw [fX9_together_l185] at h; cases h
                            | succ n38 ih185_38 =>
                              intro x8_39 H locs ls hP hS hl h
                              rw [fX9_together_l185] at h
                              refine j_aload_n hx hb dX9_together_185 rfl (lv_at hl 0 rfl) ?_
                              refine j_iload hx hb dX9_together_186 (lv_at hl 7 rfl) ?_
                              obtain ⟨v41, e40, h⟩ := ob_I h
                              refine jc_VI (As := [jI x8_39]) (rest := []) ⟨hx, hb, hml, hown, hts⟩ hK hP hS (m_X9_farBehind l D b cs N e40) (cwV 1 hts gX9_together_X9_farBehind rfl rfl rfl (by decide +kernel) ⟨Nat.le_of_ble_eq_true rfl, Nat.le_of_ble_eq_true rfl⟩) kz_332 (by decide) rfl rfl hl.1 rfl (Nat.le_of_ble_eq_true rfl) dX9_together_188 ⟨Nat.zero_le _, Nat.zero_le _⟩ (fun H locs hP hS => ?_)
                              refine j_iload hx hb dX9_together_191 (lv_at hl 3 rfl) ?_
                              refine j_iconst hx hb dX9_together_193 ?_
                              refine j_isub hx hb dX9_together_194 ?_
                              refine j_icmp_le (A := wr v41) (B := wr (x4_19 - 1)) (tgt := 204) hx hb rfl rfl dX9_together_195 (by decide) (fun q42 => ?_) (fun q42 => ?_)
                              · replace h := (if_pos q42).symm.trans h
                                exact hk204_36 _ _ _ _ hP hS (lv_sub hl [0, 1, 2, 3, 4, 5, 6, 7] rfl) h
                              · replace h := (if_neg q42).symm.trans h
                                refine j_iinc (k := 7) (lv2 := [(8, jI (x8_39 + 1)), (0, jR b 332), (1, jI y1), (2, jI y2), (4, jI x4_19), (5, jI x5_27), (6, jI x6_28), (7, jI x7_29)]) hx hb dX9_together_198 hl rfl (by decide) rfl (fun ls hl => ?_)
                                refine j_goto (tgt := 185) hx hb dX9_together_201 (by decide) ?_
                                exact ih185_38 _ _ _ _ hP hS (lv_sub hl [1, 2, 3, 4, 5, 6, 7, 0] rfl) h
                          exact hl185_38 N _ _ _ _ hP hS (lv_sub hl [1, 2, 3, 4, 5, 6, 7, 0] rfl) h
                    exact hl159_26 N _ _ _ _ _ _ _ hP hS (lv_sub hl [3, 4, 5, 7, 2, 1, 0] rfl) h
                  · replace h := (if_pos q25).symm.trans h
                    refine j_iload hx hb dX9_together_136 (lv_at hl 4 rfl) ?_
                    refine j_bipush hx hb dX9_together_138 (by decide) ?_
                    refine j_icmp_lt (A := wr x4_19) (B := 99) (tgt := 147) hx hb rfl (by decide) dX9_together_140 (by decide) (fun q43 => ?_) (fun q43 => ?_)
                    · replace h := (if_pos q43).symm.trans h
                      refine j_iload hx hb dX9_together_147 (lv_at hl 4 rfl) ?_
                      obtain ⟨e0, e1⟩ := Prod.mk.inj (Option.some.inj h)
                      subst e1
                      exact j_retI hx hb hK hP hS hr hlk e0 dX9_together_149
                    · replace h := (if_neg q43).symm.trans h
                      refine j_iconst hx hb dX9_together_143 ?_
                      refine j_goto (tgt := 149) hx hb dX9_together_144 (by decide) ?_
                      obtain ⟨e0, e1⟩ := Prod.mk.inj (Option.some.inj h)
                      subst e1
                      exact j_retI hx hb hK hP hS hr hlk e0 dX9_together_149
            have hl78_44 : ∀ (n0 : Nat) (x4_45 : Int) (x5_46 : Int) (μ47 : Mm) (H : Heap) (locs : List Loc) (ls : Array Slot), va_P D vwCl (wl b cs μ47) H → va_S (bA b) s.heap H locs → lv_has ls 9 [(0, jR b 332), (1, jI y1), (2, jI y2), (3, jI y3), (4, jI x4_45), (5, jI x5_46)] → fX9_together_l78 N y1 y2 y3 n0 x4_45 x5_46 μ47 = some (r, μ0) → W p l e rmX9_together s m args below meth c H locs 0 0 (MQ below (QI D b cs μ0 r) args s 0 0 (bA b)) (F0 m 78 ls []) := by
              intro n0
              induction n0 with
              | zero => intro x4_45 x5_46 μ47 H locs ls hP hS hl h; rw [fX9_together_l78] at h; cases h
              | succ n44 ih78_44 =>
                intro x4_45 x5_46 μ47 H locs ls hP hS hl h
                rw [fX9_together_l78] at h
                refine j_iload hx hb dX9_together_78 (lv_at hl 5 rfl) ?_
                refine j_aload_n hx hb dX9_together_80 rfl (lv_at hl 0 rfl) ?_
                refine j_get (v := jI (gI μ47 332 9)) hx hb hts hinX9 hown hK hP kz_332 (by decide) rfl 9 (by decide) (hts (.fieldLink RX9 128 "CardBandModel" "packs" "I") (by decide +kernel)) rfl (by rw [jI_g]; rfl) dX9_together_81 ?_
                refine j_icmp_ge (A := wr x5_46) (B := wr (gI μ47 332 9)) (tgt := 120) hx hb rfl rfl dX9_together_84 (by decide) (fun q48 => ?_) (fun q48 => ?_)
                · replace h := (if_pos q48).symm.trans h
                  exact hk120_18 _ _ _ _ _ hP hS (lv_sub hl [0, 1, 2, 3, 4] rfl) h
                · replace h := (if_neg q48).symm.trans h
                  refine j_aload_n hx hb dX9_together_87 rfl (lv_at hl 0 rfl) ?_
                  refine j_iload_n hx hb dX9_together_88 rfl (lv_at hl 1 rfl) ?_
                  refine j_aload_n hx hb dX9_together_89 rfl (lv_at hl 0 rfl) ?_
                  refine j_get (v := jR b 337) hx hb hts hinX9 hown hK hP kz_332 (by decide) rfl 8 (by decide) (hts (.fieldLink RX9 23 "CardBandModel" "pack" "[I") (by decide +kernel)) rfl rfl dX9_together_90 ?_
                  refine j_iload hx hb dX9_together_93 (lv_at hl 5 rfl) ?_
                  obtain ⟨v49, e50, h⟩ := ob_I h
                  refine j_iaload hx hb hK hP kz_337 e50 dX9_together_95 ?_
                  refine j_iand hx hb dX9_together_96 ?_
                  refine j_iload_n hx hb dX9_together_97 rfl (lv_at hl 2 rfl) ?_
                  obtain ⟨μ52, e51, h⟩ := ob_I h
                  refine jc_VM (As := [jI (andI y1 v49), jI y2]) (rest := []) ⟨hx, hb, hml, hown, hts⟩ hK hP hS (m_X9_layFar l D b cs N e51) (cwV 2 hts gX9_together_X9_layFar rfl rfl rfl (by decide +kernel) ⟨Nat.le_of_ble_eq_true rfl, Nat.le_of_ble_eq_true rfl⟩) kz_332 (by decide) rfl rfl hl.1 rfl (Nat.le_of_ble_eq_true rfl) dX9_together_98 ⟨Nat.zero_le _, Nat.zero_le _⟩ (fun H locs hP hS => ?_)
                  refine j_iload hx hb dX9_together_101 (lv_at hl 4 rfl) ?_
                  refine j_aload_n hx hb dX9_together_103 rfl (lv_at hl 0 rfl) ?_
                  refine j_get (v := jR b 340) hx hb hts hinX9 hown hK hP kz_332 (by decide) rfl 19 (by decide) (hts (.fieldLink RX9 36 "CardBandModel" "far" "[I") (by decide +kernel)) rfl rfl dX9_together_104 ?_
                  refine j_iconst hx hb dX9_together_107 ?_
                  obtain ⟨v53, e54, h⟩ := ob_I h
                  refine j_iaload hx hb hK hP kz_340 e54 dX9_together_108 ?_
                  obtain ⟨v56, e55, h⟩ := ob_I h
                  refine jc_SI (As := [jI x4_45, jI v53]) (rest := []) ⟨hx, hb, hml, hown, hts⟩ hK hP hS (m_X9_most l D b cs N e55) (va_cwS 2 hts gX9_together_X9_most rfl rfl rfl (by decide +kernel) ⟨Nat.le_of_ble_eq_true rfl, Nat.le_of_ble_eq_true rfl⟩) rfl hl.1 rfl (Nat.le_of_ble_eq_true rfl) dX9_together_109 ⟨Nat.zero_le _, Nat.zero_le _⟩ (fun H locs hP hS => ?_)
                  refine j_istore (lv2 := [(4, jI v56), (0, jR b 332), (1, jI y1), (2, jI y2), (3, jI y3), (5, jI x5_46)]) hx hb dX9_together_112 hl (by decide) rfl (fun ls hl => ?_)
                  refine j_iinc (k := 5) (lv2 := [(5, jI (x5_46 + 1)), (4, jI v56), (0, jR b 332), (1, jI y1), (2, jI y2), (3, jI y3)]) hx hb dX9_together_114 hl rfl (by decide) rfl (fun ls hl => ?_)
                  refine j_goto (tgt := 78) hx hb dX9_together_117 (by decide) ?_
                  exact ih78_44 _ _ _ _ _ _ hP hS (lv_sub hl [2, 3, 4, 5, 1, 0] rfl) h
            exact hl78_44 N _ _ _ _ _ _ hP hS (lv_sub hl [2, 3, 4, 5, 1, 0] rfl) h
          · replace h := (if_pos q17).symm.trans h
            refine j_iconst hx hb dX9_together_70 ?_
            obtain ⟨e0, e1⟩ := Prod.mk.inj (Option.some.inj h)
            subst e1
            exact j_retI hx hb hK hP hS hr hlk e0 dX9_together_71
        · replace h := (if_pos q12).symm.trans h
          refine j_ldc (n := (-1000000003)) hx hb hown (hts (.constant RX9 231 (-1000000003)) (by decide +kernel)) (by decide) dX9_together_49 ?_
          obtain ⟨e0, e1⟩ := Prod.mk.inj (Option.some.inj h)
          subst e1
          exact j_retI hx hb hK hP hS hr hlk e0 dX9_together_51
      · replace h := (if_pos q9).symm.trans h
        refine j_ldc (n := (-1000000002)) hx hb hown (hts (.constant RX9 60 (-1000000002)) (by decide +kernel)) (by decide) dX9_together_39 ?_
        obtain ⟨e0, e1⟩ := Prod.mk.inj (Option.some.inj h)
        subst e1
        exact j_retI hx hb hK hP hS hr hlk e0 dX9_together_41
    · replace h := (if_pos q6).symm.trans h
      refine j_ldc (n := (-1000000001)) hx hb hown (hts (.constant RX9 183 (-1000000001)) (by decide +kernel)) (by decide) dX9_together_26 ?_
      obtain ⟨e0, e1⟩ := Prod.mk.inj (Option.some.inj h)
      subst e1
      exact j_retI hx hb hK hP hS hr hlk e0 dX9_together_28
def fX9_told (N : Nat) (y1 : Int) (μ : Mm) : Option (Int) :=
    if wr y1 = 0 then (some (gI μ 332 2)) else (if wr y1 = 1 then (some (gI μ 332 6)) else (if wr y1 = 2 then (some (gI μ 332 9)) else (if wr y1 = 3 then (some (gI μ 332 13)) else (if wr y1 = 4 then (Option.bind (ldA μ 333 8262 48) (fun v6 => some v6)) else (if wr y1 = 5 then (Option.bind (ldA μ 333 8262 49) (fun v9 => some v9)) else (if wr y1 = 6 then (Option.bind (fX9_mirrored N μ) (fun v13 => some v13)) else (if wr y1 = 7 then (Option.bind (fX9_period N μ) (fun v16 => some v16)) else (if wr y1 = 8 then (Option.bind (fX9_longest N μ) (fun v19 => some v19)) else (if wr y1 = 9 then (Option.bind (fX9_mostShown N μ) (fun v22 => some v22)) else (if wr y1 = 10 then (Option.bind (fX9_allYarn N μ) (fun v25 => some v25)) else (if wr y1 = 11 then (some (gI μ 332 23)) else (if wr y1 = 12 then (some (gI μ 332 26)) else (if wr y1 = 13 then (some (gI μ 332 18)) else (some (-1000000002)))))))))))))))
abbrev rmX9_told : Room := { frames := 3, cells := 0, slots := 0, locals := 71 }
set_option maxHeartbeats 4000000 in
set_option maxRecDepth 100000 in
theorem m_X9_told (l : Launch) (D : va_G) (b : Nat) (cs : CS) (N : Nat) {μ : Mm} {y1 : Int} {r : Int} (h : fX9_told N y1 μ = some r) : MI l yX9_told wsX9_told rmX9_told D b cs [jR b 332, jI y1] μ μ r := by
  refine met_in (cc := cX9_told) (maxL := 2) (ret := some .int) (lv0 := [(0, jR b 332), (1, jI y1)]) (by decide +kernel) rfl (Nat.le_of_ble_eq_true rfl) rfl ?_
  intro p e s m args below meth c hx hb hr hlk hml hown hts hP hK ls hl
  have hown : s.vm.findClass RX9 = some m.cls := hown
  have hS : va_S (bA b) s.heap s.heap [] := va_S.rf
  have hinX9 : ∀ w ∈ u_ws RX9 TX9 27, w ∈ wsX9_told := by decide +kernel
  unfold fX9_told at h
  refine j_iload_n hx hb dX9_told_0 rfl (lv_at hl 1 rfl) ?_
  by_cases q1 : wr y1 = 0
  · replace h := (if_pos q1).symm.trans h
    refine j_tabIn (A := wr y1) (off := 71) (tgt := 72) hx hb rfl dX9_told_1 (by rw [q1]; decide) (by rw [q1]; decide) (by rw [q1]; rfl) (by decide) ?_
    refine j_aload_n hx hb dX9_told_72 rfl (lv_at hl 0 rfl) ?_
    refine j_get (v := jI (gI μ 332 2)) hx hb hts hinX9 hown hK hP kz_332 (by decide) rfl 2 (by decide) (hts (.fieldLink RX9 125 "CardBandModel" "colours" "I") (by decide +kernel)) rfl (by rw [jI_g]; rfl) dX9_told_73 ?_
    exact j_retI hx hb hK hP hS hr hlk (Option.some.inj h) dX9_told_76
  · replace h := (if_neg q1).symm.trans h
    by_cases q2 : wr y1 = 1
    · replace h := (if_pos q2).symm.trans h
      refine j_tabIn (A := wr y1) (off := 76) (tgt := 77) hx hb rfl dX9_told_1 (by rw [q2]; decide) (by rw [q2]; decide) (by rw [q2]; rfl) (by decide) ?_
      refine j_aload_n hx hb dX9_told_77 rfl (lv_at hl 0 rfl) ?_
      refine j_get (v := jI (gI μ 332 6)) hx hb hts hinX9 hown hK hP kz_332 (by decide) rfl 6 (by decide) (hts (.fieldLink RX9 122 "CardBandModel" "cards" "I") (by decide +kernel)) rfl (by rw [jI_g]; rfl) dX9_told_78 ?_
      exact j_retI hx hb hK hP hS hr hlk (Option.some.inj h) dX9_told_81
    · replace h := (if_neg q2).symm.trans h
      by_cases q3 : wr y1 = 2
      · replace h := (if_pos q3).symm.trans h
        refine j_tabIn (A := wr y1) (off := 81) (tgt := 82) hx hb rfl dX9_told_1 (by rw [q3]; decide) (by rw [q3]; decide) (by rw [q3]; rfl) (by decide) ?_
        refine j_aload_n hx hb dX9_told_82 rfl (lv_at hl 0 rfl) ?_
        refine j_get (v := jI (gI μ 332 9)) hx hb hts hinX9 hown hK hP kz_332 (by decide) rfl 9 (by decide) (hts (.fieldLink RX9 128 "CardBandModel" "packs" "I") (by decide +kernel)) rfl (by rw [jI_g]; rfl) dX9_told_83 ?_
        exact j_retI hx hb hK hP hS hr hlk (Option.some.inj h) dX9_told_86
      · replace h := (if_neg q3).symm.trans h
        by_cases q4 : wr y1 = 3
        · replace h := (if_pos q4).symm.trans h
          refine j_tabIn (A := wr y1) (off := 86) (tgt := 87) hx hb rfl dX9_told_1 (by rw [q4]; decide) (by rw [q4]; decide) (by rw [q4]; rfl) (by decide) ?_
          refine j_aload_n hx hb dX9_told_87 rfl (lv_at hl 0 rfl) ?_
          refine j_get (v := jI (gI μ 332 13)) hx hb hts hinX9 hown hK hP kz_332 (by decide) rfl 13 (by decide) (hts (.fieldLink RX9 61 "CardBandModel" "textSize" "I") (by decide +kernel)) rfl (by rw [jI_g]; rfl) dX9_told_88 ?_
          exact j_retI hx hb hK hP hS hr hlk (Option.some.inj h) dX9_told_91
        · replace h := (if_neg q4).symm.trans h
          by_cases q5 : wr y1 = 4
          · replace h := (if_pos q5).symm.trans h
            refine j_tabIn (A := wr y1) (off := 91) (tgt := 92) hx hb rfl dX9_told_1 (by rw [q5]; decide) (by rw [q5]; decide) (by rw [q5]; rfl) (by decide) ?_
            refine j_aload_n hx hb dX9_told_92 rfl (lv_at hl 0 rfl) ?_
            refine j_get (v := jR b 333) hx hb hts hinX9 hown hK hP kz_332 (by decide) rfl 0 (by decide) (hts (.fieldLink RX9 7 "CardBandModel" "w" "[I") (by decide +kernel)) rfl rfl dX9_told_93 ?_
            refine j_bipush hx hb dX9_told_96 (by decide) ?_
            obtain ⟨v6, e7, h⟩ := ob_I h
            refine j_iaload hx hb hK hP kz_333 e7 dX9_told_98 ?_
            exact j_retI hx hb hK hP hS hr hlk (Option.some.inj h) dX9_told_99
          · replace h := (if_neg q5).symm.trans h
            by_cases q8 : wr y1 = 5
            · replace h := (if_pos q8).symm.trans h
              refine j_tabIn (A := wr y1) (off := 99) (tgt := 100) hx hb rfl dX9_told_1 (by rw [q8]; decide) (by rw [q8]; decide) (by rw [q8]; rfl) (by decide) ?_
              refine j_aload_n hx hb dX9_told_100 rfl (lv_at hl 0 rfl) ?_
              refine j_get (v := jR b 333) hx hb hts hinX9 hown hK hP kz_332 (by decide) rfl 0 (by decide) (hts (.fieldLink RX9 7 "CardBandModel" "w" "[I") (by decide +kernel)) rfl rfl dX9_told_101 ?_
              refine j_bipush hx hb dX9_told_104 (by decide) ?_
              obtain ⟨v9, e10, h⟩ := ob_I h
              refine j_iaload hx hb hK hP kz_333 e10 dX9_told_106 ?_
              exact j_retI hx hb hK hP hS hr hlk (Option.some.inj h) dX9_told_107
            · replace h := (if_neg q8).symm.trans h
              by_cases q11 : wr y1 = 6
              · replace h := (if_pos q11).symm.trans h
                refine j_tabIn (A := wr y1) (off := 107) (tgt := 108) hx hb rfl dX9_told_1 (by rw [q11]; decide) (by rw [q11]; decide) (by rw [q11]; rfl) (by decide) ?_
                refine j_aload_n hx hb dX9_told_108 rfl (lv_at hl 0 rfl) ?_
                obtain ⟨v13, e12, h⟩ := ob_I h
                refine jc_VI (As := []) (rest := []) ⟨hx, hb, hml, hown, hts⟩ hK hP hS (m_X9_mirrored l D b cs N e12) (cwV 0 hts gX9_told_X9_mirrored rfl rfl rfl (by decide +kernel) ⟨Nat.le_of_ble_eq_true rfl, Nat.le_of_ble_eq_true rfl⟩) kz_332 (by decide) rfl rfl hl.1 rfl (Nat.le_of_ble_eq_true rfl) dX9_told_109 ⟨Nat.zero_le _, Nat.zero_le _⟩ (fun H locs hP hS => ?_)
                exact j_retI hx hb hK hP hS hr hlk (Option.some.inj h) dX9_told_112
              · replace h := (if_neg q11).symm.trans h
                by_cases q14 : wr y1 = 7
                · replace h := (if_pos q14).symm.trans h
                  refine j_tabIn (A := wr y1) (off := 112) (tgt := 113) hx hb rfl dX9_told_1 (by rw [q14]; decide) (by rw [q14]; decide) (by rw [q14]; rfl) (by decide) ?_
                  refine j_aload_n hx hb dX9_told_113 rfl (lv_at hl 0 rfl) ?_
                  obtain ⟨v16, e15, h⟩ := ob_I h
                  refine jc_VI (As := []) (rest := []) ⟨hx, hb, hml, hown, hts⟩ hK hP hS (m_X9_period l D b cs N e15) (cwV 0 hts gX9_told_X9_period rfl rfl rfl (by decide +kernel) ⟨Nat.le_of_ble_eq_true rfl, Nat.le_of_ble_eq_true rfl⟩) kz_332 (by decide) rfl rfl hl.1 rfl (Nat.le_of_ble_eq_true rfl) dX9_told_114 ⟨Nat.zero_le _, Nat.zero_le _⟩ (fun H locs hP hS => ?_)
                  exact j_retI hx hb hK hP hS hr hlk (Option.some.inj h) dX9_told_117
                · replace h := (if_neg q14).symm.trans h
                  by_cases q17 : wr y1 = 8
                  · replace h := (if_pos q17).symm.trans h
                    refine j_tabIn (A := wr y1) (off := 117) (tgt := 118) hx hb rfl dX9_told_1 (by rw [q17]; decide) (by rw [q17]; decide) (by rw [q17]; rfl) (by decide) ?_
                    refine j_aload_n hx hb dX9_told_118 rfl (lv_at hl 0 rfl) ?_
                    obtain ⟨v19, e18, h⟩ := ob_I h
                    refine jc_VI (As := []) (rest := []) ⟨hx, hb, hml, hown, hts⟩ hK hP hS (m_X9_longest l D b cs N e18) (cwV 0 hts gX9_told_X9_longest rfl rfl rfl (by decide +kernel) ⟨Nat.le_of_ble_eq_true rfl, Nat.le_of_ble_eq_true rfl⟩) kz_332 (by decide) rfl rfl hl.1 rfl (Nat.le_of_ble_eq_true rfl) dX9_told_119 ⟨Nat.zero_le _, Nat.zero_le _⟩ (fun H locs hP hS => ?_)
                    exact j_retI hx hb hK hP hS hr hlk (Option.some.inj h) dX9_told_122
                  · replace h := (if_neg q17).symm.trans h
                    by_cases q20 : wr y1 = 9
                    · replace h := (if_pos q20).symm.trans h
                      refine j_tabIn (A := wr y1) (off := 122) (tgt := 123) hx hb rfl dX9_told_1 (by rw [q20]; decide) (by rw [q20]; decide) (by rw [q20]; rfl) (by decide) ?_
                      refine j_aload_n hx hb dX9_told_123 rfl (lv_at hl 0 rfl) ?_
                      obtain ⟨v22, e21, h⟩ := ob_I h
                      refine jc_VI (As := []) (rest := []) ⟨hx, hb, hml, hown, hts⟩ hK hP hS (m_X9_mostShown l D b cs N e21) (cwV 0 hts gX9_told_X9_mostShown rfl rfl rfl (by decide +kernel) ⟨Nat.le_of_ble_eq_true rfl, Nat.le_of_ble_eq_true rfl⟩) kz_332 (by decide) rfl rfl hl.1 rfl (Nat.le_of_ble_eq_true rfl) dX9_told_124 ⟨Nat.zero_le _, Nat.zero_le _⟩ (fun H locs hP hS => ?_)
                      exact j_retI hx hb hK hP hS hr hlk (Option.some.inj h) dX9_told_127
                    · replace h := (if_neg q20).symm.trans h
                      by_cases q23 : wr y1 = 10
                      · replace h := (if_pos q23).symm.trans h
                        refine j_tabIn (A := wr y1) (off := 127) (tgt := 128) hx hb rfl dX9_told_1 (by rw [q23]; decide) (by rw [q23]; decide) (by rw [q23]; rfl) (by decide) ?_
                        refine j_aload_n hx hb dX9_told_128 rfl (lv_at hl 0 rfl) ?_
                        obtain ⟨v25, e24, h⟩ := ob_I h
                        refine jc_VI (As := []) (rest := []) ⟨hx, hb, hml, hown, hts⟩ hK hP hS (m_X9_allYarn l D b cs N e24) (cwV 0 hts gX9_told_X9_allYarn rfl rfl rfl (by decide +kernel) ⟨Nat.le_of_ble_eq_true rfl, Nat.le_of_ble_eq_true rfl⟩) kz_332 (by decide) rfl rfl hl.1 rfl (Nat.le_of_ble_eq_true rfl) dX9_told_129 ⟨Nat.zero_le _, Nat.zero_le _⟩ (fun H locs hP hS => ?_)
                        exact j_retI hx hb hK hP hS hr hlk (Option.some.inj h) dX9_told_132
                      · replace h := (if_neg q23).symm.trans h
                        by_cases q26 : wr y1 = 11
                        · replace h := (if_pos q26).symm.trans h
                          refine j_tabIn (A := wr y1) (off := 132) (tgt := 133) hx hb rfl dX9_told_1 (by rw [q26]; decide) (by rw [q26]; decide) (by rw [q26]; rfl) (by decide) ?_
                          refine j_aload_n hx hb dX9_told_133 rfl (lv_at hl 0 rfl) ?_
                          refine j_get (v := jI (gI μ 332 23)) hx hb hts hinX9 hown hK hP kz_332 (by decide) rfl 23 (by decide) (hts (.fieldLink RX9 131 "CardBandModel" "seen" "I") (by decide +kernel)) rfl (by rw [jI_g]; rfl) dX9_told_134 ?_
                          exact j_retI hx hb hK hP hS hr hlk (Option.some.inj h) dX9_told_137
                        · replace h := (if_neg q26).symm.trans h
                          by_cases q27 : wr y1 = 12
                          · replace h := (if_pos q27).symm.trans h
                            refine j_tabIn (A := wr y1) (off := 137) (tgt := 138) hx hb rfl dX9_told_1 (by rw [q27]; decide) (by rw [q27]; decide) (by rw [q27]; rfl) (by decide) ?_
                            refine j_aload_n hx hb dX9_told_138 rfl (lv_at hl 0 rfl) ?_
                            refine j_get (v := jI (gI μ 332 26)) hx hb hts hinX9 hown hK hP kz_332 (by decide) rfl 26 (by decide) (hts (.fieldLink RX9 134 "CardBandModel" "written" "I") (by decide +kernel)) rfl (by rw [jI_g]; rfl) dX9_told_139 ?_
                            exact j_retI hx hb hK hP hS hr hlk (Option.some.inj h) dX9_told_142
                          · replace h := (if_neg q27).symm.trans h
                            by_cases q28 : wr y1 = 13
                            · replace h := (if_pos q28).symm.trans h
                              refine j_tabIn (A := wr y1) (off := 142) (tgt := 143) hx hb rfl dX9_told_1 (by rw [q28]; decide) (by rw [q28]; decide) (by rw [q28]; rfl) (by decide) ?_
                              refine j_aload_n hx hb dX9_told_143 rfl (lv_at hl 0 rfl) ?_
                              refine j_get (v := jI (gI μ 332 18)) hx hb hts hinX9 hown hK hP kz_332 (by decide) rfl 18 (by decide) (hts (.fieldLink RX9 137 "CardBandModel" "undoMany" "I") (by decide +kernel)) rfl (by rw [jI_g]; rfl) dX9_told_144 ?_
                              exact j_retI hx hb hK hP hS hr hlk (Option.some.inj h) dX9_told_147
                            · replace h := (if_neg q28).symm.trans h
                              refine j_tabOut (A := wr y1) (tgt := 148) hx hb rfl dX9_told_1 (by omega) (by decide) ?_
                              refine j_ldc (n := (-1000000002)) hx hb hown (hts (.constant RX9 60 (-1000000002)) (by decide +kernel)) (by decide) dX9_told_148 ?_
                              exact j_retI hx hb hK hP hS hr hlk (Option.some.inj h) dX9_told_150
def fX9_turned_j163 (N : Nat) (y1 : Int) (μ : Mm) (v13 : Int) (x5_19 : Int) (x6_20 : Int) (rec78_18 : Int → Int → Option (Int)) (s23 : Int) (s25 : Int) : Int → Option (Int) := fun s27 =>
    if wr s23 = 0 then (rec78_18 (orI (orI x5_19 s27) 0) (x6_20 + 1)) else (if wr s25 = 0 then (Option.bind (fX9_colourOf N y1 (x6_20 + 1) μ) (fun v31 => if wr v13 = wr v31 then (rec78_18 (orI (orI x5_19 s27) 4) (x6_20 + 1)) else (rec78_18 (orI (orI x5_19 s27) 0) (x6_20 + 1)))) else (rec78_18 (orI (orI x5_19 s27) 4) (x6_20 + 1)))
def fX9_turned_j130 (N : Nat) (y1 : Int) (μ : Mm) (v13 : Int) (x5_19 : Int) (x6_20 : Int) (rec78_18 : Int → Int → Option (Int)) (s23 : Int) : Int → Option (Int) := fun s25 =>
    if wr s23 = 0 then (fX9_turned_j163 N y1 μ v13 x5_19 x6_20 rec78_18 s23 s25 0) else (if wr s25 = 0 then (Option.bind (fX9_colourOf N y1 (x6_20 + 3) μ) (fun v36 => if wr v13 = wr v36 then (fX9_turned_j163 N y1 μ v13 x5_19 x6_20 rec78_18 s23 s25 2) else (fX9_turned_j163 N y1 μ v13 x5_19 x6_20 rec78_18 s23 s25 0))) else (fX9_turned_j163 N y1 μ v13 x5_19 x6_20 rec78_18 s23 s25 2))
def fX9_turned_j105 (N : Nat) (y1 : Int) (μ : Mm) (v13 : Int) (x5_19 : Int) (x6_20 : Int) (rec78_18 : Int → Int → Option (Int)) : Int → Option (Int) := fun s23 =>
    if wr v13 = (-1) then (fX9_turned_j130 N y1 μ v13 x5_19 x6_20 rec78_18 s23 1) else (Option.bind (fX9_colourOf N y1 x6_20 μ) (fun v40 => if wr v13 = wr v40 then (fX9_turned_j130 N y1 μ v13 x5_19 x6_20 rec78_18 s23 1) else (fX9_turned_j130 N y1 μ v13 x5_19 x6_20 rec78_18 s23 0)))
def fX9_turned_l78 (N : Nat) (y1 : Int) (μ : Mm) (v11 : Int) (v13 : Int) : Nat → Int → Int → Option (Int)
  | 0, _, _ => none
  | n18 + 1, x5_19, x6_20 =>
    if 4 ≤ wr x6_20 then (some x5_19) else (if wr v11 = (-1) then (fX9_turned_j105 N y1 μ v13 x5_19 x6_20 (fX9_turned_l78 N y1 μ v11 v13 n18) 0) else (Option.bind (fX9_colourOf N y1 x6_20 μ) (fun v44 => if wr v44 = wr v11 then (fX9_turned_j105 N y1 μ v13 x5_19 x6_20 (fX9_turned_l78 N y1 μ v11 v13 n18) 1) else (fX9_turned_j105 N y1 μ v13 x5_19 x6_20 (fX9_turned_l78 N y1 μ v11 v13 n18) 0))))
def fX9_turned_j70 (N : Nat) (y1 : Int) (μ : Mm) (v11 : Int) (v13 : Int) : Int → Option (Int) := fun s15 =>
    Option.bind (fX9_one N s15 μ) (fun v17 => fX9_turned_l78 N y1 μ v11 v13 N v17 0)
def fX9_turned (N : Nat) (y1 : Int) (y2 : Int) (μ : Mm) : Option (Int) :=
    Option.bind (fX9_isCard N y1 μ) (fun v2 => if wr v2 = 0 then (some (-1000000001)) else (Option.bind (fX9_in N (wr y2) 0 22 μ) (fun v5 => if wr v5 = 0 then (some (-1000000002)) else (Option.bind (ldA μ 333 8262 49) (fun v7 => if wr (y2 + 1) < wr v7 then (Option.bind (fX9_was N y2 y1 μ) (fun v11 => Option.bind (fX9_was N (y2 + 1) y1 μ) (fun v13 => if wr v13 = wr v11 then (fX9_turned_j70 N y1 μ v11 v13 1) else (fX9_turned_j70 N y1 μ v11 v13 0)))) else (some (-1000000003)))))))
abbrev rmX9_turned : Room := { frames := 2, cells := 0, slots := 0, locals := 46 }
set_option maxHeartbeats 4000000 in
set_option maxRecDepth 100000 in
theorem m_X9_turned (l : Launch) (D : va_G) (b : Nat) (cs : CS) (N : Nat) {μ : Mm} {y1 y2 : Int} {r : Int} (h : fX9_turned N y1 y2 μ = some r) : MI l yX9_turned wsX9_turned rmX9_turned D b cs [jR b 332, jI y1, jI y2] μ μ r := by
  refine met_in (cc := cX9_turned) (maxL := 9) (ret := some .int) (lv0 := [(0, jR b 332), (1, jI y1), (2, jI y2)]) (by decide +kernel) rfl (Nat.le_of_ble_eq_true rfl) rfl ?_
  intro p e s m args below meth c hx hb hr hlk hml hown hts hP hK ls hl
  have hown : s.vm.findClass RX9 = some m.cls := hown
  have hS : va_S (bA b) s.heap s.heap [] := va_S.rf
  have hinX9 : ∀ w ∈ u_ws RX9 TX9 27, w ∈ wsX9_turned := by decide +kernel
  unfold fX9_turned at h
  refine j_aload_n hx hb dX9_turned_0 rfl (lv_at hl 0 rfl) ?_
  refine j_iload_n hx hb dX9_turned_1 rfl (lv_at hl 1 rfl) ?_
  obtain ⟨v2, e1, h⟩ := ob_I h
  refine jc_VI (As := [jI y1]) (rest := []) ⟨hx, hb, hml, hown, hts⟩ hK hP hS (m_X9_isCard l D b cs N e1) (cwV 1 hts gX9_turned_X9_isCard rfl rfl rfl (by decide +kernel) ⟨Nat.le_of_ble_eq_true rfl, Nat.le_of_ble_eq_true rfl⟩) kz_332 (by decide) rfl rfl hl.1 rfl (Nat.le_of_ble_eq_true rfl) dX9_turned_2 ⟨Nat.zero_le _, Nat.zero_le _⟩ (fun H locs hP hS => ?_)
  refine j_if_ne (A := wr v2) (tgt := 11) hx hb rfl dX9_turned_5 (by decide) (fun q3 => ?_) (fun q3 => ?_)
  · replace h := (if_neg q3).symm.trans h
    refine j_iload_n hx hb dX9_turned_11 rfl (lv_at hl 2 rfl) ?_
    refine j_i2l hx hb dX9_turned_12 ?_
    refine j_lconst (n := 0) hx hb dX9_turned_13 (by decide) ?_
    refine j_ldc2 (n := 22) hx hb hown (hts (.constantLong RX9 279 (22)) (by decide +kernel)) (by decide) dX9_turned_14 ?_
    obtain ⟨v5, e4, h⟩ := ob_I h
    refine jc_SI (As := [jL (wr y2), jL 0, jL 22]) (rest := []) ⟨hx, hb, hml, hown, hts⟩ hK hP hS (m_X9_in l D b cs N e4) (va_cwS 3 hts gX9_turned_X9_in rfl rfl rfl (by decide +kernel) ⟨Nat.le_of_ble_eq_true rfl, Nat.le_of_ble_eq_true rfl⟩) rfl hl.1 rfl (Nat.le_of_ble_eq_true rfl) dX9_turned_17 ⟨Nat.zero_le _, Nat.zero_le _⟩ (fun H locs hP hS => ?_)
    refine j_if_ne (A := wr v5) (tgt := 26) hx hb rfl dX9_turned_20 (by decide) (fun q6 => ?_) (fun q6 => ?_)
    · replace h := (if_neg q6).symm.trans h
      refine j_iload_n hx hb dX9_turned_26 rfl (lv_at hl 2 rfl) ?_
      refine j_iconst hx hb dX9_turned_27 ?_
      refine j_iadd hx hb dX9_turned_28 ?_
      refine j_aload_n hx hb dX9_turned_29 rfl (lv_at hl 0 rfl) ?_
      refine j_get (v := jR b 333) hx hb hts hinX9 hown hK hP kz_332 (by decide) rfl 0 (by decide) (hts (.fieldLink RX9 7 "CardBandModel" "w" "[I") (by decide +kernel)) rfl rfl dX9_turned_30 ?_
      refine j_bipush hx hb dX9_turned_33 (by decide) ?_
      obtain ⟨v7, e8, h⟩ := ob_I h
      refine j_iaload hx hb hK hP kz_333 e8 dX9_turned_35 ?_
      refine j_icmp_lt (A := wr (y2 + 1)) (B := wr v7) (tgt := 42) hx hb rfl rfl dX9_turned_36 (by decide) (fun q9 => ?_) (fun q9 => ?_)
      · replace h := (if_pos q9).symm.trans h
        refine j_aload_n hx hb dX9_turned_42 rfl (lv_at hl 0 rfl) ?_
        refine j_iload_n hx hb dX9_turned_43 rfl (lv_at hl 2 rfl) ?_
        refine j_iload_n hx hb dX9_turned_44 rfl (lv_at hl 1 rfl) ?_
        obtain ⟨v11, e10, h⟩ := ob_I h
        refine jc_VI (As := [jI y2, jI y1]) (rest := []) ⟨hx, hb, hml, hown, hts⟩ hK hP hS (m_X9_was l D b cs N e10) (cwV 2 hts gX9_turned_X9_was rfl rfl rfl (by decide +kernel) ⟨Nat.le_of_ble_eq_true rfl, Nat.le_of_ble_eq_true rfl⟩) kz_332 (by decide) rfl rfl hl.1 rfl (Nat.le_of_ble_eq_true rfl) dX9_turned_45 ⟨Nat.zero_le _, Nat.zero_le _⟩ (fun H locs hP hS => ?_)
        refine j_istore_n (lv2 := [(3, jI v11), (0, jR b 332), (1, jI y1), (2, jI y2)]) hx hb dX9_turned_48 rfl hl (by decide) rfl (fun ls hl => ?_)
        refine j_aload_n hx hb dX9_turned_49 rfl (lv_at hl 1 rfl) ?_
        refine j_iload_n hx hb dX9_turned_50 rfl (lv_at hl 3 rfl) ?_
        refine j_iconst hx hb dX9_turned_51 ?_
        refine j_iadd hx hb dX9_turned_52 ?_
        refine j_iload_n hx hb dX9_turned_53 rfl (lv_at hl 2 rfl) ?_
        obtain ⟨v13, e12, h⟩ := ob_I h
        refine jc_VI (As := [jI (y2 + 1), jI y1]) (rest := []) ⟨hx, hb, hml, hown, hts⟩ hK hP hS (m_X9_was l D b cs N e12) (cwV 2 hts gX9_turned_X9_was rfl rfl rfl (by decide +kernel) ⟨Nat.le_of_ble_eq_true rfl, Nat.le_of_ble_eq_true rfl⟩) kz_332 (by decide) rfl rfl hl.1 rfl (Nat.le_of_ble_eq_true rfl) dX9_turned_54 ⟨Nat.zero_le _, Nat.zero_le _⟩ (fun H locs hP hS => ?_)
        refine j_istore (lv2 := [(4, jI v13), (3, jI v11), (0, jR b 332), (1, jI y1), (2, jI y2)]) hx hb dX9_turned_57 hl (by decide) rfl (fun ls hl => ?_)
        refine j_iload hx hb dX9_turned_59 (lv_at hl 0 rfl) ?_
        refine j_iload_n hx hb dX9_turned_61 rfl (lv_at hl 1 rfl) ?_
        have hj70_14 : ∀ (s15 : Int) (H : Heap) (locs : List Loc) (ls : Array Slot), va_P D vwCl (wl b cs μ) H → va_S (bA b) s.heap H locs → lv_has ls 9 [(0, jR b 332), (1, jI y1), (3, jI v11), (4, jI v13)] → fX9_turned_j70 N y1 μ v11 v13 s15 = some r → W p l e rmX9_turned s m args below meth c H locs 0 0 (MQ below (QI D b cs μ r) args s 0 0 (bA b)) (F0 m 70 ls [jI s15]) := by
          intro s15 H locs ls hP hS hl h
          unfold fX9_turned_j70 at h
          obtain ⟨v17, e16, h⟩ := ob_I h
          refine jc_SI (As := [jI s15]) (rest := []) ⟨hx, hb, hml, hown, hts⟩ hK hP hS (m_X9_one l D b cs N e16) (va_cwS 1 hts gX9_turned_X9_one rfl rfl rfl (by decide +kernel) ⟨Nat.le_of_ble_eq_true rfl, Nat.le_of_ble_eq_true rfl⟩) rfl hl.1 rfl (Nat.le_of_ble_eq_true rfl) dX9_turned_70 ⟨Nat.zero_le _, Nat.zero_le _⟩ (fun H locs hP hS => ?_)
          refine j_istore (lv2 := [(5, jI v17), (0, jR b 332), (1, jI y1), (3, jI v11), (4, jI v13)]) hx hb dX9_turned_73 hl (by decide) rfl (fun ls hl => ?_)
          refine j_iconst hx hb dX9_turned_75 ?_
          refine j_istore (lv2 := [(6, jI 0), (5, jI v17), (0, jR b 332), (1, jI y1), (3, jI v11), (4, jI v13)]) hx hb dX9_turned_76 hl (by decide) rfl (fun ls hl => ?_)
          have hl78_18 : ∀ (n0 : Nat) (x5_19 : Int) (x6_20 : Int) (H : Heap) (locs : List Loc) (ls : Array Slot), va_P D vwCl (wl b cs μ) H → va_S (bA b) s.heap H locs → lv_has ls 9 [(0, jR b 332), (1, jI y1), (3, jI v11), (4, jI v13), (5, jI x5_19), (6, jI x6_20)] → fX9_turned_l78 N y1 μ v11 v13 n0 x5_19 x6_20 = some r → W p l e rmX9_turned s m args below meth c H locs 0 0 (MQ below (QI D b cs μ r) args s 0 0 (bA b)) (F0 m 78 ls []) := by
            intro n0
            induction n0 with
            | zero => intro x5_19 x6_20 H locs ls hP hS hl h; rw [fX9_turned_l78] at h; cases h
            | succ n18 ih78_18 =>
              intro x5_19 x6_20 H locs ls hP hS hl h
              rw [fX9_turned_l78] at h
              refine j_iload hx hb dX9_turned_78 (lv_at hl 5 rfl) ?_
              refine j_iconst hx hb dX9_turned_80 ?_
              refine j_icmp_ge (A := wr x6_20) (B := 4) (tgt := 206) hx hb rfl (by decide) dX9_turned_81 (by decide) (fun q21 => ?_) (fun q21 => ?_)
              · replace h := (if_pos q21).symm.trans h
                refine j_iload hx hb dX9_turned_206 (lv_at hl 4 rfl) ?_
                exact j_retI hx hb hK hP hS hr hlk (Option.some.inj h) dX9_turned_208
              · replace h := (if_neg q21).symm.trans h
                refine j_iload_n hx hb dX9_turned_84 rfl (lv_at hl 2 rfl) ?_
                refine j_iconst hx hb dX9_turned_85 ?_
                have hj105_22 : ∀ (s23 : Int) (H : Heap) (locs : List Loc) (ls : Array Slot), va_P D vwCl (wl b cs μ) H → va_S (bA b) s.heap H locs → lv_has ls 9 [(0, jR b 332), (1, jI y1), (3, jI v11), (4, jI v13), (5, jI x5_19), (6, jI x6_20)] → fX9_turned_j105 N y1 μ v13 x5_19 x6_20 (fX9_turned_l78 N y1 μ v11 v13 n18) s23 = some r → W p l e rmX9_turned s m args below meth c H locs 0 0 (MQ below (QI D b cs μ r) args s 0 0 (bA b)) (F0 m 105 ls [jI s23]) := by
                  intro s23 H locs ls hP hS hl h
                  unfold fX9_turned_j105 at h
                  refine j_istore (lv2 := [(7, jI s23), (0, jR b 332), (1, jI y1), (3, jI v11), (4, jI v13), (5, jI x5_19), (6, jI x6_20)]) hx hb dX9_turned_105 hl (by decide) rfl (fun ls hl => ?_)
                  refine j_iload hx hb dX9_turned_107 (lv_at hl 4 rfl) ?_
                  refine j_iconst hx hb dX9_turned_109 ?_
                  have hj130_24 : ∀ (s25 : Int) (H : Heap) (locs : List Loc) (ls : Array Slot), va_P D vwCl (wl b cs μ) H → va_S (bA b) s.heap H locs → lv_has ls 9 [(0, jR b 332), (1, jI y1), (3, jI v11), (4, jI v13), (5, jI x5_19), (6, jI x6_20), (7, jI s23)] → fX9_turned_j130 N y1 μ v13 x5_19 x6_20 (fX9_turned_l78 N y1 μ v11 v13 n18) s23 s25 = some r → W p l e rmX9_turned s m args below meth c H locs 0 0 (MQ below (QI D b cs μ r) args s 0 0 (bA b)) (F0 m 130 ls [jI s25]) := by
                    intro s25 H locs ls hP hS hl h
                    unfold fX9_turned_j130 at h
                    refine j_istore (lv2 := [(8, jI s25), (0, jR b 332), (1, jI y1), (3, jI v11), (4, jI v13), (5, jI x5_19), (6, jI x6_20), (7, jI s23)]) hx hb dX9_turned_130 hl (by decide) rfl (fun ls hl => ?_)
                    refine j_iload hx hb dX9_turned_132 (lv_at hl 5 rfl) ?_
                    refine j_iload hx hb dX9_turned_134 (lv_at hl 7 rfl) ?_
                    have hj163_26 : ∀ (s27 : Int) (H : Heap) (locs : List Loc) (ls : Array Slot), va_P D vwCl (wl b cs μ) H → va_S (bA b) s.heap H locs → lv_has ls 9 [(0, jR b 332), (1, jI y1), (3, jI v11), (4, jI v13), (6, jI x6_20), (7, jI s23), (8, jI s25)] → fX9_turned_j163 N y1 μ v13 x5_19 x6_20 (fX9_turned_l78 N y1 μ v11 v13 n18) s23 s25 s27 = some r → W p l e rmX9_turned s m args below meth c H locs 0 0 (MQ below (QI D b cs μ r) args s 0 0 (bA b)) (F0 m 163 ls [jI s27, jI x5_19]) := by
                      intro s27 H locs ls hP hS hl h
                      unfold fX9_turned_j163 at h
                      refine j_ior hx hb dX9_turned_163 ?_
                      refine j_istore (lv2 := [(5, jI (orI x5_19 s27)), (0, jR b 332), (1, jI y1), (3, jI v11), (4, jI v13), (6, jI x6_20), (7, jI s23), (8, jI s25)]) hx hb dX9_turned_164 hl (by decide) rfl (fun ls hl => ?_)
                      refine j_iload hx hb dX9_turned_166 (lv_at hl 0 rfl) ?_
                      refine j_iload hx hb dX9_turned_168 (lv_at hl 6 rfl) ?_
                      refine j_if_eq (A := wr s23) (tgt := 196) hx hb rfl dX9_turned_170 (by decide) (fun q28 => ?_) (fun q28 => ?_)
                      · replace h := (if_pos q28).symm.trans h
                        refine j_iconst hx hb dX9_turned_196 ?_
                        refine j_ior hx hb dX9_turned_197 ?_
                        refine j_istore (lv2 := [(5, jI (orI (orI x5_19 s27) 0)), (0, jR b 332), (1, jI y1), (3, jI v11), (4, jI v13), (6, jI x6_20), (7, jI s23), (8, jI s25)]) hx hb dX9_turned_198 hl (by decide) rfl (fun ls hl => ?_)
                        refine j_iinc (k := 5) (lv2 := [(6, jI (x6_20 + 1)), (5, jI (orI (orI x5_19 s27) 0)), (0, jR b 332), (1, jI y1), (3, jI v11), (4, jI v13), (7, jI s23), (8, jI s25)]) hx hb dX9_turned_200 hl rfl (by decide) rfl (fun ls hl => ?_)
                        refine j_goto (tgt := 78) hx hb dX9_turned_203 (by decide) ?_
                        exact ih78_18 _ _ _ _ _ hP hS (lv_sub hl [2, 3, 4, 5, 1, 0] rfl) h
                      · replace h := (if_neg q28).symm.trans h
                        refine j_iload hx hb dX9_turned_173 (lv_at hl 7 rfl) ?_
                        refine j_if_ne (A := wr s25) (tgt := 192) hx hb rfl dX9_turned_175 (by decide) (fun q29 => ?_) (fun q29 => ?_)
                        · replace h := (if_neg q29).symm.trans h
                          refine j_iconst hx hb dX9_turned_192 ?_
                          refine j_goto (tgt := 197) hx hb dX9_turned_193 (by decide) ?_
                          refine j_ior hx hb dX9_turned_197 ?_
                          refine j_istore (lv2 := [(5, jI (orI (orI x5_19 s27) 4)), (0, jR b 332), (1, jI y1), (3, jI v11), (4, jI v13), (6, jI x6_20), (7, jI s23), (8, jI s25)]) hx hb dX9_turned_198 hl (by decide) rfl (fun ls hl => ?_)
                          refine j_iinc (k := 5) (lv2 := [(6, jI (x6_20 + 1)), (5, jI (orI (orI x5_19 s27) 4)), (0, jR b 332), (1, jI y1), (3, jI v11), (4, jI v13), (7, jI s23), (8, jI s25)]) hx hb dX9_turned_200 hl rfl (by decide) rfl (fun ls hl => ?_)
                          refine j_goto (tgt := 78) hx hb dX9_turned_203 (by decide) ?_
                          exact ih78_18 _ _ _ _ _ hP hS (lv_sub hl [2, 3, 4, 5, 1, 0] rfl) h
                        · replace h := (if_pos q29).symm.trans h
                          refine j_iload hx hb dX9_turned_178 (lv_at hl 4 rfl) ?_
                          refine j_aload_n hx hb dX9_turned_180 rfl (lv_at hl 1 rfl) ?_
                          refine j_iload_n hx hb dX9_turned_181 rfl (lv_at hl 2 rfl) ?_
                          refine j_iload hx hb dX9_turned_182 (lv_at hl 5 rfl) ?_
                          refine j_iconst hx hb dX9_turned_184 ?_
                          refine j_iadd hx hb dX9_turned_185 ?_
                          obtain ⟨v31, e30, h⟩ := ob_I h
                          refine jc_VI (As := [jI y1, jI (x6_20 + 1)]) (rest := [jI v13, jI (orI x5_19 s27)]) ⟨hx, hb, hml, hown, hts⟩ hK hP hS (m_X9_colourOf l D b cs N e30) (cwV 2 hts gX9_turned_X9_colourOf rfl rfl rfl (by decide +kernel) ⟨Nat.le_of_ble_eq_true rfl, Nat.le_of_ble_eq_true rfl⟩) kz_332 (by decide) rfl rfl hl.1 rfl (Nat.le_of_ble_eq_true rfl) dX9_turned_186 ⟨Nat.zero_le _, Nat.zero_le _⟩ (fun H locs hP hS => ?_)
                          refine j_icmp_ne (A := wr v13) (B := wr v31) (tgt := 196) hx hb rfl rfl dX9_turned_189 (by decide) (fun q32 => ?_) (fun q32 => ?_)
                          · replace h := (if_neg q32).symm.trans h
                            refine j_iconst hx hb dX9_turned_196 ?_
                            refine j_ior hx hb dX9_turned_197 ?_
                            refine j_istore (lv2 := [(5, jI (orI (orI x5_19 s27) 0)), (0, jR b 332), (1, jI y1), (3, jI v11), (4, jI v13), (6, jI x6_20), (7, jI s23), (8, jI s25)]) hx hb dX9_turned_198 hl (by decide) rfl (fun ls hl => ?_)
                            refine j_iinc (k := 5) (lv2 := [(6, jI (x6_20 + 1)), (5, jI (orI (orI x5_19 s27) 0)), (0, jR b 332), (1, jI y1), (3, jI v11), (4, jI v13), (7, jI s23), (8, jI s25)]) hx hb dX9_turned_200 hl rfl (by decide) rfl (fun ls hl => ?_)
                            refine j_goto (tgt := 78) hx hb dX9_turned_203 (by decide) ?_
                            exact ih78_18 _ _ _ _ _ hP hS (lv_sub hl [2, 3, 4, 5, 1, 0] rfl) h
                          · replace h := (if_pos q32).symm.trans h
                            refine j_iconst hx hb dX9_turned_192 ?_
                            refine j_goto (tgt := 197) hx hb dX9_turned_193 (by decide) ?_
                            refine j_ior hx hb dX9_turned_197 ?_
                            refine j_istore (lv2 := [(5, jI (orI (orI x5_19 s27) 4)), (0, jR b 332), (1, jI y1), (3, jI v11), (4, jI v13), (6, jI x6_20), (7, jI s23), (8, jI s25)]) hx hb dX9_turned_198 hl (by decide) rfl (fun ls hl => ?_)
                            refine j_iinc (k := 5) (lv2 := [(6, jI (x6_20 + 1)), (5, jI (orI (orI x5_19 s27) 4)), (0, jR b 332), (1, jI y1), (3, jI v11), (4, jI v13), (7, jI s23), (8, jI s25)]) hx hb dX9_turned_200 hl rfl (by decide) rfl (fun ls hl => ?_)
                            refine j_goto (tgt := 78) hx hb dX9_turned_203 (by decide) ?_
                            exact ih78_18 _ _ _ _ _ hP hS (lv_sub hl [2, 3, 4, 5, 1, 0] rfl) h
                    refine j_if_eq (A := wr s23) (tgt := 162) hx hb rfl dX9_turned_136 (by decide) (fun q33 => ?_) (fun q33 => ?_)
                    · replace h := (if_pos q33).symm.trans h
                      refine j_iconst hx hb dX9_turned_162 ?_
                      exact hj163_26 _ _ _ _ hP hS (lv_sub hl [1, 2, 3, 4, 6, 7, 0] rfl) h
                    · replace h := (if_neg q33).symm.trans h
                      refine j_iload hx hb dX9_turned_139 (lv_at hl 0 rfl) ?_
                      refine j_if_ne (A := wr s25) (tgt := 158) hx hb rfl dX9_turned_141 (by decide) (fun q34 => ?_) (fun q34 => ?_)
                      · replace h := (if_neg q34).symm.trans h
                        refine j_iconst hx hb dX9_turned_158 ?_
                        refine j_goto (tgt := 163) hx hb dX9_turned_159 (by decide) ?_
                        exact hj163_26 _ _ _ _ hP hS (lv_sub hl [1, 2, 3, 4, 6, 7, 0] rfl) h
                      · replace h := (if_pos q34).symm.trans h
                        refine j_iload hx hb dX9_turned_144 (lv_at hl 4 rfl) ?_
                        refine j_aload_n hx hb dX9_turned_146 rfl (lv_at hl 1 rfl) ?_
                        refine j_iload_n hx hb dX9_turned_147 rfl (lv_at hl 2 rfl) ?_
                        refine j_iload hx hb dX9_turned_148 (lv_at hl 6 rfl) ?_
                        refine j_iconst hx hb dX9_turned_150 ?_
                        refine j_iadd hx hb dX9_turned_151 ?_
                        obtain ⟨v36, e35, h⟩ := ob_I h
                        refine jc_VI (As := [jI y1, jI (x6_20 + 3)]) (rest := [jI v13, jI x5_19]) ⟨hx, hb, hml, hown, hts⟩ hK hP hS (m_X9_colourOf l D b cs N e35) (cwV 2 hts gX9_turned_X9_colourOf rfl rfl rfl (by decide +kernel) ⟨Nat.le_of_ble_eq_true rfl, Nat.le_of_ble_eq_true rfl⟩) kz_332 (by decide) rfl rfl hl.1 rfl (Nat.le_of_ble_eq_true rfl) dX9_turned_152 ⟨Nat.zero_le _, Nat.zero_le _⟩ (fun H locs hP hS => ?_)
                        refine j_icmp_ne (A := wr v13) (B := wr v36) (tgt := 162) hx hb rfl rfl dX9_turned_155 (by decide) (fun q37 => ?_) (fun q37 => ?_)
                        · replace h := (if_neg q37).symm.trans h
                          refine j_iconst hx hb dX9_turned_162 ?_
                          exact hj163_26 _ _ _ _ hP hS (lv_sub hl [1, 2, 3, 4, 6, 7, 0] rfl) h
                        · replace h := (if_pos q37).symm.trans h
                          refine j_iconst hx hb dX9_turned_158 ?_
                          refine j_goto (tgt := 163) hx hb dX9_turned_159 (by decide) ?_
                          exact hj163_26 _ _ _ _ hP hS (lv_sub hl [1, 2, 3, 4, 6, 7, 0] rfl) h
                  refine j_icmp_eq (A := wr v13) (B := (-1)) (tgt := 125) hx hb rfl (by decide) dX9_turned_110 (by decide) (fun q38 => ?_) (fun q38 => ?_)
                  · replace h := (if_pos q38).symm.trans h
                    refine j_iconst hx hb dX9_turned_125 ?_
                    refine j_goto (tgt := 130) hx hb dX9_turned_126 (by decide) ?_
                    exact hj130_24 _ _ _ _ hP hS (lv_sub hl [1, 2, 3, 4, 5, 6, 0] rfl) h
                  · replace h := (if_neg q38).symm.trans h
                    refine j_iload hx hb dX9_turned_113 (lv_at hl 4 rfl) ?_
                    refine j_aload_n hx hb dX9_turned_115 rfl (lv_at hl 1 rfl) ?_
                    refine j_iload_n hx hb dX9_turned_116 rfl (lv_at hl 2 rfl) ?_
                    refine j_iload hx hb dX9_turned_117 (lv_at hl 6 rfl) ?_
                    obtain ⟨v40, e39, h⟩ := ob_I h
                    refine jc_VI (As := [jI y1, jI x6_20]) (rest := [jI v13]) ⟨hx, hb, hml, hown, hts⟩ hK hP hS (m_X9_colourOf l D b cs N e39) (cwV 2 hts gX9_turned_X9_colourOf rfl rfl rfl (by decide +kernel) ⟨Nat.le_of_ble_eq_true rfl, Nat.le_of_ble_eq_true rfl⟩) kz_332 (by decide) rfl rfl hl.1 rfl (Nat.le_of_ble_eq_true rfl) dX9_turned_119 ⟨Nat.zero_le _, Nat.zero_le _⟩ (fun H locs hP hS => ?_)
                    refine j_icmp_ne (A := wr v13) (B := wr v40) (tgt := 129) hx hb rfl rfl dX9_turned_122 (by decide) (fun q41 => ?_) (fun q41 => ?_)
                    · replace h := (if_neg q41).symm.trans h
                      refine j_iconst hx hb dX9_turned_129 ?_
                      exact hj130_24 _ _ _ _ hP hS (lv_sub hl [1, 2, 3, 4, 5, 6, 0] rfl) h
                    · replace h := (if_pos q41).symm.trans h
                      refine j_iconst hx hb dX9_turned_125 ?_
                      refine j_goto (tgt := 130) hx hb dX9_turned_126 (by decide) ?_
                      exact hj130_24 _ _ _ _ hP hS (lv_sub hl [1, 2, 3, 4, 5, 6, 0] rfl) h
                refine j_icmp_eq (A := wr v11) (B := (-1)) (tgt := 104) hx hb rfl (by decide) dX9_turned_86 (by decide) (fun q42 => ?_) (fun q42 => ?_)
                · replace h := (if_pos q42).symm.trans h
                  refine j_iconst hx hb dX9_turned_104 ?_
                  exact hj105_22 _ _ _ _ hP hS (lv_sub hl [0, 1, 2, 3, 4, 5] rfl) h
                · replace h := (if_neg q42).symm.trans h
                  refine j_aload_n hx hb dX9_turned_89 rfl (lv_at hl 0 rfl) ?_
                  refine j_iload_n hx hb dX9_turned_90 rfl (lv_at hl 1 rfl) ?_
                  refine j_iload hx hb dX9_turned_91 (lv_at hl 5 rfl) ?_
                  obtain ⟨v44, e43, h⟩ := ob_I h
                  refine jc_VI (As := [jI y1, jI x6_20]) (rest := []) ⟨hx, hb, hml, hown, hts⟩ hK hP hS (m_X9_colourOf l D b cs N e43) (cwV 2 hts gX9_turned_X9_colourOf rfl rfl rfl (by decide +kernel) ⟨Nat.le_of_ble_eq_true rfl, Nat.le_of_ble_eq_true rfl⟩) kz_332 (by decide) rfl rfl hl.1 rfl (Nat.le_of_ble_eq_true rfl) dX9_turned_93 ⟨Nat.zero_le _, Nat.zero_le _⟩ (fun H locs hP hS => ?_)
                  refine j_iload_n hx hb dX9_turned_96 rfl (lv_at hl 2 rfl) ?_
                  refine j_icmp_ne (A := wr v44) (B := wr v11) (tgt := 104) hx hb rfl rfl dX9_turned_97 (by decide) (fun q45 => ?_) (fun q45 => ?_)
                  · replace h := (if_neg q45).symm.trans h
                    refine j_iconst hx hb dX9_turned_104 ?_
                    exact hj105_22 _ _ _ _ hP hS (lv_sub hl [0, 1, 2, 3, 4, 5] rfl) h
                  · replace h := (if_pos q45).symm.trans h
                    refine j_iconst hx hb dX9_turned_100 ?_
                    refine j_goto (tgt := 105) hx hb dX9_turned_101 (by decide) ?_
                    exact hj105_22 _ _ _ _ hP hS (lv_sub hl [0, 1, 2, 3, 4, 5] rfl) h
          exact hl78_18 N _ _ _ _ _ hP hS (lv_sub hl [2, 3, 4, 5, 1, 0] rfl) h
        refine j_icmp_ne (A := wr v13) (B := wr v11) (tgt := 69) hx hb rfl rfl dX9_turned_62 (by decide) (fun q46 => ?_) (fun q46 => ?_)
        · replace h := (if_neg q46).symm.trans h
          refine j_iconst hx hb dX9_turned_69 ?_
          exact hj70_14 _ _ _ _ hP hS (lv_sub hl [2, 3, 1, 0] rfl) h
        · replace h := (if_pos q46).symm.trans h
          refine j_iconst hx hb dX9_turned_65 ?_
          refine j_goto (tgt := 70) hx hb dX9_turned_66 (by decide) ?_
          exact hj70_14 _ _ _ _ hP hS (lv_sub hl [2, 3, 1, 0] rfl) h
      · replace h := (if_neg q9).symm.trans h
        refine j_ldc (n := (-1000000003)) hx hb hown (hts (.constant RX9 231 (-1000000003)) (by decide +kernel)) (by decide) dX9_turned_39 ?_
        exact j_retI hx hb hK hP hS hr hlk (Option.some.inj h) dX9_turned_41
    · replace h := (if_pos q6).symm.trans h
      refine j_ldc (n := (-1000000002)) hx hb hown (hts (.constant RX9 60 (-1000000002)) (by decide +kernel)) (by decide) dX9_turned_23 ?_
      exact j_retI hx hb hK hP hS hr hlk (Option.some.inj h) dX9_turned_25
  · replace h := (if_pos q3).symm.trans h
    refine j_ldc (n := (-1000000001)) hx hb hown (hts (.constant RX9 183 (-1000000001)) (by decide +kernel)) (by decide) dX9_turned_8 ?_
    exact j_retI hx hb hK hP hS hr hlk (Option.some.inj h) dX9_turned_10
def fX9_undo (N : Nat) (y1 : Int) (μ : Mm) : Option (Int × Mm) :=
    Option.bind (fX9_in N (wr y1) 1 30 μ) (fun v2 => if wr v2 = 0 then (some ((-1000000002), μ)) else (if wr y1 ≤ wr (gI μ 332 18) then (Option.bind (some (pI μ 332 18 ((gI μ 332 18) - y1))) (fun μ5 => Option.bind (ldA μ5 333 8262 242) (fun v7 => Option.bind (fX9_copy N (972 + (243 * (gI μ5 332 18))) 0 μ5) (fun μ10 => Option.bind (stA μ10 333 8262 242 v7) (fun μ11 => Option.bind (ldA μ11 333 8262 48) (fun v13 => some (v13, μ11))))))) else (some ((-1000000003), μ))))
abbrev rmX9_undo : Room := { frames := 1, cells := 0, slots := 0, locals := 25 }
set_option maxHeartbeats 4000000 in
set_option maxRecDepth 100000 in
theorem m_X9_undo (l : Launch) (D : va_G) (b : Nat) (cs : CS) (N : Nat) {μ μ0 : Mm} {y1 : Int} {r : Int} (h : fX9_undo N y1 μ = some (r, μ0)) : MI l yX9_undo wsX9_undo rmX9_undo D b cs [jR b 332, jI y1] μ μ0 r := by
  refine met_in (cc := cX9_undo) (maxL := 3) (ret := some .int) (lv0 := [(0, jR b 332), (1, jI y1)]) (by decide +kernel) rfl (Nat.le_of_ble_eq_true rfl) rfl ?_
  intro p e s m args below meth c hx hb hr hlk hml hown hts hP hK ls hl
  have hown : s.vm.findClass RX9 = some m.cls := hown
  have hS : va_S (bA b) s.heap s.heap [] := va_S.rf
  have hinX9 : ∀ w ∈ u_ws RX9 TX9 27, w ∈ wsX9_undo := by decide +kernel
  unfold fX9_undo at h
  refine j_iload_n hx hb dX9_undo_0 rfl (lv_at hl 1 rfl) ?_
  refine j_i2l hx hb dX9_undo_1 ?_
  refine j_lconst (n := 1) hx hb dX9_undo_2 (by decide) ?_
  refine j_ldc2 (n := 30) hx hb hown (hts (.constantLong RX9 222 (30)) (by decide +kernel)) (by decide) dX9_undo_3 ?_
  obtain ⟨v2, e1, h⟩ := ob_I h
  refine jc_SI (As := [jL (wr y1), jL 1, jL 30]) (rest := []) ⟨hx, hb, hml, hown, hts⟩ hK hP hS (m_X9_in l D b cs N e1) (va_cwS 3 hts gX9_undo_X9_in rfl rfl rfl (by decide +kernel) ⟨Nat.le_of_ble_eq_true rfl, Nat.le_of_ble_eq_true rfl⟩) rfl hl.1 rfl (Nat.le_of_ble_eq_true rfl) dX9_undo_6 ⟨Nat.zero_le _, Nat.zero_le _⟩ (fun H locs hP hS => ?_)
  refine j_if_ne (A := wr v2) (tgt := 15) hx hb rfl dX9_undo_9 (by decide) (fun q3 => ?_) (fun q3 => ?_)
  · replace h := (if_neg q3).symm.trans h
    refine j_iload_n hx hb dX9_undo_15 rfl (lv_at hl 1 rfl) ?_
    refine j_aload_n hx hb dX9_undo_16 rfl (lv_at hl 0 rfl) ?_
    refine j_get (v := jI (gI μ 332 18)) hx hb hts hinX9 hown hK hP kz_332 (by decide) rfl 18 (by decide) (hts (.fieldLink RX9 137 "CardBandModel" "undoMany" "I") (by decide +kernel)) rfl (by rw [jI_g]; rfl) dX9_undo_17 ?_
    refine j_icmp_le (A := wr y1) (B := wr (gI μ 332 18)) (tgt := 26) hx hb rfl rfl dX9_undo_20 (by decide) (fun q4 => ?_) (fun q4 => ?_)
    · replace h := (if_pos q4).symm.trans h
      refine j_aload_n hx hb dX9_undo_26 rfl (lv_at hl 0 rfl) ?_
      refine j_dup hx hb dX9_undo_27 rfl ?_
      refine j_get (v := jI (gI μ 332 18)) hx hb hts hinX9 hown hK hP kz_332 (by decide) rfl 18 (by decide) (hts (.fieldLink RX9 137 "CardBandModel" "undoMany" "I") (by decide +kernel)) rfl (by rw [jI_g]; rfl) dX9_undo_28 ?_
      refine j_iload_n hx hb dX9_undo_31 rfl (lv_at hl 1 rfl) ?_
      refine j_isub hx hb dX9_undo_32 ?_
      obtain ⟨μ5, e6, h⟩ := ob_I h
      refine j_put (ty := .int) (z := ((gI μ 332 18) - y1)) hx hb hts hinX9 tyX9 tyX9_ok nmX9 hown hK hP hS kz_332 (by decide) rfl 18 (by decide) (hts (.fieldLink RX9 137 "CardBandModel" "undoMany" "I") (by decide +kernel)) rfl rfl (by decide +kernel) rfl rfl (by simp [flds]) rfl dX9_undo_33 (Option.some.inj e6) (fun H locs hP hS => ?_)
      refine j_aload_n hx hb dX9_undo_36 rfl (lv_at hl 0 rfl) ?_
      refine j_get (v := jR b 333) hx hb hts hinX9 hown hK hP kz_332 (by decide) rfl 0 (by decide) (hts (.fieldLink RX9 7 "CardBandModel" "w" "[I") (by decide +kernel)) rfl rfl dX9_undo_37 ?_
      refine j_sipush hx hb dX9_undo_40 (by decide) ?_
      obtain ⟨v7, e8, h⟩ := ob_I h
      refine j_iaload hx hb hK hP kz_333 e8 dX9_undo_43 ?_
      refine j_istore_n (lv2 := [(2, jI v7), (0, jR b 332), (1, jI y1)]) hx hb dX9_undo_44 rfl hl (by decide) rfl (fun ls hl => ?_)
      refine j_aload_n hx hb dX9_undo_45 rfl (lv_at hl 1 rfl) ?_
      refine j_sipush hx hb dX9_undo_46 (by decide) ?_
      refine j_sipush hx hb dX9_undo_49 (by decide) ?_
      refine j_aload_n hx hb dX9_undo_52 rfl (lv_at hl 1 rfl) ?_
      refine j_get (v := jI (gI μ5 332 18)) hx hb hts hinX9 hown hK hP kz_332 (by decide) rfl 18 (by decide) (hts (.fieldLink RX9 137 "CardBandModel" "undoMany" "I") (by decide +kernel)) rfl (by rw [jI_g]; rfl) dX9_undo_53 ?_
      refine j_imul hx hb dX9_undo_56 ?_
      refine j_iadd hx hb dX9_undo_57 ?_
      refine j_iconst hx hb dX9_undo_58 ?_
      obtain ⟨μ10, e9, h⟩ := ob_I h
      refine jc_VM (As := [jI (972 + (243 * (gI μ5 332 18))), jI 0]) (rest := []) ⟨hx, hb, hml, hown, hts⟩ hK hP hS (m_X9_copy l D b cs N e9) (cwV 2 hts gX9_undo_X9_copy rfl rfl rfl (by decide +kernel) ⟨Nat.le_of_ble_eq_true rfl, Nat.le_of_ble_eq_true rfl⟩) kz_332 (by decide) rfl rfl hl.1 rfl (Nat.le_of_ble_eq_true rfl) dX9_undo_59 ⟨Nat.zero_le _, Nat.zero_le _⟩ (fun H locs hP hS => ?_)
      refine j_aload_n hx hb dX9_undo_62 rfl (lv_at hl 1 rfl) ?_
      refine j_get (v := jR b 333) hx hb hts hinX9 hown hK hP kz_332 (by decide) rfl 0 (by decide) (hts (.fieldLink RX9 7 "CardBandModel" "w" "[I") (by decide +kernel)) rfl rfl dX9_undo_63 ?_
      refine j_sipush hx hb dX9_undo_66 (by decide) ?_
      refine j_iload_n hx hb dX9_undo_69 rfl (lv_at hl 0 rfl) ?_
      obtain ⟨μ11, e12, h⟩ := ob_I h
      refine j_iastore hx hb hK hP hS kz_333 e12 dX9_undo_70 (fun H locs hP hS => ?_)
      refine j_aload_n hx hb dX9_undo_71 rfl (lv_at hl 1 rfl) ?_
      refine j_get (v := jR b 333) hx hb hts hinX9 hown hK hP kz_332 (by decide) rfl 0 (by decide) (hts (.fieldLink RX9 7 "CardBandModel" "w" "[I") (by decide +kernel)) rfl rfl dX9_undo_72 ?_
      refine j_bipush hx hb dX9_undo_75 (by decide) ?_
      obtain ⟨v13, e14, h⟩ := ob_I h
      refine j_iaload hx hb hK hP kz_333 e14 dX9_undo_77 ?_
      obtain ⟨e0, e1⟩ := Prod.mk.inj (Option.some.inj h)
      subst e1
      exact j_retI hx hb hK hP hS hr hlk e0 dX9_undo_78
    · replace h := (if_neg q4).symm.trans h
      refine j_ldc (n := (-1000000003)) hx hb hown (hts (.constant RX9 231 (-1000000003)) (by decide +kernel)) (by decide) dX9_undo_23 ?_
      obtain ⟨e0, e1⟩ := Prod.mk.inj (Option.some.inj h)
      subst e1
      exact j_retI hx hb hK hP hS hr hlk e0 dX9_undo_25
  · replace h := (if_pos q3).symm.trans h
    refine j_ldc (n := (-1000000002)) hx hb hown (hts (.constant RX9 60 (-1000000002)) (by decide +kernel)) (by decide) dX9_undo_12 ?_
    obtain ⟨e0, e1⟩ := Prod.mk.inj (Option.some.inj h)
    subst e1
    exact j_retI hx hb hK hP hS hr hlk e0 dX9_undo_14
def fX9_untwist_k105 (N : Nat) (y1 : Int) : Int → Int → Option (Int) := fun x2_8 x3_9 =>
    if wr y1 = 0 then (some x2_8) else (some x3_9)
def fX9_untwist_j90 (N : Nat) (x3_13 : Int) (x4_14 : Int) (x5_15 : Int) (rec33_11 : Int → Int → Int → Int → Option (Int)) (v24 : Int) : Int → Option (Int) := fun s26 =>
    rec33_11 v24 (x3_13 + (x4_14 * s26)) (x4_14 * 3) (x5_15 + 1)
def fX9_untwist_l33 (N : Nat) (y1 : Int) (μ : Mm) : Nat → Int → Int → Int → Int → Option (Int)
  | 0, _, _, _, _ => none
  | n11 + 1, x2_12, x3_13, x4_14, x5_15 =>
    if wr (gI μ 332 9) ≤ wr x5_15 then (fX9_untwist_k105 N y1 x2_12 x3_13) else (Option.bind (fX9_firstOf N x5_15 μ) (fun v18 => Option.bind (ldA μ 333 8262 (8 + v18)) (fun v19 => Option.bind (fX9_size N v19 μ) (fun v22 => Option.bind (fX9_most N x2_12 v22 μ) (fun v24 => if wr v19 ≤ 0 then (if 0 ≤ wr v19 then (fX9_untwist_j90 N x3_13 x4_14 x5_15 (fX9_untwist_l33 N y1 μ n11) v24 0) else (fX9_untwist_j90 N x3_13 x4_14 x5_15 (fX9_untwist_l33 N y1 μ n11) v24 1)) else (fX9_untwist_j90 N x3_13 x4_14 x5_15 (fX9_untwist_l33 N y1 μ n11) v24 2))))))
def fX9_untwist (N : Nat) (y1 : Int) (μ : Mm) : Option (Int) :=
    Option.bind (fX9_in N (wr y1) 0 1 μ) (fun v2 => if wr v2 = 0 then (some (-1000000002)) else (Option.bind (fX9_isLoom N μ) (fun v5 => if wr v5 = 0 then (some (-1000000003)) else (fX9_untwist_l33 N y1 μ N 0 0 1 0))))
abbrev rmX9_untwist : Room := { frames := 2, cells := 0, slots := 0, locals := 43 }
set_option maxHeartbeats 4000000 in
set_option maxRecDepth 100000 in
theorem m_X9_untwist (l : Launch) (D : va_G) (b : Nat) (cs : CS) (N : Nat) {μ : Mm} {y1 : Int} {r : Int} (h : fX9_untwist N y1 μ = some r) : MI l yX9_untwist wsX9_untwist rmX9_untwist D b cs [jR b 332, jI y1] μ μ r := by
  refine met_in (cc := cX9_untwist) (maxL := 7) (ret := some .int) (lv0 := [(0, jR b 332), (1, jI y1)]) (by decide +kernel) rfl (Nat.le_of_ble_eq_true rfl) rfl ?_
  intro p e s m args below meth c hx hb hr hlk hml hown hts hP hK ls hl
  have hown : s.vm.findClass RX9 = some m.cls := hown
  have hS : va_S (bA b) s.heap s.heap [] := va_S.rf
  have hinX9 : ∀ w ∈ u_ws RX9 TX9 27, w ∈ wsX9_untwist := by decide +kernel
  unfold fX9_untwist at h
  refine j_iload_n hx hb dX9_untwist_0 rfl (lv_at hl 1 rfl) ?_
  refine j_i2l hx hb dX9_untwist_1 ?_
  refine j_lconst (n := 0) hx hb dX9_untwist_2 (by decide) ?_
  refine j_lconst (n := 1) hx hb dX9_untwist_3 (by decide) ?_
  obtain ⟨v2, e1, h⟩ := ob_I h
  refine jc_SI (As := [jL (wr y1), jL 0, jL 1]) (rest := []) ⟨hx, hb, hml, hown, hts⟩ hK hP hS (m_X9_in l D b cs N e1) (va_cwS 3 hts gX9_untwist_X9_in rfl rfl rfl (by decide +kernel) ⟨Nat.le_of_ble_eq_true rfl, Nat.le_of_ble_eq_true rfl⟩) rfl hl.1 rfl (Nat.le_of_ble_eq_true rfl) dX9_untwist_4 ⟨Nat.zero_le _, Nat.zero_le _⟩ (fun H locs hP hS => ?_)
  refine j_if_ne (A := wr v2) (tgt := 13) hx hb rfl dX9_untwist_7 (by decide) (fun q3 => ?_) (fun q3 => ?_)
  · replace h := (if_neg q3).symm.trans h
    refine j_aload_n hx hb dX9_untwist_13 rfl (lv_at hl 0 rfl) ?_
    obtain ⟨v5, e4, h⟩ := ob_I h
    refine jc_VI (As := []) (rest := []) ⟨hx, hb, hml, hown, hts⟩ hK hP hS (m_X9_isLoom l D b cs N e4) (cwV 0 hts gX9_untwist_X9_isLoom rfl rfl rfl (by decide +kernel) ⟨Nat.le_of_ble_eq_true rfl, Nat.le_of_ble_eq_true rfl⟩) kz_332 (by decide) rfl rfl hl.1 rfl (Nat.le_of_ble_eq_true rfl) dX9_untwist_14 ⟨Nat.zero_le _, Nat.zero_le _⟩ (fun H locs hP hS => ?_)
    refine j_if_ne (A := wr v5) (tgt := 23) hx hb rfl dX9_untwist_17 (by decide) (fun q6 => ?_) (fun q6 => ?_)
    · replace h := (if_neg q6).symm.trans h
      refine j_iconst hx hb dX9_untwist_23 ?_
      refine j_istore_n (lv2 := [(2, jI 0), (0, jR b 332), (1, jI y1)]) hx hb dX9_untwist_24 rfl hl (by decide) rfl (fun ls hl => ?_)
      refine j_iconst hx hb dX9_untwist_25 ?_
      refine j_istore_n (lv2 := [(3, jI 0), (2, jI 0), (0, jR b 332), (1, jI y1)]) hx hb dX9_untwist_26 rfl hl (by decide) rfl (fun ls hl => ?_)
      refine j_iconst hx hb dX9_untwist_27 ?_
      refine j_istore (lv2 := [(4, jI 1), (3, jI 0), (2, jI 0), (0, jR b 332), (1, jI y1)]) hx hb dX9_untwist_28 hl (by decide) rfl (fun ls hl => ?_)
      refine j_iconst hx hb dX9_untwist_30 ?_
      refine j_istore (lv2 := [(5, jI 0), (4, jI 1), (3, jI 0), (2, jI 0), (0, jR b 332), (1, jI y1)]) hx hb dX9_untwist_31 hl (by decide) rfl (fun ls hl => ?_)
      have hk105_7 : ∀ (x2_8 : Int) (x3_9 : Int) (H : Heap) (locs : List Loc) (ls : Array Slot), va_P D vwCl (wl b cs μ) H → va_S (bA b) s.heap H locs → lv_has ls 7 [(1, jI y1), (2, jI x2_8), (3, jI x3_9)] → fX9_untwist_k105 N y1 x2_8 x3_9 = some r → W p l e rmX9_untwist s m args below meth c H locs 0 0 (MQ below (QI D b cs μ r) args s 0 0 (bA b)) (F0 m 105 ls []) := by
        intro x2_8 x3_9 H locs ls hP hS hl h
        unfold fX9_untwist_k105 at h
        refine j_iload_n hx hb dX9_untwist_105 rfl (lv_at hl 0 rfl) ?_
        refine j_if_ne (A := wr y1) (tgt := 113) hx hb rfl dX9_untwist_106 (by decide) (fun q10 => ?_) (fun q10 => ?_)
        · replace h := (if_neg q10).symm.trans h
          refine j_iload_n hx hb dX9_untwist_113 rfl (lv_at hl 2 rfl) ?_
          exact j_retI hx hb hK hP hS hr hlk (Option.some.inj h) dX9_untwist_114
        · replace h := (if_pos q10).symm.trans h
          refine j_iload_n hx hb dX9_untwist_109 rfl (lv_at hl 1 rfl) ?_
          refine j_goto (tgt := 114) hx hb dX9_untwist_110 (by decide) ?_
          exact j_retI hx hb hK hP hS hr hlk (Option.some.inj h) dX9_untwist_114
      have hl33_11 : ∀ (n0 : Nat) (x2_12 : Int) (x3_13 : Int) (x4_14 : Int) (x5_15 : Int) (H : Heap) (locs : List Loc) (ls : Array Slot), va_P D vwCl (wl b cs μ) H → va_S (bA b) s.heap H locs → lv_has ls 7 [(0, jR b 332), (1, jI y1), (2, jI x2_12), (3, jI x3_13), (4, jI x4_14), (5, jI x5_15)] → fX9_untwist_l33 N y1 μ n0 x2_12 x3_13 x4_14 x5_15 = some r → W p l e rmX9_untwist s m args below meth c H locs 0 0 (MQ below (QI D b cs μ r) args s 0 0 (bA b)) (F0 m 33 ls []) := by
        intro n0
        induction n0 with
        | zero => intro x2_12 x3_13 x4_14 x5_15 H locs ls hP hS hl h; rw [fX9_untwist_l33] at h; cases h
        | succ n11 ih33_11 =>
          intro x2_12 x3_13 x4_14 x5_15 H locs ls hP hS hl h
          rw [fX9_untwist_l33] at h
          refine j_iload hx hb dX9_untwist_33 (lv_at hl 5 rfl) ?_
          refine j_aload_n hx hb dX9_untwist_35 rfl (lv_at hl 0 rfl) ?_
          refine j_get (v := jI (gI μ 332 9)) hx hb hts hinX9 hown hK hP kz_332 (by decide) rfl 9 (by decide) (hts (.fieldLink RX9 128 "CardBandModel" "packs" "I") (by decide +kernel)) rfl (by rw [jI_g]; rfl) dX9_untwist_36 ?_
          refine j_icmp_ge (A := wr x5_15) (B := wr (gI μ 332 9)) (tgt := 105) hx hb rfl rfl dX9_untwist_39 (by decide) (fun q16 => ?_) (fun q16 => ?_)
          · replace h := (if_pos q16).symm.trans h
            exact hk105_7 _ _ _ _ _ hP hS (lv_sub hl [1, 2, 3] rfl) h
          · replace h := (if_neg q16).symm.trans h
            refine j_aload_n hx hb dX9_untwist_42 rfl (lv_at hl 0 rfl) ?_
            refine j_get (v := jR b 333) hx hb hts hinX9 hown hK hP kz_332 (by decide) rfl 0 (by decide) (hts (.fieldLink RX9 7 "CardBandModel" "w" "[I") (by decide +kernel)) rfl rfl dX9_untwist_43 ?_
            refine j_bipush hx hb dX9_untwist_46 (by decide) ?_
            refine j_aload_n hx hb dX9_untwist_48 rfl (lv_at hl 0 rfl) ?_
            refine j_iload hx hb dX9_untwist_49 (lv_at hl 5 rfl) ?_
            obtain ⟨v18, e17, h⟩ := ob_I h
            refine jc_VI (As := [jI x5_15]) (rest := [jI 8, jR b 333]) ⟨hx, hb, hml, hown, hts⟩ hK hP hS (m_X9_firstOf l D b cs N e17) (cwV 1 hts gX9_untwist_X9_firstOf rfl rfl rfl (by decide +kernel) ⟨Nat.le_of_ble_eq_true rfl, Nat.le_of_ble_eq_true rfl⟩) kz_332 (by decide) rfl rfl hl.1 rfl (Nat.le_of_ble_eq_true rfl) dX9_untwist_51 ⟨Nat.zero_le _, Nat.zero_le _⟩ (fun H locs hP hS => ?_)
            refine j_iadd hx hb dX9_untwist_54 ?_
            obtain ⟨v19, e20, h⟩ := ob_I h
            refine j_iaload hx hb hK hP kz_333 e20 dX9_untwist_55 ?_
            refine j_istore (lv2 := [(6, jI v19), (0, jR b 332), (1, jI y1), (2, jI x2_12), (3, jI x3_13), (4, jI x4_14), (5, jI x5_15)]) hx hb dX9_untwist_56 hl (by decide) rfl (fun ls hl => ?_)
            refine j_iload_n hx hb dX9_untwist_58 rfl (lv_at hl 3 rfl) ?_
            refine j_iload hx hb dX9_untwist_59 (lv_at hl 0 rfl) ?_
            obtain ⟨v22, e21, h⟩ := ob_I h
            refine jc_SI (As := [jI v19]) (rest := [jI x2_12]) ⟨hx, hb, hml, hown, hts⟩ hK hP hS (m_X9_size l D b cs N e21) (va_cwS 1 hts gX9_untwist_X9_size rfl rfl rfl (by decide +kernel) ⟨Nat.le_of_ble_eq_true rfl, Nat.le_of_ble_eq_true rfl⟩) rfl hl.1 rfl (Nat.le_of_ble_eq_true rfl) dX9_untwist_61 ⟨Nat.zero_le _, Nat.zero_le _⟩ (fun H locs hP hS => ?_)
            obtain ⟨v24, e23, h⟩ := ob_I h
            refine jc_SI (As := [jI x2_12, jI v22]) (rest := []) ⟨hx, hb, hml, hown, hts⟩ hK hP hS (m_X9_most l D b cs N e23) (va_cwS 2 hts gX9_untwist_X9_most rfl rfl rfl (by decide +kernel) ⟨Nat.le_of_ble_eq_true rfl, Nat.le_of_ble_eq_true rfl⟩) rfl hl.1 rfl (Nat.le_of_ble_eq_true rfl) dX9_untwist_64 ⟨Nat.zero_le _, Nat.zero_le _⟩ (fun H locs hP hS => ?_)
            refine j_istore_n (lv2 := [(2, jI v24), (6, jI v19), (0, jR b 332), (1, jI y1), (3, jI x3_13), (4, jI x4_14), (5, jI x5_15)]) hx hb dX9_untwist_67 rfl hl (by decide) rfl (fun ls hl => ?_)
            refine j_iload_n hx hb dX9_untwist_68 rfl (lv_at hl 4 rfl) ?_
            refine j_iload hx hb dX9_untwist_69 (lv_at hl 5 rfl) ?_
            refine j_iload hx hb dX9_untwist_71 (lv_at hl 1 rfl) ?_
            have hj90_25 : ∀ (s26 : Int) (H : Heap) (locs : List Loc) (ls : Array Slot), va_P D vwCl (wl b cs μ) H → va_S (bA b) s.heap H locs → lv_has ls 7 [(0, jR b 332), (1, jI y1), (2, jI v24), (4, jI x4_14), (5, jI x5_15)] → fX9_untwist_j90 N x3_13 x4_14 x5_15 (fX9_untwist_l33 N y1 μ n11) v24 s26 = some r → W p l e rmX9_untwist s m args below meth c H locs 0 0 (MQ below (QI D b cs μ r) args s 0 0 (bA b)) (F0 m 90 ls [jI s26, jI x4_14, jI x3_13]) := by
              intro s26 H locs ls hP hS hl h
              unfold fX9_untwist_j90 at h
              refine j_imul hx hb dX9_untwist_90 ?_
              refine j_iadd hx hb dX9_untwist_91 ?_
              refine j_istore_n (lv2 := [(3, jI (x3_13 + (x4_14 * s26))), (0, jR b 332), (1, jI y1), (2, jI v24), (4, jI x4_14), (5, jI x5_15)]) hx hb dX9_untwist_92 rfl hl (by decide) rfl (fun ls hl => ?_)
              refine j_iload hx hb dX9_untwist_93 (lv_at hl 4 rfl) ?_
              refine j_iconst hx hb dX9_untwist_95 ?_
              refine j_imul hx hb dX9_untwist_96 ?_
              refine j_istore (lv2 := [(4, jI (x4_14 * 3)), (3, jI (x3_13 + (x4_14 * s26))), (0, jR b 332), (1, jI y1), (2, jI v24), (5, jI x5_15)]) hx hb dX9_untwist_97 hl (by decide) rfl (fun ls hl => ?_)
              refine j_iinc (k := 5) (lv2 := [(5, jI (x5_15 + 1)), (4, jI (x4_14 * 3)), (3, jI (x3_13 + (x4_14 * s26))), (0, jR b 332), (1, jI y1), (2, jI v24)]) hx hb dX9_untwist_99 hl rfl (by decide) rfl (fun ls hl => ?_)
              refine j_goto (tgt := 33) hx hb dX9_untwist_102 (by decide) ?_
              exact ih33_11 _ _ _ _ _ _ _ hP hS (lv_sub hl [3, 4, 5, 2, 1, 0] rfl) h
            refine j_if_le (A := wr v19) (tgt := 80) hx hb rfl dX9_untwist_73 (by decide) (fun q27 => ?_) (fun q27 => ?_)
            · replace h := (if_pos q27).symm.trans h
              refine j_iload hx hb dX9_untwist_80 (lv_at hl 1 rfl) ?_
              refine j_if_ge (A := wr v19) (tgt := 89) hx hb rfl dX9_untwist_82 (by decide) (fun q28 => ?_) (fun q28 => ?_)
              · replace h := (if_pos q28).symm.trans h
                refine j_iconst hx hb dX9_untwist_89 ?_
                exact hj90_25 _ _ _ _ hP hS (lv_sub hl [2, 3, 0, 5, 6] rfl) h
              · replace h := (if_neg q28).symm.trans h
                refine j_iconst hx hb dX9_untwist_85 ?_
                refine j_goto (tgt := 90) hx hb dX9_untwist_86 (by decide) ?_
                exact hj90_25 _ _ _ _ hP hS (lv_sub hl [2, 3, 0, 5, 6] rfl) h
            · replace h := (if_neg q27).symm.trans h
              refine j_iconst hx hb dX9_untwist_76 ?_
              refine j_goto (tgt := 90) hx hb dX9_untwist_77 (by decide) ?_
              exact hj90_25 _ _ _ _ hP hS (lv_sub hl [2, 3, 0, 5, 6] rfl) h
      exact hl33_11 N _ _ _ _ _ _ _ hP hS (lv_sub hl [4, 5, 3, 2, 1, 0] rfl) h
    · replace h := (if_pos q6).symm.trans h
      refine j_ldc (n := (-1000000003)) hx hb hown (hts (.constant RX9 231 (-1000000003)) (by decide +kernel)) (by decide) dX9_untwist_20 ?_
      exact j_retI hx hb hK hP hS hr hlk (Option.some.inj h) dX9_untwist_22
  · replace h := (if_pos q3).symm.trans h
    refine j_ldc (n := (-1000000002)) hx hb hown (hts (.constant RX9 60 (-1000000002)) (by decide +kernel)) (by decide) dX9_untwist_10 ?_
    exact j_retI hx hb hK hP hS hr hlk (Option.some.inj h) dX9_untwist_12
def fX9_write (N : Nat) (y1 : Int) (y2 : Int) (μ : Mm) : Option (Int × Mm) :=
    Option.bind (fX9_isCard N y1 μ) (fun v2 => if wr v2 = 0 then (some ((-1000000001), μ)) else (if wr y2 = (-1) then (if wr (gI μ 332 26) = 20 then (some ((-1000000004), μ)) else (Option.bind (stA μ 344 20 (gI μ 332 26) y1) (fun μ6 => Option.bind (stA μ6 345 20 (gI μ6 332 26) y2) (fun μ8 => Option.bind (some (pI μ8 332 26 ((gI μ8 332 26) + 1))) (fun μ10 => some ((gI μ10 332 26), μ10)))))) else (Option.bind (fX9_isColour N y2 μ) (fun v13 => if wr v13 = 0 then (some ((-1000000001), μ)) else (if wr (gI μ 332 26) = 20 then (some ((-1000000004), μ)) else (Option.bind (stA μ 344 20 (gI μ 332 26) y1) (fun μ16 => Option.bind (stA μ16 345 20 (gI μ16 332 26) y2) (fun μ18 => Option.bind (some (pI μ18 332 26 ((gI μ18 332 26) + 1))) (fun μ20 => some ((gI μ20 332 26), μ20))))))))))
abbrev rmX9_write : Room := { frames := 2, cells := 0, slots := 0, locals := 46 }
set_option maxHeartbeats 4000000 in
set_option maxRecDepth 100000 in
theorem m_X9_write (l : Launch) (D : va_G) (b : Nat) (cs : CS) (N : Nat) {μ μ0 : Mm} {y1 y2 : Int} {r : Int} (h : fX9_write N y1 y2 μ = some (r, μ0)) : MI l yX9_write wsX9_write rmX9_write D b cs [jR b 332, jI y1, jI y2] μ μ0 r := by
  refine met_in (cc := cX9_write) (maxL := 3) (ret := some .int) (lv0 := [(0, jR b 332), (1, jI y1), (2, jI y2)]) (by decide +kernel) rfl (Nat.le_of_ble_eq_true rfl) rfl ?_
  intro p e s m args below meth c hx hb hr hlk hml hown hts hP hK ls hl
  have hown : s.vm.findClass RX9 = some m.cls := hown
  have hS : va_S (bA b) s.heap s.heap [] := va_S.rf
  have hinX9 : ∀ w ∈ u_ws RX9 TX9 27, w ∈ wsX9_write := by decide +kernel
  unfold fX9_write at h
  refine j_aload_n hx hb dX9_write_0 rfl (lv_at hl 0 rfl) ?_
  refine j_iload_n hx hb dX9_write_1 rfl (lv_at hl 1 rfl) ?_
  obtain ⟨v2, e1, h⟩ := ob_I h
  refine jc_VI (As := [jI y1]) (rest := []) ⟨hx, hb, hml, hown, hts⟩ hK hP hS (m_X9_isCard l D b cs N e1) (cwV 1 hts gX9_write_X9_isCard rfl rfl rfl (by decide +kernel) ⟨Nat.le_of_ble_eq_true rfl, Nat.le_of_ble_eq_true rfl⟩) kz_332 (by decide) rfl rfl hl.1 rfl (Nat.le_of_ble_eq_true rfl) dX9_write_2 ⟨Nat.zero_le _, Nat.zero_le _⟩ (fun H locs hP hS => ?_)
  refine j_if_eq (A := wr v2) (tgt := 21) hx hb rfl dX9_write_5 (by decide) (fun q3 => ?_) (fun q3 => ?_)
  · replace h := (if_pos q3).symm.trans h
    refine j_ldc (n := (-1000000001)) hx hb hown (hts (.constant RX9 183 (-1000000001)) (by decide +kernel)) (by decide) dX9_write_21 ?_
    obtain ⟨e0, e1⟩ := Prod.mk.inj (Option.some.inj h)
    subst e1
    exact j_retI hx hb hK hP hS hr hlk e0 dX9_write_23
  · replace h := (if_neg q3).symm.trans h
    refine j_iload_n hx hb dX9_write_8 rfl (lv_at hl 2 rfl) ?_
    refine j_iconst hx hb dX9_write_9 ?_
    refine j_icmp_eq (A := wr y2) (B := (-1)) (tgt := 24) hx hb rfl (by decide) dX9_write_10 (by decide) (fun q4 => ?_) (fun q4 => ?_)
    · replace h := (if_pos q4).symm.trans h
      refine j_aload_n hx hb dX9_write_24 rfl (lv_at hl 0 rfl) ?_
      refine j_get (v := jI (gI μ 332 26)) hx hb hts hinX9 hown hK hP kz_332 (by decide) rfl 26 (by decide) (hts (.fieldLink RX9 134 "CardBandModel" "written" "I") (by decide +kernel)) rfl (by rw [jI_g]; rfl) dX9_write_25 ?_
      refine j_bipush hx hb dX9_write_28 (by decide) ?_
      refine j_icmp_ne (A := wr (gI μ 332 26)) (B := 20) (tgt := 36) hx hb rfl (by decide) dX9_write_30 (by decide) (fun q5 => ?_) (fun q5 => ?_)
      · replace h := (if_neg q5).symm.trans h
        refine j_aload_n hx hb dX9_write_36 rfl (lv_at hl 0 rfl) ?_
        refine j_get (v := jR b 344) hx hb hts hinX9 hown hK hP kz_332 (by decide) rfl 24 (by decide) (hts (.fieldLink RX9 48 "CardBandModel" "bookOf" "[I") (by decide +kernel)) rfl rfl dX9_write_37 ?_
        refine j_aload_n hx hb dX9_write_40 rfl (lv_at hl 0 rfl) ?_
        refine j_get (v := jI (gI μ 332 26)) hx hb hts hinX9 hown hK hP kz_332 (by decide) rfl 26 (by decide) (hts (.fieldLink RX9 134 "CardBandModel" "written" "I") (by decide +kernel)) rfl (by rw [jI_g]; rfl) dX9_write_41 ?_
        refine j_iload_n hx hb dX9_write_44 rfl (lv_at hl 1 rfl) ?_
        obtain ⟨μ6, e7, h⟩ := ob_I h
        refine j_iastore hx hb hK hP hS kz_344 e7 dX9_write_45 (fun H locs hP hS => ?_)
        refine j_aload_n hx hb dX9_write_46 rfl (lv_at hl 0 rfl) ?_
        refine j_get (v := jR b 345) hx hb hts hinX9 hown hK hP kz_332 (by decide) rfl 25 (by decide) (hts (.fieldLink RX9 51 "CardBandModel" "bookColour" "[I") (by decide +kernel)) rfl rfl dX9_write_47 ?_
        refine j_aload_n hx hb dX9_write_50 rfl (lv_at hl 0 rfl) ?_
        refine j_get (v := jI (gI μ6 332 26)) hx hb hts hinX9 hown hK hP kz_332 (by decide) rfl 26 (by decide) (hts (.fieldLink RX9 134 "CardBandModel" "written" "I") (by decide +kernel)) rfl (by rw [jI_g]; rfl) dX9_write_51 ?_
        refine j_iload_n hx hb dX9_write_54 rfl (lv_at hl 2 rfl) ?_
        obtain ⟨μ8, e9, h⟩ := ob_I h
        refine j_iastore hx hb hK hP hS kz_345 e9 dX9_write_55 (fun H locs hP hS => ?_)
        refine j_aload_n hx hb dX9_write_56 rfl (lv_at hl 0 rfl) ?_
        refine j_dup hx hb dX9_write_57 rfl ?_
        refine j_get (v := jI (gI μ8 332 26)) hx hb hts hinX9 hown hK hP kz_332 (by decide) rfl 26 (by decide) (hts (.fieldLink RX9 134 "CardBandModel" "written" "I") (by decide +kernel)) rfl (by rw [jI_g]; rfl) dX9_write_58 ?_
        refine j_iconst hx hb dX9_write_61 ?_
        refine j_iadd hx hb dX9_write_62 ?_
        obtain ⟨μ10, e11, h⟩ := ob_I h
        refine j_put (ty := .int) (z := ((gI μ8 332 26) + 1)) hx hb hts hinX9 tyX9 tyX9_ok nmX9 hown hK hP hS kz_332 (by decide) rfl 26 (by decide) (hts (.fieldLink RX9 134 "CardBandModel" "written" "I") (by decide +kernel)) rfl rfl (by decide +kernel) rfl rfl (by simp [flds]) rfl dX9_write_63 (Option.some.inj e11) (fun H locs hP hS => ?_)
        refine j_aload_n hx hb dX9_write_66 rfl (lv_at hl 0 rfl) ?_
        refine j_get (v := jI (gI μ10 332 26)) hx hb hts hinX9 hown hK hP kz_332 (by decide) rfl 26 (by decide) (hts (.fieldLink RX9 134 "CardBandModel" "written" "I") (by decide +kernel)) rfl (by rw [jI_g]; rfl) dX9_write_67 ?_
        obtain ⟨e0, e1⟩ := Prod.mk.inj (Option.some.inj h)
        subst e1
        exact j_retI hx hb hK hP hS hr hlk e0 dX9_write_70
      · replace h := (if_pos q5).symm.trans h
        refine j_ldc (n := (-1000000004)) hx hb hown (hts (.constant RX9 64 (-1000000004)) (by decide +kernel)) (by decide) dX9_write_33 ?_
        obtain ⟨e0, e1⟩ := Prod.mk.inj (Option.some.inj h)
        subst e1
        exact j_retI hx hb hK hP hS hr hlk e0 dX9_write_35
    · replace h := (if_neg q4).symm.trans h
      refine j_aload_n hx hb dX9_write_13 rfl (lv_at hl 0 rfl) ?_
      refine j_iload_n hx hb dX9_write_14 rfl (lv_at hl 2 rfl) ?_
      obtain ⟨v13, e12, h⟩ := ob_I h
      refine jc_VI (As := [jI y2]) (rest := []) ⟨hx, hb, hml, hown, hts⟩ hK hP hS (m_X9_isColour l D b cs N e12) (cwV 1 hts gX9_write_X9_isColour rfl rfl rfl (by decide +kernel) ⟨Nat.le_of_ble_eq_true rfl, Nat.le_of_ble_eq_true rfl⟩) kz_332 (by decide) rfl rfl hl.1 rfl (Nat.le_of_ble_eq_true rfl) dX9_write_15 ⟨Nat.zero_le _, Nat.zero_le _⟩ (fun H locs hP hS => ?_)
      refine j_if_ne (A := wr v13) (tgt := 24) hx hb rfl dX9_write_18 (by decide) (fun q14 => ?_) (fun q14 => ?_)
      · replace h := (if_neg q14).symm.trans h
        refine j_aload_n hx hb dX9_write_24 rfl (lv_at hl 0 rfl) ?_
        refine j_get (v := jI (gI μ 332 26)) hx hb hts hinX9 hown hK hP kz_332 (by decide) rfl 26 (by decide) (hts (.fieldLink RX9 134 "CardBandModel" "written" "I") (by decide +kernel)) rfl (by rw [jI_g]; rfl) dX9_write_25 ?_
        refine j_bipush hx hb dX9_write_28 (by decide) ?_
        refine j_icmp_ne (A := wr (gI μ 332 26)) (B := 20) (tgt := 36) hx hb rfl (by decide) dX9_write_30 (by decide) (fun q15 => ?_) (fun q15 => ?_)
        · replace h := (if_neg q15).symm.trans h
          refine j_aload_n hx hb dX9_write_36 rfl (lv_at hl 0 rfl) ?_
          refine j_get (v := jR b 344) hx hb hts hinX9 hown hK hP kz_332 (by decide) rfl 24 (by decide) (hts (.fieldLink RX9 48 "CardBandModel" "bookOf" "[I") (by decide +kernel)) rfl rfl dX9_write_37 ?_
          refine j_aload_n hx hb dX9_write_40 rfl (lv_at hl 0 rfl) ?_
          refine j_get (v := jI (gI μ 332 26)) hx hb hts hinX9 hown hK hP kz_332 (by decide) rfl 26 (by decide) (hts (.fieldLink RX9 134 "CardBandModel" "written" "I") (by decide +kernel)) rfl (by rw [jI_g]; rfl) dX9_write_41 ?_
          refine j_iload_n hx hb dX9_write_44 rfl (lv_at hl 1 rfl) ?_
          obtain ⟨μ16, e17, h⟩ := ob_I h
          refine j_iastore hx hb hK hP hS kz_344 e17 dX9_write_45 (fun H locs hP hS => ?_)
          refine j_aload_n hx hb dX9_write_46 rfl (lv_at hl 0 rfl) ?_
          refine j_get (v := jR b 345) hx hb hts hinX9 hown hK hP kz_332 (by decide) rfl 25 (by decide) (hts (.fieldLink RX9 51 "CardBandModel" "bookColour" "[I") (by decide +kernel)) rfl rfl dX9_write_47 ?_
          refine j_aload_n hx hb dX9_write_50 rfl (lv_at hl 0 rfl) ?_
          refine j_get (v := jI (gI μ16 332 26)) hx hb hts hinX9 hown hK hP kz_332 (by decide) rfl 26 (by decide) (hts (.fieldLink RX9 134 "CardBandModel" "written" "I") (by decide +kernel)) rfl (by rw [jI_g]; rfl) dX9_write_51 ?_
          refine j_iload_n hx hb dX9_write_54 rfl (lv_at hl 2 rfl) ?_
          obtain ⟨μ18, e19, h⟩ := ob_I h
          refine j_iastore hx hb hK hP hS kz_345 e19 dX9_write_55 (fun H locs hP hS => ?_)
          refine j_aload_n hx hb dX9_write_56 rfl (lv_at hl 0 rfl) ?_
          refine j_dup hx hb dX9_write_57 rfl ?_
          refine j_get (v := jI (gI μ18 332 26)) hx hb hts hinX9 hown hK hP kz_332 (by decide) rfl 26 (by decide) (hts (.fieldLink RX9 134 "CardBandModel" "written" "I") (by decide +kernel)) rfl (by rw [jI_g]; rfl) dX9_write_58 ?_
          refine j_iconst hx hb dX9_write_61 ?_
          refine j_iadd hx hb dX9_write_62 ?_
          obtain ⟨μ20, e21, h⟩ := ob_I h
          refine j_put (ty := .int) (z := ((gI μ18 332 26) + 1)) hx hb hts hinX9 tyX9 tyX9_ok nmX9 hown hK hP hS kz_332 (by decide) rfl 26 (by decide) (hts (.fieldLink RX9 134 "CardBandModel" "written" "I") (by decide +kernel)) rfl rfl (by decide +kernel) rfl rfl (by simp [flds]) rfl dX9_write_63 (Option.some.inj e21) (fun H locs hP hS => ?_)
          refine j_aload_n hx hb dX9_write_66 rfl (lv_at hl 0 rfl) ?_
          refine j_get (v := jI (gI μ20 332 26)) hx hb hts hinX9 hown hK hP kz_332 (by decide) rfl 26 (by decide) (hts (.fieldLink RX9 134 "CardBandModel" "written" "I") (by decide +kernel)) rfl (by rw [jI_g]; rfl) dX9_write_67 ?_
          obtain ⟨e0, e1⟩ := Prod.mk.inj (Option.some.inj h)
          subst e1
          exact j_retI hx hb hK hP hS hr hlk e0 dX9_write_70
        · replace h := (if_pos q15).symm.trans h
          refine j_ldc (n := (-1000000004)) hx hb hown (hts (.constant RX9 64 (-1000000004)) (by decide +kernel)) (by decide) dX9_write_33 ?_
          obtain ⟨e0, e1⟩ := Prod.mk.inj (Option.some.inj h)
          subst e1
          exact j_retI hx hb hK hP hS hr hlk e0 dX9_write_35
      · replace h := (if_pos q14).symm.trans h
        refine j_ldc (n := (-1000000001)) hx hb hown (hts (.constant RX9 183 (-1000000001)) (by decide +kernel)) (by decide) dX9_write_21 ?_
        obtain ⟨e0, e1⟩ := Prod.mk.inj (Option.some.inj h)
        subst e1
        exact j_retI hx hb hK hP hS hr hlk e0 dX9_write_23
def fX9_yarn (N : Nat) (y1 : Int) (μ : Mm) : Option (Int) :=
    Option.bind (fX9_isColour N y1 μ) (fun v2 => if wr v2 = 0 then (some (-1000000001)) else (Option.bind (ldA μ 333 8262 (40 + y1)) (fun v4 => some v4)))
abbrev rmX9_yarn : Room := { frames := 2, cells := 0, slots := 0, locals := 46 }
set_option maxHeartbeats 4000000 in
set_option maxRecDepth 100000 in
theorem m_X9_yarn (l : Launch) (D : va_G) (b : Nat) (cs : CS) (N : Nat) {μ : Mm} {y1 : Int} {r : Int} (h : fX9_yarn N y1 μ = some r) : MI l yX9_yarn wsX9_yarn rmX9_yarn D b cs [jR b 332, jI y1] μ μ r := by
  refine met_in (cc := cX9_yarn) (maxL := 2) (ret := some .int) (lv0 := [(0, jR b 332), (1, jI y1)]) (by decide +kernel) rfl (Nat.le_of_ble_eq_true rfl) rfl ?_
  intro p e s m args below meth c hx hb hr hlk hml hown hts hP hK ls hl
  have hown : s.vm.findClass RX9 = some m.cls := hown
  have hS : va_S (bA b) s.heap s.heap [] := va_S.rf
  have hinX9 : ∀ w ∈ u_ws RX9 TX9 27, w ∈ wsX9_yarn := by decide +kernel
  unfold fX9_yarn at h
  refine j_aload_n hx hb dX9_yarn_0 rfl (lv_at hl 0 rfl) ?_
  refine j_iload_n hx hb dX9_yarn_1 rfl (lv_at hl 1 rfl) ?_
  obtain ⟨v2, e1, h⟩ := ob_I h
  refine jc_VI (As := [jI y1]) (rest := []) ⟨hx, hb, hml, hown, hts⟩ hK hP hS (m_X9_isColour l D b cs N e1) (cwV 1 hts gX9_yarn_X9_isColour rfl rfl rfl (by decide +kernel) ⟨Nat.le_of_ble_eq_true rfl, Nat.le_of_ble_eq_true rfl⟩) kz_332 (by decide) rfl rfl hl.1 rfl (Nat.le_of_ble_eq_true rfl) dX9_yarn_2 ⟨Nat.zero_le _, Nat.zero_le _⟩ (fun H locs hP hS => ?_)
  refine j_if_eq (A := wr v2) (tgt := 20) hx hb rfl dX9_yarn_5 (by decide) (fun q3 => ?_) (fun q3 => ?_)
  · replace h := (if_pos q3).symm.trans h
    refine j_ldc (n := (-1000000001)) hx hb hown (hts (.constant RX9 183 (-1000000001)) (by decide +kernel)) (by decide) dX9_yarn_20 ?_
    exact j_retI hx hb hK hP hS hr hlk (Option.some.inj h) dX9_yarn_22
  · replace h := (if_neg q3).symm.trans h
    refine j_aload_n hx hb dX9_yarn_8 rfl (lv_at hl 0 rfl) ?_
    refine j_get (v := jR b 333) hx hb hts hinX9 hown hK hP kz_332 (by decide) rfl 0 (by decide) (hts (.fieldLink RX9 7 "CardBandModel" "w" "[I") (by decide +kernel)) rfl rfl dX9_yarn_9 ?_
    refine j_bipush hx hb dX9_yarn_12 (by decide) ?_
    refine j_iload_n hx hb dX9_yarn_14 rfl (lv_at hl 1 rfl) ?_
    refine j_iadd hx hb dX9_yarn_15 ?_
    obtain ⟨v4, e5, h⟩ := ob_I h
    refine j_iaload hx hb hK hP kz_333 e5 dX9_yarn_16 ?_
    refine j_goto (tgt := 22) hx hb dX9_yarn_17 (by decide) ?_
    exact j_retI hx hb hK hP hS hr hlk (Option.some.inj h) dX9_yarn_22
