/-! THE LAW: a case a call; what is owed of the pair of functions is ok_.. -/
section LAWROWS
variable {p : Program} {l : Launch} {e : Env} {R : Room} {s : State} {m : MethodId} {args : Array Value} {below : List Frame} {meth : Method} {c : Code} {H : Heap} {locs : List Loc} {cells slots : Nat} {Q : State → Prop}
variable {cc : ByteArray} {pc : Nat} {ls : Array Slot} {rest : List Value}
theorem j_sld (hx : p.tables.exec = Jvm.exec) (hb : c.code = cc) {b0 L : Nat} {xs : Nat → Int32} (hX : va_X b0 L xs s s.heap) (hbl : b0 < s.heap.size) (hS : va_S (bA s.heap.size) s.heap H locs) {z : Int} {k : Nat} (hz : wr z = k) (hk : k < L) (hdg : decode cc pc = .ok (.iaload, 1)) (kk : W p l e R s m args below meth c H locs cells slots Q (F0 m (pc + 1) ls (jI (xs k).toInt :: rest))) : W p l e R s m args below meth c H locs cells slots Q (F0 m pc ls (jI z :: .ref b0 :: rest)) := by
  refine va_sld hx hb hX hbl (Nat.not_le.mpr hbl) hS (vp_in_w (by rw [hz]; omega)) hdg ?_
  rw [i32_cl (by rw [hz]; omega), hz, Int.toNat_natCast]
  rw [jI_i] at kk
  exact kk
end LAWROWS
def ok_feed (N : Nat) (I : Mm → Prop) : Prop := ∀ (μ : Mm) (y1 : Int), (-2147483648 ≤ y1 ∧ y1 < 2147483648) → I μ → ∃ (r r2 : Int) (μ1 : Mm) (μ2 : Mm), fX8_feed N y1 μ = some (r, μ1) ∧ fX9_feed N y1 μ1 = some (r2, μ2) ∧ wr r = wr r2 ∧ I μ2
set_option maxHeartbeats 4000000 in
set_option maxRecDepth 100000 in
theorem law_feed {p : Program} {l : Launch} {e : Env} {s : State} {m : MethodId} {below : List Frame} {meth : Method} {c : Code} {b0 L : Nat} {xs : Nat → Int32} (C0 : lw_At p s m meth c b0 L xs) {D : va_G} {cs : CS} {N : Nat} {I : Mm → Prop} (ok : ok_feed N I) {t : Nat} (ht : 4 * t + 4 ≤ L) (hL : L ≤ 256) {Q : State → Prop} (hK : va_K D vwCl (tyl cs) s) {μ : Mm} (hI : I μ) {H : Heap} {locs : List Loc} {ls : Array Slot} (hP : va_P D vwCl (wl s.heap.size cs μ) H) (hS : va_S (bA s.heap.size) s.heap H locs) (hl : lv_has ls 4 [(3, jI (4 * (t : Int))), (2, jR s.heap.size 332), (1, jR s.heap.size 0), (0, .ref b0)]) (nx : ∀ (μ : Mm) (H : Heap) (locs : List Loc) (ls : Array Slot), I μ → va_P D vwCl (wl s.heap.size cs μ) H → va_S (bA s.heap.size) s.heap H locs → lv_has ls 4 [(3, jI (4 * (t : Int))), (2, jR s.heap.size 332), (1, jR s.heap.size 0), (0, .ref b0)] → W p l e room_1 s m #[Value.ref b0] below meth c H locs 600000 7302250 Q (F0 m 1103 ls [])) : W p l e room_1 s m #[Value.ref b0] below meth c H locs 600000 7302250 Q (F0 m 188 ls []) := by
  obtain ⟨hx, hb, hr, hml, hown, hts0, hX, hbl, hlocks, hgv⟩ := C0
  have hts : ∀ w ∈ wsL_law, w.before #[Value.ref b0] s = true := fun w h => hts0 w (wsL_law_in w h)
  have hown : s.vm.findClass RL = some m.cls := hown
  obtain ⟨r, r2, μ1, μ2, e1, e2, hw, hI2⟩ := ok μ (xs (4 * t + 1)).toInt ⟨Int32.le_toInt _, Int32.toInt_lt _⟩ hI
  refine j_aload_n hx hb dL_law_188 rfl (lv_at hl 2 rfl) ?_
  refine lv_aload_n hx hb dL_law_189 rfl (lv_at hl 3 rfl) ?_
  refine j_iload_n hx hb dL_law_190 rfl (lv_at hl 0 rfl) ?_
  refine j_iconst hx hb dL_law_191 ?_
  refine j_iadd hx hb dL_law_192 ?_
  refine j_sld (k := 4 * t + 1) hx hb hX hbl hS ((wr_id (by omega) (by omega)).trans (by omega)) (by omega) dL_law_193 ?_
  refine jc_VI (As := [jI (xs (4 * t + 1)).toInt]) (rest := []) ⟨hx, hb, hml, hown, hts⟩ hK hP hS (m_X8_feed l D s.heap.size cs N e1) (cwV 1 hts gL_law_X8_feed rfl rfl rfl (by decide +kernel) ⟨Nat.le_of_ble_eq_true rfl, Nat.le_of_ble_eq_true rfl⟩) kz_0 (by decide) rfl rfl hl.1 rfl (Nat.le_of_ble_eq_true rfl) dL_law_194 ⟨Nat.le_refl _, Nat.le_refl _⟩ (fun H locs hP hS => ?_)
  refine j_aload_n hx hb dL_law_197 rfl (lv_at hl 1 rfl) ?_
  refine lv_aload_n hx hb dL_law_198 rfl (lv_at hl 3 rfl) ?_
  refine j_iload_n hx hb dL_law_199 rfl (lv_at hl 0 rfl) ?_
  refine j_iconst hx hb dL_law_200 ?_
  refine j_iadd hx hb dL_law_201 ?_
  refine j_sld (k := 4 * t + 1) hx hb hX hbl hS ((wr_id (by omega) (by omega)).trans (by omega)) (by omega) dL_law_202 ?_
  refine jc_VI (As := [jI (xs (4 * t + 1)).toInt]) (rest := [jI r]) ⟨hx, hb, hml, hown, hts⟩ hK hP hS (m_X9_feed l D s.heap.size cs N e2) (cwV 1 hts gL_law_X9_feed rfl rfl rfl (by decide +kernel) ⟨Nat.le_of_ble_eq_true rfl, Nat.le_of_ble_eq_true rfl⟩) kz_332 (by decide) rfl rfl hl.1 rfl (Nat.le_of_ble_eq_true rfl) dL_law_203 ⟨Nat.le_refl _, Nat.le_refl _⟩ (fun H locs hP hS => ?_)
  refine j_icmp_eq (A := wr r) (B := wr r2) (tgt := 1103) hx hb rfl rfl dL_law_206 (by decide) (fun q => ?_) (fun q => absurd hw q)
  exact nx _ _ _ _ hI2 hP hS hl
def ok_loom (N : Nat) (I : Mm → Prop) : Prop := ∀ (μ : Mm), I μ → ∃ (r r2 : Int) (μ1 : Mm) (μ2 : Mm), fX8_loom N μ = some (r, μ1) ∧ fX9_loom N μ1 = some (r2, μ2) ∧ wr r = wr r2 ∧ I μ2
set_option maxHeartbeats 4000000 in
set_option maxRecDepth 100000 in
theorem law_loom {p : Program} {l : Launch} {e : Env} {s : State} {m : MethodId} {below : List Frame} {meth : Method} {c : Code} {b0 L : Nat} {xs : Nat → Int32} (C0 : lw_At p s m meth c b0 L xs) {D : va_G} {cs : CS} {N : Nat} {I : Mm → Prop} (ok : ok_loom N I) {t : Nat} (ht : 4 * t + 4 ≤ L) (hL : L ≤ 256) {Q : State → Prop} (hK : va_K D vwCl (tyl cs) s) {μ : Mm} (hI : I μ) {H : Heap} {locs : List Loc} {ls : Array Slot} (hP : va_P D vwCl (wl s.heap.size cs μ) H) (hS : va_S (bA s.heap.size) s.heap H locs) (hl : lv_has ls 4 [(3, jI (4 * (t : Int))), (2, jR s.heap.size 332), (1, jR s.heap.size 0), (0, .ref b0)]) (nx : ∀ (μ : Mm) (H : Heap) (locs : List Loc) (ls : Array Slot), I μ → va_P D vwCl (wl s.heap.size cs μ) H → va_S (bA s.heap.size) s.heap H locs → lv_has ls 4 [(3, jI (4 * (t : Int))), (2, jR s.heap.size 332), (1, jR s.heap.size 0), (0, .ref b0)] → W p l e room_1 s m #[Value.ref b0] below meth c H locs 600000 7302250 Q (F0 m 1103 ls [])) : W p l e room_1 s m #[Value.ref b0] below meth c H locs 600000 7302250 Q (F0 m 211 ls []) := by
  obtain ⟨hx, hb, hr, hml, hown, hts0, hX, hbl, hlocks, hgv⟩ := C0
  have hts : ∀ w ∈ wsL_law, w.before #[Value.ref b0] s = true := fun w h => hts0 w (wsL_law_in w h)
  have hown : s.vm.findClass RL = some m.cls := hown
  obtain ⟨r, r2, μ1, μ2, e1, e2, hw, hI2⟩ := ok μ hI
  refine j_aload_n hx hb dL_law_211 rfl (lv_at hl 2 rfl) ?_
  refine jc_VI (As := []) (rest := []) ⟨hx, hb, hml, hown, hts⟩ hK hP hS (m_X8_loom l D s.heap.size cs N e1) (cwV 0 hts gL_law_X8_loom rfl rfl rfl (by decide +kernel) ⟨Nat.le_of_ble_eq_true rfl, Nat.le_of_ble_eq_true rfl⟩) kz_0 (by decide) rfl rfl hl.1 rfl (Nat.le_of_ble_eq_true rfl) dL_law_212 ⟨Nat.le_refl _, Nat.le_refl _⟩ (fun H locs hP hS => ?_)
  refine j_aload_n hx hb dL_law_215 rfl (lv_at hl 1 rfl) ?_
  refine jc_VI (As := []) (rest := [jI r]) ⟨hx, hb, hml, hown, hts⟩ hK hP hS (m_X9_loom l D s.heap.size cs N e2) (cwV 0 hts gL_law_X9_loom rfl rfl rfl (by decide +kernel) ⟨Nat.le_of_ble_eq_true rfl, Nat.le_of_ble_eq_true rfl⟩) kz_332 (by decide) rfl rfl hl.1 rfl (Nat.le_of_ble_eq_true rfl) dL_law_216 ⟨Nat.le_refl _, Nat.le_refl _⟩ (fun H locs hP hS => ?_)
  refine j_icmp_eq (A := wr r) (B := wr r2) (tgt := 1103) hx hb rfl rfl dL_law_219 (by decide) (fun q => ?_) (fun q => absurd hw q)
  exact nx _ _ _ _ hI2 hP hS hl
def ok_fault (N : Nat) (I : Mm → Prop) : Prop := ∀ (μ : Mm), I μ → ∃ (r r2 : Int), fX8_fault N μ = some r ∧ fX9_fault N μ = some r2 ∧ wr r = wr r2 ∧ I μ
set_option maxHeartbeats 4000000 in
set_option maxRecDepth 100000 in
theorem law_fault {p : Program} {l : Launch} {e : Env} {s : State} {m : MethodId} {below : List Frame} {meth : Method} {c : Code} {b0 L : Nat} {xs : Nat → Int32} (C0 : lw_At p s m meth c b0 L xs) {D : va_G} {cs : CS} {N : Nat} {I : Mm → Prop} (ok : ok_fault N I) {t : Nat} (ht : 4 * t + 4 ≤ L) (hL : L ≤ 256) {Q : State → Prop} (hK : va_K D vwCl (tyl cs) s) {μ : Mm} (hI : I μ) {H : Heap} {locs : List Loc} {ls : Array Slot} (hP : va_P D vwCl (wl s.heap.size cs μ) H) (hS : va_S (bA s.heap.size) s.heap H locs) (hl : lv_has ls 4 [(3, jI (4 * (t : Int))), (2, jR s.heap.size 332), (1, jR s.heap.size 0), (0, .ref b0)]) (nx : ∀ (μ : Mm) (H : Heap) (locs : List Loc) (ls : Array Slot), I μ → va_P D vwCl (wl s.heap.size cs μ) H → va_S (bA s.heap.size) s.heap H locs → lv_has ls 4 [(3, jI (4 * (t : Int))), (2, jR s.heap.size 332), (1, jR s.heap.size 0), (0, .ref b0)] → W p l e room_1 s m #[Value.ref b0] below meth c H locs 600000 7302250 Q (F0 m 1103 ls [])) : W p l e room_1 s m #[Value.ref b0] below meth c H locs 600000 7302250 Q (F0 m 224 ls []) := by
  obtain ⟨hx, hb, hr, hml, hown, hts0, hX, hbl, hlocks, hgv⟩ := C0
  have hts : ∀ w ∈ wsL_law, w.before #[Value.ref b0] s = true := fun w h => hts0 w (wsL_law_in w h)
  have hown : s.vm.findClass RL = some m.cls := hown
  obtain ⟨r, r2, e1, e2, hw, hI2⟩ := ok μ hI
  refine j_aload_n hx hb dL_law_224 rfl (lv_at hl 2 rfl) ?_
  refine jc_VI (As := []) (rest := []) ⟨hx, hb, hml, hown, hts⟩ hK hP hS (m_X8_fault l D s.heap.size cs N e1) (cwV 0 hts gL_law_X8_fault rfl rfl rfl (by decide +kernel) ⟨Nat.le_of_ble_eq_true rfl, Nat.le_of_ble_eq_true rfl⟩) kz_0 (by decide) rfl rfl hl.1 rfl (Nat.le_of_ble_eq_true rfl) dL_law_225 ⟨Nat.le_refl _, Nat.le_refl _⟩ (fun H locs hP hS => ?_)
  refine j_aload_n hx hb dL_law_228 rfl (lv_at hl 1 rfl) ?_
  refine jc_VI (As := []) (rest := [jI r]) ⟨hx, hb, hml, hown, hts⟩ hK hP hS (m_X9_fault l D s.heap.size cs N e2) (cwV 0 hts gL_law_X9_fault rfl rfl rfl (by decide +kernel) ⟨Nat.le_of_ble_eq_true rfl, Nat.le_of_ble_eq_true rfl⟩) kz_332 (by decide) rfl rfl hl.1 rfl (Nat.le_of_ble_eq_true rfl) dL_law_229 ⟨Nat.le_refl _, Nat.le_refl _⟩ (fun H locs hP hS => ?_)
  refine j_icmp_eq (A := wr r) (B := wr r2) (tgt := 1103) hx hb rfl rfl dL_law_232 (by decide) (fun q => ?_) (fun q => absurd hw q)
  exact nx _ _ _ _ hI2 hP hS hl
def ok_told (N : Nat) (I : Mm → Prop) : Prop := ∀ (μ : Mm) (y1 : Int), (-2147483648 ≤ y1 ∧ y1 < 2147483648) → I μ → ∃ (r r2 : Int), fX8_told N y1 μ = some r ∧ fX9_told N y1 μ = some r2 ∧ wr r = wr r2 ∧ I μ
set_option maxHeartbeats 4000000 in
set_option maxRecDepth 100000 in
theorem law_told {p : Program} {l : Launch} {e : Env} {s : State} {m : MethodId} {below : List Frame} {meth : Method} {c : Code} {b0 L : Nat} {xs : Nat → Int32} (C0 : lw_At p s m meth c b0 L xs) {D : va_G} {cs : CS} {N : Nat} {I : Mm → Prop} (ok : ok_told N I) {t : Nat} (ht : 4 * t + 4 ≤ L) (hL : L ≤ 256) {Q : State → Prop} (hK : va_K D vwCl (tyl cs) s) {μ : Mm} (hI : I μ) {H : Heap} {locs : List Loc} {ls : Array Slot} (hP : va_P D vwCl (wl s.heap.size cs μ) H) (hS : va_S (bA s.heap.size) s.heap H locs) (hl : lv_has ls 4 [(3, jI (4 * (t : Int))), (2, jR s.heap.size 332), (1, jR s.heap.size 0), (0, .ref b0)]) (nx : ∀ (μ : Mm) (H : Heap) (locs : List Loc) (ls : Array Slot), I μ → va_P D vwCl (wl s.heap.size cs μ) H → va_S (bA s.heap.size) s.heap H locs → lv_has ls 4 [(3, jI (4 * (t : Int))), (2, jR s.heap.size 332), (1, jR s.heap.size 0), (0, .ref b0)] → W p l e room_1 s m #[Value.ref b0] below meth c H locs 600000 7302250 Q (F0 m 1103 ls [])) : W p l e room_1 s m #[Value.ref b0] below meth c H locs 600000 7302250 Q (F0 m 237 ls []) := by
  obtain ⟨hx, hb, hr, hml, hown, hts0, hX, hbl, hlocks, hgv⟩ := C0
  have hts : ∀ w ∈ wsL_law, w.before #[Value.ref b0] s = true := fun w h => hts0 w (wsL_law_in w h)
  have hown : s.vm.findClass RL = some m.cls := hown
  obtain ⟨r, r2, e1, e2, hw, hI2⟩ := ok μ (xs (4 * t + 1)).toInt ⟨Int32.le_toInt _, Int32.toInt_lt _⟩ hI
  refine j_aload_n hx hb dL_law_237 rfl (lv_at hl 2 rfl) ?_
  refine lv_aload_n hx hb dL_law_238 rfl (lv_at hl 3 rfl) ?_
  refine j_iload_n hx hb dL_law_239 rfl (lv_at hl 0 rfl) ?_
  refine j_iconst hx hb dL_law_240 ?_
  refine j_iadd hx hb dL_law_241 ?_
  refine j_sld (k := 4 * t + 1) hx hb hX hbl hS ((wr_id (by omega) (by omega)).trans (by omega)) (by omega) dL_law_242 ?_
  refine jc_VI (As := [jI (xs (4 * t + 1)).toInt]) (rest := []) ⟨hx, hb, hml, hown, hts⟩ hK hP hS (m_X8_told l D s.heap.size cs N e1) (cwV 1 hts gL_law_X8_told rfl rfl rfl (by decide +kernel) ⟨Nat.le_of_ble_eq_true rfl, Nat.le_of_ble_eq_true rfl⟩) kz_0 (by decide) rfl rfl hl.1 rfl (Nat.le_of_ble_eq_true rfl) dL_law_243 ⟨Nat.le_refl _, Nat.le_refl _⟩ (fun H locs hP hS => ?_)
  refine j_aload_n hx hb dL_law_246 rfl (lv_at hl 1 rfl) ?_
  refine lv_aload_n hx hb dL_law_247 rfl (lv_at hl 3 rfl) ?_
  refine j_iload_n hx hb dL_law_248 rfl (lv_at hl 0 rfl) ?_
  refine j_iconst hx hb dL_law_249 ?_
  refine j_iadd hx hb dL_law_250 ?_
  refine j_sld (k := 4 * t + 1) hx hb hX hbl hS ((wr_id (by omega) (by omega)).trans (by omega)) (by omega) dL_law_251 ?_
  refine jc_VI (As := [jI (xs (4 * t + 1)).toInt]) (rest := [jI r]) ⟨hx, hb, hml, hown, hts⟩ hK hP hS (m_X9_told l D s.heap.size cs N e2) (cwV 1 hts gL_law_X9_told rfl rfl rfl (by decide +kernel) ⟨Nat.le_of_ble_eq_true rfl, Nat.le_of_ble_eq_true rfl⟩) kz_332 (by decide) rfl rfl hl.1 rfl (Nat.le_of_ble_eq_true rfl) dL_law_252 ⟨Nat.le_refl _, Nat.le_refl _⟩ (fun H locs hP hS => ?_)
  refine j_icmp_eq (A := wr r) (B := wr r2) (tgt := 1103) hx hb rfl rfl dL_law_255 (by decide) (fun q => ?_) (fun q => absurd hw q)
  exact nx _ _ _ _ hI2 hP hS hl
def ok_card (N : Nat) (I : Mm → Prop) : Prop := ∀ (μ : Mm) (y1 y2 : Int), (-2147483648 ≤ y1 ∧ y1 < 2147483648) → (-2147483648 ≤ y2 ∧ y2 < 2147483648) → I μ → ∃ (r r2 : Int), fX8_card N y1 y2 μ = some r ∧ fX9_card N y1 y2 μ = some r2 ∧ wr r = wr r2 ∧ I μ
set_option maxHeartbeats 4000000 in
set_option maxRecDepth 100000 in
theorem law_card {p : Program} {l : Launch} {e : Env} {s : State} {m : MethodId} {below : List Frame} {meth : Method} {c : Code} {b0 L : Nat} {xs : Nat → Int32} (C0 : lw_At p s m meth c b0 L xs) {D : va_G} {cs : CS} {N : Nat} {I : Mm → Prop} (ok : ok_card N I) {t : Nat} (ht : 4 * t + 4 ≤ L) (hL : L ≤ 256) {Q : State → Prop} (hK : va_K D vwCl (tyl cs) s) {μ : Mm} (hI : I μ) {H : Heap} {locs : List Loc} {ls : Array Slot} (hP : va_P D vwCl (wl s.heap.size cs μ) H) (hS : va_S (bA s.heap.size) s.heap H locs) (hl : lv_has ls 4 [(3, jI (4 * (t : Int))), (2, jR s.heap.size 332), (1, jR s.heap.size 0), (0, .ref b0)]) (nx : ∀ (μ : Mm) (H : Heap) (locs : List Loc) (ls : Array Slot), I μ → va_P D vwCl (wl s.heap.size cs μ) H → va_S (bA s.heap.size) s.heap H locs → lv_has ls 4 [(3, jI (4 * (t : Int))), (2, jR s.heap.size 332), (1, jR s.heap.size 0), (0, .ref b0)] → W p l e room_1 s m #[Value.ref b0] below meth c H locs 600000 7302250 Q (F0 m 1103 ls [])) : W p l e room_1 s m #[Value.ref b0] below meth c H locs 600000 7302250 Q (F0 m 260 ls []) := by
  obtain ⟨hx, hb, hr, hml, hown, hts0, hX, hbl, hlocks, hgv⟩ := C0
  have hts : ∀ w ∈ wsL_law, w.before #[Value.ref b0] s = true := fun w h => hts0 w (wsL_law_in w h)
  have hown : s.vm.findClass RL = some m.cls := hown
  obtain ⟨r, r2, e1, e2, hw, hI2⟩ := ok μ (xs (4 * t + 1)).toInt (xs (4 * t + 2)).toInt ⟨Int32.le_toInt _, Int32.toInt_lt _⟩ ⟨Int32.le_toInt _, Int32.toInt_lt _⟩ hI
  refine j_aload_n hx hb dL_law_260 rfl (lv_at hl 2 rfl) ?_
  refine lv_aload_n hx hb dL_law_261 rfl (lv_at hl 3 rfl) ?_
  refine j_iload_n hx hb dL_law_262 rfl (lv_at hl 0 rfl) ?_
  refine j_iconst hx hb dL_law_263 ?_
  refine j_iadd hx hb dL_law_264 ?_
  refine j_sld (k := 4 * t + 1) hx hb hX hbl hS ((wr_id (by omega) (by omega)).trans (by omega)) (by omega) dL_law_265 ?_
  refine lv_aload_n hx hb dL_law_266 rfl (lv_at hl 3 rfl) ?_
  refine j_iload_n hx hb dL_law_267 rfl (lv_at hl 0 rfl) ?_
  refine j_iconst hx hb dL_law_268 ?_
  refine j_iadd hx hb dL_law_269 ?_
  refine j_sld (k := 4 * t + 2) hx hb hX hbl hS ((wr_id (by omega) (by omega)).trans (by omega)) (by omega) dL_law_270 ?_
  refine jc_VI (As := [jI (xs (4 * t + 1)).toInt, jI (xs (4 * t + 2)).toInt]) (rest := []) ⟨hx, hb, hml, hown, hts⟩ hK hP hS (m_X8_card l D s.heap.size cs N e1) (cwV 2 hts gL_law_X8_card rfl rfl rfl (by decide +kernel) ⟨Nat.le_of_ble_eq_true rfl, Nat.le_of_ble_eq_true rfl⟩) kz_0 (by decide) rfl rfl hl.1 rfl (Nat.le_of_ble_eq_true rfl) dL_law_271 ⟨Nat.le_refl _, Nat.le_refl _⟩ (fun H locs hP hS => ?_)
  refine j_aload_n hx hb dL_law_274 rfl (lv_at hl 1 rfl) ?_
  refine lv_aload_n hx hb dL_law_275 rfl (lv_at hl 3 rfl) ?_
  refine j_iload_n hx hb dL_law_276 rfl (lv_at hl 0 rfl) ?_
  refine j_iconst hx hb dL_law_277 ?_
  refine j_iadd hx hb dL_law_278 ?_
  refine j_sld (k := 4 * t + 1) hx hb hX hbl hS ((wr_id (by omega) (by omega)).trans (by omega)) (by omega) dL_law_279 ?_
  refine lv_aload_n hx hb dL_law_280 rfl (lv_at hl 3 rfl) ?_
  refine j_iload_n hx hb dL_law_281 rfl (lv_at hl 0 rfl) ?_
  refine j_iconst hx hb dL_law_282 ?_
  refine j_iadd hx hb dL_law_283 ?_
  refine j_sld (k := 4 * t + 2) hx hb hX hbl hS ((wr_id (by omega) (by omega)).trans (by omega)) (by omega) dL_law_284 ?_
  refine jc_VI (As := [jI (xs (4 * t + 1)).toInt, jI (xs (4 * t + 2)).toInt]) (rest := [jI r]) ⟨hx, hb, hml, hown, hts⟩ hK hP hS (m_X9_card l D s.heap.size cs N e2) (cwV 2 hts gL_law_X9_card rfl rfl rfl (by decide +kernel) ⟨Nat.le_of_ble_eq_true rfl, Nat.le_of_ble_eq_true rfl⟩) kz_332 (by decide) rfl rfl hl.1 rfl (Nat.le_of_ble_eq_true rfl) dL_law_285 ⟨Nat.le_refl _, Nat.le_refl _⟩ (fun H locs hP hS => ?_)
  refine j_icmp_eq (A := wr r) (B := wr r2) (tgt := 1103) hx hb rfl rfl dL_law_288 (by decide) (fun q => ?_) (fun q => absurd hw q)
  exact nx _ _ _ _ hI2 hP hS hl
def ok_pack (N : Nat) (I : Mm → Prop) : Prop := ∀ (μ : Mm) (y1 : Int), (-2147483648 ≤ y1 ∧ y1 < 2147483648) → I μ → ∃ (r r2 : Int), fX8_pack N y1 μ = some r ∧ fX9_pack N y1 μ = some r2 ∧ wr r = wr r2 ∧ I μ
set_option maxHeartbeats 4000000 in
set_option maxRecDepth 100000 in
theorem law_pack {p : Program} {l : Launch} {e : Env} {s : State} {m : MethodId} {below : List Frame} {meth : Method} {c : Code} {b0 L : Nat} {xs : Nat → Int32} (C0 : lw_At p s m meth c b0 L xs) {D : va_G} {cs : CS} {N : Nat} {I : Mm → Prop} (ok : ok_pack N I) {t : Nat} (ht : 4 * t + 4 ≤ L) (hL : L ≤ 256) {Q : State → Prop} (hK : va_K D vwCl (tyl cs) s) {μ : Mm} (hI : I μ) {H : Heap} {locs : List Loc} {ls : Array Slot} (hP : va_P D vwCl (wl s.heap.size cs μ) H) (hS : va_S (bA s.heap.size) s.heap H locs) (hl : lv_has ls 4 [(3, jI (4 * (t : Int))), (2, jR s.heap.size 332), (1, jR s.heap.size 0), (0, .ref b0)]) (nx : ∀ (μ : Mm) (H : Heap) (locs : List Loc) (ls : Array Slot), I μ → va_P D vwCl (wl s.heap.size cs μ) H → va_S (bA s.heap.size) s.heap H locs → lv_has ls 4 [(3, jI (4 * (t : Int))), (2, jR s.heap.size 332), (1, jR s.heap.size 0), (0, .ref b0)] → W p l e room_1 s m #[Value.ref b0] below meth c H locs 600000 7302250 Q (F0 m 1103 ls [])) : W p l e room_1 s m #[Value.ref b0] below meth c H locs 600000 7302250 Q (F0 m 293 ls []) := by
  obtain ⟨hx, hb, hr, hml, hown, hts0, hX, hbl, hlocks, hgv⟩ := C0
  have hts : ∀ w ∈ wsL_law, w.before #[Value.ref b0] s = true := fun w h => hts0 w (wsL_law_in w h)
  have hown : s.vm.findClass RL = some m.cls := hown
  obtain ⟨r, r2, e1, e2, hw, hI2⟩ := ok μ (xs (4 * t + 1)).toInt ⟨Int32.le_toInt _, Int32.toInt_lt _⟩ hI
  refine j_aload_n hx hb dL_law_293 rfl (lv_at hl 2 rfl) ?_
  refine lv_aload_n hx hb dL_law_294 rfl (lv_at hl 3 rfl) ?_
  refine j_iload_n hx hb dL_law_295 rfl (lv_at hl 0 rfl) ?_
  refine j_iconst hx hb dL_law_296 ?_
  refine j_iadd hx hb dL_law_297 ?_
  refine j_sld (k := 4 * t + 1) hx hb hX hbl hS ((wr_id (by omega) (by omega)).trans (by omega)) (by omega) dL_law_298 ?_
  refine jc_VI (As := [jI (xs (4 * t + 1)).toInt]) (rest := []) ⟨hx, hb, hml, hown, hts⟩ hK hP hS (m_X8_pack l D s.heap.size cs N e1) (cwV 1 hts gL_law_X8_pack rfl rfl rfl (by decide +kernel) ⟨Nat.le_of_ble_eq_true rfl, Nat.le_of_ble_eq_true rfl⟩) kz_0 (by decide) rfl rfl hl.1 rfl (Nat.le_of_ble_eq_true rfl) dL_law_299 ⟨Nat.le_refl _, Nat.le_refl _⟩ (fun H locs hP hS => ?_)
  refine j_aload_n hx hb dL_law_302 rfl (lv_at hl 1 rfl) ?_
  refine lv_aload_n hx hb dL_law_303 rfl (lv_at hl 3 rfl) ?_
  refine j_iload_n hx hb dL_law_304 rfl (lv_at hl 0 rfl) ?_
  refine j_iconst hx hb dL_law_305 ?_
  refine j_iadd hx hb dL_law_306 ?_
  refine j_sld (k := 4 * t + 1) hx hb hX hbl hS ((wr_id (by omega) (by omega)).trans (by omega)) (by omega) dL_law_307 ?_
  refine jc_VI (As := [jI (xs (4 * t + 1)).toInt]) (rest := [jI r]) ⟨hx, hb, hml, hown, hts⟩ hK hP hS (m_X9_pack l D s.heap.size cs N e2) (cwV 1 hts gL_law_X9_pack rfl rfl rfl (by decide +kernel) ⟨Nat.le_of_ble_eq_true rfl, Nat.le_of_ble_eq_true rfl⟩) kz_332 (by decide) rfl rfl hl.1 rfl (Nat.le_of_ble_eq_true rfl) dL_law_308 ⟨Nat.le_refl _, Nat.le_refl _⟩ (fun H locs hP hS => ?_)
  refine j_icmp_eq (A := wr r) (B := wr r2) (tgt := 1103) hx hb rfl rfl dL_law_311 (by decide) (fun q => ?_) (fun q => absurd hw q)
  exact nx _ _ _ _ hI2 hP hS hl
def ok_yarn (N : Nat) (I : Mm → Prop) : Prop := ∀ (μ : Mm) (y1 : Int), (-2147483648 ≤ y1 ∧ y1 < 2147483648) → I μ → ∃ (r r2 : Int), fX8_yarn N y1 μ = some r ∧ fX9_yarn N y1 μ = some r2 ∧ wr r = wr r2 ∧ I μ
set_option maxHeartbeats 4000000 in
set_option maxRecDepth 100000 in
theorem law_yarn {p : Program} {l : Launch} {e : Env} {s : State} {m : MethodId} {below : List Frame} {meth : Method} {c : Code} {b0 L : Nat} {xs : Nat → Int32} (C0 : lw_At p s m meth c b0 L xs) {D : va_G} {cs : CS} {N : Nat} {I : Mm → Prop} (ok : ok_yarn N I) {t : Nat} (ht : 4 * t + 4 ≤ L) (hL : L ≤ 256) {Q : State → Prop} (hK : va_K D vwCl (tyl cs) s) {μ : Mm} (hI : I μ) {H : Heap} {locs : List Loc} {ls : Array Slot} (hP : va_P D vwCl (wl s.heap.size cs μ) H) (hS : va_S (bA s.heap.size) s.heap H locs) (hl : lv_has ls 4 [(3, jI (4 * (t : Int))), (2, jR s.heap.size 332), (1, jR s.heap.size 0), (0, .ref b0)]) (nx : ∀ (μ : Mm) (H : Heap) (locs : List Loc) (ls : Array Slot), I μ → va_P D vwCl (wl s.heap.size cs μ) H → va_S (bA s.heap.size) s.heap H locs → lv_has ls 4 [(3, jI (4 * (t : Int))), (2, jR s.heap.size 332), (1, jR s.heap.size 0), (0, .ref b0)] → W p l e room_1 s m #[Value.ref b0] below meth c H locs 600000 7302250 Q (F0 m 1103 ls [])) : W p l e room_1 s m #[Value.ref b0] below meth c H locs 600000 7302250 Q (F0 m 316 ls []) := by
  obtain ⟨hx, hb, hr, hml, hown, hts0, hX, hbl, hlocks, hgv⟩ := C0
  have hts : ∀ w ∈ wsL_law, w.before #[Value.ref b0] s = true := fun w h => hts0 w (wsL_law_in w h)
  have hown : s.vm.findClass RL = some m.cls := hown
  obtain ⟨r, r2, e1, e2, hw, hI2⟩ := ok μ (xs (4 * t + 1)).toInt ⟨Int32.le_toInt _, Int32.toInt_lt _⟩ hI
  refine j_aload_n hx hb dL_law_316 rfl (lv_at hl 2 rfl) ?_
  refine lv_aload_n hx hb dL_law_317 rfl (lv_at hl 3 rfl) ?_
  refine j_iload_n hx hb dL_law_318 rfl (lv_at hl 0 rfl) ?_
  refine j_iconst hx hb dL_law_319 ?_
  refine j_iadd hx hb dL_law_320 ?_
  refine j_sld (k := 4 * t + 1) hx hb hX hbl hS ((wr_id (by omega) (by omega)).trans (by omega)) (by omega) dL_law_321 ?_
  refine jc_VI (As := [jI (xs (4 * t + 1)).toInt]) (rest := []) ⟨hx, hb, hml, hown, hts⟩ hK hP hS (m_X8_yarn l D s.heap.size cs N e1) (cwV 1 hts gL_law_X8_yarn rfl rfl rfl (by decide +kernel) ⟨Nat.le_of_ble_eq_true rfl, Nat.le_of_ble_eq_true rfl⟩) kz_0 (by decide) rfl rfl hl.1 rfl (Nat.le_of_ble_eq_true rfl) dL_law_322 ⟨Nat.le_refl _, Nat.le_refl _⟩ (fun H locs hP hS => ?_)
  refine j_aload_n hx hb dL_law_325 rfl (lv_at hl 1 rfl) ?_
  refine lv_aload_n hx hb dL_law_326 rfl (lv_at hl 3 rfl) ?_
  refine j_iload_n hx hb dL_law_327 rfl (lv_at hl 0 rfl) ?_
  refine j_iconst hx hb dL_law_328 ?_
  refine j_iadd hx hb dL_law_329 ?_
  refine j_sld (k := 4 * t + 1) hx hb hX hbl hS ((wr_id (by omega) (by omega)).trans (by omega)) (by omega) dL_law_330 ?_
  refine jc_VI (As := [jI (xs (4 * t + 1)).toInt]) (rest := [jI r]) ⟨hx, hb, hml, hown, hts⟩ hK hP hS (m_X9_yarn l D s.heap.size cs N e2) (cwV 1 hts gL_law_X9_yarn rfl rfl rfl (by decide +kernel) ⟨Nat.le_of_ble_eq_true rfl, Nat.le_of_ble_eq_true rfl⟩) kz_332 (by decide) rfl rfl hl.1 rfl (Nat.le_of_ble_eq_true rfl) dL_law_331 ⟨Nat.le_refl _, Nat.le_refl _⟩ (fun H locs hP hS => ?_)
  refine j_icmp_eq (A := wr r) (B := wr r2) (tgt := 1103) hx hb rfl rfl dL_law_334 (by decide) (fun q => ?_) (fun q => absurd hw q)
  exact nx _ _ _ _ hI2 hP hS hl
def ok_row (N : Nat) (I : Mm → Prop) : Prop := ∀ (μ : Mm) (y1 y2 : Int), (-2147483648 ≤ y1 ∧ y1 < 2147483648) → (-2147483648 ≤ y2 ∧ y2 < 2147483648) → I μ → ∃ (r r2 : Int), fX8_row N y1 y2 μ = some r ∧ fX9_row N y1 y2 μ = some r2 ∧ wr r = wr r2 ∧ I μ
set_option maxHeartbeats 4000000 in
set_option maxRecDepth 100000 in
theorem law_row {p : Program} {l : Launch} {e : Env} {s : State} {m : MethodId} {below : List Frame} {meth : Method} {c : Code} {b0 L : Nat} {xs : Nat → Int32} (C0 : lw_At p s m meth c b0 L xs) {D : va_G} {cs : CS} {N : Nat} {I : Mm → Prop} (ok : ok_row N I) {t : Nat} (ht : 4 * t + 4 ≤ L) (hL : L ≤ 256) {Q : State → Prop} (hK : va_K D vwCl (tyl cs) s) {μ : Mm} (hI : I μ) {H : Heap} {locs : List Loc} {ls : Array Slot} (hP : va_P D vwCl (wl s.heap.size cs μ) H) (hS : va_S (bA s.heap.size) s.heap H locs) (hl : lv_has ls 4 [(3, jI (4 * (t : Int))), (2, jR s.heap.size 332), (1, jR s.heap.size 0), (0, .ref b0)]) (nx : ∀ (μ : Mm) (H : Heap) (locs : List Loc) (ls : Array Slot), I μ → va_P D vwCl (wl s.heap.size cs μ) H → va_S (bA s.heap.size) s.heap H locs → lv_has ls 4 [(3, jI (4 * (t : Int))), (2, jR s.heap.size 332), (1, jR s.heap.size 0), (0, .ref b0)] → W p l e room_1 s m #[Value.ref b0] below meth c H locs 600000 7302250 Q (F0 m 1103 ls [])) : W p l e room_1 s m #[Value.ref b0] below meth c H locs 600000 7302250 Q (F0 m 339 ls []) := by
  obtain ⟨hx, hb, hr, hml, hown, hts0, hX, hbl, hlocks, hgv⟩ := C0
  have hts : ∀ w ∈ wsL_law, w.before #[Value.ref b0] s = true := fun w h => hts0 w (wsL_law_in w h)
  have hown : s.vm.findClass RL = some m.cls := hown
  obtain ⟨r, r2, e1, e2, hw, hI2⟩ := ok μ (xs (4 * t + 1)).toInt (xs (4 * t + 2)).toInt ⟨Int32.le_toInt _, Int32.toInt_lt _⟩ ⟨Int32.le_toInt _, Int32.toInt_lt _⟩ hI
  refine j_aload_n hx hb dL_law_339 rfl (lv_at hl 2 rfl) ?_
  refine lv_aload_n hx hb dL_law_340 rfl (lv_at hl 3 rfl) ?_
  refine j_iload_n hx hb dL_law_341 rfl (lv_at hl 0 rfl) ?_
  refine j_iconst hx hb dL_law_342 ?_
  refine j_iadd hx hb dL_law_343 ?_
  refine j_sld (k := 4 * t + 1) hx hb hX hbl hS ((wr_id (by omega) (by omega)).trans (by omega)) (by omega) dL_law_344 ?_
  refine lv_aload_n hx hb dL_law_345 rfl (lv_at hl 3 rfl) ?_
  refine j_iload_n hx hb dL_law_346 rfl (lv_at hl 0 rfl) ?_
  refine j_iconst hx hb dL_law_347 ?_
  refine j_iadd hx hb dL_law_348 ?_
  refine j_sld (k := 4 * t + 2) hx hb hX hbl hS ((wr_id (by omega) (by omega)).trans (by omega)) (by omega) dL_law_349 ?_
  refine jc_VI (As := [jI (xs (4 * t + 1)).toInt, jI (xs (4 * t + 2)).toInt]) (rest := []) ⟨hx, hb, hml, hown, hts⟩ hK hP hS (m_X8_row l D s.heap.size cs N e1) (cwV 2 hts gL_law_X8_row rfl rfl rfl (by decide +kernel) ⟨Nat.le_of_ble_eq_true rfl, Nat.le_of_ble_eq_true rfl⟩) kz_0 (by decide) rfl rfl hl.1 rfl (Nat.le_of_ble_eq_true rfl) dL_law_350 ⟨Nat.le_refl _, Nat.le_refl _⟩ (fun H locs hP hS => ?_)
  refine j_aload_n hx hb dL_law_353 rfl (lv_at hl 1 rfl) ?_
  refine lv_aload_n hx hb dL_law_354 rfl (lv_at hl 3 rfl) ?_
  refine j_iload_n hx hb dL_law_355 rfl (lv_at hl 0 rfl) ?_
  refine j_iconst hx hb dL_law_356 ?_
  refine j_iadd hx hb dL_law_357 ?_
  refine j_sld (k := 4 * t + 1) hx hb hX hbl hS ((wr_id (by omega) (by omega)).trans (by omega)) (by omega) dL_law_358 ?_
  refine lv_aload_n hx hb dL_law_359 rfl (lv_at hl 3 rfl) ?_
  refine j_iload_n hx hb dL_law_360 rfl (lv_at hl 0 rfl) ?_
  refine j_iconst hx hb dL_law_361 ?_
  refine j_iadd hx hb dL_law_362 ?_
  refine j_sld (k := 4 * t + 2) hx hb hX hbl hS ((wr_id (by omega) (by omega)).trans (by omega)) (by omega) dL_law_363 ?_
  refine jc_VI (As := [jI (xs (4 * t + 1)).toInt, jI (xs (4 * t + 2)).toInt]) (rest := [jI r]) ⟨hx, hb, hml, hown, hts⟩ hK hP hS (m_X9_row l D s.heap.size cs N e2) (cwV 2 hts gL_law_X9_row rfl rfl rfl (by decide +kernel) ⟨Nat.le_of_ble_eq_true rfl, Nat.le_of_ble_eq_true rfl⟩) kz_332 (by decide) rfl rfl hl.1 rfl (Nat.le_of_ble_eq_true rfl) dL_law_364 ⟨Nat.le_refl _, Nat.le_refl _⟩ (fun H locs hP hS => ?_)
  refine j_icmp_eq (A := wr r) (B := wr r2) (tgt := 1103) hx hb rfl rfl dL_law_367 (by decide) (fun q => ?_) (fun q => absurd hw q)
  exact nx _ _ _ _ hI2 hP hS hl
def ok_pick (N : Nat) (I : Mm → Prop) : Prop := ∀ (μ : Mm) (y1 y2 : Int), (-2147483648 ≤ y1 ∧ y1 < 2147483648) → (-2147483648 ≤ y2 ∧ y2 < 2147483648) → I μ → ∃ (r r2 : Int) (μ1 : Mm) (μ2 : Mm), fX8_pick N y1 y2 μ = some (r, μ1) ∧ fX9_pick N y1 y2 μ1 = some (r2, μ2) ∧ wr r = wr r2 ∧ I μ2
set_option maxHeartbeats 4000000 in
set_option maxRecDepth 100000 in
theorem law_pick {p : Program} {l : Launch} {e : Env} {s : State} {m : MethodId} {below : List Frame} {meth : Method} {c : Code} {b0 L : Nat} {xs : Nat → Int32} (C0 : lw_At p s m meth c b0 L xs) {D : va_G} {cs : CS} {N : Nat} {I : Mm → Prop} (ok : ok_pick N I) {t : Nat} (ht : 4 * t + 4 ≤ L) (hL : L ≤ 256) {Q : State → Prop} (hK : va_K D vwCl (tyl cs) s) {μ : Mm} (hI : I μ) {H : Heap} {locs : List Loc} {ls : Array Slot} (hP : va_P D vwCl (wl s.heap.size cs μ) H) (hS : va_S (bA s.heap.size) s.heap H locs) (hl : lv_has ls 4 [(3, jI (4 * (t : Int))), (2, jR s.heap.size 332), (1, jR s.heap.size 0), (0, .ref b0)]) (nx : ∀ (μ : Mm) (H : Heap) (locs : List Loc) (ls : Array Slot), I μ → va_P D vwCl (wl s.heap.size cs μ) H → va_S (bA s.heap.size) s.heap H locs → lv_has ls 4 [(3, jI (4 * (t : Int))), (2, jR s.heap.size 332), (1, jR s.heap.size 0), (0, .ref b0)] → W p l e room_1 s m #[Value.ref b0] below meth c H locs 600000 7302250 Q (F0 m 1103 ls [])) : W p l e room_1 s m #[Value.ref b0] below meth c H locs 600000 7302250 Q (F0 m 372 ls []) := by
  obtain ⟨hx, hb, hr, hml, hown, hts0, hX, hbl, hlocks, hgv⟩ := C0
  have hts : ∀ w ∈ wsL_law, w.before #[Value.ref b0] s = true := fun w h => hts0 w (wsL_law_in w h)
  have hown : s.vm.findClass RL = some m.cls := hown
  obtain ⟨r, r2, μ1, μ2, e1, e2, hw, hI2⟩ := ok μ (xs (4 * t + 1)).toInt (xs (4 * t + 2)).toInt ⟨Int32.le_toInt _, Int32.toInt_lt _⟩ ⟨Int32.le_toInt _, Int32.toInt_lt _⟩ hI
  refine j_aload_n hx hb dL_law_372 rfl (lv_at hl 2 rfl) ?_
  refine lv_aload_n hx hb dL_law_373 rfl (lv_at hl 3 rfl) ?_
  refine j_iload_n hx hb dL_law_374 rfl (lv_at hl 0 rfl) ?_
  refine j_iconst hx hb dL_law_375 ?_
  refine j_iadd hx hb dL_law_376 ?_
  refine j_sld (k := 4 * t + 1) hx hb hX hbl hS ((wr_id (by omega) (by omega)).trans (by omega)) (by omega) dL_law_377 ?_
  refine lv_aload_n hx hb dL_law_378 rfl (lv_at hl 3 rfl) ?_
  refine j_iload_n hx hb dL_law_379 rfl (lv_at hl 0 rfl) ?_
  refine j_iconst hx hb dL_law_380 ?_
  refine j_iadd hx hb dL_law_381 ?_
  refine j_sld (k := 4 * t + 2) hx hb hX hbl hS ((wr_id (by omega) (by omega)).trans (by omega)) (by omega) dL_law_382 ?_
  refine jc_VI (As := [jI (xs (4 * t + 1)).toInt, jI (xs (4 * t + 2)).toInt]) (rest := []) ⟨hx, hb, hml, hown, hts⟩ hK hP hS (m_X8_pick l D s.heap.size cs N e1) (cwV 2 hts gL_law_X8_pick rfl rfl rfl (by decide +kernel) ⟨Nat.le_of_ble_eq_true rfl, Nat.le_of_ble_eq_true rfl⟩) kz_0 (by decide) rfl rfl hl.1 rfl (Nat.le_of_ble_eq_true rfl) dL_law_383 ⟨Nat.le_refl _, Nat.le_refl _⟩ (fun H locs hP hS => ?_)
  refine j_aload_n hx hb dL_law_386 rfl (lv_at hl 1 rfl) ?_
  refine lv_aload_n hx hb dL_law_387 rfl (lv_at hl 3 rfl) ?_
  refine j_iload_n hx hb dL_law_388 rfl (lv_at hl 0 rfl) ?_
  refine j_iconst hx hb dL_law_389 ?_
  refine j_iadd hx hb dL_law_390 ?_
  refine j_sld (k := 4 * t + 1) hx hb hX hbl hS ((wr_id (by omega) (by omega)).trans (by omega)) (by omega) dL_law_391 ?_
  refine lv_aload_n hx hb dL_law_392 rfl (lv_at hl 3 rfl) ?_
  refine j_iload_n hx hb dL_law_393 rfl (lv_at hl 0 rfl) ?_
  refine j_iconst hx hb dL_law_394 ?_
  refine j_iadd hx hb dL_law_395 ?_
  refine j_sld (k := 4 * t + 2) hx hb hX hbl hS ((wr_id (by omega) (by omega)).trans (by omega)) (by omega) dL_law_396 ?_
  refine jc_VI (As := [jI (xs (4 * t + 1)).toInt, jI (xs (4 * t + 2)).toInt]) (rest := [jI r]) ⟨hx, hb, hml, hown, hts⟩ hK hP hS (m_X9_pick l D s.heap.size cs N e2) (cwV 2 hts gL_law_X9_pick rfl rfl rfl (by decide +kernel) ⟨Nat.le_of_ble_eq_true rfl, Nat.le_of_ble_eq_true rfl⟩) kz_332 (by decide) rfl rfl hl.1 rfl (Nat.le_of_ble_eq_true rfl) dL_law_397 ⟨Nat.le_refl _, Nat.le_refl _⟩ (fun H locs hP hS => ?_)
  refine j_icmp_eq (A := wr r) (B := wr r2) (tgt := 1103) hx hb rfl rfl dL_law_400 (by decide) (fun q => ?_) (fun q => absurd hw q)
  exact nx _ _ _ _ hI2 hP hS hl
def ok_flip (N : Nat) (I : Mm → Prop) : Prop := ∀ (μ : Mm) (y1 : Int), (-2147483648 ≤ y1 ∧ y1 < 2147483648) → I μ → ∃ (r r2 : Int) (μ1 : Mm) (μ2 : Mm), fX8_flip N y1 μ = some (r, μ1) ∧ fX9_flip N y1 μ1 = some (r2, μ2) ∧ wr r = wr r2 ∧ I μ2
set_option maxHeartbeats 4000000 in
set_option maxRecDepth 100000 in
theorem law_flip {p : Program} {l : Launch} {e : Env} {s : State} {m : MethodId} {below : List Frame} {meth : Method} {c : Code} {b0 L : Nat} {xs : Nat → Int32} (C0 : lw_At p s m meth c b0 L xs) {D : va_G} {cs : CS} {N : Nat} {I : Mm → Prop} (ok : ok_flip N I) {t : Nat} (ht : 4 * t + 4 ≤ L) (hL : L ≤ 256) {Q : State → Prop} (hK : va_K D vwCl (tyl cs) s) {μ : Mm} (hI : I μ) {H : Heap} {locs : List Loc} {ls : Array Slot} (hP : va_P D vwCl (wl s.heap.size cs μ) H) (hS : va_S (bA s.heap.size) s.heap H locs) (hl : lv_has ls 4 [(3, jI (4 * (t : Int))), (2, jR s.heap.size 332), (1, jR s.heap.size 0), (0, .ref b0)]) (nx : ∀ (μ : Mm) (H : Heap) (locs : List Loc) (ls : Array Slot), I μ → va_P D vwCl (wl s.heap.size cs μ) H → va_S (bA s.heap.size) s.heap H locs → lv_has ls 4 [(3, jI (4 * (t : Int))), (2, jR s.heap.size 332), (1, jR s.heap.size 0), (0, .ref b0)] → W p l e room_1 s m #[Value.ref b0] below meth c H locs 600000 7302250 Q (F0 m 1103 ls [])) : W p l e room_1 s m #[Value.ref b0] below meth c H locs 600000 7302250 Q (F0 m 405 ls []) := by
  obtain ⟨hx, hb, hr, hml, hown, hts0, hX, hbl, hlocks, hgv⟩ := C0
  have hts : ∀ w ∈ wsL_law, w.before #[Value.ref b0] s = true := fun w h => hts0 w (wsL_law_in w h)
  have hown : s.vm.findClass RL = some m.cls := hown
  obtain ⟨r, r2, μ1, μ2, e1, e2, hw, hI2⟩ := ok μ (xs (4 * t + 1)).toInt ⟨Int32.le_toInt _, Int32.toInt_lt _⟩ hI
  refine j_aload_n hx hb dL_law_405 rfl (lv_at hl 2 rfl) ?_
  refine lv_aload_n hx hb dL_law_406 rfl (lv_at hl 3 rfl) ?_
  refine j_iload_n hx hb dL_law_407 rfl (lv_at hl 0 rfl) ?_
  refine j_iconst hx hb dL_law_408 ?_
  refine j_iadd hx hb dL_law_409 ?_
  refine j_sld (k := 4 * t + 1) hx hb hX hbl hS ((wr_id (by omega) (by omega)).trans (by omega)) (by omega) dL_law_410 ?_
  refine jc_VI (As := [jI (xs (4 * t + 1)).toInt]) (rest := []) ⟨hx, hb, hml, hown, hts⟩ hK hP hS (m_X8_flip l D s.heap.size cs N e1) (cwV 1 hts gL_law_X8_flip rfl rfl rfl (by decide +kernel) ⟨Nat.le_of_ble_eq_true rfl, Nat.le_of_ble_eq_true rfl⟩) kz_0 (by decide) rfl rfl hl.1 rfl (Nat.le_of_ble_eq_true rfl) dL_law_411 ⟨Nat.le_refl _, Nat.le_refl _⟩ (fun H locs hP hS => ?_)
  refine j_aload_n hx hb dL_law_414 rfl (lv_at hl 1 rfl) ?_
  refine lv_aload_n hx hb dL_law_415 rfl (lv_at hl 3 rfl) ?_
  refine j_iload_n hx hb dL_law_416 rfl (lv_at hl 0 rfl) ?_
  refine j_iconst hx hb dL_law_417 ?_
  refine j_iadd hx hb dL_law_418 ?_
  refine j_sld (k := 4 * t + 1) hx hb hX hbl hS ((wr_id (by omega) (by omega)).trans (by omega)) (by omega) dL_law_419 ?_
  refine jc_VI (As := [jI (xs (4 * t + 1)).toInt]) (rest := [jI r]) ⟨hx, hb, hml, hown, hts⟩ hK hP hS (m_X9_flip l D s.heap.size cs N e2) (cwV 1 hts gL_law_X9_flip rfl rfl rfl (by decide +kernel) ⟨Nat.le_of_ble_eq_true rfl, Nat.le_of_ble_eq_true rfl⟩) kz_332 (by decide) rfl rfl hl.1 rfl (Nat.le_of_ble_eq_true rfl) dL_law_420 ⟨Nat.le_refl _, Nat.le_refl _⟩ (fun H locs hP hS => ?_)
  refine j_icmp_eq (A := wr r) (B := wr r2) (tgt := 1103) hx hb rfl rfl dL_law_423 (by decide) (fun q => ?_) (fun q => absurd hw q)
  exact nx _ _ _ _ hI2 hP hS hl
def ok_shift (N : Nat) (I : Mm → Prop) : Prop := ∀ (μ : Mm) (y1 y2 : Int), (-2147483648 ≤ y1 ∧ y1 < 2147483648) → (-2147483648 ≤ y2 ∧ y2 < 2147483648) → I μ → ∃ (r r2 : Int) (μ1 : Mm) (μ2 : Mm), fX8_shift N y1 y2 μ = some (r, μ1) ∧ fX9_shift N y1 y2 μ1 = some (r2, μ2) ∧ wr r = wr r2 ∧ I μ2
set_option maxHeartbeats 4000000 in
set_option maxRecDepth 100000 in
theorem law_shift {p : Program} {l : Launch} {e : Env} {s : State} {m : MethodId} {below : List Frame} {meth : Method} {c : Code} {b0 L : Nat} {xs : Nat → Int32} (C0 : lw_At p s m meth c b0 L xs) {D : va_G} {cs : CS} {N : Nat} {I : Mm → Prop} (ok : ok_shift N I) {t : Nat} (ht : 4 * t + 4 ≤ L) (hL : L ≤ 256) {Q : State → Prop} (hK : va_K D vwCl (tyl cs) s) {μ : Mm} (hI : I μ) {H : Heap} {locs : List Loc} {ls : Array Slot} (hP : va_P D vwCl (wl s.heap.size cs μ) H) (hS : va_S (bA s.heap.size) s.heap H locs) (hl : lv_has ls 4 [(3, jI (4 * (t : Int))), (2, jR s.heap.size 332), (1, jR s.heap.size 0), (0, .ref b0)]) (nx : ∀ (μ : Mm) (H : Heap) (locs : List Loc) (ls : Array Slot), I μ → va_P D vwCl (wl s.heap.size cs μ) H → va_S (bA s.heap.size) s.heap H locs → lv_has ls 4 [(3, jI (4 * (t : Int))), (2, jR s.heap.size 332), (1, jR s.heap.size 0), (0, .ref b0)] → W p l e room_1 s m #[Value.ref b0] below meth c H locs 600000 7302250 Q (F0 m 1103 ls [])) : W p l e room_1 s m #[Value.ref b0] below meth c H locs 600000 7302250 Q (F0 m 428 ls []) := by
  obtain ⟨hx, hb, hr, hml, hown, hts0, hX, hbl, hlocks, hgv⟩ := C0
  have hts : ∀ w ∈ wsL_law, w.before #[Value.ref b0] s = true := fun w h => hts0 w (wsL_law_in w h)
  have hown : s.vm.findClass RL = some m.cls := hown
  obtain ⟨r, r2, μ1, μ2, e1, e2, hw, hI2⟩ := ok μ (xs (4 * t + 1)).toInt (xs (4 * t + 2)).toInt ⟨Int32.le_toInt _, Int32.toInt_lt _⟩ ⟨Int32.le_toInt _, Int32.toInt_lt _⟩ hI
  refine j_aload_n hx hb dL_law_428 rfl (lv_at hl 2 rfl) ?_
  refine lv_aload_n hx hb dL_law_429 rfl (lv_at hl 3 rfl) ?_
  refine j_iload_n hx hb dL_law_430 rfl (lv_at hl 0 rfl) ?_
  refine j_iconst hx hb dL_law_431 ?_
  refine j_iadd hx hb dL_law_432 ?_
  refine j_sld (k := 4 * t + 1) hx hb hX hbl hS ((wr_id (by omega) (by omega)).trans (by omega)) (by omega) dL_law_433 ?_
  refine lv_aload_n hx hb dL_law_434 rfl (lv_at hl 3 rfl) ?_
  refine j_iload_n hx hb dL_law_435 rfl (lv_at hl 0 rfl) ?_
  refine j_iconst hx hb dL_law_436 ?_
  refine j_iadd hx hb dL_law_437 ?_
  refine j_sld (k := 4 * t + 2) hx hb hX hbl hS ((wr_id (by omega) (by omega)).trans (by omega)) (by omega) dL_law_438 ?_
  refine jc_VI (As := [jI (xs (4 * t + 1)).toInt, jI (xs (4 * t + 2)).toInt]) (rest := []) ⟨hx, hb, hml, hown, hts⟩ hK hP hS (m_X8_shift l D s.heap.size cs N e1) (cwV 2 hts gL_law_X8_shift rfl rfl rfl (by decide +kernel) ⟨Nat.le_of_ble_eq_true rfl, Nat.le_of_ble_eq_true rfl⟩) kz_0 (by decide) rfl rfl hl.1 rfl (Nat.le_of_ble_eq_true rfl) dL_law_439 ⟨Nat.le_refl _, Nat.le_refl _⟩ (fun H locs hP hS => ?_)
  refine j_aload_n hx hb dL_law_442 rfl (lv_at hl 1 rfl) ?_
  refine lv_aload_n hx hb dL_law_443 rfl (lv_at hl 3 rfl) ?_
  refine j_iload_n hx hb dL_law_444 rfl (lv_at hl 0 rfl) ?_
  refine j_iconst hx hb dL_law_445 ?_
  refine j_iadd hx hb dL_law_446 ?_
  refine j_sld (k := 4 * t + 1) hx hb hX hbl hS ((wr_id (by omega) (by omega)).trans (by omega)) (by omega) dL_law_447 ?_
  refine lv_aload_n hx hb dL_law_448 rfl (lv_at hl 3 rfl) ?_
  refine j_iload_n hx hb dL_law_449 rfl (lv_at hl 0 rfl) ?_
  refine j_iconst hx hb dL_law_450 ?_
  refine j_iadd hx hb dL_law_451 ?_
  refine j_sld (k := 4 * t + 2) hx hb hX hbl hS ((wr_id (by omega) (by omega)).trans (by omega)) (by omega) dL_law_452 ?_
  refine jc_VI (As := [jI (xs (4 * t + 1)).toInt, jI (xs (4 * t + 2)).toInt]) (rest := [jI r]) ⟨hx, hb, hml, hown, hts⟩ hK hP hS (m_X9_shift l D s.heap.size cs N e2) (cwV 2 hts gL_law_X9_shift rfl rfl rfl (by decide +kernel) ⟨Nat.le_of_ble_eq_true rfl, Nat.le_of_ble_eq_true rfl⟩) kz_332 (by decide) rfl rfl hl.1 rfl (Nat.le_of_ble_eq_true rfl) dL_law_453 ⟨Nat.le_refl _, Nat.le_refl _⟩ (fun H locs hP hS => ?_)
  refine j_icmp_eq (A := wr r) (B := wr r2) (tgt := 1103) hx hb rfl rfl dL_law_456 (by decide) (fun q => ?_) (fun q => absurd hw q)
  exact nx _ _ _ _ hI2 hP hS hl
def ok_buy (N : Nat) (I : Mm → Prop) : Prop := ∀ (μ : Mm) (y1 y2 : Int), (-2147483648 ≤ y1 ∧ y1 < 2147483648) → (-2147483648 ≤ y2 ∧ y2 < 2147483648) → I μ → ∃ (r r2 : Int) (μ1 : Mm) (μ2 : Mm), fX8_buy N y1 y2 μ = some (r, μ1) ∧ fX9_buy N y1 y2 μ1 = some (r2, μ2) ∧ wr r = wr r2 ∧ I μ2
set_option maxHeartbeats 4000000 in
set_option maxRecDepth 100000 in
theorem law_buy {p : Program} {l : Launch} {e : Env} {s : State} {m : MethodId} {below : List Frame} {meth : Method} {c : Code} {b0 L : Nat} {xs : Nat → Int32} (C0 : lw_At p s m meth c b0 L xs) {D : va_G} {cs : CS} {N : Nat} {I : Mm → Prop} (ok : ok_buy N I) {t : Nat} (ht : 4 * t + 4 ≤ L) (hL : L ≤ 256) {Q : State → Prop} (hK : va_K D vwCl (tyl cs) s) {μ : Mm} (hI : I μ) {H : Heap} {locs : List Loc} {ls : Array Slot} (hP : va_P D vwCl (wl s.heap.size cs μ) H) (hS : va_S (bA s.heap.size) s.heap H locs) (hl : lv_has ls 4 [(3, jI (4 * (t : Int))), (2, jR s.heap.size 332), (1, jR s.heap.size 0), (0, .ref b0)]) (nx : ∀ (μ : Mm) (H : Heap) (locs : List Loc) (ls : Array Slot), I μ → va_P D vwCl (wl s.heap.size cs μ) H → va_S (bA s.heap.size) s.heap H locs → lv_has ls 4 [(3, jI (4 * (t : Int))), (2, jR s.heap.size 332), (1, jR s.heap.size 0), (0, .ref b0)] → W p l e room_1 s m #[Value.ref b0] below meth c H locs 600000 7302250 Q (F0 m 1103 ls [])) : W p l e room_1 s m #[Value.ref b0] below meth c H locs 600000 7302250 Q (F0 m 461 ls []) := by
  obtain ⟨hx, hb, hr, hml, hown, hts0, hX, hbl, hlocks, hgv⟩ := C0
  have hts : ∀ w ∈ wsL_law, w.before #[Value.ref b0] s = true := fun w h => hts0 w (wsL_law_in w h)
  have hown : s.vm.findClass RL = some m.cls := hown
  obtain ⟨r, r2, μ1, μ2, e1, e2, hw, hI2⟩ := ok μ (xs (4 * t + 1)).toInt (xs (4 * t + 2)).toInt ⟨Int32.le_toInt _, Int32.toInt_lt _⟩ ⟨Int32.le_toInt _, Int32.toInt_lt _⟩ hI
  refine j_aload_n hx hb dL_law_461 rfl (lv_at hl 2 rfl) ?_
  refine lv_aload_n hx hb dL_law_462 rfl (lv_at hl 3 rfl) ?_
  refine j_iload_n hx hb dL_law_463 rfl (lv_at hl 0 rfl) ?_
  refine j_iconst hx hb dL_law_464 ?_
  refine j_iadd hx hb dL_law_465 ?_
  refine j_sld (k := 4 * t + 1) hx hb hX hbl hS ((wr_id (by omega) (by omega)).trans (by omega)) (by omega) dL_law_466 ?_
  refine lv_aload_n hx hb dL_law_467 rfl (lv_at hl 3 rfl) ?_
  refine j_iload_n hx hb dL_law_468 rfl (lv_at hl 0 rfl) ?_
  refine j_iconst hx hb dL_law_469 ?_
  refine j_iadd hx hb dL_law_470 ?_
  refine j_sld (k := 4 * t + 2) hx hb hX hbl hS ((wr_id (by omega) (by omega)).trans (by omega)) (by omega) dL_law_471 ?_
  refine jc_VI (As := [jI (xs (4 * t + 1)).toInt, jI (xs (4 * t + 2)).toInt]) (rest := []) ⟨hx, hb, hml, hown, hts⟩ hK hP hS (m_X8_buy l D s.heap.size cs N e1) (cwV 2 hts gL_law_X8_buy rfl rfl rfl (by decide +kernel) ⟨Nat.le_of_ble_eq_true rfl, Nat.le_of_ble_eq_true rfl⟩) kz_0 (by decide) rfl rfl hl.1 rfl (Nat.le_of_ble_eq_true rfl) dL_law_472 ⟨Nat.le_refl _, Nat.le_refl _⟩ (fun H locs hP hS => ?_)
  refine j_aload_n hx hb dL_law_475 rfl (lv_at hl 1 rfl) ?_
  refine lv_aload_n hx hb dL_law_476 rfl (lv_at hl 3 rfl) ?_
  refine j_iload_n hx hb dL_law_477 rfl (lv_at hl 0 rfl) ?_
  refine j_iconst hx hb dL_law_478 ?_
  refine j_iadd hx hb dL_law_479 ?_
  refine j_sld (k := 4 * t + 1) hx hb hX hbl hS ((wr_id (by omega) (by omega)).trans (by omega)) (by omega) dL_law_480 ?_
  refine lv_aload_n hx hb dL_law_481 rfl (lv_at hl 3 rfl) ?_
  refine j_iload_n hx hb dL_law_482 rfl (lv_at hl 0 rfl) ?_
  refine j_iconst hx hb dL_law_483 ?_
  refine j_iadd hx hb dL_law_484 ?_
  refine j_sld (k := 4 * t + 2) hx hb hX hbl hS ((wr_id (by omega) (by omega)).trans (by omega)) (by omega) dL_law_485 ?_
  refine jc_VI (As := [jI (xs (4 * t + 1)).toInt, jI (xs (4 * t + 2)).toInt]) (rest := [jI r]) ⟨hx, hb, hml, hown, hts⟩ hK hP hS (m_X9_buy l D s.heap.size cs N e2) (cwV 2 hts gL_law_X9_buy rfl rfl rfl (by decide +kernel) ⟨Nat.le_of_ble_eq_true rfl, Nat.le_of_ble_eq_true rfl⟩) kz_332 (by decide) rfl rfl hl.1 rfl (Nat.le_of_ble_eq_true rfl) dL_law_486 ⟨Nat.le_refl _, Nat.le_refl _⟩ (fun H locs hP hS => ?_)
  refine j_icmp_eq (A := wr r) (B := wr r2) (tgt := 1103) hx hb rfl rfl dL_law_489 (by decide) (fun q => ?_) (fun q => absurd hw q)
  exact nx _ _ _ _ hI2 hP hS hl
def ok_drift (N : Nat) (I : Mm → Prop) : Prop := ∀ (μ : Mm) (y1 : Int), (-2147483648 ≤ y1 ∧ y1 < 2147483648) → I μ → ∃ (r r2 : Int) (μ1 : Mm) (μ2 : Mm), fX8_drift N y1 μ = some (r, μ1) ∧ fX9_drift N y1 μ1 = some (r2, μ2) ∧ wr r = wr r2 ∧ I μ2
set_option maxHeartbeats 4000000 in
set_option maxRecDepth 100000 in
theorem law_drift {p : Program} {l : Launch} {e : Env} {s : State} {m : MethodId} {below : List Frame} {meth : Method} {c : Code} {b0 L : Nat} {xs : Nat → Int32} (C0 : lw_At p s m meth c b0 L xs) {D : va_G} {cs : CS} {N : Nat} {I : Mm → Prop} (ok : ok_drift N I) {t : Nat} (ht : 4 * t + 4 ≤ L) (hL : L ≤ 256) {Q : State → Prop} (hK : va_K D vwCl (tyl cs) s) {μ : Mm} (hI : I μ) {H : Heap} {locs : List Loc} {ls : Array Slot} (hP : va_P D vwCl (wl s.heap.size cs μ) H) (hS : va_S (bA s.heap.size) s.heap H locs) (hl : lv_has ls 4 [(3, jI (4 * (t : Int))), (2, jR s.heap.size 332), (1, jR s.heap.size 0), (0, .ref b0)]) (nx : ∀ (μ : Mm) (H : Heap) (locs : List Loc) (ls : Array Slot), I μ → va_P D vwCl (wl s.heap.size cs μ) H → va_S (bA s.heap.size) s.heap H locs → lv_has ls 4 [(3, jI (4 * (t : Int))), (2, jR s.heap.size 332), (1, jR s.heap.size 0), (0, .ref b0)] → W p l e room_1 s m #[Value.ref b0] below meth c H locs 600000 7302250 Q (F0 m 1103 ls [])) : W p l e room_1 s m #[Value.ref b0] below meth c H locs 600000 7302250 Q (F0 m 494 ls []) := by
  obtain ⟨hx, hb, hr, hml, hown, hts0, hX, hbl, hlocks, hgv⟩ := C0
  have hts : ∀ w ∈ wsL_law, w.before #[Value.ref b0] s = true := fun w h => hts0 w (wsL_law_in w h)
  have hown : s.vm.findClass RL = some m.cls := hown
  obtain ⟨r, r2, μ1, μ2, e1, e2, hw, hI2⟩ := ok μ (xs (4 * t + 1)).toInt ⟨Int32.le_toInt _, Int32.toInt_lt _⟩ hI
  refine j_aload_n hx hb dL_law_494 rfl (lv_at hl 2 rfl) ?_
  refine lv_aload_n hx hb dL_law_495 rfl (lv_at hl 3 rfl) ?_
  refine j_iload_n hx hb dL_law_496 rfl (lv_at hl 0 rfl) ?_
  refine j_iconst hx hb dL_law_497 ?_
  refine j_iadd hx hb dL_law_498 ?_
  refine j_sld (k := 4 * t + 1) hx hb hX hbl hS ((wr_id (by omega) (by omega)).trans (by omega)) (by omega) dL_law_499 ?_
  refine jc_VI (As := [jI (xs (4 * t + 1)).toInt]) (rest := []) ⟨hx, hb, hml, hown, hts⟩ hK hP hS (m_X8_drift l D s.heap.size cs N e1) (cwV 1 hts gL_law_X8_drift rfl rfl rfl (by decide +kernel) ⟨Nat.le_of_ble_eq_true rfl, Nat.le_of_ble_eq_true rfl⟩) kz_0 (by decide) rfl rfl hl.1 rfl (Nat.le_of_ble_eq_true rfl) dL_law_500 ⟨Nat.le_refl _, Nat.le_refl _⟩ (fun H locs hP hS => ?_)
  refine j_aload_n hx hb dL_law_503 rfl (lv_at hl 1 rfl) ?_
  refine lv_aload_n hx hb dL_law_504 rfl (lv_at hl 3 rfl) ?_
  refine j_iload_n hx hb dL_law_505 rfl (lv_at hl 0 rfl) ?_
  refine j_iconst hx hb dL_law_506 ?_
  refine j_iadd hx hb dL_law_507 ?_
  refine j_sld (k := 4 * t + 1) hx hb hX hbl hS ((wr_id (by omega) (by omega)).trans (by omega)) (by omega) dL_law_508 ?_
  refine jc_VI (As := [jI (xs (4 * t + 1)).toInt]) (rest := [jI r]) ⟨hx, hb, hml, hown, hts⟩ hK hP hS (m_X9_drift l D s.heap.size cs N e2) (cwV 1 hts gL_law_X9_drift rfl rfl rfl (by decide +kernel) ⟨Nat.le_of_ble_eq_true rfl, Nat.le_of_ble_eq_true rfl⟩) kz_332 (by decide) rfl rfl hl.1 rfl (Nat.le_of_ble_eq_true rfl) dL_law_509 ⟨Nat.le_refl _, Nat.le_refl _⟩ (fun H locs hP hS => ?_)
  refine j_icmp_eq (A := wr r) (B := wr r2) (tgt := 1103) hx hb rfl rfl dL_law_512 (by decide) (fun q => ?_) (fun q => absurd hw q)
  exact nx _ _ _ _ hI2 hP hS hl
def ok_undo (N : Nat) (I : Mm → Prop) : Prop := ∀ (μ : Mm) (y1 : Int), (-2147483648 ≤ y1 ∧ y1 < 2147483648) → I μ → ∃ (r r2 : Int) (μ1 : Mm) (μ2 : Mm), fX8_undo N y1 μ = some (r, μ1) ∧ fX9_undo N y1 μ1 = some (r2, μ2) ∧ wr r = wr r2 ∧ I μ2
set_option maxHeartbeats 4000000 in
set_option maxRecDepth 100000 in
theorem law_undo {p : Program} {l : Launch} {e : Env} {s : State} {m : MethodId} {below : List Frame} {meth : Method} {c : Code} {b0 L : Nat} {xs : Nat → Int32} (C0 : lw_At p s m meth c b0 L xs) {D : va_G} {cs : CS} {N : Nat} {I : Mm → Prop} (ok : ok_undo N I) {t : Nat} (ht : 4 * t + 4 ≤ L) (hL : L ≤ 256) {Q : State → Prop} (hK : va_K D vwCl (tyl cs) s) {μ : Mm} (hI : I μ) {H : Heap} {locs : List Loc} {ls : Array Slot} (hP : va_P D vwCl (wl s.heap.size cs μ) H) (hS : va_S (bA s.heap.size) s.heap H locs) (hl : lv_has ls 4 [(3, jI (4 * (t : Int))), (2, jR s.heap.size 332), (1, jR s.heap.size 0), (0, .ref b0)]) (nx : ∀ (μ : Mm) (H : Heap) (locs : List Loc) (ls : Array Slot), I μ → va_P D vwCl (wl s.heap.size cs μ) H → va_S (bA s.heap.size) s.heap H locs → lv_has ls 4 [(3, jI (4 * (t : Int))), (2, jR s.heap.size 332), (1, jR s.heap.size 0), (0, .ref b0)] → W p l e room_1 s m #[Value.ref b0] below meth c H locs 600000 7302250 Q (F0 m 1103 ls [])) : W p l e room_1 s m #[Value.ref b0] below meth c H locs 600000 7302250 Q (F0 m 517 ls []) := by
  obtain ⟨hx, hb, hr, hml, hown, hts0, hX, hbl, hlocks, hgv⟩ := C0
  have hts : ∀ w ∈ wsL_law, w.before #[Value.ref b0] s = true := fun w h => hts0 w (wsL_law_in w h)
  have hown : s.vm.findClass RL = some m.cls := hown
  obtain ⟨r, r2, μ1, μ2, e1, e2, hw, hI2⟩ := ok μ (xs (4 * t + 1)).toInt ⟨Int32.le_toInt _, Int32.toInt_lt _⟩ hI
  refine j_aload_n hx hb dL_law_517 rfl (lv_at hl 2 rfl) ?_
  refine lv_aload_n hx hb dL_law_518 rfl (lv_at hl 3 rfl) ?_
  refine j_iload_n hx hb dL_law_519 rfl (lv_at hl 0 rfl) ?_
  refine j_iconst hx hb dL_law_520 ?_
  refine j_iadd hx hb dL_law_521 ?_
  refine j_sld (k := 4 * t + 1) hx hb hX hbl hS ((wr_id (by omega) (by omega)).trans (by omega)) (by omega) dL_law_522 ?_
  refine jc_VI (As := [jI (xs (4 * t + 1)).toInt]) (rest := []) ⟨hx, hb, hml, hown, hts⟩ hK hP hS (m_X8_undo l D s.heap.size cs N e1) (cwV 1 hts gL_law_X8_undo rfl rfl rfl (by decide +kernel) ⟨Nat.le_of_ble_eq_true rfl, Nat.le_of_ble_eq_true rfl⟩) kz_0 (by decide) rfl rfl hl.1 rfl (Nat.le_of_ble_eq_true rfl) dL_law_523 ⟨Nat.le_refl _, Nat.le_refl _⟩ (fun H locs hP hS => ?_)
  refine j_aload_n hx hb dL_law_526 rfl (lv_at hl 1 rfl) ?_
  refine lv_aload_n hx hb dL_law_527 rfl (lv_at hl 3 rfl) ?_
  refine j_iload_n hx hb dL_law_528 rfl (lv_at hl 0 rfl) ?_
  refine j_iconst hx hb dL_law_529 ?_
  refine j_iadd hx hb dL_law_530 ?_
  refine j_sld (k := 4 * t + 1) hx hb hX hbl hS ((wr_id (by omega) (by omega)).trans (by omega)) (by omega) dL_law_531 ?_
  refine jc_VI (As := [jI (xs (4 * t + 1)).toInt]) (rest := [jI r]) ⟨hx, hb, hml, hown, hts⟩ hK hP hS (m_X9_undo l D s.heap.size cs N e2) (cwV 1 hts gL_law_X9_undo rfl rfl rfl (by decide +kernel) ⟨Nat.le_of_ble_eq_true rfl, Nat.le_of_ble_eq_true rfl⟩) kz_332 (by decide) rfl rfl hl.1 rfl (Nat.le_of_ble_eq_true rfl) dL_law_532 ⟨Nat.le_refl _, Nat.le_refl _⟩ (fun H locs hP hS => ?_)
  refine j_icmp_eq (A := wr r) (B := wr r2) (tgt := 1103) hx hb rfl rfl dL_law_535 (by decide) (fun q => ?_) (fun q => absurd hw q)
  exact nx _ _ _ _ hI2 hP hS hl
def ok_ahead (N : Nat) (I : Mm → Prop) : Prop := ∀ (μ : Mm) (y1 y2 y3 : Int), (-2147483648 ≤ y1 ∧ y1 < 2147483648) → (-2147483648 ≤ y2 ∧ y2 < 2147483648) → (-2147483648 ≤ y3 ∧ y3 < 2147483648) → I μ → ∃ (r r2 : Int), fX8_ahead N y1 y2 y3 μ = some r ∧ fX9_ahead N y1 y2 y3 μ = some r2 ∧ wr r = wr r2 ∧ I μ
set_option maxHeartbeats 4000000 in
set_option maxRecDepth 100000 in
theorem law_ahead {p : Program} {l : Launch} {e : Env} {s : State} {m : MethodId} {below : List Frame} {meth : Method} {c : Code} {b0 L : Nat} {xs : Nat → Int32} (C0 : lw_At p s m meth c b0 L xs) {D : va_G} {cs : CS} {N : Nat} {I : Mm → Prop} (ok : ok_ahead N I) {t : Nat} (ht : 4 * t + 4 ≤ L) (hL : L ≤ 256) {Q : State → Prop} (hK : va_K D vwCl (tyl cs) s) {μ : Mm} (hI : I μ) {H : Heap} {locs : List Loc} {ls : Array Slot} (hP : va_P D vwCl (wl s.heap.size cs μ) H) (hS : va_S (bA s.heap.size) s.heap H locs) (hl : lv_has ls 4 [(3, jI (4 * (t : Int))), (2, jR s.heap.size 332), (1, jR s.heap.size 0), (0, .ref b0)]) (nx : ∀ (μ : Mm) (H : Heap) (locs : List Loc) (ls : Array Slot), I μ → va_P D vwCl (wl s.heap.size cs μ) H → va_S (bA s.heap.size) s.heap H locs → lv_has ls 4 [(3, jI (4 * (t : Int))), (2, jR s.heap.size 332), (1, jR s.heap.size 0), (0, .ref b0)] → W p l e room_1 s m #[Value.ref b0] below meth c H locs 600000 7302250 Q (F0 m 1103 ls [])) : W p l e room_1 s m #[Value.ref b0] below meth c H locs 600000 7302250 Q (F0 m 540 ls []) := by
  obtain ⟨hx, hb, hr, hml, hown, hts0, hX, hbl, hlocks, hgv⟩ := C0
  have hts : ∀ w ∈ wsL_law, w.before #[Value.ref b0] s = true := fun w h => hts0 w (wsL_law_in w h)
  have hown : s.vm.findClass RL = some m.cls := hown
  obtain ⟨r, r2, e1, e2, hw, hI2⟩ := ok μ (xs (4 * t + 1)).toInt (xs (4 * t + 2)).toInt (xs (4 * t + 3)).toInt ⟨Int32.le_toInt _, Int32.toInt_lt _⟩ ⟨Int32.le_toInt _, Int32.toInt_lt _⟩ ⟨Int32.le_toInt _, Int32.toInt_lt _⟩ hI
  refine j_aload_n hx hb dL_law_540 rfl (lv_at hl 2 rfl) ?_
  refine lv_aload_n hx hb dL_law_541 rfl (lv_at hl 3 rfl) ?_
  refine j_iload_n hx hb dL_law_542 rfl (lv_at hl 0 rfl) ?_
  refine j_iconst hx hb dL_law_543 ?_
  refine j_iadd hx hb dL_law_544 ?_
  refine j_sld (k := 4 * t + 1) hx hb hX hbl hS ((wr_id (by omega) (by omega)).trans (by omega)) (by omega) dL_law_545 ?_
  refine lv_aload_n hx hb dL_law_546 rfl (lv_at hl 3 rfl) ?_
  refine j_iload_n hx hb dL_law_547 rfl (lv_at hl 0 rfl) ?_
  refine j_iconst hx hb dL_law_548 ?_
  refine j_iadd hx hb dL_law_549 ?_
  refine j_sld (k := 4 * t + 2) hx hb hX hbl hS ((wr_id (by omega) (by omega)).trans (by omega)) (by omega) dL_law_550 ?_
  refine lv_aload_n hx hb dL_law_551 rfl (lv_at hl 3 rfl) ?_
  refine j_iload_n hx hb dL_law_552 rfl (lv_at hl 0 rfl) ?_
  refine j_iconst hx hb dL_law_553 ?_
  refine j_iadd hx hb dL_law_554 ?_
  refine j_sld (k := 4 * t + 3) hx hb hX hbl hS ((wr_id (by omega) (by omega)).trans (by omega)) (by omega) dL_law_555 ?_
  refine jc_VI (As := [jI (xs (4 * t + 1)).toInt, jI (xs (4 * t + 2)).toInt, jI (xs (4 * t + 3)).toInt]) (rest := []) ⟨hx, hb, hml, hown, hts⟩ hK hP hS (m_X8_ahead l D s.heap.size cs N e1) (cwV 3 hts gL_law_X8_ahead rfl rfl rfl (by decide +kernel) ⟨Nat.le_of_ble_eq_true rfl, Nat.le_of_ble_eq_true rfl⟩) kz_0 (by decide) rfl rfl hl.1 rfl (Nat.le_of_ble_eq_true rfl) dL_law_556 ⟨Nat.le_refl _, Nat.le_refl _⟩ (fun H locs hP hS => ?_)
  refine j_aload_n hx hb dL_law_559 rfl (lv_at hl 1 rfl) ?_
  refine lv_aload_n hx hb dL_law_560 rfl (lv_at hl 3 rfl) ?_
  refine j_iload_n hx hb dL_law_561 rfl (lv_at hl 0 rfl) ?_
  refine j_iconst hx hb dL_law_562 ?_
  refine j_iadd hx hb dL_law_563 ?_
  refine j_sld (k := 4 * t + 1) hx hb hX hbl hS ((wr_id (by omega) (by omega)).trans (by omega)) (by omega) dL_law_564 ?_
  refine lv_aload_n hx hb dL_law_565 rfl (lv_at hl 3 rfl) ?_
  refine j_iload_n hx hb dL_law_566 rfl (lv_at hl 0 rfl) ?_
  refine j_iconst hx hb dL_law_567 ?_
  refine j_iadd hx hb dL_law_568 ?_
  refine j_sld (k := 4 * t + 2) hx hb hX hbl hS ((wr_id (by omega) (by omega)).trans (by omega)) (by omega) dL_law_569 ?_
  refine lv_aload_n hx hb dL_law_570 rfl (lv_at hl 3 rfl) ?_
  refine j_iload_n hx hb dL_law_571 rfl (lv_at hl 0 rfl) ?_
  refine j_iconst hx hb dL_law_572 ?_
  refine j_iadd hx hb dL_law_573 ?_
  refine j_sld (k := 4 * t + 3) hx hb hX hbl hS ((wr_id (by omega) (by omega)).trans (by omega)) (by omega) dL_law_574 ?_
  refine jc_VI (As := [jI (xs (4 * t + 1)).toInt, jI (xs (4 * t + 2)).toInt, jI (xs (4 * t + 3)).toInt]) (rest := [jI r]) ⟨hx, hb, hml, hown, hts⟩ hK hP hS (m_X9_ahead l D s.heap.size cs N e2) (cwV 3 hts gL_law_X9_ahead rfl rfl rfl (by decide +kernel) ⟨Nat.le_of_ble_eq_true rfl, Nat.le_of_ble_eq_true rfl⟩) kz_332 (by decide) rfl rfl hl.1 rfl (Nat.le_of_ble_eq_true rfl) dL_law_575 ⟨Nat.le_refl _, Nat.le_refl _⟩ (fun H locs hP hS => ?_)
  refine j_icmp_eq (A := wr r) (B := wr r2) (tgt := 1103) hx hb rfl rfl dL_law_578 (by decide) (fun q => ?_) (fun q => absurd hw q)
  exact nx _ _ _ _ hI2 hP hS hl
def ok_lasts (N : Nat) (I : Mm → Prop) : Prop := ∀ (μ : Mm) (y1 y2 : Int), (-2147483648 ≤ y1 ∧ y1 < 2147483648) → (-2147483648 ≤ y2 ∧ y2 < 2147483648) → I μ → ∃ (r r2 : Int) (μ1 : Mm) (μ2 : Mm), fX8_lasts N y1 y2 μ = some (r, μ1) ∧ fX9_lasts N y1 y2 μ1 = some (r2, μ2) ∧ wr r = wr r2 ∧ I μ2
set_option maxHeartbeats 4000000 in
set_option maxRecDepth 100000 in
theorem law_lasts {p : Program} {l : Launch} {e : Env} {s : State} {m : MethodId} {below : List Frame} {meth : Method} {c : Code} {b0 L : Nat} {xs : Nat → Int32} (C0 : lw_At p s m meth c b0 L xs) {D : va_G} {cs : CS} {N : Nat} {I : Mm → Prop} (ok : ok_lasts N I) {t : Nat} (ht : 4 * t + 4 ≤ L) (hL : L ≤ 256) {Q : State → Prop} (hK : va_K D vwCl (tyl cs) s) {μ : Mm} (hI : I μ) {H : Heap} {locs : List Loc} {ls : Array Slot} (hP : va_P D vwCl (wl s.heap.size cs μ) H) (hS : va_S (bA s.heap.size) s.heap H locs) (hl : lv_has ls 4 [(3, jI (4 * (t : Int))), (2, jR s.heap.size 332), (1, jR s.heap.size 0), (0, .ref b0)]) (nx : ∀ (μ : Mm) (H : Heap) (locs : List Loc) (ls : Array Slot), I μ → va_P D vwCl (wl s.heap.size cs μ) H → va_S (bA s.heap.size) s.heap H locs → lv_has ls 4 [(3, jI (4 * (t : Int))), (2, jR s.heap.size 332), (1, jR s.heap.size 0), (0, .ref b0)] → W p l e room_1 s m #[Value.ref b0] below meth c H locs 600000 7302250 Q (F0 m 1103 ls [])) : W p l e room_1 s m #[Value.ref b0] below meth c H locs 600000 7302250 Q (F0 m 583 ls []) := by
  obtain ⟨hx, hb, hr, hml, hown, hts0, hX, hbl, hlocks, hgv⟩ := C0
  have hts : ∀ w ∈ wsL_law, w.before #[Value.ref b0] s = true := fun w h => hts0 w (wsL_law_in w h)
  have hown : s.vm.findClass RL = some m.cls := hown
  obtain ⟨r, r2, μ1, μ2, e1, e2, hw, hI2⟩ := ok μ (xs (4 * t + 1)).toInt (xs (4 * t + 2)).toInt ⟨Int32.le_toInt _, Int32.toInt_lt _⟩ ⟨Int32.le_toInt _, Int32.toInt_lt _⟩ hI
  refine j_aload_n hx hb dL_law_583 rfl (lv_at hl 2 rfl) ?_
  refine lv_aload_n hx hb dL_law_584 rfl (lv_at hl 3 rfl) ?_
  refine j_iload_n hx hb dL_law_585 rfl (lv_at hl 0 rfl) ?_
  refine j_iconst hx hb dL_law_586 ?_
  refine j_iadd hx hb dL_law_587 ?_
  refine j_sld (k := 4 * t + 1) hx hb hX hbl hS ((wr_id (by omega) (by omega)).trans (by omega)) (by omega) dL_law_588 ?_
  refine lv_aload_n hx hb dL_law_589 rfl (lv_at hl 3 rfl) ?_
  refine j_iload_n hx hb dL_law_590 rfl (lv_at hl 0 rfl) ?_
  refine j_iconst hx hb dL_law_591 ?_
  refine j_iadd hx hb dL_law_592 ?_
  refine j_sld (k := 4 * t + 2) hx hb hX hbl hS ((wr_id (by omega) (by omega)).trans (by omega)) (by omega) dL_law_593 ?_
  refine jc_VI (As := [jI (xs (4 * t + 1)).toInt, jI (xs (4 * t + 2)).toInt]) (rest := []) ⟨hx, hb, hml, hown, hts⟩ hK hP hS (m_X8_lasts l D s.heap.size cs N e1) (cwV 2 hts gL_law_X8_lasts rfl rfl rfl (by decide +kernel) ⟨Nat.le_of_ble_eq_true rfl, Nat.le_of_ble_eq_true rfl⟩) kz_0 (by decide) rfl rfl hl.1 rfl (Nat.le_of_ble_eq_true rfl) dL_law_594 ⟨Nat.le_refl _, Nat.le_refl _⟩ (fun H locs hP hS => ?_)
  refine j_aload_n hx hb dL_law_597 rfl (lv_at hl 1 rfl) ?_
  refine lv_aload_n hx hb dL_law_598 rfl (lv_at hl 3 rfl) ?_
  refine j_iload_n hx hb dL_law_599 rfl (lv_at hl 0 rfl) ?_
  refine j_iconst hx hb dL_law_600 ?_
  refine j_iadd hx hb dL_law_601 ?_
  refine j_sld (k := 4 * t + 1) hx hb hX hbl hS ((wr_id (by omega) (by omega)).trans (by omega)) (by omega) dL_law_602 ?_
  refine lv_aload_n hx hb dL_law_603 rfl (lv_at hl 3 rfl) ?_
  refine j_iload_n hx hb dL_law_604 rfl (lv_at hl 0 rfl) ?_
  refine j_iconst hx hb dL_law_605 ?_
  refine j_iadd hx hb dL_law_606 ?_
  refine j_sld (k := 4 * t + 2) hx hb hX hbl hS ((wr_id (by omega) (by omega)).trans (by omega)) (by omega) dL_law_607 ?_
  refine jc_VI (As := [jI (xs (4 * t + 1)).toInt, jI (xs (4 * t + 2)).toInt]) (rest := [jI r]) ⟨hx, hb, hml, hown, hts⟩ hK hP hS (m_X9_lasts l D s.heap.size cs N e2) (cwV 2 hts gL_law_X9_lasts rfl rfl rfl (by decide +kernel) ⟨Nat.le_of_ble_eq_true rfl, Nat.le_of_ble_eq_true rfl⟩) kz_332 (by decide) rfl rfl hl.1 rfl (Nat.le_of_ble_eq_true rfl) dL_law_608 ⟨Nat.le_refl _, Nat.le_refl _⟩ (fun H locs hP hS => ?_)
  refine j_icmp_eq (A := wr r) (B := wr r2) (tgt := 1103) hx hb rfl rfl dL_law_611 (by decide) (fun q => ?_) (fun q => absurd hw q)
  exact nx _ _ _ _ hI2 hP hS hl
def ok_untwist (N : Nat) (I : Mm → Prop) : Prop := ∀ (μ : Mm) (y1 : Int), (-2147483648 ≤ y1 ∧ y1 < 2147483648) → I μ → ∃ (r r2 : Int), fX8_untwist N y1 μ = some r ∧ fX9_untwist N y1 μ = some r2 ∧ wr r = wr r2 ∧ I μ
set_option maxHeartbeats 4000000 in
set_option maxRecDepth 100000 in
theorem law_untwist {p : Program} {l : Launch} {e : Env} {s : State} {m : MethodId} {below : List Frame} {meth : Method} {c : Code} {b0 L : Nat} {xs : Nat → Int32} (C0 : lw_At p s m meth c b0 L xs) {D : va_G} {cs : CS} {N : Nat} {I : Mm → Prop} (ok : ok_untwist N I) {t : Nat} (ht : 4 * t + 4 ≤ L) (hL : L ≤ 256) {Q : State → Prop} (hK : va_K D vwCl (tyl cs) s) {μ : Mm} (hI : I μ) {H : Heap} {locs : List Loc} {ls : Array Slot} (hP : va_P D vwCl (wl s.heap.size cs μ) H) (hS : va_S (bA s.heap.size) s.heap H locs) (hl : lv_has ls 4 [(3, jI (4 * (t : Int))), (2, jR s.heap.size 332), (1, jR s.heap.size 0), (0, .ref b0)]) (nx : ∀ (μ : Mm) (H : Heap) (locs : List Loc) (ls : Array Slot), I μ → va_P D vwCl (wl s.heap.size cs μ) H → va_S (bA s.heap.size) s.heap H locs → lv_has ls 4 [(3, jI (4 * (t : Int))), (2, jR s.heap.size 332), (1, jR s.heap.size 0), (0, .ref b0)] → W p l e room_1 s m #[Value.ref b0] below meth c H locs 600000 7302250 Q (F0 m 1103 ls [])) : W p l e room_1 s m #[Value.ref b0] below meth c H locs 600000 7302250 Q (F0 m 616 ls []) := by
  obtain ⟨hx, hb, hr, hml, hown, hts0, hX, hbl, hlocks, hgv⟩ := C0
  have hts : ∀ w ∈ wsL_law, w.before #[Value.ref b0] s = true := fun w h => hts0 w (wsL_law_in w h)
  have hown : s.vm.findClass RL = some m.cls := hown
  obtain ⟨r, r2, e1, e2, hw, hI2⟩ := ok μ (xs (4 * t + 1)).toInt ⟨Int32.le_toInt _, Int32.toInt_lt _⟩ hI
  refine j_aload_n hx hb dL_law_616 rfl (lv_at hl 2 rfl) ?_
  refine lv_aload_n hx hb dL_law_617 rfl (lv_at hl 3 rfl) ?_
  refine j_iload_n hx hb dL_law_618 rfl (lv_at hl 0 rfl) ?_
  refine j_iconst hx hb dL_law_619 ?_
  refine j_iadd hx hb dL_law_620 ?_
  refine j_sld (k := 4 * t + 1) hx hb hX hbl hS ((wr_id (by omega) (by omega)).trans (by omega)) (by omega) dL_law_621 ?_
  refine jc_VI (As := [jI (xs (4 * t + 1)).toInt]) (rest := []) ⟨hx, hb, hml, hown, hts⟩ hK hP hS (m_X8_untwist l D s.heap.size cs N e1) (cwV 1 hts gL_law_X8_untwist rfl rfl rfl (by decide +kernel) ⟨Nat.le_of_ble_eq_true rfl, Nat.le_of_ble_eq_true rfl⟩) kz_0 (by decide) rfl rfl hl.1 rfl (Nat.le_of_ble_eq_true rfl) dL_law_622 ⟨Nat.le_refl _, Nat.le_refl _⟩ (fun H locs hP hS => ?_)
  refine j_aload_n hx hb dL_law_625 rfl (lv_at hl 1 rfl) ?_
  refine lv_aload_n hx hb dL_law_626 rfl (lv_at hl 3 rfl) ?_
  refine j_iload_n hx hb dL_law_627 rfl (lv_at hl 0 rfl) ?_
  refine j_iconst hx hb dL_law_628 ?_
  refine j_iadd hx hb dL_law_629 ?_
  refine j_sld (k := 4 * t + 1) hx hb hX hbl hS ((wr_id (by omega) (by omega)).trans (by omega)) (by omega) dL_law_630 ?_
  refine jc_VI (As := [jI (xs (4 * t + 1)).toInt]) (rest := [jI r]) ⟨hx, hb, hml, hown, hts⟩ hK hP hS (m_X9_untwist l D s.heap.size cs N e2) (cwV 1 hts gL_law_X9_untwist rfl rfl rfl (by decide +kernel) ⟨Nat.le_of_ble_eq_true rfl, Nat.le_of_ble_eq_true rfl⟩) kz_332 (by decide) rfl rfl hl.1 rfl (Nat.le_of_ble_eq_true rfl) dL_law_631 ⟨Nat.le_refl _, Nat.le_refl _⟩ (fun H locs hP hS => ?_)
  refine j_icmp_eq (A := wr r) (B := wr r2) (tgt := 1103) hx hb rfl rfl dL_law_634 (by decide) (fun q => ?_) (fun q => absurd hw q)
  exact nx _ _ _ _ hI2 hP hS hl
def ok_home (N : Nat) (I : Mm → Prop) : Prop := ∀ (μ : Mm) (y1 : Int), (-2147483648 ≤ y1 ∧ y1 < 2147483648) → I μ → ∃ (r r2 : Int), fX8_home N y1 μ = some r ∧ fX9_home N y1 μ = some r2 ∧ wr r = wr r2 ∧ I μ
set_option maxHeartbeats 4000000 in
set_option maxRecDepth 100000 in
theorem law_home {p : Program} {l : Launch} {e : Env} {s : State} {m : MethodId} {below : List Frame} {meth : Method} {c : Code} {b0 L : Nat} {xs : Nat → Int32} (C0 : lw_At p s m meth c b0 L xs) {D : va_G} {cs : CS} {N : Nat} {I : Mm → Prop} (ok : ok_home N I) {t : Nat} (ht : 4 * t + 4 ≤ L) (hL : L ≤ 256) {Q : State → Prop} (hK : va_K D vwCl (tyl cs) s) {μ : Mm} (hI : I μ) {H : Heap} {locs : List Loc} {ls : Array Slot} (hP : va_P D vwCl (wl s.heap.size cs μ) H) (hS : va_S (bA s.heap.size) s.heap H locs) (hl : lv_has ls 4 [(3, jI (4 * (t : Int))), (2, jR s.heap.size 332), (1, jR s.heap.size 0), (0, .ref b0)]) (nx : ∀ (μ : Mm) (H : Heap) (locs : List Loc) (ls : Array Slot), I μ → va_P D vwCl (wl s.heap.size cs μ) H → va_S (bA s.heap.size) s.heap H locs → lv_has ls 4 [(3, jI (4 * (t : Int))), (2, jR s.heap.size 332), (1, jR s.heap.size 0), (0, .ref b0)] → W p l e room_1 s m #[Value.ref b0] below meth c H locs 600000 7302250 Q (F0 m 1103 ls [])) : W p l e room_1 s m #[Value.ref b0] below meth c H locs 600000 7302250 Q (F0 m 639 ls []) := by
  obtain ⟨hx, hb, hr, hml, hown, hts0, hX, hbl, hlocks, hgv⟩ := C0
  have hts : ∀ w ∈ wsL_law, w.before #[Value.ref b0] s = true := fun w h => hts0 w (wsL_law_in w h)
  have hown : s.vm.findClass RL = some m.cls := hown
  obtain ⟨r, r2, e1, e2, hw, hI2⟩ := ok μ (xs (4 * t + 1)).toInt ⟨Int32.le_toInt _, Int32.toInt_lt _⟩ hI
  refine j_aload_n hx hb dL_law_639 rfl (lv_at hl 2 rfl) ?_
  refine lv_aload_n hx hb dL_law_640 rfl (lv_at hl 3 rfl) ?_
  refine j_iload_n hx hb dL_law_641 rfl (lv_at hl 0 rfl) ?_
  refine j_iconst hx hb dL_law_642 ?_
  refine j_iadd hx hb dL_law_643 ?_
  refine j_sld (k := 4 * t + 1) hx hb hX hbl hS ((wr_id (by omega) (by omega)).trans (by omega)) (by omega) dL_law_644 ?_
  refine jc_VI (As := [jI (xs (4 * t + 1)).toInt]) (rest := []) ⟨hx, hb, hml, hown, hts⟩ hK hP hS (m_X8_home l D s.heap.size cs N e1) (cwV 1 hts gL_law_X8_home rfl rfl rfl (by decide +kernel) ⟨Nat.le_of_ble_eq_true rfl, Nat.le_of_ble_eq_true rfl⟩) kz_0 (by decide) rfl rfl hl.1 rfl (Nat.le_of_ble_eq_true rfl) dL_law_645 ⟨Nat.le_refl _, Nat.le_refl _⟩ (fun H locs hP hS => ?_)
  refine j_aload_n hx hb dL_law_648 rfl (lv_at hl 1 rfl) ?_
  refine lv_aload_n hx hb dL_law_649 rfl (lv_at hl 3 rfl) ?_
  refine j_iload_n hx hb dL_law_650 rfl (lv_at hl 0 rfl) ?_
  refine j_iconst hx hb dL_law_651 ?_
  refine j_iadd hx hb dL_law_652 ?_
  refine j_sld (k := 4 * t + 1) hx hb hX hbl hS ((wr_id (by omega) (by omega)).trans (by omega)) (by omega) dL_law_653 ?_
  refine jc_VI (As := [jI (xs (4 * t + 1)).toInt]) (rest := [jI r]) ⟨hx, hb, hml, hown, hts⟩ hK hP hS (m_X9_home l D s.heap.size cs N e2) (cwV 1 hts gL_law_X9_home rfl rfl rfl (by decide +kernel) ⟨Nat.le_of_ble_eq_true rfl, Nat.le_of_ble_eq_true rfl⟩) kz_332 (by decide) rfl rfl hl.1 rfl (Nat.le_of_ble_eq_true rfl) dL_law_654 ⟨Nat.le_refl _, Nat.le_refl _⟩ (fun H locs hP hS => ?_)
  refine j_icmp_eq (A := wr r) (B := wr r2) (tgt := 1103) hx hb rfl rfl dL_law_657 (by decide) (fun q => ?_) (fun q => absurd hw q)
  exact nx _ _ _ _ hI2 hP hS hl
def ok_together (N : Nat) (I : Mm → Prop) : Prop := ∀ (μ : Mm) (y1 y2 y3 : Int), (-2147483648 ≤ y1 ∧ y1 < 2147483648) → (-2147483648 ≤ y2 ∧ y2 < 2147483648) → (-2147483648 ≤ y3 ∧ y3 < 2147483648) → I μ → ∃ (r r2 : Int) (μ2 : Mm), fX8_together N y1 y2 y3 μ = some r ∧ fX9_together N y1 y2 y3 μ = some (r2, μ2) ∧ wr r = wr r2 ∧ I μ2
set_option maxHeartbeats 4000000 in
set_option maxRecDepth 100000 in
theorem law_together {p : Program} {l : Launch} {e : Env} {s : State} {m : MethodId} {below : List Frame} {meth : Method} {c : Code} {b0 L : Nat} {xs : Nat → Int32} (C0 : lw_At p s m meth c b0 L xs) {D : va_G} {cs : CS} {N : Nat} {I : Mm → Prop} (ok : ok_together N I) {t : Nat} (ht : 4 * t + 4 ≤ L) (hL : L ≤ 256) {Q : State → Prop} (hK : va_K D vwCl (tyl cs) s) {μ : Mm} (hI : I μ) {H : Heap} {locs : List Loc} {ls : Array Slot} (hP : va_P D vwCl (wl s.heap.size cs μ) H) (hS : va_S (bA s.heap.size) s.heap H locs) (hl : lv_has ls 4 [(3, jI (4 * (t : Int))), (2, jR s.heap.size 332), (1, jR s.heap.size 0), (0, .ref b0)]) (nx : ∀ (μ : Mm) (H : Heap) (locs : List Loc) (ls : Array Slot), I μ → va_P D vwCl (wl s.heap.size cs μ) H → va_S (bA s.heap.size) s.heap H locs → lv_has ls 4 [(3, jI (4 * (t : Int))), (2, jR s.heap.size 332), (1, jR s.heap.size 0), (0, .ref b0)] → W p l e room_1 s m #[Value.ref b0] below meth c H locs 600000 7302250 Q (F0 m 1103 ls [])) : W p l e room_1 s m #[Value.ref b0] below meth c H locs 600000 7302250 Q (F0 m 662 ls []) := by
  obtain ⟨hx, hb, hr, hml, hown, hts0, hX, hbl, hlocks, hgv⟩ := C0
  have hts : ∀ w ∈ wsL_law, w.before #[Value.ref b0] s = true := fun w h => hts0 w (wsL_law_in w h)
  have hown : s.vm.findClass RL = some m.cls := hown
  obtain ⟨r, r2, μ2, e1, e2, hw, hI2⟩ := ok μ (xs (4 * t + 1)).toInt (xs (4 * t + 2)).toInt (xs (4 * t + 3)).toInt ⟨Int32.le_toInt _, Int32.toInt_lt _⟩ ⟨Int32.le_toInt _, Int32.toInt_lt _⟩ ⟨Int32.le_toInt _, Int32.toInt_lt _⟩ hI
  refine j_aload_n hx hb dL_law_662 rfl (lv_at hl 2 rfl) ?_
  refine lv_aload_n hx hb dL_law_663 rfl (lv_at hl 3 rfl) ?_
  refine j_iload_n hx hb dL_law_664 rfl (lv_at hl 0 rfl) ?_
  refine j_iconst hx hb dL_law_665 ?_
  refine j_iadd hx hb dL_law_666 ?_
  refine j_sld (k := 4 * t + 1) hx hb hX hbl hS ((wr_id (by omega) (by omega)).trans (by omega)) (by omega) dL_law_667 ?_
  refine lv_aload_n hx hb dL_law_668 rfl (lv_at hl 3 rfl) ?_
  refine j_iload_n hx hb dL_law_669 rfl (lv_at hl 0 rfl) ?_
  refine j_iconst hx hb dL_law_670 ?_
  refine j_iadd hx hb dL_law_671 ?_
  refine j_sld (k := 4 * t + 2) hx hb hX hbl hS ((wr_id (by omega) (by omega)).trans (by omega)) (by omega) dL_law_672 ?_
  refine lv_aload_n hx hb dL_law_673 rfl (lv_at hl 3 rfl) ?_
  refine j_iload_n hx hb dL_law_674 rfl (lv_at hl 0 rfl) ?_
  refine j_iconst hx hb dL_law_675 ?_
  refine j_iadd hx hb dL_law_676 ?_
  refine j_sld (k := 4 * t + 3) hx hb hX hbl hS ((wr_id (by omega) (by omega)).trans (by omega)) (by omega) dL_law_677 ?_
  refine jc_VI (As := [jI (xs (4 * t + 1)).toInt, jI (xs (4 * t + 2)).toInt, jI (xs (4 * t + 3)).toInt]) (rest := []) ⟨hx, hb, hml, hown, hts⟩ hK hP hS (m_X8_together l D s.heap.size cs N e1) (cwV 3 hts gL_law_X8_together rfl rfl rfl (by decide +kernel) ⟨Nat.le_of_ble_eq_true rfl, Nat.le_of_ble_eq_true rfl⟩) kz_0 (by decide) rfl rfl hl.1 rfl (Nat.le_of_ble_eq_true rfl) dL_law_678 ⟨Nat.le_refl _, Nat.le_refl _⟩ (fun H locs hP hS => ?_)
  refine j_aload_n hx hb dL_law_681 rfl (lv_at hl 1 rfl) ?_
  refine lv_aload_n hx hb dL_law_682 rfl (lv_at hl 3 rfl) ?_
  refine j_iload_n hx hb dL_law_683 rfl (lv_at hl 0 rfl) ?_
  refine j_iconst hx hb dL_law_684 ?_
  refine j_iadd hx hb dL_law_685 ?_
  refine j_sld (k := 4 * t + 1) hx hb hX hbl hS ((wr_id (by omega) (by omega)).trans (by omega)) (by omega) dL_law_686 ?_
  refine lv_aload_n hx hb dL_law_687 rfl (lv_at hl 3 rfl) ?_
  refine j_iload_n hx hb dL_law_688 rfl (lv_at hl 0 rfl) ?_
  refine j_iconst hx hb dL_law_689 ?_
  refine j_iadd hx hb dL_law_690 ?_
  refine j_sld (k := 4 * t + 2) hx hb hX hbl hS ((wr_id (by omega) (by omega)).trans (by omega)) (by omega) dL_law_691 ?_
  refine lv_aload_n hx hb dL_law_692 rfl (lv_at hl 3 rfl) ?_
  refine j_iload_n hx hb dL_law_693 rfl (lv_at hl 0 rfl) ?_
  refine j_iconst hx hb dL_law_694 ?_
  refine j_iadd hx hb dL_law_695 ?_
  refine j_sld (k := 4 * t + 3) hx hb hX hbl hS ((wr_id (by omega) (by omega)).trans (by omega)) (by omega) dL_law_696 ?_
  refine jc_VI (As := [jI (xs (4 * t + 1)).toInt, jI (xs (4 * t + 2)).toInt, jI (xs (4 * t + 3)).toInt]) (rest := [jI r]) ⟨hx, hb, hml, hown, hts⟩ hK hP hS (m_X9_together l D s.heap.size cs N e2) (cwV 3 hts gL_law_X9_together rfl rfl rfl (by decide +kernel) ⟨Nat.le_of_ble_eq_true rfl, Nat.le_of_ble_eq_true rfl⟩) kz_332 (by decide) rfl rfl hl.1 rfl (Nat.le_of_ble_eq_true rfl) dL_law_697 ⟨Nat.le_refl _, Nat.le_refl _⟩ (fun H locs hP hS => ?_)
  refine j_icmp_eq (A := wr r) (B := wr r2) (tgt := 1103) hx hb rfl rfl dL_law_700 (by decide) (fun q => ?_) (fun q => absurd hw q)
  exact nx _ _ _ _ hI2 hP hS hl
def ok_repeat (N : Nat) (I : Mm → Prop) : Prop := ∀ (μ : Mm), I μ → ∃ (r r2 : Int), fX8_repeat N μ = some r ∧ fX9_repeat N μ = some r2 ∧ wr r = wr r2 ∧ I μ
set_option maxHeartbeats 4000000 in
set_option maxRecDepth 100000 in
theorem law_repeat {p : Program} {l : Launch} {e : Env} {s : State} {m : MethodId} {below : List Frame} {meth : Method} {c : Code} {b0 L : Nat} {xs : Nat → Int32} (C0 : lw_At p s m meth c b0 L xs) {D : va_G} {cs : CS} {N : Nat} {I : Mm → Prop} (ok : ok_repeat N I) {t : Nat} (ht : 4 * t + 4 ≤ L) (hL : L ≤ 256) {Q : State → Prop} (hK : va_K D vwCl (tyl cs) s) {μ : Mm} (hI : I μ) {H : Heap} {locs : List Loc} {ls : Array Slot} (hP : va_P D vwCl (wl s.heap.size cs μ) H) (hS : va_S (bA s.heap.size) s.heap H locs) (hl : lv_has ls 4 [(3, jI (4 * (t : Int))), (2, jR s.heap.size 332), (1, jR s.heap.size 0), (0, .ref b0)]) (nx : ∀ (μ : Mm) (H : Heap) (locs : List Loc) (ls : Array Slot), I μ → va_P D vwCl (wl s.heap.size cs μ) H → va_S (bA s.heap.size) s.heap H locs → lv_has ls 4 [(3, jI (4 * (t : Int))), (2, jR s.heap.size 332), (1, jR s.heap.size 0), (0, .ref b0)] → W p l e room_1 s m #[Value.ref b0] below meth c H locs 600000 7302250 Q (F0 m 1103 ls [])) : W p l e room_1 s m #[Value.ref b0] below meth c H locs 600000 7302250 Q (F0 m 705 ls []) := by
  obtain ⟨hx, hb, hr, hml, hown, hts0, hX, hbl, hlocks, hgv⟩ := C0
  have hts : ∀ w ∈ wsL_law, w.before #[Value.ref b0] s = true := fun w h => hts0 w (wsL_law_in w h)
  have hown : s.vm.findClass RL = some m.cls := hown
  obtain ⟨r, r2, e1, e2, hw, hI2⟩ := ok μ hI
  refine j_aload_n hx hb dL_law_705 rfl (lv_at hl 2 rfl) ?_
  refine jc_VI (As := []) (rest := []) ⟨hx, hb, hml, hown, hts⟩ hK hP hS (m_X8_repeat l D s.heap.size cs N e1) (cwV 0 hts gL_law_X8_repeat rfl rfl rfl (by decide +kernel) ⟨Nat.le_of_ble_eq_true rfl, Nat.le_of_ble_eq_true rfl⟩) kz_0 (by decide) rfl rfl hl.1 rfl (Nat.le_of_ble_eq_true rfl) dL_law_706 ⟨Nat.le_refl _, Nat.le_refl _⟩ (fun H locs hP hS => ?_)
  refine j_aload_n hx hb dL_law_709 rfl (lv_at hl 1 rfl) ?_
  refine jc_VI (As := []) (rest := [jI r]) ⟨hx, hb, hml, hown, hts⟩ hK hP hS (m_X9_repeat l D s.heap.size cs N e2) (cwV 0 hts gL_law_X9_repeat rfl rfl rfl (by decide +kernel) ⟨Nat.le_of_ble_eq_true rfl, Nat.le_of_ble_eq_true rfl⟩) kz_332 (by decide) rfl rfl hl.1 rfl (Nat.le_of_ble_eq_true rfl) dL_law_710 ⟨Nat.le_refl _, Nat.le_refl _⟩ (fun H locs hP hS => ?_)
  refine j_icmp_eq (A := wr r) (B := wr r2) (tgt := 1103) hx hb rfl rfl dL_law_713 (by decide) (fun q => ?_) (fun q => absurd hw q)
  exact nx _ _ _ _ hI2 hP hS hl
def ok_floats (N : Nat) (I : Mm → Prop) : Prop := ∀ (μ : Mm) (y1 : Int), (-2147483648 ≤ y1 ∧ y1 < 2147483648) → I μ → ∃ (r r2 : Int), fX8_floats N y1 μ = some r ∧ fX9_floats N y1 μ = some r2 ∧ wr r = wr r2 ∧ I μ
set_option maxHeartbeats 4000000 in
set_option maxRecDepth 100000 in
theorem law_floats {p : Program} {l : Launch} {e : Env} {s : State} {m : MethodId} {below : List Frame} {meth : Method} {c : Code} {b0 L : Nat} {xs : Nat → Int32} (C0 : lw_At p s m meth c b0 L xs) {D : va_G} {cs : CS} {N : Nat} {I : Mm → Prop} (ok : ok_floats N I) {t : Nat} (ht : 4 * t + 4 ≤ L) (hL : L ≤ 256) {Q : State → Prop} (hK : va_K D vwCl (tyl cs) s) {μ : Mm} (hI : I μ) {H : Heap} {locs : List Loc} {ls : Array Slot} (hP : va_P D vwCl (wl s.heap.size cs μ) H) (hS : va_S (bA s.heap.size) s.heap H locs) (hl : lv_has ls 4 [(3, jI (4 * (t : Int))), (2, jR s.heap.size 332), (1, jR s.heap.size 0), (0, .ref b0)]) (nx : ∀ (μ : Mm) (H : Heap) (locs : List Loc) (ls : Array Slot), I μ → va_P D vwCl (wl s.heap.size cs μ) H → va_S (bA s.heap.size) s.heap H locs → lv_has ls 4 [(3, jI (4 * (t : Int))), (2, jR s.heap.size 332), (1, jR s.heap.size 0), (0, .ref b0)] → W p l e room_1 s m #[Value.ref b0] below meth c H locs 600000 7302250 Q (F0 m 1103 ls [])) : W p l e room_1 s m #[Value.ref b0] below meth c H locs 600000 7302250 Q (F0 m 718 ls []) := by
  obtain ⟨hx, hb, hr, hml, hown, hts0, hX, hbl, hlocks, hgv⟩ := C0
  have hts : ∀ w ∈ wsL_law, w.before #[Value.ref b0] s = true := fun w h => hts0 w (wsL_law_in w h)
  have hown : s.vm.findClass RL = some m.cls := hown
  obtain ⟨r, r2, e1, e2, hw, hI2⟩ := ok μ (xs (4 * t + 1)).toInt ⟨Int32.le_toInt _, Int32.toInt_lt _⟩ hI
  refine j_aload_n hx hb dL_law_718 rfl (lv_at hl 2 rfl) ?_
  refine lv_aload_n hx hb dL_law_719 rfl (lv_at hl 3 rfl) ?_
  refine j_iload_n hx hb dL_law_720 rfl (lv_at hl 0 rfl) ?_
  refine j_iconst hx hb dL_law_721 ?_
  refine j_iadd hx hb dL_law_722 ?_
  refine j_sld (k := 4 * t + 1) hx hb hX hbl hS ((wr_id (by omega) (by omega)).trans (by omega)) (by omega) dL_law_723 ?_
  refine jc_VI (As := [jI (xs (4 * t + 1)).toInt]) (rest := []) ⟨hx, hb, hml, hown, hts⟩ hK hP hS (m_X8_floats l D s.heap.size cs N e1) (cwV 1 hts gL_law_X8_floats rfl rfl rfl (by decide +kernel) ⟨Nat.le_of_ble_eq_true rfl, Nat.le_of_ble_eq_true rfl⟩) kz_0 (by decide) rfl rfl hl.1 rfl (Nat.le_of_ble_eq_true rfl) dL_law_724 ⟨Nat.le_refl _, Nat.le_refl _⟩ (fun H locs hP hS => ?_)
  refine j_aload_n hx hb dL_law_727 rfl (lv_at hl 1 rfl) ?_
  refine lv_aload_n hx hb dL_law_728 rfl (lv_at hl 3 rfl) ?_
  refine j_iload_n hx hb dL_law_729 rfl (lv_at hl 0 rfl) ?_
  refine j_iconst hx hb dL_law_730 ?_
  refine j_iadd hx hb dL_law_731 ?_
  refine j_sld (k := 4 * t + 1) hx hb hX hbl hS ((wr_id (by omega) (by omega)).trans (by omega)) (by omega) dL_law_732 ?_
  refine jc_VI (As := [jI (xs (4 * t + 1)).toInt]) (rest := [jI r]) ⟨hx, hb, hml, hown, hts⟩ hK hP hS (m_X9_floats l D s.heap.size cs N e2) (cwV 1 hts gL_law_X9_floats rfl rfl rfl (by decide +kernel) ⟨Nat.le_of_ble_eq_true rfl, Nat.le_of_ble_eq_true rfl⟩) kz_332 (by decide) rfl rfl hl.1 rfl (Nat.le_of_ble_eq_true rfl) dL_law_733 ⟨Nat.le_refl _, Nat.le_refl _⟩ (fun H locs hP hS => ?_)
  refine j_icmp_eq (A := wr r) (B := wr r2) (tgt := 1103) hx hb rfl rfl dL_law_736 (by decide) (fun q => ?_) (fun q => absurd hw q)
  exact nx _ _ _ _ hI2 hP hS hl
def ok_alike (N : Nat) (I : Mm → Prop) : Prop := ∀ (μ : Mm) (y1 : Int), (-2147483648 ≤ y1 ∧ y1 < 2147483648) → I μ → ∃ (r r2 : Int), fX8_alike N y1 μ = some r ∧ fX9_alike N y1 μ = some r2 ∧ wr r = wr r2 ∧ I μ
set_option maxHeartbeats 4000000 in
set_option maxRecDepth 100000 in
theorem law_alike {p : Program} {l : Launch} {e : Env} {s : State} {m : MethodId} {below : List Frame} {meth : Method} {c : Code} {b0 L : Nat} {xs : Nat → Int32} (C0 : lw_At p s m meth c b0 L xs) {D : va_G} {cs : CS} {N : Nat} {I : Mm → Prop} (ok : ok_alike N I) {t : Nat} (ht : 4 * t + 4 ≤ L) (hL : L ≤ 256) {Q : State → Prop} (hK : va_K D vwCl (tyl cs) s) {μ : Mm} (hI : I μ) {H : Heap} {locs : List Loc} {ls : Array Slot} (hP : va_P D vwCl (wl s.heap.size cs μ) H) (hS : va_S (bA s.heap.size) s.heap H locs) (hl : lv_has ls 4 [(3, jI (4 * (t : Int))), (2, jR s.heap.size 332), (1, jR s.heap.size 0), (0, .ref b0)]) (nx : ∀ (μ : Mm) (H : Heap) (locs : List Loc) (ls : Array Slot), I μ → va_P D vwCl (wl s.heap.size cs μ) H → va_S (bA s.heap.size) s.heap H locs → lv_has ls 4 [(3, jI (4 * (t : Int))), (2, jR s.heap.size 332), (1, jR s.heap.size 0), (0, .ref b0)] → W p l e room_1 s m #[Value.ref b0] below meth c H locs 600000 7302250 Q (F0 m 1103 ls [])) : W p l e room_1 s m #[Value.ref b0] below meth c H locs 600000 7302250 Q (F0 m 741 ls []) := by
  obtain ⟨hx, hb, hr, hml, hown, hts0, hX, hbl, hlocks, hgv⟩ := C0
  have hts : ∀ w ∈ wsL_law, w.before #[Value.ref b0] s = true := fun w h => hts0 w (wsL_law_in w h)
  have hown : s.vm.findClass RL = some m.cls := hown
  obtain ⟨r, r2, e1, e2, hw, hI2⟩ := ok μ (xs (4 * t + 1)).toInt ⟨Int32.le_toInt _, Int32.toInt_lt _⟩ hI
  refine j_aload_n hx hb dL_law_741 rfl (lv_at hl 2 rfl) ?_
  refine lv_aload_n hx hb dL_law_742 rfl (lv_at hl 3 rfl) ?_
  refine j_iload_n hx hb dL_law_743 rfl (lv_at hl 0 rfl) ?_
  refine j_iconst hx hb dL_law_744 ?_
  refine j_iadd hx hb dL_law_745 ?_
  refine j_sld (k := 4 * t + 1) hx hb hX hbl hS ((wr_id (by omega) (by omega)).trans (by omega)) (by omega) dL_law_746 ?_
  refine jc_VI (As := [jI (xs (4 * t + 1)).toInt]) (rest := []) ⟨hx, hb, hml, hown, hts⟩ hK hP hS (m_X8_alike l D s.heap.size cs N e1) (cwV 1 hts gL_law_X8_alike rfl rfl rfl (by decide +kernel) ⟨Nat.le_of_ble_eq_true rfl, Nat.le_of_ble_eq_true rfl⟩) kz_0 (by decide) rfl rfl hl.1 rfl (Nat.le_of_ble_eq_true rfl) dL_law_747 ⟨Nat.le_refl _, Nat.le_refl _⟩ (fun H locs hP hS => ?_)
  refine j_aload_n hx hb dL_law_750 rfl (lv_at hl 1 rfl) ?_
  refine lv_aload_n hx hb dL_law_751 rfl (lv_at hl 3 rfl) ?_
  refine j_iload_n hx hb dL_law_752 rfl (lv_at hl 0 rfl) ?_
  refine j_iconst hx hb dL_law_753 ?_
  refine j_iadd hx hb dL_law_754 ?_
  refine j_sld (k := 4 * t + 1) hx hb hX hbl hS ((wr_id (by omega) (by omega)).trans (by omega)) (by omega) dL_law_755 ?_
  refine jc_VI (As := [jI (xs (4 * t + 1)).toInt]) (rest := [jI r]) ⟨hx, hb, hml, hown, hts⟩ hK hP hS (m_X9_alike l D s.heap.size cs N e2) (cwV 1 hts gL_law_X9_alike rfl rfl rfl (by decide +kernel) ⟨Nat.le_of_ble_eq_true rfl, Nat.le_of_ble_eq_true rfl⟩) kz_332 (by decide) rfl rfl hl.1 rfl (Nat.le_of_ble_eq_true rfl) dL_law_756 ⟨Nat.le_refl _, Nat.le_refl _⟩ (fun H locs hP hS => ?_)
  refine j_icmp_eq (A := wr r) (B := wr r2) (tgt := 1103) hx hb rfl rfl dL_law_759 (by decide) (fun q => ?_) (fun q => absurd hw q)
  exact nx _ _ _ _ hI2 hP hS hl
def ok_shown (N : Nat) (I : Mm → Prop) : Prop := ∀ (μ : Mm) (y1 : Int), (-2147483648 ≤ y1 ∧ y1 < 2147483648) → I μ → ∃ (r r2 : Int), fX8_shown N y1 μ = some r ∧ fX9_shown N y1 μ = some r2 ∧ wr r = wr r2 ∧ I μ
set_option maxHeartbeats 4000000 in
set_option maxRecDepth 100000 in
theorem law_shown {p : Program} {l : Launch} {e : Env} {s : State} {m : MethodId} {below : List Frame} {meth : Method} {c : Code} {b0 L : Nat} {xs : Nat → Int32} (C0 : lw_At p s m meth c b0 L xs) {D : va_G} {cs : CS} {N : Nat} {I : Mm → Prop} (ok : ok_shown N I) {t : Nat} (ht : 4 * t + 4 ≤ L) (hL : L ≤ 256) {Q : State → Prop} (hK : va_K D vwCl (tyl cs) s) {μ : Mm} (hI : I μ) {H : Heap} {locs : List Loc} {ls : Array Slot} (hP : va_P D vwCl (wl s.heap.size cs μ) H) (hS : va_S (bA s.heap.size) s.heap H locs) (hl : lv_has ls 4 [(3, jI (4 * (t : Int))), (2, jR s.heap.size 332), (1, jR s.heap.size 0), (0, .ref b0)]) (nx : ∀ (μ : Mm) (H : Heap) (locs : List Loc) (ls : Array Slot), I μ → va_P D vwCl (wl s.heap.size cs μ) H → va_S (bA s.heap.size) s.heap H locs → lv_has ls 4 [(3, jI (4 * (t : Int))), (2, jR s.heap.size 332), (1, jR s.heap.size 0), (0, .ref b0)] → W p l e room_1 s m #[Value.ref b0] below meth c H locs 600000 7302250 Q (F0 m 1103 ls [])) : W p l e room_1 s m #[Value.ref b0] below meth c H locs 600000 7302250 Q (F0 m 764 ls []) := by
  obtain ⟨hx, hb, hr, hml, hown, hts0, hX, hbl, hlocks, hgv⟩ := C0
  have hts : ∀ w ∈ wsL_law, w.before #[Value.ref b0] s = true := fun w h => hts0 w (wsL_law_in w h)
  have hown : s.vm.findClass RL = some m.cls := hown
  obtain ⟨r, r2, e1, e2, hw, hI2⟩ := ok μ (xs (4 * t + 1)).toInt ⟨Int32.le_toInt _, Int32.toInt_lt _⟩ hI
  refine j_aload_n hx hb dL_law_764 rfl (lv_at hl 2 rfl) ?_
  refine lv_aload_n hx hb dL_law_765 rfl (lv_at hl 3 rfl) ?_
  refine j_iload_n hx hb dL_law_766 rfl (lv_at hl 0 rfl) ?_
  refine j_iconst hx hb dL_law_767 ?_
  refine j_iadd hx hb dL_law_768 ?_
  refine j_sld (k := 4 * t + 1) hx hb hX hbl hS ((wr_id (by omega) (by omega)).trans (by omega)) (by omega) dL_law_769 ?_
  refine jc_VI (As := [jI (xs (4 * t + 1)).toInt]) (rest := []) ⟨hx, hb, hml, hown, hts⟩ hK hP hS (m_X8_shown l D s.heap.size cs N e1) (cwV 1 hts gL_law_X8_shown rfl rfl rfl (by decide +kernel) ⟨Nat.le_of_ble_eq_true rfl, Nat.le_of_ble_eq_true rfl⟩) kz_0 (by decide) rfl rfl hl.1 rfl (Nat.le_of_ble_eq_true rfl) dL_law_770 ⟨Nat.le_refl _, Nat.le_refl _⟩ (fun H locs hP hS => ?_)
  refine j_aload_n hx hb dL_law_773 rfl (lv_at hl 1 rfl) ?_
  refine lv_aload_n hx hb dL_law_774 rfl (lv_at hl 3 rfl) ?_
  refine j_iload_n hx hb dL_law_775 rfl (lv_at hl 0 rfl) ?_
  refine j_iconst hx hb dL_law_776 ?_
  refine j_iadd hx hb dL_law_777 ?_
  refine j_sld (k := 4 * t + 1) hx hb hX hbl hS ((wr_id (by omega) (by omega)).trans (by omega)) (by omega) dL_law_778 ?_
  refine jc_VI (As := [jI (xs (4 * t + 1)).toInt]) (rest := [jI r]) ⟨hx, hb, hml, hown, hts⟩ hK hP hS (m_X9_shown l D s.heap.size cs N e2) (cwV 1 hts gL_law_X9_shown rfl rfl rfl (by decide +kernel) ⟨Nat.le_of_ble_eq_true rfl, Nat.le_of_ble_eq_true rfl⟩) kz_332 (by decide) rfl rfl hl.1 rfl (Nat.le_of_ble_eq_true rfl) dL_law_779 ⟨Nat.le_refl _, Nat.le_refl _⟩ (fun H locs hP hS => ?_)
  refine j_icmp_eq (A := wr r) (B := wr r2) (tgt := 1103) hx hb rfl rfl dL_law_782 (by decide) (fun q => ?_) (fun q => absurd hw q)
  exact nx _ _ _ _ hI2 hP hS hl
def ok_turned (N : Nat) (I : Mm → Prop) : Prop := ∀ (μ : Mm) (y1 y2 : Int), (-2147483648 ≤ y1 ∧ y1 < 2147483648) → (-2147483648 ≤ y2 ∧ y2 < 2147483648) → I μ → ∃ (r r2 : Int), fX8_turned N y1 y2 μ = some r ∧ fX9_turned N y1 y2 μ = some r2 ∧ wr r = wr r2 ∧ I μ
set_option maxHeartbeats 4000000 in
set_option maxRecDepth 100000 in
theorem law_turned {p : Program} {l : Launch} {e : Env} {s : State} {m : MethodId} {below : List Frame} {meth : Method} {c : Code} {b0 L : Nat} {xs : Nat → Int32} (C0 : lw_At p s m meth c b0 L xs) {D : va_G} {cs : CS} {N : Nat} {I : Mm → Prop} (ok : ok_turned N I) {t : Nat} (ht : 4 * t + 4 ≤ L) (hL : L ≤ 256) {Q : State → Prop} (hK : va_K D vwCl (tyl cs) s) {μ : Mm} (hI : I μ) {H : Heap} {locs : List Loc} {ls : Array Slot} (hP : va_P D vwCl (wl s.heap.size cs μ) H) (hS : va_S (bA s.heap.size) s.heap H locs) (hl : lv_has ls 4 [(3, jI (4 * (t : Int))), (2, jR s.heap.size 332), (1, jR s.heap.size 0), (0, .ref b0)]) (nx : ∀ (μ : Mm) (H : Heap) (locs : List Loc) (ls : Array Slot), I μ → va_P D vwCl (wl s.heap.size cs μ) H → va_S (bA s.heap.size) s.heap H locs → lv_has ls 4 [(3, jI (4 * (t : Int))), (2, jR s.heap.size 332), (1, jR s.heap.size 0), (0, .ref b0)] → W p l e room_1 s m #[Value.ref b0] below meth c H locs 600000 7302250 Q (F0 m 1103 ls [])) : W p l e room_1 s m #[Value.ref b0] below meth c H locs 600000 7302250 Q (F0 m 787 ls []) := by
  obtain ⟨hx, hb, hr, hml, hown, hts0, hX, hbl, hlocks, hgv⟩ := C0
  have hts : ∀ w ∈ wsL_law, w.before #[Value.ref b0] s = true := fun w h => hts0 w (wsL_law_in w h)
  have hown : s.vm.findClass RL = some m.cls := hown
  obtain ⟨r, r2, e1, e2, hw, hI2⟩ := ok μ (xs (4 * t + 1)).toInt (xs (4 * t + 2)).toInt ⟨Int32.le_toInt _, Int32.toInt_lt _⟩ ⟨Int32.le_toInt _, Int32.toInt_lt _⟩ hI
  refine j_aload_n hx hb dL_law_787 rfl (lv_at hl 2 rfl) ?_
  refine lv_aload_n hx hb dL_law_788 rfl (lv_at hl 3 rfl) ?_
  refine j_iload_n hx hb dL_law_789 rfl (lv_at hl 0 rfl) ?_
  refine j_iconst hx hb dL_law_790 ?_
  refine j_iadd hx hb dL_law_791 ?_
  refine j_sld (k := 4 * t + 1) hx hb hX hbl hS ((wr_id (by omega) (by omega)).trans (by omega)) (by omega) dL_law_792 ?_
  refine lv_aload_n hx hb dL_law_793 rfl (lv_at hl 3 rfl) ?_
  refine j_iload_n hx hb dL_law_794 rfl (lv_at hl 0 rfl) ?_
  refine j_iconst hx hb dL_law_795 ?_
  refine j_iadd hx hb dL_law_796 ?_
  refine j_sld (k := 4 * t + 2) hx hb hX hbl hS ((wr_id (by omega) (by omega)).trans (by omega)) (by omega) dL_law_797 ?_
  refine jc_VI (As := [jI (xs (4 * t + 1)).toInt, jI (xs (4 * t + 2)).toInt]) (rest := []) ⟨hx, hb, hml, hown, hts⟩ hK hP hS (m_X8_turned l D s.heap.size cs N e1) (cwV 2 hts gL_law_X8_turned rfl rfl rfl (by decide +kernel) ⟨Nat.le_of_ble_eq_true rfl, Nat.le_of_ble_eq_true rfl⟩) kz_0 (by decide) rfl rfl hl.1 rfl (Nat.le_of_ble_eq_true rfl) dL_law_798 ⟨Nat.le_refl _, Nat.le_refl _⟩ (fun H locs hP hS => ?_)
  refine j_aload_n hx hb dL_law_801 rfl (lv_at hl 1 rfl) ?_
  refine lv_aload_n hx hb dL_law_802 rfl (lv_at hl 3 rfl) ?_
  refine j_iload_n hx hb dL_law_803 rfl (lv_at hl 0 rfl) ?_
  refine j_iconst hx hb dL_law_804 ?_
  refine j_iadd hx hb dL_law_805 ?_
  refine j_sld (k := 4 * t + 1) hx hb hX hbl hS ((wr_id (by omega) (by omega)).trans (by omega)) (by omega) dL_law_806 ?_
  refine lv_aload_n hx hb dL_law_807 rfl (lv_at hl 3 rfl) ?_
  refine j_iload_n hx hb dL_law_808 rfl (lv_at hl 0 rfl) ?_
  refine j_iconst hx hb dL_law_809 ?_
  refine j_iadd hx hb dL_law_810 ?_
  refine j_sld (k := 4 * t + 2) hx hb hX hbl hS ((wr_id (by omega) (by omega)).trans (by omega)) (by omega) dL_law_811 ?_
  refine jc_VI (As := [jI (xs (4 * t + 1)).toInt, jI (xs (4 * t + 2)).toInt]) (rest := [jI r]) ⟨hx, hb, hml, hown, hts⟩ hK hP hS (m_X9_turned l D s.heap.size cs N e2) (cwV 2 hts gL_law_X9_turned rfl rfl rfl (by decide +kernel) ⟨Nat.le_of_ble_eq_true rfl, Nat.le_of_ble_eq_true rfl⟩) kz_332 (by decide) rfl rfl hl.1 rfl (Nat.le_of_ble_eq_true rfl) dL_law_812 ⟨Nat.le_refl _, Nat.le_refl _⟩ (fun H locs hP hS => ?_)
  refine j_icmp_eq (A := wr r) (B := wr r2) (tgt := 1103) hx hb rfl rfl dL_law_815 (by decide) (fun q => ?_) (fun q => absurd hw q)
  exact nx _ _ _ _ hI2 hP hS hl
def ok_share (N : Nat) (I : Mm → Prop) : Prop := ∀ (μ : Mm) (y1 y2 : Int), (-2147483648 ≤ y1 ∧ y1 < 2147483648) → (-2147483648 ≤ y2 ∧ y2 < 2147483648) → I μ → ∃ (r r2 : Int), fX8_share N y1 y2 μ = some r ∧ fX9_share N y1 y2 μ = some r2 ∧ wr r = wr r2 ∧ I μ
set_option maxHeartbeats 4000000 in
set_option maxRecDepth 100000 in
theorem law_share {p : Program} {l : Launch} {e : Env} {s : State} {m : MethodId} {below : List Frame} {meth : Method} {c : Code} {b0 L : Nat} {xs : Nat → Int32} (C0 : lw_At p s m meth c b0 L xs) {D : va_G} {cs : CS} {N : Nat} {I : Mm → Prop} (ok : ok_share N I) {t : Nat} (ht : 4 * t + 4 ≤ L) (hL : L ≤ 256) {Q : State → Prop} (hK : va_K D vwCl (tyl cs) s) {μ : Mm} (hI : I μ) {H : Heap} {locs : List Loc} {ls : Array Slot} (hP : va_P D vwCl (wl s.heap.size cs μ) H) (hS : va_S (bA s.heap.size) s.heap H locs) (hl : lv_has ls 4 [(3, jI (4 * (t : Int))), (2, jR s.heap.size 332), (1, jR s.heap.size 0), (0, .ref b0)]) (nx : ∀ (μ : Mm) (H : Heap) (locs : List Loc) (ls : Array Slot), I μ → va_P D vwCl (wl s.heap.size cs μ) H → va_S (bA s.heap.size) s.heap H locs → lv_has ls 4 [(3, jI (4 * (t : Int))), (2, jR s.heap.size 332), (1, jR s.heap.size 0), (0, .ref b0)] → W p l e room_1 s m #[Value.ref b0] below meth c H locs 600000 7302250 Q (F0 m 1103 ls [])) : W p l e room_1 s m #[Value.ref b0] below meth c H locs 600000 7302250 Q (F0 m 820 ls []) := by
  obtain ⟨hx, hb, hr, hml, hown, hts0, hX, hbl, hlocks, hgv⟩ := C0
  have hts : ∀ w ∈ wsL_law, w.before #[Value.ref b0] s = true := fun w h => hts0 w (wsL_law_in w h)
  have hown : s.vm.findClass RL = some m.cls := hown
  obtain ⟨r, r2, e1, e2, hw, hI2⟩ := ok μ (xs (4 * t + 1)).toInt (xs (4 * t + 2)).toInt ⟨Int32.le_toInt _, Int32.toInt_lt _⟩ ⟨Int32.le_toInt _, Int32.toInt_lt _⟩ hI
  refine j_aload_n hx hb dL_law_820 rfl (lv_at hl 2 rfl) ?_
  refine lv_aload_n hx hb dL_law_821 rfl (lv_at hl 3 rfl) ?_
  refine j_iload_n hx hb dL_law_822 rfl (lv_at hl 0 rfl) ?_
  refine j_iconst hx hb dL_law_823 ?_
  refine j_iadd hx hb dL_law_824 ?_
  refine j_sld (k := 4 * t + 1) hx hb hX hbl hS ((wr_id (by omega) (by omega)).trans (by omega)) (by omega) dL_law_825 ?_
  refine lv_aload_n hx hb dL_law_826 rfl (lv_at hl 3 rfl) ?_
  refine j_iload_n hx hb dL_law_827 rfl (lv_at hl 0 rfl) ?_
  refine j_iconst hx hb dL_law_828 ?_
  refine j_iadd hx hb dL_law_829 ?_
  refine j_sld (k := 4 * t + 2) hx hb hX hbl hS ((wr_id (by omega) (by omega)).trans (by omega)) (by omega) dL_law_830 ?_
  refine jc_VI (As := [jI (xs (4 * t + 1)).toInt, jI (xs (4 * t + 2)).toInt]) (rest := []) ⟨hx, hb, hml, hown, hts⟩ hK hP hS (m_X8_share l D s.heap.size cs N e1) (cwV 2 hts gL_law_X8_share rfl rfl rfl (by decide +kernel) ⟨Nat.le_of_ble_eq_true rfl, Nat.le_of_ble_eq_true rfl⟩) kz_0 (by decide) rfl rfl hl.1 rfl (Nat.le_of_ble_eq_true rfl) dL_law_831 ⟨Nat.le_refl _, Nat.le_refl _⟩ (fun H locs hP hS => ?_)
  refine j_aload_n hx hb dL_law_834 rfl (lv_at hl 1 rfl) ?_
  refine lv_aload_n hx hb dL_law_835 rfl (lv_at hl 3 rfl) ?_
  refine j_iload_n hx hb dL_law_836 rfl (lv_at hl 0 rfl) ?_
  refine j_iconst hx hb dL_law_837 ?_
  refine j_iadd hx hb dL_law_838 ?_
  refine j_sld (k := 4 * t + 1) hx hb hX hbl hS ((wr_id (by omega) (by omega)).trans (by omega)) (by omega) dL_law_839 ?_
  refine lv_aload_n hx hb dL_law_840 rfl (lv_at hl 3 rfl) ?_
  refine j_iload_n hx hb dL_law_841 rfl (lv_at hl 0 rfl) ?_
  refine j_iconst hx hb dL_law_842 ?_
  refine j_iadd hx hb dL_law_843 ?_
  refine j_sld (k := 4 * t + 2) hx hb hX hbl hS ((wr_id (by omega) (by omega)).trans (by omega)) (by omega) dL_law_844 ?_
  refine jc_VI (As := [jI (xs (4 * t + 1)).toInt, jI (xs (4 * t + 2)).toInt]) (rest := [jI r]) ⟨hx, hb, hml, hown, hts⟩ hK hP hS (m_X9_share l D s.heap.size cs N e2) (cwV 2 hts gL_law_X9_share rfl rfl rfl (by decide +kernel) ⟨Nat.le_of_ble_eq_true rfl, Nat.le_of_ble_eq_true rfl⟩) kz_332 (by decide) rfl rfl hl.1 rfl (Nat.le_of_ble_eq_true rfl) dL_law_845 ⟨Nat.le_refl _, Nat.le_refl _⟩ (fun H locs hP hS => ?_)
  refine j_icmp_eq (A := wr r) (B := wr r2) (tgt := 1103) hx hb rfl rfl dL_law_848 (by decide) (fun q => ?_) (fun q => absurd hw q)
  exact nx _ _ _ _ hI2 hP hS hl
def ok_plain (N : Nat) (I : Mm → Prop) : Prop := ∀ (μ : Mm) (y1 y2 : Int), (-2147483648 ≤ y1 ∧ y1 < 2147483648) → (-2147483648 ≤ y2 ∧ y2 < 2147483648) → I μ → ∃ (r r2 : Int), fX8_plain N y1 y2 μ = some r ∧ fX9_plain N y1 y2 μ = some r2 ∧ wr r = wr r2 ∧ I μ
set_option maxHeartbeats 4000000 in
set_option maxRecDepth 100000 in
theorem law_plain {p : Program} {l : Launch} {e : Env} {s : State} {m : MethodId} {below : List Frame} {meth : Method} {c : Code} {b0 L : Nat} {xs : Nat → Int32} (C0 : lw_At p s m meth c b0 L xs) {D : va_G} {cs : CS} {N : Nat} {I : Mm → Prop} (ok : ok_plain N I) {t : Nat} (ht : 4 * t + 4 ≤ L) (hL : L ≤ 256) {Q : State → Prop} (hK : va_K D vwCl (tyl cs) s) {μ : Mm} (hI : I μ) {H : Heap} {locs : List Loc} {ls : Array Slot} (hP : va_P D vwCl (wl s.heap.size cs μ) H) (hS : va_S (bA s.heap.size) s.heap H locs) (hl : lv_has ls 4 [(3, jI (4 * (t : Int))), (2, jR s.heap.size 332), (1, jR s.heap.size 0), (0, .ref b0)]) (nx : ∀ (μ : Mm) (H : Heap) (locs : List Loc) (ls : Array Slot), I μ → va_P D vwCl (wl s.heap.size cs μ) H → va_S (bA s.heap.size) s.heap H locs → lv_has ls 4 [(3, jI (4 * (t : Int))), (2, jR s.heap.size 332), (1, jR s.heap.size 0), (0, .ref b0)] → W p l e room_1 s m #[Value.ref b0] below meth c H locs 600000 7302250 Q (F0 m 1103 ls [])) : W p l e room_1 s m #[Value.ref b0] below meth c H locs 600000 7302250 Q (F0 m 853 ls []) := by
  obtain ⟨hx, hb, hr, hml, hown, hts0, hX, hbl, hlocks, hgv⟩ := C0
  have hts : ∀ w ∈ wsL_law, w.before #[Value.ref b0] s = true := fun w h => hts0 w (wsL_law_in w h)
  have hown : s.vm.findClass RL = some m.cls := hown
  obtain ⟨r, r2, e1, e2, hw, hI2⟩ := ok μ (xs (4 * t + 1)).toInt (xs (4 * t + 2)).toInt ⟨Int32.le_toInt _, Int32.toInt_lt _⟩ ⟨Int32.le_toInt _, Int32.toInt_lt _⟩ hI
  refine j_aload_n hx hb dL_law_853 rfl (lv_at hl 2 rfl) ?_
  refine lv_aload_n hx hb dL_law_854 rfl (lv_at hl 3 rfl) ?_
  refine j_iload_n hx hb dL_law_855 rfl (lv_at hl 0 rfl) ?_
  refine j_iconst hx hb dL_law_856 ?_
  refine j_iadd hx hb dL_law_857 ?_
  refine j_sld (k := 4 * t + 1) hx hb hX hbl hS ((wr_id (by omega) (by omega)).trans (by omega)) (by omega) dL_law_858 ?_
  refine lv_aload_n hx hb dL_law_859 rfl (lv_at hl 3 rfl) ?_
  refine j_iload_n hx hb dL_law_860 rfl (lv_at hl 0 rfl) ?_
  refine j_iconst hx hb dL_law_861 ?_
  refine j_iadd hx hb dL_law_862 ?_
  refine j_sld (k := 4 * t + 2) hx hb hX hbl hS ((wr_id (by omega) (by omega)).trans (by omega)) (by omega) dL_law_863 ?_
  refine jc_VI (As := [jI (xs (4 * t + 1)).toInt, jI (xs (4 * t + 2)).toInt]) (rest := []) ⟨hx, hb, hml, hown, hts⟩ hK hP hS (m_X8_plain l D s.heap.size cs N e1) (cwV 2 hts gL_law_X8_plain rfl rfl rfl (by decide +kernel) ⟨Nat.le_of_ble_eq_true rfl, Nat.le_of_ble_eq_true rfl⟩) kz_0 (by decide) rfl rfl hl.1 rfl (Nat.le_of_ble_eq_true rfl) dL_law_864 ⟨Nat.le_refl _, Nat.le_refl _⟩ (fun H locs hP hS => ?_)
  refine j_aload_n hx hb dL_law_867 rfl (lv_at hl 1 rfl) ?_
  refine lv_aload_n hx hb dL_law_868 rfl (lv_at hl 3 rfl) ?_
  refine j_iload_n hx hb dL_law_869 rfl (lv_at hl 0 rfl) ?_
  refine j_iconst hx hb dL_law_870 ?_
  refine j_iadd hx hb dL_law_871 ?_
  refine j_sld (k := 4 * t + 1) hx hb hX hbl hS ((wr_id (by omega) (by omega)).trans (by omega)) (by omega) dL_law_872 ?_
  refine lv_aload_n hx hb dL_law_873 rfl (lv_at hl 3 rfl) ?_
  refine j_iload_n hx hb dL_law_874 rfl (lv_at hl 0 rfl) ?_
  refine j_iconst hx hb dL_law_875 ?_
  refine j_iadd hx hb dL_law_876 ?_
  refine j_sld (k := 4 * t + 2) hx hb hX hbl hS ((wr_id (by omega) (by omega)).trans (by omega)) (by omega) dL_law_877 ?_
  refine jc_VI (As := [jI (xs (4 * t + 1)).toInt, jI (xs (4 * t + 2)).toInt]) (rest := [jI r]) ⟨hx, hb, hml, hown, hts⟩ hK hP hS (m_X9_plain l D s.heap.size cs N e2) (cwV 2 hts gL_law_X9_plain rfl rfl rfl (by decide +kernel) ⟨Nat.le_of_ble_eq_true rfl, Nat.le_of_ble_eq_true rfl⟩) kz_332 (by decide) rfl rfl hl.1 rfl (Nat.le_of_ble_eq_true rfl) dL_law_878 ⟨Nat.le_refl _, Nat.le_refl _⟩ (fun H locs hP hS => ?_)
  refine j_icmp_eq (A := wr r) (B := wr r2) (tgt := 1103) hx hb rfl rfl dL_law_881 (by decide) (fun q => ?_) (fun q => absurd hw q)
  exact nx _ _ _ _ hI2 hP hS hl
def ok_see (N : Nat) (I : Mm → Prop) : Prop := ∀ (μ : Mm) (y1 y2 y3 : Int), (-2147483648 ≤ y1 ∧ y1 < 2147483648) → (-2147483648 ≤ y2 ∧ y2 < 2147483648) → (-2147483648 ≤ y3 ∧ y3 < 2147483648) → I μ → ∃ (r r2 : Int) (μ1 : Mm) (μ2 : Mm), fX8_see N y1 y2 y3 μ = some (r, μ1) ∧ fX9_see N y1 y2 y3 μ1 = some (r2, μ2) ∧ wr r = wr r2 ∧ I μ2
set_option maxHeartbeats 4000000 in
set_option maxRecDepth 100000 in
theorem law_see {p : Program} {l : Launch} {e : Env} {s : State} {m : MethodId} {below : List Frame} {meth : Method} {c : Code} {b0 L : Nat} {xs : Nat → Int32} (C0 : lw_At p s m meth c b0 L xs) {D : va_G} {cs : CS} {N : Nat} {I : Mm → Prop} (ok : ok_see N I) {t : Nat} (ht : 4 * t + 4 ≤ L) (hL : L ≤ 256) {Q : State → Prop} (hK : va_K D vwCl (tyl cs) s) {μ : Mm} (hI : I μ) {H : Heap} {locs : List Loc} {ls : Array Slot} (hP : va_P D vwCl (wl s.heap.size cs μ) H) (hS : va_S (bA s.heap.size) s.heap H locs) (hl : lv_has ls 4 [(3, jI (4 * (t : Int))), (2, jR s.heap.size 332), (1, jR s.heap.size 0), (0, .ref b0)]) (nx : ∀ (μ : Mm) (H : Heap) (locs : List Loc) (ls : Array Slot), I μ → va_P D vwCl (wl s.heap.size cs μ) H → va_S (bA s.heap.size) s.heap H locs → lv_has ls 4 [(3, jI (4 * (t : Int))), (2, jR s.heap.size 332), (1, jR s.heap.size 0), (0, .ref b0)] → W p l e room_1 s m #[Value.ref b0] below meth c H locs 600000 7302250 Q (F0 m 1103 ls [])) : W p l e room_1 s m #[Value.ref b0] below meth c H locs 600000 7302250 Q (F0 m 886 ls []) := by
  obtain ⟨hx, hb, hr, hml, hown, hts0, hX, hbl, hlocks, hgv⟩ := C0
  have hts : ∀ w ∈ wsL_law, w.before #[Value.ref b0] s = true := fun w h => hts0 w (wsL_law_in w h)
  have hown : s.vm.findClass RL = some m.cls := hown
  obtain ⟨r, r2, μ1, μ2, e1, e2, hw, hI2⟩ := ok μ (xs (4 * t + 1)).toInt (xs (4 * t + 2)).toInt (xs (4 * t + 3)).toInt ⟨Int32.le_toInt _, Int32.toInt_lt _⟩ ⟨Int32.le_toInt _, Int32.toInt_lt _⟩ ⟨Int32.le_toInt _, Int32.toInt_lt _⟩ hI
  refine j_aload_n hx hb dL_law_886 rfl (lv_at hl 2 rfl) ?_
  refine lv_aload_n hx hb dL_law_887 rfl (lv_at hl 3 rfl) ?_
  refine j_iload_n hx hb dL_law_888 rfl (lv_at hl 0 rfl) ?_
  refine j_iconst hx hb dL_law_889 ?_
  refine j_iadd hx hb dL_law_890 ?_
  refine j_sld (k := 4 * t + 1) hx hb hX hbl hS ((wr_id (by omega) (by omega)).trans (by omega)) (by omega) dL_law_891 ?_
  refine lv_aload_n hx hb dL_law_892 rfl (lv_at hl 3 rfl) ?_
  refine j_iload_n hx hb dL_law_893 rfl (lv_at hl 0 rfl) ?_
  refine j_iconst hx hb dL_law_894 ?_
  refine j_iadd hx hb dL_law_895 ?_
  refine j_sld (k := 4 * t + 2) hx hb hX hbl hS ((wr_id (by omega) (by omega)).trans (by omega)) (by omega) dL_law_896 ?_
  refine lv_aload_n hx hb dL_law_897 rfl (lv_at hl 3 rfl) ?_
  refine j_iload_n hx hb dL_law_898 rfl (lv_at hl 0 rfl) ?_
  refine j_iconst hx hb dL_law_899 ?_
  refine j_iadd hx hb dL_law_900 ?_
  refine j_sld (k := 4 * t + 3) hx hb hX hbl hS ((wr_id (by omega) (by omega)).trans (by omega)) (by omega) dL_law_901 ?_
  refine jc_VI (As := [jI (xs (4 * t + 1)).toInt, jI (xs (4 * t + 2)).toInt, jI (xs (4 * t + 3)).toInt]) (rest := []) ⟨hx, hb, hml, hown, hts⟩ hK hP hS (m_X8_see l D s.heap.size cs N e1) (cwV 3 hts gL_law_X8_see rfl rfl rfl (by decide +kernel) ⟨Nat.le_of_ble_eq_true rfl, Nat.le_of_ble_eq_true rfl⟩) kz_0 (by decide) rfl rfl hl.1 rfl (Nat.le_of_ble_eq_true rfl) dL_law_902 ⟨Nat.le_refl _, Nat.le_refl _⟩ (fun H locs hP hS => ?_)
  refine j_aload_n hx hb dL_law_905 rfl (lv_at hl 1 rfl) ?_
  refine lv_aload_n hx hb dL_law_906 rfl (lv_at hl 3 rfl) ?_
  refine j_iload_n hx hb dL_law_907 rfl (lv_at hl 0 rfl) ?_
  refine j_iconst hx hb dL_law_908 ?_
  refine j_iadd hx hb dL_law_909 ?_
  refine j_sld (k := 4 * t + 1) hx hb hX hbl hS ((wr_id (by omega) (by omega)).trans (by omega)) (by omega) dL_law_910 ?_
  refine lv_aload_n hx hb dL_law_911 rfl (lv_at hl 3 rfl) ?_
  refine j_iload_n hx hb dL_law_912 rfl (lv_at hl 0 rfl) ?_
  refine j_iconst hx hb dL_law_913 ?_
  refine j_iadd hx hb dL_law_914 ?_
  refine j_sld (k := 4 * t + 2) hx hb hX hbl hS ((wr_id (by omega) (by omega)).trans (by omega)) (by omega) dL_law_915 ?_
  refine lv_aload_n hx hb dL_law_916 rfl (lv_at hl 3 rfl) ?_
  refine j_iload_n hx hb dL_law_917 rfl (lv_at hl 0 rfl) ?_
  refine j_iconst hx hb dL_law_918 ?_
  refine j_iadd hx hb dL_law_919 ?_
  refine j_sld (k := 4 * t + 3) hx hb hX hbl hS ((wr_id (by omega) (by omega)).trans (by omega)) (by omega) dL_law_920 ?_
  refine jc_VI (As := [jI (xs (4 * t + 1)).toInt, jI (xs (4 * t + 2)).toInt, jI (xs (4 * t + 3)).toInt]) (rest := [jI r]) ⟨hx, hb, hml, hown, hts⟩ hK hP hS (m_X9_see l D s.heap.size cs N e2) (cwV 3 hts gL_law_X9_see rfl rfl rfl (by decide +kernel) ⟨Nat.le_of_ble_eq_true rfl, Nat.le_of_ble_eq_true rfl⟩) kz_332 (by decide) rfl rfl hl.1 rfl (Nat.le_of_ble_eq_true rfl) dL_law_921 ⟨Nat.le_refl _, Nat.le_refl _⟩ (fun H locs hP hS => ?_)
  refine j_icmp_eq (A := wr r) (B := wr r2) (tgt := 1103) hx hb rfl rfl dL_law_924 (by decide) (fun q => ?_) (fun q => absurd hw q)
  exact nx _ _ _ _ hI2 hP hS hl
def ok_holes (N : Nat) (I : Mm → Prop) : Prop := ∀ (μ : Mm) (y1 : Int), (-2147483648 ≤ y1 ∧ y1 < 2147483648) → I μ → ∃ (r r2 : Int), fX8_holes N y1 μ = some r ∧ fX9_holes N y1 μ = some r2 ∧ wr r = wr r2 ∧ I μ
set_option maxHeartbeats 4000000 in
set_option maxRecDepth 100000 in
theorem law_holes {p : Program} {l : Launch} {e : Env} {s : State} {m : MethodId} {below : List Frame} {meth : Method} {c : Code} {b0 L : Nat} {xs : Nat → Int32} (C0 : lw_At p s m meth c b0 L xs) {D : va_G} {cs : CS} {N : Nat} {I : Mm → Prop} (ok : ok_holes N I) {t : Nat} (ht : 4 * t + 4 ≤ L) (hL : L ≤ 256) {Q : State → Prop} (hK : va_K D vwCl (tyl cs) s) {μ : Mm} (hI : I μ) {H : Heap} {locs : List Loc} {ls : Array Slot} (hP : va_P D vwCl (wl s.heap.size cs μ) H) (hS : va_S (bA s.heap.size) s.heap H locs) (hl : lv_has ls 4 [(3, jI (4 * (t : Int))), (2, jR s.heap.size 332), (1, jR s.heap.size 0), (0, .ref b0)]) (nx : ∀ (μ : Mm) (H : Heap) (locs : List Loc) (ls : Array Slot), I μ → va_P D vwCl (wl s.heap.size cs μ) H → va_S (bA s.heap.size) s.heap H locs → lv_has ls 4 [(3, jI (4 * (t : Int))), (2, jR s.heap.size 332), (1, jR s.heap.size 0), (0, .ref b0)] → W p l e room_1 s m #[Value.ref b0] below meth c H locs 600000 7302250 Q (F0 m 1103 ls [])) : W p l e room_1 s m #[Value.ref b0] below meth c H locs 600000 7302250 Q (F0 m 929 ls []) := by
  obtain ⟨hx, hb, hr, hml, hown, hts0, hX, hbl, hlocks, hgv⟩ := C0
  have hts : ∀ w ∈ wsL_law, w.before #[Value.ref b0] s = true := fun w h => hts0 w (wsL_law_in w h)
  have hown : s.vm.findClass RL = some m.cls := hown
  obtain ⟨r, r2, e1, e2, hw, hI2⟩ := ok μ (xs (4 * t + 1)).toInt ⟨Int32.le_toInt _, Int32.toInt_lt _⟩ hI
  refine j_aload_n hx hb dL_law_929 rfl (lv_at hl 2 rfl) ?_
  refine lv_aload_n hx hb dL_law_930 rfl (lv_at hl 3 rfl) ?_
  refine j_iload_n hx hb dL_law_931 rfl (lv_at hl 0 rfl) ?_
  refine j_iconst hx hb dL_law_932 ?_
  refine j_iadd hx hb dL_law_933 ?_
  refine j_sld (k := 4 * t + 1) hx hb hX hbl hS ((wr_id (by omega) (by omega)).trans (by omega)) (by omega) dL_law_934 ?_
  refine jc_VI (As := [jI (xs (4 * t + 1)).toInt]) (rest := []) ⟨hx, hb, hml, hown, hts⟩ hK hP hS (m_X8_holes l D s.heap.size cs N e1) (cwV 1 hts gL_law_X8_holes rfl rfl rfl (by decide +kernel) ⟨Nat.le_of_ble_eq_true rfl, Nat.le_of_ble_eq_true rfl⟩) kz_0 (by decide) rfl rfl hl.1 rfl (Nat.le_of_ble_eq_true rfl) dL_law_935 ⟨Nat.le_refl _, Nat.le_refl _⟩ (fun H locs hP hS => ?_)
  refine j_aload_n hx hb dL_law_938 rfl (lv_at hl 1 rfl) ?_
  refine lv_aload_n hx hb dL_law_939 rfl (lv_at hl 3 rfl) ?_
  refine j_iload_n hx hb dL_law_940 rfl (lv_at hl 0 rfl) ?_
  refine j_iconst hx hb dL_law_941 ?_
  refine j_iadd hx hb dL_law_942 ?_
  refine j_sld (k := 4 * t + 1) hx hb hX hbl hS ((wr_id (by omega) (by omega)).trans (by omega)) (by omega) dL_law_943 ?_
  refine jc_VI (As := [jI (xs (4 * t + 1)).toInt]) (rest := [jI r]) ⟨hx, hb, hml, hown, hts⟩ hK hP hS (m_X9_holes l D s.heap.size cs N e2) (cwV 1 hts gL_law_X9_holes rfl rfl rfl (by decide +kernel) ⟨Nat.le_of_ble_eq_true rfl, Nat.le_of_ble_eq_true rfl⟩) kz_332 (by decide) rfl rfl hl.1 rfl (Nat.le_of_ble_eq_true rfl) dL_law_944 ⟨Nat.le_refl _, Nat.le_refl _⟩ (fun H locs hP hS => ?_)
  refine j_icmp_eq (A := wr r) (B := wr r2) (tgt := 1103) hx hb rfl rfl dL_law_947 (by decide) (fun q => ?_) (fun q => absurd hw q)
  exact nx _ _ _ _ hI2 hP hS hl
def ok_lookAt (N : Nat) (I : Mm → Prop) : Prop := ∀ (μ : Mm) (y1 : Int), (-2147483648 ≤ y1 ∧ y1 < 2147483648) → I μ → ∃ (r r2 : Int), fX8_lookAt N y1 μ = some r ∧ fX9_lookAt N y1 μ = some r2 ∧ wr r = wr r2 ∧ I μ
set_option maxHeartbeats 4000000 in
set_option maxRecDepth 100000 in
theorem law_lookAt {p : Program} {l : Launch} {e : Env} {s : State} {m : MethodId} {below : List Frame} {meth : Method} {c : Code} {b0 L : Nat} {xs : Nat → Int32} (C0 : lw_At p s m meth c b0 L xs) {D : va_G} {cs : CS} {N : Nat} {I : Mm → Prop} (ok : ok_lookAt N I) {t : Nat} (ht : 4 * t + 4 ≤ L) (hL : L ≤ 256) {Q : State → Prop} (hK : va_K D vwCl (tyl cs) s) {μ : Mm} (hI : I μ) {H : Heap} {locs : List Loc} {ls : Array Slot} (hP : va_P D vwCl (wl s.heap.size cs μ) H) (hS : va_S (bA s.heap.size) s.heap H locs) (hl : lv_has ls 4 [(3, jI (4 * (t : Int))), (2, jR s.heap.size 332), (1, jR s.heap.size 0), (0, .ref b0)]) (nx : ∀ (μ : Mm) (H : Heap) (locs : List Loc) (ls : Array Slot), I μ → va_P D vwCl (wl s.heap.size cs μ) H → va_S (bA s.heap.size) s.heap H locs → lv_has ls 4 [(3, jI (4 * (t : Int))), (2, jR s.heap.size 332), (1, jR s.heap.size 0), (0, .ref b0)] → W p l e room_1 s m #[Value.ref b0] below meth c H locs 600000 7302250 Q (F0 m 1103 ls [])) : W p l e room_1 s m #[Value.ref b0] below meth c H locs 600000 7302250 Q (F0 m 952 ls []) := by
  obtain ⟨hx, hb, hr, hml, hown, hts0, hX, hbl, hlocks, hgv⟩ := C0
  have hts : ∀ w ∈ wsL_law, w.before #[Value.ref b0] s = true := fun w h => hts0 w (wsL_law_in w h)
  have hown : s.vm.findClass RL = some m.cls := hown
  obtain ⟨r, r2, e1, e2, hw, hI2⟩ := ok μ (xs (4 * t + 1)).toInt ⟨Int32.le_toInt _, Int32.toInt_lt _⟩ hI
  refine j_aload_n hx hb dL_law_952 rfl (lv_at hl 2 rfl) ?_
  refine lv_aload_n hx hb dL_law_953 rfl (lv_at hl 3 rfl) ?_
  refine j_iload_n hx hb dL_law_954 rfl (lv_at hl 0 rfl) ?_
  refine j_iconst hx hb dL_law_955 ?_
  refine j_iadd hx hb dL_law_956 ?_
  refine j_sld (k := 4 * t + 1) hx hb hX hbl hS ((wr_id (by omega) (by omega)).trans (by omega)) (by omega) dL_law_957 ?_
  refine jc_VI (As := [jI (xs (4 * t + 1)).toInt]) (rest := []) ⟨hx, hb, hml, hown, hts⟩ hK hP hS (m_X8_lookAt l D s.heap.size cs N e1) (cwV 1 hts gL_law_X8_lookAt rfl rfl rfl (by decide +kernel) ⟨Nat.le_of_ble_eq_true rfl, Nat.le_of_ble_eq_true rfl⟩) kz_0 (by decide) rfl rfl hl.1 rfl (Nat.le_of_ble_eq_true rfl) dL_law_958 ⟨Nat.le_refl _, Nat.le_refl _⟩ (fun H locs hP hS => ?_)
  refine j_aload_n hx hb dL_law_961 rfl (lv_at hl 1 rfl) ?_
  refine lv_aload_n hx hb dL_law_962 rfl (lv_at hl 3 rfl) ?_
  refine j_iload_n hx hb dL_law_963 rfl (lv_at hl 0 rfl) ?_
  refine j_iconst hx hb dL_law_964 ?_
  refine j_iadd hx hb dL_law_965 ?_
  refine j_sld (k := 4 * t + 1) hx hb hX hbl hS ((wr_id (by omega) (by omega)).trans (by omega)) (by omega) dL_law_966 ?_
  refine jc_VI (As := [jI (xs (4 * t + 1)).toInt]) (rest := [jI r]) ⟨hx, hb, hml, hown, hts⟩ hK hP hS (m_X9_lookAt l D s.heap.size cs N e2) (cwV 1 hts gL_law_X9_lookAt rfl rfl rfl (by decide +kernel) ⟨Nat.le_of_ble_eq_true rfl, Nat.le_of_ble_eq_true rfl⟩) kz_332 (by decide) rfl rfl hl.1 rfl (Nat.le_of_ble_eq_true rfl) dL_law_967 ⟨Nat.le_refl _, Nat.le_refl _⟩ (fun H locs hP hS => ?_)
  refine j_icmp_eq (A := wr r) (B := wr r2) (tgt := 1103) hx hb rfl rfl dL_law_970 (by decide) (fun q => ?_) (fun q => absurd hw q)
  exact nx _ _ _ _ hI2 hP hS hl
def ok_write (N : Nat) (I : Mm → Prop) : Prop := ∀ (μ : Mm) (y1 y2 : Int), (-2147483648 ≤ y1 ∧ y1 < 2147483648) → (-2147483648 ≤ y2 ∧ y2 < 2147483648) → I μ → ∃ (r r2 : Int) (μ1 : Mm) (μ2 : Mm), fX8_write N y1 y2 μ = some (r, μ1) ∧ fX9_write N y1 y2 μ1 = some (r2, μ2) ∧ wr r = wr r2 ∧ I μ2
set_option maxHeartbeats 4000000 in
set_option maxRecDepth 100000 in
theorem law_write {p : Program} {l : Launch} {e : Env} {s : State} {m : MethodId} {below : List Frame} {meth : Method} {c : Code} {b0 L : Nat} {xs : Nat → Int32} (C0 : lw_At p s m meth c b0 L xs) {D : va_G} {cs : CS} {N : Nat} {I : Mm → Prop} (ok : ok_write N I) {t : Nat} (ht : 4 * t + 4 ≤ L) (hL : L ≤ 256) {Q : State → Prop} (hK : va_K D vwCl (tyl cs) s) {μ : Mm} (hI : I μ) {H : Heap} {locs : List Loc} {ls : Array Slot} (hP : va_P D vwCl (wl s.heap.size cs μ) H) (hS : va_S (bA s.heap.size) s.heap H locs) (hl : lv_has ls 4 [(3, jI (4 * (t : Int))), (2, jR s.heap.size 332), (1, jR s.heap.size 0), (0, .ref b0)]) (nx : ∀ (μ : Mm) (H : Heap) (locs : List Loc) (ls : Array Slot), I μ → va_P D vwCl (wl s.heap.size cs μ) H → va_S (bA s.heap.size) s.heap H locs → lv_has ls 4 [(3, jI (4 * (t : Int))), (2, jR s.heap.size 332), (1, jR s.heap.size 0), (0, .ref b0)] → W p l e room_1 s m #[Value.ref b0] below meth c H locs 600000 7302250 Q (F0 m 1103 ls [])) : W p l e room_1 s m #[Value.ref b0] below meth c H locs 600000 7302250 Q (F0 m 975 ls []) := by
  obtain ⟨hx, hb, hr, hml, hown, hts0, hX, hbl, hlocks, hgv⟩ := C0
  have hts : ∀ w ∈ wsL_law, w.before #[Value.ref b0] s = true := fun w h => hts0 w (wsL_law_in w h)
  have hown : s.vm.findClass RL = some m.cls := hown
  obtain ⟨r, r2, μ1, μ2, e1, e2, hw, hI2⟩ := ok μ (xs (4 * t + 1)).toInt (xs (4 * t + 2)).toInt ⟨Int32.le_toInt _, Int32.toInt_lt _⟩ ⟨Int32.le_toInt _, Int32.toInt_lt _⟩ hI
  refine j_aload_n hx hb dL_law_975 rfl (lv_at hl 2 rfl) ?_
  refine lv_aload_n hx hb dL_law_976 rfl (lv_at hl 3 rfl) ?_
  refine j_iload_n hx hb dL_law_977 rfl (lv_at hl 0 rfl) ?_
  refine j_iconst hx hb dL_law_978 ?_
  refine j_iadd hx hb dL_law_979 ?_
  refine j_sld (k := 4 * t + 1) hx hb hX hbl hS ((wr_id (by omega) (by omega)).trans (by omega)) (by omega) dL_law_980 ?_
  refine lv_aload_n hx hb dL_law_981 rfl (lv_at hl 3 rfl) ?_
  refine j_iload_n hx hb dL_law_982 rfl (lv_at hl 0 rfl) ?_
  refine j_iconst hx hb dL_law_983 ?_
  refine j_iadd hx hb dL_law_984 ?_
  refine j_sld (k := 4 * t + 2) hx hb hX hbl hS ((wr_id (by omega) (by omega)).trans (by omega)) (by omega) dL_law_985 ?_
  refine jc_VI (As := [jI (xs (4 * t + 1)).toInt, jI (xs (4 * t + 2)).toInt]) (rest := []) ⟨hx, hb, hml, hown, hts⟩ hK hP hS (m_X8_write l D s.heap.size cs N e1) (cwV 2 hts gL_law_X8_write rfl rfl rfl (by decide +kernel) ⟨Nat.le_of_ble_eq_true rfl, Nat.le_of_ble_eq_true rfl⟩) kz_0 (by decide) rfl rfl hl.1 rfl (Nat.le_of_ble_eq_true rfl) dL_law_986 ⟨Nat.le_refl _, Nat.le_refl _⟩ (fun H locs hP hS => ?_)
  refine j_aload_n hx hb dL_law_989 rfl (lv_at hl 1 rfl) ?_
  refine lv_aload_n hx hb dL_law_990 rfl (lv_at hl 3 rfl) ?_
  refine j_iload_n hx hb dL_law_991 rfl (lv_at hl 0 rfl) ?_
  refine j_iconst hx hb dL_law_992 ?_
  refine j_iadd hx hb dL_law_993 ?_
  refine j_sld (k := 4 * t + 1) hx hb hX hbl hS ((wr_id (by omega) (by omega)).trans (by omega)) (by omega) dL_law_994 ?_
  refine lv_aload_n hx hb dL_law_995 rfl (lv_at hl 3 rfl) ?_
  refine j_iload_n hx hb dL_law_996 rfl (lv_at hl 0 rfl) ?_
  refine j_iconst hx hb dL_law_997 ?_
  refine j_iadd hx hb dL_law_998 ?_
  refine j_sld (k := 4 * t + 2) hx hb hX hbl hS ((wr_id (by omega) (by omega)).trans (by omega)) (by omega) dL_law_999 ?_
  refine jc_VI (As := [jI (xs (4 * t + 1)).toInt, jI (xs (4 * t + 2)).toInt]) (rest := [jI r]) ⟨hx, hb, hml, hown, hts⟩ hK hP hS (m_X9_write l D s.heap.size cs N e2) (cwV 2 hts gL_law_X9_write rfl rfl rfl (by decide +kernel) ⟨Nat.le_of_ble_eq_true rfl, Nat.le_of_ble_eq_true rfl⟩) kz_332 (by decide) rfl rfl hl.1 rfl (Nat.le_of_ble_eq_true rfl) dL_law_1000 ⟨Nat.le_refl _, Nat.le_refl _⟩ (fun H locs hP hS => ?_)
  refine j_icmp_eq (A := wr r) (B := wr r2) (tgt := 1103) hx hb rfl rfl dL_law_1003 (by decide) (fun q => ?_) (fun q => absurd hw q)
  exact nx _ _ _ _ hI2 hP hS hl
def ok_judge (N : Nat) (I : Mm → Prop) : Prop := ∀ (μ : Mm), I μ → ∃ (r r2 : Int), fX8_judge N μ = some r ∧ fX9_judge N μ = some r2 ∧ wr r = wr r2 ∧ I μ
set_option maxHeartbeats 4000000 in
set_option maxRecDepth 100000 in
theorem law_judge {p : Program} {l : Launch} {e : Env} {s : State} {m : MethodId} {below : List Frame} {meth : Method} {c : Code} {b0 L : Nat} {xs : Nat → Int32} (C0 : lw_At p s m meth c b0 L xs) {D : va_G} {cs : CS} {N : Nat} {I : Mm → Prop} (ok : ok_judge N I) {t : Nat} (ht : 4 * t + 4 ≤ L) (hL : L ≤ 256) {Q : State → Prop} (hK : va_K D vwCl (tyl cs) s) {μ : Mm} (hI : I μ) {H : Heap} {locs : List Loc} {ls : Array Slot} (hP : va_P D vwCl (wl s.heap.size cs μ) H) (hS : va_S (bA s.heap.size) s.heap H locs) (hl : lv_has ls 4 [(3, jI (4 * (t : Int))), (2, jR s.heap.size 332), (1, jR s.heap.size 0), (0, .ref b0)]) (nx : ∀ (μ : Mm) (H : Heap) (locs : List Loc) (ls : Array Slot), I μ → va_P D vwCl (wl s.heap.size cs μ) H → va_S (bA s.heap.size) s.heap H locs → lv_has ls 4 [(3, jI (4 * (t : Int))), (2, jR s.heap.size 332), (1, jR s.heap.size 0), (0, .ref b0)] → W p l e room_1 s m #[Value.ref b0] below meth c H locs 600000 7302250 Q (F0 m 1103 ls [])) : W p l e room_1 s m #[Value.ref b0] below meth c H locs 600000 7302250 Q (F0 m 1008 ls []) := by
  obtain ⟨hx, hb, hr, hml, hown, hts0, hX, hbl, hlocks, hgv⟩ := C0
  have hts : ∀ w ∈ wsL_law, w.before #[Value.ref b0] s = true := fun w h => hts0 w (wsL_law_in w h)
  have hown : s.vm.findClass RL = some m.cls := hown
  obtain ⟨r, r2, e1, e2, hw, hI2⟩ := ok μ hI
  refine j_aload_n hx hb dL_law_1008 rfl (lv_at hl 2 rfl) ?_
  refine jc_VI (As := []) (rest := []) ⟨hx, hb, hml, hown, hts⟩ hK hP hS (m_X8_judge l D s.heap.size cs N e1) (cwV 0 hts gL_law_X8_judge rfl rfl rfl (by decide +kernel) ⟨Nat.le_of_ble_eq_true rfl, Nat.le_of_ble_eq_true rfl⟩) kz_0 (by decide) rfl rfl hl.1 rfl (Nat.le_of_ble_eq_true rfl) dL_law_1009 ⟨Nat.le_refl _, Nat.le_refl _⟩ (fun H locs hP hS => ?_)
  refine j_aload_n hx hb dL_law_1012 rfl (lv_at hl 1 rfl) ?_
  refine jc_VI (As := []) (rest := [jI r]) ⟨hx, hb, hml, hown, hts⟩ hK hP hS (m_X9_judge l D s.heap.size cs N e2) (cwV 0 hts gL_law_X9_judge rfl rfl rfl (by decide +kernel) ⟨Nat.le_of_ble_eq_true rfl, Nat.le_of_ble_eq_true rfl⟩) kz_332 (by decide) rfl rfl hl.1 rfl (Nat.le_of_ble_eq_true rfl) dL_law_1013 ⟨Nat.le_refl _, Nat.le_refl _⟩ (fun H locs hP hS => ?_)
  refine j_icmp_eq (A := wr r) (B := wr r2) (tgt := 1103) hx hb rfl rfl dL_law_1016 (by decide) (fun q => ?_) (fun q => absurd hw q)
  exact nx _ _ _ _ hI2 hP hS hl
def ok_tear (N : Nat) (I : Mm → Prop) : Prop := ∀ (μ : Mm), I μ → ∃ (r r2 : Int) (μ1 : Mm) (μ2 : Mm), fX8_tear N μ = some (r, μ1) ∧ fX9_tear N μ1 = some (r2, μ2) ∧ wr r = wr r2 ∧ I μ2
set_option maxHeartbeats 4000000 in
set_option maxRecDepth 100000 in
theorem law_tear {p : Program} {l : Launch} {e : Env} {s : State} {m : MethodId} {below : List Frame} {meth : Method} {c : Code} {b0 L : Nat} {xs : Nat → Int32} (C0 : lw_At p s m meth c b0 L xs) {D : va_G} {cs : CS} {N : Nat} {I : Mm → Prop} (ok : ok_tear N I) {t : Nat} (ht : 4 * t + 4 ≤ L) (hL : L ≤ 256) {Q : State → Prop} (hK : va_K D vwCl (tyl cs) s) {μ : Mm} (hI : I μ) {H : Heap} {locs : List Loc} {ls : Array Slot} (hP : va_P D vwCl (wl s.heap.size cs μ) H) (hS : va_S (bA s.heap.size) s.heap H locs) (hl : lv_has ls 4 [(3, jI (4 * (t : Int))), (2, jR s.heap.size 332), (1, jR s.heap.size 0), (0, .ref b0)]) (nx : ∀ (μ : Mm) (H : Heap) (locs : List Loc) (ls : Array Slot), I μ → va_P D vwCl (wl s.heap.size cs μ) H → va_S (bA s.heap.size) s.heap H locs → lv_has ls 4 [(3, jI (4 * (t : Int))), (2, jR s.heap.size 332), (1, jR s.heap.size 0), (0, .ref b0)] → W p l e room_1 s m #[Value.ref b0] below meth c H locs 600000 7302250 Q (F0 m 1103 ls [])) : W p l e room_1 s m #[Value.ref b0] below meth c H locs 600000 7302250 Q (F0 m 1021 ls []) := by
  obtain ⟨hx, hb, hr, hml, hown, hts0, hX, hbl, hlocks, hgv⟩ := C0
  have hts : ∀ w ∈ wsL_law, w.before #[Value.ref b0] s = true := fun w h => hts0 w (wsL_law_in w h)
  have hown : s.vm.findClass RL = some m.cls := hown
  obtain ⟨r, r2, μ1, μ2, e1, e2, hw, hI2⟩ := ok μ hI
  refine j_aload_n hx hb dL_law_1021 rfl (lv_at hl 2 rfl) ?_
  refine jc_VI (As := []) (rest := []) ⟨hx, hb, hml, hown, hts⟩ hK hP hS (m_X8_tear l D s.heap.size cs N e1) (cwV 0 hts gL_law_X8_tear rfl rfl rfl (by decide +kernel) ⟨Nat.le_of_ble_eq_true rfl, Nat.le_of_ble_eq_true rfl⟩) kz_0 (by decide) rfl rfl hl.1 rfl (Nat.le_of_ble_eq_true rfl) dL_law_1022 ⟨Nat.le_refl _, Nat.le_refl _⟩ (fun H locs hP hS => ?_)
  refine j_aload_n hx hb dL_law_1025 rfl (lv_at hl 1 rfl) ?_
  refine jc_VI (As := []) (rest := [jI r]) ⟨hx, hb, hml, hown, hts⟩ hK hP hS (m_X9_tear l D s.heap.size cs N e2) (cwV 0 hts gL_law_X9_tear rfl rfl rfl (by decide +kernel) ⟨Nat.le_of_ble_eq_true rfl, Nat.le_of_ble_eq_true rfl⟩) kz_332 (by decide) rfl rfl hl.1 rfl (Nat.le_of_ble_eq_true rfl) dL_law_1026 ⟨Nat.le_refl _, Nat.le_refl _⟩ (fun H locs hP hS => ?_)
  refine j_icmp_eq (A := wr r) (B := wr r2) (tgt := 1103) hx hb rfl rfl dL_law_1029 (by decide) (fun q => ?_) (fun q => absurd hw q)
  exact nx _ _ _ _ hI2 hP hS hl
def ok_seed (N : Nat) (I : Mm → Prop) : Prop := ∀ (μ : Mm) (y1 : Int), (-2147483648 ≤ y1 ∧ y1 < 2147483648) → I μ → ∃ (r r2 : Int) (μ1 : Mm) (μ2 : Mm), fX8_seed N y1 μ = some (r, μ1) ∧ fX9_seed N y1 μ1 = some (r2, μ2) ∧ wr r = wr r2 ∧ I μ2
set_option maxHeartbeats 4000000 in
set_option maxRecDepth 100000 in
theorem law_seed {p : Program} {l : Launch} {e : Env} {s : State} {m : MethodId} {below : List Frame} {meth : Method} {c : Code} {b0 L : Nat} {xs : Nat → Int32} (C0 : lw_At p s m meth c b0 L xs) {D : va_G} {cs : CS} {N : Nat} {I : Mm → Prop} (ok : ok_seed N I) {t : Nat} (ht : 4 * t + 4 ≤ L) (hL : L ≤ 256) {Q : State → Prop} (hK : va_K D vwCl (tyl cs) s) {μ : Mm} (hI : I μ) {H : Heap} {locs : List Loc} {ls : Array Slot} (hP : va_P D vwCl (wl s.heap.size cs μ) H) (hS : va_S (bA s.heap.size) s.heap H locs) (hl : lv_has ls 4 [(3, jI (4 * (t : Int))), (2, jR s.heap.size 332), (1, jR s.heap.size 0), (0, .ref b0)]) (nx : ∀ (μ : Mm) (H : Heap) (locs : List Loc) (ls : Array Slot), I μ → va_P D vwCl (wl s.heap.size cs μ) H → va_S (bA s.heap.size) s.heap H locs → lv_has ls 4 [(3, jI (4 * (t : Int))), (2, jR s.heap.size 332), (1, jR s.heap.size 0), (0, .ref b0)] → W p l e room_1 s m #[Value.ref b0] below meth c H locs 600000 7302250 Q (F0 m 1103 ls [])) : W p l e room_1 s m #[Value.ref b0] below meth c H locs 600000 7302250 Q (F0 m 1034 ls []) := by
  obtain ⟨hx, hb, hr, hml, hown, hts0, hX, hbl, hlocks, hgv⟩ := C0
  have hts : ∀ w ∈ wsL_law, w.before #[Value.ref b0] s = true := fun w h => hts0 w (wsL_law_in w h)
  have hown : s.vm.findClass RL = some m.cls := hown
  obtain ⟨r, r2, μ1, μ2, e1, e2, hw, hI2⟩ := ok μ (xs (4 * t + 1)).toInt ⟨Int32.le_toInt _, Int32.toInt_lt _⟩ hI
  refine j_aload_n hx hb dL_law_1034 rfl (lv_at hl 2 rfl) ?_
  refine lv_aload_n hx hb dL_law_1035 rfl (lv_at hl 3 rfl) ?_
  refine j_iload_n hx hb dL_law_1036 rfl (lv_at hl 0 rfl) ?_
  refine j_iconst hx hb dL_law_1037 ?_
  refine j_iadd hx hb dL_law_1038 ?_
  refine j_sld (k := 4 * t + 1) hx hb hX hbl hS ((wr_id (by omega) (by omega)).trans (by omega)) (by omega) dL_law_1039 ?_
  refine jc_VI (As := [jI (xs (4 * t + 1)).toInt]) (rest := []) ⟨hx, hb, hml, hown, hts⟩ hK hP hS (m_X8_seed l D s.heap.size cs N e1) (cwV 1 hts gL_law_X8_seed rfl rfl rfl (by decide +kernel) ⟨Nat.le_of_ble_eq_true rfl, Nat.le_of_ble_eq_true rfl⟩) kz_0 (by decide) rfl rfl hl.1 rfl (Nat.le_of_ble_eq_true rfl) dL_law_1040 ⟨Nat.le_refl _, Nat.le_refl _⟩ (fun H locs hP hS => ?_)
  refine j_aload_n hx hb dL_law_1043 rfl (lv_at hl 1 rfl) ?_
  refine lv_aload_n hx hb dL_law_1044 rfl (lv_at hl 3 rfl) ?_
  refine j_iload_n hx hb dL_law_1045 rfl (lv_at hl 0 rfl) ?_
  refine j_iconst hx hb dL_law_1046 ?_
  refine j_iadd hx hb dL_law_1047 ?_
  refine j_sld (k := 4 * t + 1) hx hb hX hbl hS ((wr_id (by omega) (by omega)).trans (by omega)) (by omega) dL_law_1048 ?_
  refine jc_VI (As := [jI (xs (4 * t + 1)).toInt]) (rest := [jI r]) ⟨hx, hb, hml, hown, hts⟩ hK hP hS (m_X9_seed l D s.heap.size cs N e2) (cwV 1 hts gL_law_X9_seed rfl rfl rfl (by decide +kernel) ⟨Nat.le_of_ble_eq_true rfl, Nat.le_of_ble_eq_true rfl⟩) kz_332 (by decide) rfl rfl hl.1 rfl (Nat.le_of_ble_eq_true rfl) dL_law_1049 ⟨Nat.le_refl _, Nat.le_refl _⟩ (fun H locs hP hS => ?_)
  refine j_icmp_eq (A := wr r) (B := wr r2) (tgt := 1103) hx hb rfl rfl dL_law_1052 (by decide) (fun q => ?_) (fun q => absurd hw q)
  exact nx _ _ _ _ hI2 hP hS hl
def ok_keep (N : Nat) (I : Mm → Prop) : Prop := ∀ (μ : Mm) (y1 : Int), (-2147483648 ≤ y1 ∧ y1 < 2147483648) → I μ → ∃ (r r2 : Int) (μ1 : Mm) (μ2 : Mm), fX8_keep N y1 μ = some (r, μ1) ∧ fX9_keep N y1 μ1 = some (r2, μ2) ∧ wr r = wr r2 ∧ I μ2
set_option maxHeartbeats 4000000 in
set_option maxRecDepth 100000 in
theorem law_keep {p : Program} {l : Launch} {e : Env} {s : State} {m : MethodId} {below : List Frame} {meth : Method} {c : Code} {b0 L : Nat} {xs : Nat → Int32} (C0 : lw_At p s m meth c b0 L xs) {D : va_G} {cs : CS} {N : Nat} {I : Mm → Prop} (ok : ok_keep N I) {t : Nat} (ht : 4 * t + 4 ≤ L) (hL : L ≤ 256) {Q : State → Prop} (hK : va_K D vwCl (tyl cs) s) {μ : Mm} (hI : I μ) {H : Heap} {locs : List Loc} {ls : Array Slot} (hP : va_P D vwCl (wl s.heap.size cs μ) H) (hS : va_S (bA s.heap.size) s.heap H locs) (hl : lv_has ls 4 [(3, jI (4 * (t : Int))), (2, jR s.heap.size 332), (1, jR s.heap.size 0), (0, .ref b0)]) (nx : ∀ (μ : Mm) (H : Heap) (locs : List Loc) (ls : Array Slot), I μ → va_P D vwCl (wl s.heap.size cs μ) H → va_S (bA s.heap.size) s.heap H locs → lv_has ls 4 [(3, jI (4 * (t : Int))), (2, jR s.heap.size 332), (1, jR s.heap.size 0), (0, .ref b0)] → W p l e room_1 s m #[Value.ref b0] below meth c H locs 600000 7302250 Q (F0 m 1103 ls [])) : W p l e room_1 s m #[Value.ref b0] below meth c H locs 600000 7302250 Q (F0 m 1057 ls []) := by
  obtain ⟨hx, hb, hr, hml, hown, hts0, hX, hbl, hlocks, hgv⟩ := C0
  have hts : ∀ w ∈ wsL_law, w.before #[Value.ref b0] s = true := fun w h => hts0 w (wsL_law_in w h)
  have hown : s.vm.findClass RL = some m.cls := hown
  obtain ⟨r, r2, μ1, μ2, e1, e2, hw, hI2⟩ := ok μ (xs (4 * t + 1)).toInt ⟨Int32.le_toInt _, Int32.toInt_lt _⟩ hI
  refine j_aload_n hx hb dL_law_1057 rfl (lv_at hl 2 rfl) ?_
  refine lv_aload_n hx hb dL_law_1058 rfl (lv_at hl 3 rfl) ?_
  refine j_iload_n hx hb dL_law_1059 rfl (lv_at hl 0 rfl) ?_
  refine j_iconst hx hb dL_law_1060 ?_
  refine j_iadd hx hb dL_law_1061 ?_
  refine j_sld (k := 4 * t + 1) hx hb hX hbl hS ((wr_id (by omega) (by omega)).trans (by omega)) (by omega) dL_law_1062 ?_
  refine jc_VI (As := [jI (xs (4 * t + 1)).toInt]) (rest := []) ⟨hx, hb, hml, hown, hts⟩ hK hP hS (m_X8_keep l D s.heap.size cs N e1) (cwV 1 hts gL_law_X8_keep rfl rfl rfl (by decide +kernel) ⟨Nat.le_of_ble_eq_true rfl, Nat.le_of_ble_eq_true rfl⟩) kz_0 (by decide) rfl rfl hl.1 rfl (Nat.le_of_ble_eq_true rfl) dL_law_1063 ⟨Nat.le_refl _, Nat.le_refl _⟩ (fun H locs hP hS => ?_)
  refine j_aload_n hx hb dL_law_1066 rfl (lv_at hl 1 rfl) ?_
  refine lv_aload_n hx hb dL_law_1067 rfl (lv_at hl 3 rfl) ?_
  refine j_iload_n hx hb dL_law_1068 rfl (lv_at hl 0 rfl) ?_
  refine j_iconst hx hb dL_law_1069 ?_
  refine j_iadd hx hb dL_law_1070 ?_
  refine j_sld (k := 4 * t + 1) hx hb hX hbl hS ((wr_id (by omega) (by omega)).trans (by omega)) (by omega) dL_law_1071 ?_
  refine jc_VI (As := [jI (xs (4 * t + 1)).toInt]) (rest := [jI r]) ⟨hx, hb, hml, hown, hts⟩ hK hP hS (m_X9_keep l D s.heap.size cs N e2) (cwV 1 hts gL_law_X9_keep rfl rfl rfl (by decide +kernel) ⟨Nat.le_of_ble_eq_true rfl, Nat.le_of_ble_eq_true rfl⟩) kz_332 (by decide) rfl rfl hl.1 rfl (Nat.le_of_ble_eq_true rfl) dL_law_1072 ⟨Nat.le_refl _, Nat.le_refl _⟩ (fun H locs hP hS => ?_)
  refine j_icmp_eq (A := wr r) (B := wr r2) (tgt := 1103) hx hb rfl rfl dL_law_1075 (by decide) (fun q => ?_) (fun q => absurd hw q)
  exact nx _ _ _ _ hI2 hP hS hl
def ok_goBack (N : Nat) (I : Mm → Prop) : Prop := ∀ (μ : Mm) (y1 : Int), (-2147483648 ≤ y1 ∧ y1 < 2147483648) → I μ → ∃ (r r2 : Int) (μ1 : Mm) (μ2 : Mm), fX8_goBack N y1 μ = some (r, μ1) ∧ fX9_goBack N y1 μ1 = some (r2, μ2) ∧ wr r = wr r2 ∧ I μ2
set_option maxHeartbeats 4000000 in
set_option maxRecDepth 100000 in
theorem law_goBack {p : Program} {l : Launch} {e : Env} {s : State} {m : MethodId} {below : List Frame} {meth : Method} {c : Code} {b0 L : Nat} {xs : Nat → Int32} (C0 : lw_At p s m meth c b0 L xs) {D : va_G} {cs : CS} {N : Nat} {I : Mm → Prop} (ok : ok_goBack N I) {t : Nat} (ht : 4 * t + 4 ≤ L) (hL : L ≤ 256) {Q : State → Prop} (hK : va_K D vwCl (tyl cs) s) {μ : Mm} (hI : I μ) {H : Heap} {locs : List Loc} {ls : Array Slot} (hP : va_P D vwCl (wl s.heap.size cs μ) H) (hS : va_S (bA s.heap.size) s.heap H locs) (hl : lv_has ls 4 [(3, jI (4 * (t : Int))), (2, jR s.heap.size 332), (1, jR s.heap.size 0), (0, .ref b0)]) (nx : ∀ (μ : Mm) (H : Heap) (locs : List Loc) (ls : Array Slot), I μ → va_P D vwCl (wl s.heap.size cs μ) H → va_S (bA s.heap.size) s.heap H locs → lv_has ls 4 [(3, jI (4 * (t : Int))), (2, jR s.heap.size 332), (1, jR s.heap.size 0), (0, .ref b0)] → W p l e room_1 s m #[Value.ref b0] below meth c H locs 600000 7302250 Q (F0 m 1103 ls [])) : W p l e room_1 s m #[Value.ref b0] below meth c H locs 600000 7302250 Q (F0 m 1080 ls []) := by
  obtain ⟨hx, hb, hr, hml, hown, hts0, hX, hbl, hlocks, hgv⟩ := C0
  have hts : ∀ w ∈ wsL_law, w.before #[Value.ref b0] s = true := fun w h => hts0 w (wsL_law_in w h)
  have hown : s.vm.findClass RL = some m.cls := hown
  obtain ⟨r, r2, μ1, μ2, e1, e2, hw, hI2⟩ := ok μ (xs (4 * t + 1)).toInt ⟨Int32.le_toInt _, Int32.toInt_lt _⟩ hI
  refine j_aload_n hx hb dL_law_1080 rfl (lv_at hl 2 rfl) ?_
  refine lv_aload_n hx hb dL_law_1081 rfl (lv_at hl 3 rfl) ?_
  refine j_iload_n hx hb dL_law_1082 rfl (lv_at hl 0 rfl) ?_
  refine j_iconst hx hb dL_law_1083 ?_
  refine j_iadd hx hb dL_law_1084 ?_
  refine j_sld (k := 4 * t + 1) hx hb hX hbl hS ((wr_id (by omega) (by omega)).trans (by omega)) (by omega) dL_law_1085 ?_
  refine jc_VI (As := [jI (xs (4 * t + 1)).toInt]) (rest := []) ⟨hx, hb, hml, hown, hts⟩ hK hP hS (m_X8_goBack l D s.heap.size cs N e1) (cwV 1 hts gL_law_X8_goBack rfl rfl rfl (by decide +kernel) ⟨Nat.le_of_ble_eq_true rfl, Nat.le_of_ble_eq_true rfl⟩) kz_0 (by decide) rfl rfl hl.1 rfl (Nat.le_of_ble_eq_true rfl) dL_law_1086 ⟨Nat.le_refl _, Nat.le_refl _⟩ (fun H locs hP hS => ?_)
  refine j_aload_n hx hb dL_law_1089 rfl (lv_at hl 1 rfl) ?_
  refine lv_aload_n hx hb dL_law_1090 rfl (lv_at hl 3 rfl) ?_
  refine j_iload_n hx hb dL_law_1091 rfl (lv_at hl 0 rfl) ?_
  refine j_iconst hx hb dL_law_1092 ?_
  refine j_iadd hx hb dL_law_1093 ?_
  refine j_sld (k := 4 * t + 1) hx hb hX hbl hS ((wr_id (by omega) (by omega)).trans (by omega)) (by omega) dL_law_1094 ?_
  refine jc_VI (As := [jI (xs (4 * t + 1)).toInt]) (rest := [jI r]) ⟨hx, hb, hml, hown, hts⟩ hK hP hS (m_X9_goBack l D s.heap.size cs N e2) (cwV 1 hts gL_law_X9_goBack rfl rfl rfl (by decide +kernel) ⟨Nat.le_of_ble_eq_true rfl, Nat.le_of_ble_eq_true rfl⟩) kz_332 (by decide) rfl rfl hl.1 rfl (Nat.le_of_ble_eq_true rfl) dL_law_1095 ⟨Nat.le_refl _, Nat.le_refl _⟩ (fun H locs hP hS => ?_)
  refine j_icmp_eq (A := wr r) (B := wr r2) (tgt := 1103) hx hb rfl rfl dL_law_1098 (by decide) (fun q => ?_) (fun q => absurd hw q)
  exact nx _ _ _ _ hI2 hP hS hl
