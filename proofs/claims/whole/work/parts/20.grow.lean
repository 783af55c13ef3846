/-! THE GROWING WORLD of the constructors: the cells [0, n) hold E -/
def sE (E : Nat → va_E) (a : Nat) (v : va_E) : Nat → va_E := fun x => if x = a then v else E x
def wn (b : Nat) (E : Nat → va_E) (n : Nat) : va_W := (List.range n).map (fun a => (b + a, E a))
def GW (D : va_G) (b : Nat) (E : Nat → va_E) (n : Nat) (H : Heap) : Prop := va_P D vwCl (wn b E n) H ∧ H.size = b + n
theorem sE_s (E : Nat → va_E) (a : Nat) (v : va_E) : sE E a v a = v := if_pos rfl
theorem sE_n {E : Nat → va_E} {a x : Nat} {v : va_E} (h : x ≠ a) : sE E a v x = E x := if_neg h
theorem sE_sE (E : Nat → va_E) (a : Nat) (v w : va_E) : sE (sE E a v) a w = sE E a w := by
  funext x
  unfold sE
  split <;> rfl
theorem sE_self {E : Nat → va_E} {a : Nat} {v : va_E} (h : E a = v) : sE E a v = E := by
  funext x
  unfold sE
  split
  · rename_i q; rw [q, h]
  · rfl
theorem sE_comm {E : Nat → va_E} {a c : Nat} {v w : va_E} (h : a ≠ c) : sE (sE E a v) c w = sE (sE E c w) a v := by
  funext x
  unfold sE
  by_cases h1 : x = a <;> by_cases h2 : x = c <;> simp [h1, h2]
  · exact absurd (h1.symm.trans h2) h
  · intro q; exact absurd q h
  · intro q; exact absurd q (Ne.symm h)
theorem wn_at (b : Nat) (E : Nat → va_E) {n a : Nat} (h : a < n) : (wn b E n)[a]? = some (b + a, E a) := by
  simp [wn, List.getElem?_range, h]
theorem wn_out (b : Nat) (E : Nat → va_E) {n a : Nat} (h : n ≤ a) : (wn b E n)[a]? = none := List.getElem?_eq_none (by simpa [wn] using h)
theorem wn_set (b : Nat) (E : Nat → va_E) {n a : Nat} (h : a < n) (v : va_E) : (wn b E n).set a (b + a, v) = wn b (sE E a v) n := by
  apply List.ext_getElem?
  intro i
  rcases Nat.lt_or_ge i n with q | q
  · rw [wn_at b (sE E a v) q, List.getElem?_set]
    by_cases e : a = i
    · subst e
      rw [if_pos rfl, if_pos (by simpa [wn] using h), sE_s]
    · rw [if_neg e, wn_at b E q, sE_n (Ne.symm e)]
  · rw [wn_out b _ q, List.getElem?_eq_none (by simpa [wn] using q)]
theorem wn_push (b : Nat) (E : Nat → va_E) (n : Nat) : wn b E (n + 1) = wn b E n ++ [(b + n, E n)] := by
  unfold wn
  rw [List.range_succ, List.map_append]
  rfl
theorem wn_D (b : Nat) (E : Nat → va_E) (n : Nat) : va_D (bA b) (wn b E n) := by
  have key : ∀ (i : Nat) (p : Nat × va_E), (wn b E n)[i]? = some p → i < n ∧ p.1 = b + i := by
    intro i p hp
    rcases Nat.lt_or_ge i n with q | q
    · rw [wn_at b E q] at hp
      cases hp
      exact ⟨q, rfl⟩
    · rw [wn_out b E q] at hp
      cases hp
  refine ⟨fun i j p q hi hj hpq => ?_, fun k q hk => ?_⟩
  · have h1 := (key i p hi).2
    have h2 := (key j q hj).2
    omega
  · have h1 := (key k q hk).2
    show b ≤ q.1
    omega
theorem GW.eq {D : va_G} {b : Nat} {E E2 : Nat → va_E} {n : Nat} {H : Heap} (h : GW D b E n H) (e : ∀ x, x < n → E x = E2 x) : GW D b E2 n H := by
  refine ⟨?_, h.2⟩
  have : wn b E2 n = wn b E n := by
    apply List.ext_getElem?
    intro i
    rcases Nat.lt_or_ge i n with q | q
    · rw [wn_at b E2 q, wn_at b E q, e i q]
    · rw [wn_out b E2 q, wn_out b E q]
  rw [this]
  exact h.1
/-- one more cell -/
theorem GW.push {D : va_G} {b : Nat} {E : Nat → va_E} {n : Nat} {H H1 : Heap} (h : GW D b E n H) (z : H1.size = H.size + 1) (o : ∀ q : Nat, q < H.size → H1[q]? = H[q]?) (hn : va_at D vwCl (b + n, E n) H1) : GW D b E (n + 1) H1 := by
  refine ⟨?_, by rw [z, h.2]; omega⟩
  rw [wn_push]
  refine (h.1.kept (fun k x hx => o x.1 ((h.1 k x hx).lt))).app (fun k x hx => ?_)
  have hz : k < 1 := (List.getElem?_eq_some_iff.mp hx).1
  rw [show k = 0 by omega] at hx
  cases hx
  exact hn
/-- what a constructor needs of the tables beside its words -/
def NK (U : State) : Prop := va_AO "CardBand$Weave" U ∧ va_AO "CardBand$Image" U ∧ va_Nw (.methodLinkNest RX8 9 yX4_init "CardBand") U ∧ va_Nw (.methodLinkNest RX8 18 yX7_init "CardBand") U ∧ va_Nw (.methodLinkNest RX8 35 yX3_init "CardBand") U ∧ va_Nw (.methodLinkNest RX8 48 yX5_init "CardBand") U ∧ va_Nw (.methodLinkNest RX8 56 yX2_init "CardBand") U ∧ va_Nw (.methodLinkNest RX1 17 yX7_init "CardBand") U ∧ va_Nw (.methodLinkNest RX2 9 yX7_init "CardBand") U
theorem NK.warm {s U : State} (hW : s.WarmedH U.vm) (h : NK s) : NK U := ⟨h.1.moved hW.alike, h.2.1.moved hW.alike, va_Nw.warmM hW h.2.2.1, va_Nw.warmM hW h.2.2.2.1, va_Nw.warmM hW h.2.2.2.2.1, va_Nw.warmM hW h.2.2.2.2.2.1, va_Nw.warmM hW h.2.2.2.2.2.2.1, va_Nw.warmM hW h.2.2.2.2.2.2.2.1, va_Nw.warmM hW h.2.2.2.2.2.2.2.2⟩
theorem NK.same {u U : State} (e : u.vm = U.vm) (h : NK u) : NK U := ⟨h.1.moved (e ▸ Vm.Alike.refl u.vm), h.2.1.moved (e ▸ Vm.Alike.refl u.vm), h.2.2.1.same rfl e, h.2.2.2.1.same rfl e, h.2.2.2.2.1.same rfl e, h.2.2.2.2.2.1.same rfl e, h.2.2.2.2.2.2.1.same rfl e, h.2.2.2.2.2.2.2.1.same rfl e, h.2.2.2.2.2.2.2.2.same rfl e⟩
def PG (D : va_G) (b : Nat) (cs : CS) (E : Nat → va_E) (n : Nat) (av : List Value) : Array Value → State → Prop := va_Pc av (fun U => GW D b E n U.heap ∧ va_K D vwCl (tyl cs) U ∧ NK U)
def QG (D : va_G) (b : Nat) (E : Nat → va_E) (n : Nat) : Array Value → State → Outcome → State → Prop := va_Qv (S := Unit) (fun _ => True) (fun _ t => GW D b E n t.heap) (bA b)
def MG (l : Launch) (y : MethodName) (ws : List Cond) (rm : Room) (D : va_G) (b : Nat) (cs : CS) (av : List Value) (E : Nat → va_E) (n : Nat) (E1 : Nat → va_E) (n1 mc ms : Nat) : Prop := Met l y ws rm (PG D b cs E n av) (QG D b E1 n1) mc ms (bA b)
theorem pg_blind (D : va_G) (b : Nat) (cs : CS) (E : Nat → va_E) (n : Nat) (av : List Value) : FrameBlind (PG D b cs E n av) := fun a U g mk q => by
  obtain ⟨q0, qP, qK, qN⟩ := q
  exact ⟨q0, qP, va_K.moved (u := U) (U := U.calling g mk a) (Vm.Alike.refl U.vm) qK, NK.same (u := U) (U := U.calling g mk a) rfl qN⟩
theorem pg_pre {D : va_G} {b : Nat} {cs : CS} {E : Nat → va_E} {n : Nat} {av : List Value} {s : State} {H : Heap} (hK : va_K D vwCl (tyl cs) s) (hN : NK s) (hG : GW D b E n H) : ∀ U : State, U.heap = H → s.WarmedH U.vm → PG D b cs E n av av.toArray U := fun U hU hW => ⟨rfl, by rw [hU]; exact hG, va_K.moved hW.alike hK, hN.warm hW⟩
section GROWS
variable {p : Program} {l : Launch} {e : Env} {R : Room} {s : State} {m : MethodId} {args : Array Value} {below : List Frame} {meth : Method} {c : Code} {H : Heap} {locs : List Loc} {cells slots : Nat} {Q : State → Prop}
variable {cc : ByteArray} {pc : Nat} {ls : Array Slot} {rest : List Value} {D : va_G} {b n : Nat} {cs : CS} {E E1 : Nat → va_E} {H0 : Heap} {nL : Nat}
theorem k_new (hx : p.tables.exec = Jvm.exec) (hb : c.code = cc) {own C : String} {Tf : u_T} {N ci index : Nat} {Ts : List Cond} (hts : ∀ w ∈ Ts, w.before args s = true) (hin : ∀ w ∈ u_ws C Tf N, w ∈ Ts) (ty : Nat → FieldType) (hty : ∀ k, k < N → parseFieldDescriptor (Tf k).2.2.1 = some (ty k)) (hown : s.vm.findClass own = some m.cls) (hcl : (Cond.classLink own index C).before args s = true) (hinst : (Cond.instantiable C N).before args s = true) (hini : (Cond.initialized C).before args s = true)
    (hK : va_K D vwCl (tyl cs) s) (hG : GW D b E n H) (hS : va_S (bA b) H0 H locs) (hc : vwCl[ci]? = some (C, Tf, N)) {fs : List Value} (hfs : ∀ j, j < N → defaultValue (ty j) = vp_V fs j) (hE : E n = .inr (ci, fs)) (hcells : cells + 1 ≤ R.cells) (hslots : slots + N ≤ R.slots) (hdg : decode cc pc = .ok (.new index, 3))
    (kk : ∀ (H1 : Heap), GW D b E (n + 1) H1 → va_S (bA b) H0 H1 locs → W p l e R s m args below meth c H1 locs (cells + 1) (slots + N) Q (F0 m (pc + 3) ls (jR b n :: rest))) : W p l e R s m args below meth c H locs cells slots Q (F0 m pc ls rest) := by
  have hKn := hK.1 ci _ hc
  refine W.newcK hx hb hown hcl hinst hini rfl hdg hcells hslots hKn.2.1 rfl fun H1 kC hkC e1 z1 o1 => ?_
  have hz : H.size = b + n := hG.2
  have key := kk H1 (hG.push z1 o1 (by rw [hE, ← hz]; exact ⟨_, hc, (u_born ty hts hin hKn hkC e1 hty).to hfs⟩)) ⟨Nat.le_trans hS.1 (by omega), fun x h1 h2 => (o1 x (Nat.lt_of_lt_of_le h1 hS.1)).trans (hS.2.1 x h1 h2), hS.2.2⟩
  rw [show jR b n = .ref H.size by rw [hz]; rfl] at key
  exact key
theorem cls_eq {cA cB : ClassId} {nm : String} (h1 : s.vm.findClass nm = some cA) (h2 : s.vm.findClass nm = some cB) : cA = cB := Option.some.inj (h1.symm.trans h2)
theorem k_newa (hx : p.tables.exec = Jvm.exec) (hb : c.code = cc) (harr : (Cond.arrayClass .int).before args s = true) (hK : va_K D vwCl (tyl cs) s) (hG : GW D b E n H) (hS : va_S (bA b) H0 H locs) {z : Int} {N : Nat} (hE : E n = .inl (cs.1, N, .inl (fun _ => 0))) (hz : ¬ Int32.ofInt z < 0) (hN : (Int32.ofInt z).toNatClampNeg = N) (hby : N * componentBytes .int ≤ 536870912) (hcells : cells + 1 ≤ R.cells) (hslots : slots + N ≤ R.slots) (hdg : decode cc pc = .ok (.newarray .int, 2))
    (kk : ∀ (H1 : Heap), GW D b E (n + 1) H1 → va_S (bA b) H0 H1 locs → W p l e R s m args below meth c H1 locs (cells + 1) (slots + N) Q (F0 m (pc + 2) ls (jR b n :: rest))) : W p l e R s m args below meth c H locs cells slots Q (F0 m pc ls (jI z :: rest)) := by
  refine va_newaK (atype := .int) hx hb harr rfl hdg rfl hz hN hby hcells hslots rfl fun H1 cA e1 z1 o1 hAr hNm => ?_
  have hsz : H.size = b + n := hG.2
  have hcA : cA = cs.1 := cls_eq hNm (hK.2 0 _ rfl).2
  subst hcA
  have key := kk H1 (hG.push z1 o1 (by rw [hE, ← hsz]; exact e1)) ⟨Nat.le_trans hS.1 (by omega), fun x h1 h2 => (o1 x (Nat.lt_of_lt_of_le h1 hS.1)).trans (hS.2.1 x h1 h2), hS.2.2⟩
  rw [show jR b n = .ref H.size by rw [hsz]; rfl] at key
  exact key
theorem k_newz (hx : p.tables.exec = Jvm.exec) (hb : c.code = cc) (harr : (Cond.arrayClass .boolean).before args s = true) (hK : va_K D vwCl (tyl cs) s) (hG : GW D b E n H) (hS : va_S (bA b) H0 H locs) {z : Int} {N : Nat} (hE : E n = .inl (cs.2.1, N, .inl (fun _ => 0))) (hz : ¬ Int32.ofInt z < 0) (hN : (Int32.ofInt z).toNatClampNeg = N) (hby : N * componentBytes .boolean ≤ 536870912) (hcells : cells + 1 ≤ R.cells) (hslots : slots + N ≤ R.slots) (hdg : decode cc pc = .ok (.newarray .boolean, 2))
    (kk : ∀ (H1 : Heap), GW D b E (n + 1) H1 → va_S (bA b) H0 H1 locs → W p l e R s m args below meth c H1 locs (cells + 1) (slots + N) Q (F0 m (pc + 2) ls (jR b n :: rest))) : W p l e R s m args below meth c H locs cells slots Q (F0 m pc ls (jI z :: rest)) := by
  refine va_newaK (atype := .boolean) hx hb harr rfl hdg rfl hz hN hby hcells hslots rfl fun H1 cA e1 z1 o1 hAr hNm => ?_
  have hsz : H.size = b + n := hG.2
  have hcA : cA = cs.2.1 := cls_eq hNm (hK.2 1 _ rfl).2
  subst hcA
  have key := kk H1 (hG.push z1 o1 (by rw [hE, ← hsz]; exact e1)) ⟨Nat.le_trans hS.1 (by omega), fun x h1 h2 => (o1 x (Nat.lt_of_lt_of_le h1 hS.1)).trans (hS.2.1 x h1 h2), hS.2.2⟩
  rw [show jR b n = .ref H.size by rw [hsz]; rfl] at key
  exact key
theorem k_newq (hx : p.tables.exec = Jvm.exec) (hb : c.code = cc) {own C : String} {index t0 : Nat} {cA : ClassId} (hown : s.vm.findClass own = some m.cls) (hclink : (Cond.classLink own index C).before args s = true) (hover : va_AO C s) (hK : va_K D vwCl (tyl cs) s) (ht : (tyl cs)[t0]? = some (cA, .object C)) (hG : GW D b E n H) (hS : va_S (bA b) H0 H locs) {z : Int} {N : Nat} (hE : E n = .inl (cA, N, .inr (.inr (.inr (.inr (fun _ => none)))))) (hz : ¬ Int32.ofInt z < 0) (hN : (Int32.ofInt z).toNatClampNeg = N) (hby : N * 4 ≤ 536870912) (hcells : cells + 1 ≤ R.cells) (hslots : slots + N ≤ R.slots) (hdg : decode cc pc = .ok (.anewarray index, 3))
    (kk : ∀ (H1 : Heap), GW D b E (n + 1) H1 → va_S (bA b) H0 H1 locs → W p l e R s m args below meth c H1 locs (cells + 1) (slots + N) Q (F0 m (pc + 3) ls (jR b n :: rest))) : W p l e R s m args below meth c H locs cells slots Q (F0 m pc ls (jI z :: rest)) := by
  subst hN
  refine W.anew hx hb hown hclink (va_AO.use hover (A := args)) rfl hdg rfl hz hby hcells hslots fun cA2 kA comp f1 f2 f3 f4 => ?_
  generalize hH1 : H.push ({ cls := cA2, slots := Array.replicate (Int32.ofInt z).toNatClampNeg .null, vm := .none } : Cell) = H1
  have z1 : H1.size = H.size + 1 := by rw [← hH1, Array.size_push]
  have e1 : H1[H.size]? = some (arrV cA2 (Int32.ofInt z).toNatClampNeg (fun _ => .null)) := by rw [← hH1, Array.getElem?_push_size, ← arrV_new]
  have o1 : ∀ q : Nat, q < H.size → H1[q]? = H[q]? := fun q hq => by rw [← hH1, Array.getElem?_push, if_neg (Nat.ne_of_lt hq)]
  have hsz : H.size = b + n := hG.2
  obtain ⟨-, kB, compB, -, -, -, hNm⟩ := hK.2 t0 _ ht
  have hcA : cA2 = cA := cls_eq f1 hNm
  subst hcA
  have key := kk H1 (hG.push z1 o1 (by rw [hE, ← hsz]; exact e1)) ⟨Nat.le_trans hS.1 (by omega), fun x h1 h2 => (o1 x (Nat.lt_of_lt_of_le h1 hS.1)).trans (hS.2.1 x h1 h2), hS.2.2⟩
  rw [show jR b n = .ref H.size by rw [hsz]; rfl] at key
  exact key
theorem k_putF (hx : p.tables.exec = Jvm.exec) (hb : c.code = cc) {own ref C : String} {Tf : u_T} {N ci index : Nat} {Ts : List Cond} {a : Nat} (hts : ∀ w ∈ Ts, w.before args s = true) (hin : ∀ w ∈ u_ws C Tf N, w ∈ Ts) (ty0 : Nat → FieldType) (hty : ∀ k, k < N → parseFieldDescriptor (Tf k).2.2.1 = some (ty0 k)) (hnm : ∀ a, a < N → ∀ b, b < N → a ≠ b → (Tf a).2.1 ≠ (Tf b).2.1) (hown : s.vm.findClass own = some m.cls) (hK : va_K D vwCl (tyl cs) s) (hG : GW D b E n H) (hS : va_S (bA b) H0 H locs) (han : a < n) {fs : List Value} (hE : E a = .inr (ci, fs)) (hc : vwCl[ci]? = some (C, Tf, N)) (k : Nat) (hkN : k < N) (hlink : (Cond.fieldLink own index ref (Tf k).2.1 (Tf k).2.2.1).before args s = true) (hsame : (Tf k).1 = ref) (hfin : (Tf k).2.2.2 = false ∨ ((Tf k).2.2.2 = true ∧ meth.name = "<init>" ∧ (Tf k).1 = own)) {ty : FieldType} {v : Value} (hd : parseFieldDescriptor (Tf k).2.2.1 = some ty) (hn : narrow ty v = v) (hfit : fits ty v = true) (hl : k < fs.length) (hdg : decode cc pc = .ok (.putfield index, 3)) (hE1 : sE E a (.inr (ci, fs.set k v)) = E1) (kk : ∀ (H1 : Heap) (locs1 : List Loc), GW D b E1 n H1 → va_S (bA b) H0 H1 locs1 → W p l e R s m args below meth c H1 locs1 cells slots Q (F0 m (pc + 3) ls rest)) : W p l e R s m args below meth c H locs cells slots Q (F0 m pc ls (v :: jR b a :: rest)) := by
  have hat := wn_at b E han
  rw [hE] at hat
  subst hE1
  have hap := va_apart (own := own) hts hin ty0 hty hnm hK hc
  obtain ⟨r, h1, cell, q1, q2, q3, q4⟩ := hG.1 a _ hat
  have hr : r = (C, Tf, N) := Option.some.inj (h1.symm.trans hc)
  subst hr
  obtain ⟨hSl, hfc, kC, hkC, hkind⟩ := hK.1 ci _ hc
  obtain ⟨cf, kf, fi, f, hi, hsl⟩ := hSl k hkN
  have hlay := hts _ (hin _ (u_in_lay hkN))
  unfold u_lay at hlay
  have hst := (u_facts hfc hkC (u_lays hts hin hkN) hi).1
  have fin : ∀ H1 : Heap, H1[b + a]? = some (cell.setSlot f.slot v) → H1.size = H.size → (∀ q : Nat, q ≠ b + a → H1[q]? = H[q]?) → GW D b (sE E a (.inr (ci, fs.set k v))) n H1 := by
    intro H1 e1 e2 e3
    rw [hsl] at e1
    refine ⟨?_, by rw [e2]; exact hG.2⟩
    have hp := hG.1.set (wn_D b E n) hat (e := .inr (ci, fs.set k v)) ⟨_, hc, t_OB.to (V := updV (vp_V fs) k v) ⟨_, e1, q2, q3, t_set q4 hap hkN v⟩ (fun j _ => vp_updV_set hl v j)⟩ e3
    rw [wn_set b E han] at hp
    exact hp
  rcases hfin with hf | ⟨hf, hin2, hdecl⟩
  · rw [if_neg (by rw [hf]; decide)] at hlay
    have h6 := u_store hfc hkC hkind hlay hi hd hn hfit
    refine W.putK hx hb (f := f) ⟨hown, hlink, ⟨_, _, _, (by rw [← hsame]; exact hi)⟩, hst⟩ (by rw [q2]; exact h6) q1 q3 (by rw [hsl]; exact k2_hasslot (q4 k hkN)) rfl rfl hdg fun H' e1 e2 e3 => ?_
    exact kk H' _ (fin H' e1 e2 e3) (hS.put e2 e3 (Nat.le_add_right b a))
  · rw [if_pos hf] at hlay
    have hcf : m.cls = cf := by
      obtain ⟨_, _, c2, _, _, _, -, -, hf2, -, -, -, hown2, -⟩ := Cond.laysFinal_spec hlay
      have e1 : c2 = cf := by have := hi.symm.trans hf2; simp at this; exact this.1.symm
      rw [hdecl] at hown2
      rw [← e1]; exact Option.some.inj (hown.symm.trans hown2)
    have h6 := u_fits hfc hkC hkind (Or.inr hlay) hi hd hn hfit
    refine W.putFinK hx hb hown hlink (by rw [← hsame]; exact hi) hst hcf hin2 (by rw [q2]; exact h6) q1 q3 (by rw [hsl]; exact k2_hasslot (q4 k hkN)) rfl rfl hdg fun H' e1 e2 e3 => ?_
    exact kk H' _ (fin H' e1 e2 e3) (hS.put e2 e3 (Nat.le_add_right b a))
theorem k_get (hx : p.tables.exec = Jvm.exec) (hb : c.code = cc) {own ref C : String} {Tf : u_T} {N ci index : Nat} {Ts : List Cond} {a : Nat} (hts : ∀ w ∈ Ts, w.before args s = true) (hin : ∀ w ∈ u_ws C Tf N, w ∈ Ts) (hown : s.vm.findClass own = some m.cls) (hK : va_K D vwCl (tyl cs) s) (hG : GW D b E n H) (han : a < n) {fs : List Value} (hE : E a = .inr (ci, fs)) (hc : vwCl[ci]? = some (C, Tf, N)) (k : Nat) (hkN : k < N) (hlink : (Cond.fieldLink own index ref (Tf k).2.1 (Tf k).2.2.1).before args s = true) (hsame : (Tf k).1 = ref) {v : Value} (hv : fs[k]? = some v) (hdg : decode cc pc = .ok (.getfield index, 3)) (kk : W p l e R s m args below meth c H locs cells slots Q (F0 m (pc + 3) ls (v :: rest))) : W p l e R s m args below meth c H locs cells slots Q (F0 m pc ls (jR b a :: rest)) := by
  have hat := wn_at b E han
  rw [hE] at hat
  exact va_get hx hb hts hin hown hK hG.1 a hat hc k hkN hlink (fun x hx9 => by rw [← hsame]; exact hx9) hv hdg kk
theorem k_alen (hx : p.tables.exec = Jvm.exec) (hb : c.code = cc) (hK : va_K D vwCl (tyl cs) s) (hG : GW D b E n H) {a t0 : Nat} {cA : ClassId} {x : vp_A} {ty : FieldType} {z : Int} (han : a < n) (hE : E a = .inl (cA, x)) (ht : (tyl cs)[t0]? = some (cA, ty)) (hz : Int32.ofNat x.1 = Int32.ofInt z) (hdg : decode cc pc = .ok (.arraylength, 1)) (kk : W p l e R s m args below meth c H locs cells slots Q (F0 m (pc + 1) ls (jI z :: rest))) : W p l e R s m args below meth c H locs cells slots Q (F0 m pc ls (jR b a :: rest)) := by
  have hat := wn_at b E han
  rw [hE] at hat
  exact va_alen hx hb hK hG.1 a t0 hat ht (v := Int32.ofInt z) hz hdg kk
theorem k_ast (hx : p.tables.exec = Jvm.exec) (hb : c.code = cc) (hK : va_K D vwCl (tyl cs) s) (hG : GW D b E n H) (hS : va_S (bA b) H0 H locs) {a t0 ci v N : Nat} {cA : ClassId} {r : vw_C} {vs : List Value} {f : Nat → Option Nat} (han : a < n) (hE : E a = .inl (cA, N, .inr (.inr (.inr (.inr f))))) (ht : (tyl cs)[t0]? = some (cA, .object r.1)) (hvn : v < n) (hV : E v = .inr (ci, vs)) (hc : vwCl[ci]? = some r) {z : Int} (hin : vp_in (Int32.ofInt z) N) (hdg : decode cc pc = .ok (.aastore, 1)) (hE1 : sE E a (.inl (cA, N, .inr (.inr (.inr (.inr (va_up f (Int32.ofInt z).toNatClampNeg (some (b + v)))))))) = E1) (kk : ∀ (H1 : Heap) (locs1 : List Loc), GW D b E1 n H1 → va_S (bA b) H0 H1 locs1 → W p l e R s m args below meth c H1 locs1 cells slots Q (F0 m (pc + 1) ls rest)) : W p l e R s m args below meth c H locs cells slots Q (F0 m pc ls (jR b v :: jI z :: jR b a :: rest)) := by
  have hat := wn_at b E han
  rw [hE] at hat
  have hatv := wn_at b E hvn
  rw [hV] at hatv
  subst hE1
  have hlt : (Int32.ofInt z).toNatClampNeg < N := Nat.not_le.mp fun q => hin (Or.inr q)
  have h0 : ¬ Int32.ofInt z < 0 := fun q => hin (Or.inl q)
  obtain ⟨r', hr', cellV, g1, g2, g3, -⟩ := hG.1 v _ hatv
  have hcls := (hK.1 ci r hc).2
  obtain ⟨kA, comp, k1, k2, k3, -⟩ := (hK.2 t0 _ ht).2
  have hcomp : comp = D.1 ci := Option.some.inj (k3.symm.trans hcls.1)
  subst hcomp
  obtain ⟨kC, hkC, -⟩ := hcls.2
  refine W.aast hx hb (hG.1 a _ hat) (fun q h => by cases h) (fun h => by cases h) k1 k2 rfl hkC ⟨h0, by show _ < (arrV _ _ _).slots.size; rw [arrV_size]; exact hlt⟩ g1 (fun q h => by rw [g3] at h; cases h) (by rw [g2]; exact hkC) (by rw [g2]; exact va_assign hcls) rfl rfl hdg fun H1 e z1 oq => ?_
  have hp := hG.1.set (wn_D b E n) hat (e := .inl (cA, N, .inr (.inr (.inr (.inr (va_up f (Int32.ofInt z).toNatClampNeg (some (b + v)))))))) ?_ oq
  · rw [wn_set b E han] at hp
    exact kk H1 _ ⟨hp, by rw [z1]; exact hG.2⟩ (hS.put z1 oq (Nat.le_add_right b a))
  · show H1[b + a]? = some (vp_cell cA (N, .inr (.inr (.inr (.inr (va_up f (Int32.ofInt z).toNatClampNeg (some (b + v))))))))
    rw [e]
    rw [vp_cell_q, vp_cell_q, arrV_store]
    congr 2
    funext q
    by_cases hq : q = (Int32.ofInt z).toNatClampNeg
    · subst hq
      simp [updV, va_up, va_rf, jR]
    · simp [updV, va_up, hq]
theorem k_obj (hx : p.tables.exec = Jvm.exec) (hb : c.code = cc) {own : String} {idx : Nat} (hown : s.vm.findClass own = some m.cls) (hlink : (Cond.methodLink own idx Lib.objectInit).before args s = true) (hinst : (Cond.instanceMethod Lib.objectInit).before args s = true) (hcode : (Cond.code Lib.objectInit ⟨#[0xb1]⟩ 1 none).before args s = true) {nl : Nat} (hml : c.maxLocals = nl) (hsz : ls.size = nl) {a : Nat} (hW : (rest.map fun v => v.category).sum ≤ 8) (hd : decode cc pc = .ok (.invokespecial idx, 3)) (hfr : 1 ≤ R.frames) (hlo : 20 ≤ R.locals) (kk : W p l e R s m args below meth c H locs cells slots Q (F0 m (pc + 3) ls rest)) : W p l e R s m args below meth c H locs cells slots Q (F0 m pc ls (jR b a :: rest)) :=
  W.objInit hx hb hown hlink hinst hcode rfl (hsz.trans hml.symm) rfl hd hfr (by have := lv_room (pc := pc) (ls := ls) (m := m) (rest := jR b a :: rest) (st := rest) hW; omega) kk
theorem k_init {y : MethodName} {bytes : ByteArray} {maxL mc ms index a n2 : Nat} {ws : List Cond} {rm : Room} {Ts : List Cond} {own : String} {st : List Value} (F : CallFix p m c cc nL s args Ts own) (hK : va_K D vwCl (tyl cs) s) (hN : NK s) (hG : GW D b E n H) (hS : va_S (bA b) H0 H locs) (hM : MG l y ws rm D b cs [jR b a] E n E1 n2 mc ms) (cw : CallB R s args own index y bytes maxL none ws rm mc ms 0 ∧ y.name = "<init>" ∧ (Cond.instanceMethod y).before args s = true) (hsz : ls.size = nL) (hst : st = jR b a :: rest) (hW : (rest.map fun v => v.category).sum ≤ 8) (hdg : decode cc pc = .ok (.invokespecial index, 3)) (hcs : cells + mc ≤ R.cells ∧ slots + ms ≤ R.slots) (kk : ∀ (H1 : Heap) (locs1 : List Loc), GW D b E1 n2 H1 → va_S (bA b) H0 H1 locs1 → W p l e R s m args below meth c H1 locs1 (cells + mc) (slots + ms) Q (F0 m (pc + 3) ls rest)) : W p l e R s m args below meth c H locs cells slots Q (F0 m pc ls st) := by
  refine va_callv (va_runI (As := []) (rest := rest) F hM cw ⟨pg_blind D b cs E n _, pg_pre hK hN hG⟩ rfl rfl hsz hst (lv_room hW) hdg hcs) hS (fun _ _ h => h) (fun _ h => h) (fun u t H1 locs1 ht hvm hw hB hz hk1 hS1 => ?_)
  have hB : GW D b E1 n2 t.heap := hB
  rw [ht] at hB
  exact kk H1 locs1 hB hS1
theorem k_initN {y : MethodName} {host : String} {bytes : ByteArray} {maxL mc ms index a n2 : Nat} {ws : List Cond} {rm : Room} {Ts : List Cond} {own : String} {st : List Value} (F : CallFix p m c cc nL s args Ts own) (hK : va_K D vwCl (tyl cs) s) (hN : NK s) (hG : GW D b E n H) (hS : va_S (bA b) H0 H locs) (hM : MG l y ws rm D b cs [jR b a] E n E1 n2 mc ms) (cw : va_CN R s args own index y host bytes maxL none ws rm mc ms 0 ∧ y.name = "<init>" ∧ (Cond.instanceMethod y).before args s = true) (hsz : ls.size = nL) (hst : st = jR b a :: rest) (hW : (rest.map fun v => v.category).sum ≤ 8) (hdg : decode cc pc = .ok (.invokespecial index, 3)) (hcs : cells + mc ≤ R.cells ∧ slots + ms ≤ R.slots) (kk : ∀ (H1 : Heap) (locs1 : List Loc), GW D b E1 n2 H1 → va_S (bA b) H0 H1 locs1 → W p l e R s m args below meth c H1 locs1 (cells + mc) (slots + ms) Q (F0 m (pc + 3) ls rest)) : W p l e R s m args below meth c H locs cells slots Q (F0 m pc ls st) := by
  refine va_callv (va_runIN (As := []) (rest := rest) F hM cw ⟨pg_blind D b cs E n _, pg_pre hK hN hG⟩ rfl rfl hsz hst (lv_room hW) hdg hcs) hS (fun _ _ h => h) (fun _ h => h) (fun u t H1 locs1 ht hvm hw hB hz hk1 hS1 => ?_)
  have hB : GW D b E1 n2 t.heap := hB
  rw [ht] at hB
  exact kk H1 locs1 hB hS1
theorem met_inG {y : MethodName} {ws ws2 : List Cond} {rm : Room} {maxL : Nat} {av : List Value} {Qc : Array Value → State → Outcome → State → Prop} {lv0 : List (Nat × Value)} {mc ms : Nat} (hy : plainFor y = true) (hw : ws = Cond.code y cc maxL none :: ws2) (hsz : (lg_sl av).length ≤ maxL) (hv : lv_args 0 av = lv0)
    (body : ∀ p e s m args below meth c, p.tables.exec = Jvm.exec → c.code = cc → meth.sig.returnType = none → meth.locks = false → c.maxLocals = maxL → s.vm.findClass y.cls = some m.cls → meth.name = y.name → (∀ w ∈ ws, w.before args s = true) → GW D b E n s.heap → va_K D vwCl (tyl cs) s → NK s → ∀ ls : Array Slot, lv_has ls maxL lv0 → W p l e rm s m args below meth c s.heap [] 0 0 (MQ below Qc args s mc ms (bA b)) (F0 m 0 ls [])) : Met l y ws rm (PG D b cs E n av) Qc mc ms (bA b) := by
  refine MetFree.of_bodySF (code := cc) (maxLocals := maxL) (ret := none) hy ?_ ?_
  · intro args s m h hn
    obtain ⟨meth, c, h1, h2, h3, h4, h5, h6, -, -⟩ := Cond.code_spec hn (atoms_spec (ws := ws) h _ (by rw [hw]; exact List.mem_cons_self))
    exact ⟨meth, c, h1, h2, h3, h4, h5, h6⟩
  intro p e s m args below meth c s₁ B hml hv2 _
  have hh0 : s₁.heap = s.heap := by rw [B.state]; rfl
  obtain ⟨rfl, hP, hK, hN⟩ := hv2
  have hl := lv_entry av (n := maxL) hsz
  rw [lg_entry_eq]
  rw [hv] at hl
  have key := body p e s m _ below meth c B.exec B.bytes B.returns B.notSynchronized hml (findClass_of_methodNamed B.named) (name_of_methodNamed B.named B.method).1 (atoms_spec (ws := ws) B.pre) hP hK hN _ hl
  obtain ⟨t, a1, o, b1, b2, b3⟩ := key s₁ hh0 (Stand.of_body B)
  exact ⟨t, o, a1, b1, b2, ⟨b3.1, b3.2⟩⟩
theorem k_ret (hx : p.tables.exec = Jvm.exec) (hb : c.code = cc) (hG : GW D b E n H) (hS : va_S (bA b) s.heap H locs) (hr : meth.sig.returnType = none) (hlk : meth.locks = false) {mc ms : Nat} (hc : cells = mc) (hs : slots = ms) (hdg : decode cc pc = .ok (.return_, 1)) : W p l e R s m args below meth c H locs cells slots (MQ below (QG D b E n) args s mc ms (bA b)) (F0 m pc ls []) := by
  subst hc; subst hs
  exact W.vret hx hb hr (fun t ht hW => ⟨⟨(), rfl, trivial, by show GW D b E n t.heap; rw [ht]; exact hG⟩, hS.F ht⟩) hS.2.2 hdg hlk
end GROWS