/-! ===== making: objects, rows; what the constructors need of the tables ===== -/
def q_N (U : State) : Prop := va_Nw (.methodLinkNest RX0 16 yX1_holdsNumbers RX1) U ∧ va_Nw (.methodLinkNest RX0 22 yX1_holdsThings RX1) U ∧ va_AO RX0 U
theorem q_N.same {u U : State} (h : u.vm = U.vm) (hN : q_N u) : q_N U := ⟨va_Nw.same rfl h hN.1, va_Nw.same rfl h hN.2.1, va_AO.moved (by rw [h]; exact Vm.Alike.refl U.vm) hN.2.2⟩
theorem q_N.warm {s U : State} (hW : s.WarmedH U.vm) (hN : q_N s) : q_N U := ⟨va_Nw.warmM hW hN.1, va_Nw.warmM hW hN.2.1, va_AO.moved hW.alike hN.2.2⟩
def q_PN (E : q_E) (B : Heap → Prop) (As : List Value) : Array Value → State → Prop := fun v U => v = As.toArray ∧ q_K E U ∧ q_N U ∧ B U.heap
theorem q_blindN {E : q_E} {B : Heap → Prop} {As : List Value} : FrameBlind (q_PN E B As) := fun a U g mk h => ⟨h.1, va_K.moved (u := U) (U := U.calling g mk a) (Vm.Alike.refl U.vm) h.2.1, q_N.same (u := U) (U := U.calling g mk a) rfl h.2.2.1, h.2.2.2⟩
theorem q_preN {E : q_E} {B : Heap → Prop} {As : List Value} {s : State} {H : Heap} (hK : q_K E s) (hN : q_N s) (hB : B H) : PreS s H (q_PN E B As) As := ⟨q_blindN, fun U hU hW => ⟨rfl, va_K.moved hW.alike hK, q_N.warm hW hN, by rw [hU]; exact hB⟩⟩
theorem q_preVN {E : q_E} {B : Heap → Prop} {As : List Value} {s : State} {H : Heap} {ci b : Nat} {fs : List Value} {q : vw_C} (hK : q_K E s) (hN : q_N s) (hB : B H) (ho : q_ob E ci b fs H) (hc : vwCl[ci]? = some q) : PreV s H q.1 b (q_PN E B (.ref b :: As)) As := ⟨q_blindN, va_recv (q0 := 0) hK (q_P1 ho) hc rfl, fun U hU hW => ⟨rfl, va_K.moved hW.alike hK, q_N.warm hW hN, by rw [hU]; exact hB⟩⟩
theorem q_Sgrow {A : Nat → Prop} {H0 H H1 : Heap} {locs : List Loc} (h : va_S A H0 H locs) (hz : H.size ≤ H1.size) (hq : ∀ q, q < H.size → H1[q]? = H[q]?) : va_S A H0 H1 locs := ⟨Nat.le_trans h.1 hz, fun q h1 h2 => (hq q (Nat.lt_of_lt_of_le h1 h.1)).trans (h.2.1 q h1 h2), h.2.2⟩
section QA
variable {p : Program} {l : Launch} {e : Env} {R : Room} {s : State} {m : MethodId} {args : Array Value} {below : List Frame} {meth : Method} {c : Code} {H : Heap} {locs : List Loc} {cells slots : Nat} {Q : State → Prop}
variable {cc : ByteArray} {pc : Nat} {ls : Array Slot} {rest : List Value} {E : q_E}
theorem qw_newj (hexec : p.tables.exec = Jvm.exec) (hb : c.code = cc) (harr : (Cond.arrayClass .long).before args s = true) (hK : q_K E s) {N : Nat} (hN : N ≤ 1000) (hcells : cells + 1 ≤ R.cells) (hslots : slots + N ≤ R.slots) (hdg : decode cc pc = .ok (.newarray .long, 2))
    (kk : ∀ H1 : Heap, q_ja E H.size N (fun _ => 0) H1 → H1.size = H.size + 1 → (∀ q, q < H.size → H1[q]? = H[q]?) → W p l e R s m args below meth c H1 locs (cells + 1) (slots + N) Q (F0 m (pc + 2) ls (.ref H.size :: rest))) : W p l e R s m args below meth c H locs cells slots Q (F0 m pc ls (.int (nI N) :: rest)) := by
  refine va_newaK hexec hb (atype := .long) harr rfl hdg rfl (nI_pos (by omega)) (nI_clamp (by omega)) (by show N * 8 ≤ _; omega) hcells hslots rfl fun H1 cA e1 z1 o1 hAr hNm => ?_
  have hc : cA = E.2.2.1 := Option.some.inj (hNm.symm.trans (hK.2 1 _ rfl).2)
  subst hc
  refine kk H1 ?_ z1 o1
  unfold q_ja; rw [e1, vp_cell_l]; rfl
theorem qw_newi (hexec : p.tables.exec = Jvm.exec) (hb : c.code = cc) (harr : (Cond.arrayClass .int).before args s = true) (hK : q_K E s) {N : Nat} (hN : N ≤ 1000) (hcells : cells + 1 ≤ R.cells) (hslots : slots + N ≤ R.slots) (hdg : decode cc pc = .ok (.newarray .int, 2))
    (kk : ∀ H1 : Heap, q_ia E H.size N (fun _ => 0) H1 → H1.size = H.size + 1 → (∀ q, q < H.size → H1[q]? = H[q]?) → W p l e R s m args below meth c H1 locs (cells + 1) (slots + N) Q (F0 m (pc + 2) ls (.ref H.size :: rest))) : W p l e R s m args below meth c H locs cells slots Q (F0 m pc ls (.int (nI N) :: rest)) := by
  refine va_newaK hexec hb (atype := .int) harr rfl hdg rfl (nI_pos (by omega)) (nI_clamp (by omega)) (by show N * 4 ≤ _; omega) hcells hslots rfl fun H1 cA e1 z1 o1 hAr hNm => ?_
  have hc : cA = E.2.1 := Option.some.inj (hNm.symm.trans (hK.2 0 _ rfl).2)
  subst hc
  refine kk H1 ?_ z1 o1
  unfold q_ia; rw [e1, vp_cell_i]; rfl
theorem qw_newz (hexec : p.tables.exec = Jvm.exec) (hb : c.code = cc) (harr : (Cond.arrayClass .boolean).before args s = true) (hK : q_K E s) {N : Nat} (hN : N ≤ 1000) (hcells : cells + 1 ≤ R.cells) (hslots : slots + N ≤ R.slots) (hdg : decode cc pc = .ok (.newarray .boolean, 2))
    (kk : ∀ H1 : Heap, q_za E H.size N (fun _ => 0) H1 → H1.size = H.size + 1 → (∀ q, q < H.size → H1[q]? = H[q]?) → W p l e R s m args below meth c H1 locs (cells + 1) (slots + N) Q (F0 m (pc + 2) ls (.ref H.size :: rest))) : W p l e R s m args below meth c H locs cells slots Q (F0 m pc ls (.int (nI N) :: rest)) := by
  refine va_newaK hexec hb (atype := .boolean) harr rfl hdg rfl (nI_pos (by omega)) (nI_clamp (by omega)) (by show N * 1 ≤ _; omega) hcells hslots rfl fun H1 cA e1 z1 o1 hAr hNm => ?_
  have hc : cA = E.2.2.2.1 := Option.some.inj (hNm.symm.trans (hK.2 2 _ rfl).2)
  subst hc
  refine kk H1 ?_ z1 o1
  unfold q_za; rw [e1, vp_cell_i]; rfl
theorem qw_newt (hexec : p.tables.exec = Jvm.exec) (hb : c.code = cc) {own : String} {index : Nat} (hown : s.vm.findClass own = some m.cls) (hclink : (Cond.classLink own index RX0).before args s = true) (hover : va_AO RX0 s) (hK : q_K E s) {N : Nat} (hN : N ≤ 1000) (hcells : cells + 1 ≤ R.cells) (hslots : slots + N ≤ R.slots) (hdg : decode cc pc = .ok (.anewarray index, 3))
    (kk : ∀ H1 : Heap, q_ta E H.size N (fun _ => none) H1 → H1.size = H.size + 1 → (∀ q, q < H.size → H1[q]? = H[q]?) → W p l e R s m args below meth c H1 locs (cells + 1) (slots + N) Q (F0 m (pc + 3) ls (.ref H.size :: rest))) : W p l e R s m args below meth c H locs cells slots Q (F0 m pc ls (.int (nI N) :: rest)) := by
  have hcl : (nI N).toNatClampNeg = N := nI_clamp (by omega)
  refine W.anew hexec hb hown hclink (va_AO.use hover) rfl hdg rfl (nI_pos (by omega)) (by rw [hcl]; omega) hcells (by rw [hcl]; exact hslots) fun cA kA comp f1 f2 f3 f4 => ?_
  rw [hcl]
  obtain ⟨kA', comp', -, -, -, g4⟩ := (hK.2 3 _ rfl).2
  have hc : cA = E.2.2.2.2 := Option.some.inj (f1.symm.trans g4)
  subst hc
  refine kk _ ?_ (by simp) (fun q hq => by rw [Array.getElem?_push, if_neg (Nat.ne_of_lt hq)])
  unfold q_ta
  rw [vp_cell_q, arrV_new]
  simp [va_rf]
theorem qw_newo (hexec : p.tables.exec = Jvm.exec) (hb : c.code = cc) {own C : String} {T : u_T} {N ci index : Nat} {Ts : List Cond} (hts : ∀ w ∈ Ts, w.before args s = true) (hin : ∀ w ∈ u_ws C T N, w ∈ Ts) (ty : Nat → FieldType) (hty : ∀ k, k < N → parseFieldDescriptor (T k).2.2.1 = some (ty k)) (hown : s.vm.findClass own = some m.cls) (hcl : (Cond.classLink own index C).before args s = true) (hinst : (Cond.instantiable C N).before args s = true) (hini : (Cond.initialized C).before args s = true)
    (hK : q_K E s) (hc : vwCl[ci]? = some (C, T, N)) {fs : List Value} (hfs : ∀ j, j < N → defaultValue (ty j) = vp_V fs j) (hcells : cells + 1 ≤ R.cells) (hslots : slots + N ≤ R.slots) (hdg : decode cc pc = .ok (.new index, 3))
    (kk : ∀ H1 : Heap, q_ob E ci H.size fs H1 → H1.size = H.size + 1 → (∀ q, q < H.size → H1[q]? = H[q]?) → W p l e R s m args below meth c H1 locs (cells + 1) (slots + N) Q (F0 m (pc + 3) ls (.ref H.size :: rest))) : W p l e R s m args below meth c H locs cells slots Q (F0 m pc ls rest) := by
  have hKn := hK.1 ci _ hc
  refine W.newcK hexec hb hown hcl hinst hini rfl hdg hcells hslots hKn.2.1 rfl fun H1 kC hkC e1 z1 o1 => ?_
  exact kk H1 ⟨_, hc, (u_born ty hts hin hKn hkC e1 hty).to hfs⟩ z1 o1
end QA
/-- a new thing behind its constructor -/
def q_new (E : q_E) (a k kk z : Nat) (H : Heap) : Prop := q_ob E 0 a [.int (nI k), .int (nI kk), .ref (a + 1), .ref (a + 2), .int (nI (q_am kk z)), .int (q_b false)] H ∧ q_ja E (a + 1) (q_nl kk z) (fun _ => 0) H ∧ q_ta E (a + 2) (q_pl kk z) (fun _ => none) H ∧ H.size = a + 3
def q_x0 (E : q_E) (a : Nat) (H : Heap) : Prop := q_ob E 1 a [.ref (a + 1), .int (nI 0), .int (nI 0), .int (nI 0), .int (-1), .int (-1)] H ∧ q_ta E (a + 1) 12 (fun _ => none) H ∧ H.size = a + 2
def q_s0 : q_St := (0, fun _ => 0, fun _ => 0, fun _ => false, fun _ _ => 0, fun _ _ => none, fun _ => none, nI 0, nI 0, -1, -1)
