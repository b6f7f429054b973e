/-! ===== contracts' starts and ends, and what a call goes on with ===== -/
/-- a method's start: its arguments, the tables' classes, a picture of the heap -/
def q_P (E : q_E) (B : Heap → Prop) (As : List Value) : Array Value → State → Prop := fun v U => v = As.toArray ∧ q_K E U ∧ B U.heap
theorem q_blind {E : q_E} {B : Heap → Prop} {As : List Value} : FrameBlind (q_P E B As) := fun a U g mk h => ⟨h.1, va_K.moved (u := U) (U := U.calling g mk a) (Vm.Alike.refl U.vm) h.2.1, h.2.2⟩
theorem q_pre {E : q_E} {B : Heap → Prop} {As : List Value} {s : State} {H : Heap} (hK : q_K E s) (hB : B H) : PreS s H (q_P E B As) As := ⟨q_blind, fun U hU hW => ⟨rfl, va_K.moved hW.alike hK, by rw [hU]; exact hB⟩⟩
theorem q_preV {E : q_E} {B : Heap → Prop} {As : List Value} {s : State} {H : Heap} {ci b : Nat} {fs : List Value} {q : vw_C} (hK : q_K E s) (hB : B H) (ho : q_ob E ci b fs H) (hc : vwCl[ci]? = some q) : PreV s H q.1 b (q_P E B (.ref b :: As)) As := ⟨q_blind, va_recv (q0 := 0) hK (q_P1 ho) hc rfl, fun U hU hW => ⟨rfl, va_K.moved hW.alike hK, by rw [hU]; exact hB⟩⟩
/-- a writer's end: its answer and its state are these, what isn't in A stays -/
def q_Wi (XB : q_St → Heap → Prop) (A : Nat → Prop) (r0 : Int32) (σ0 : q_St) : Array Value → State → Outcome → State → Prop := va_Qi (fun (r : Int32) (u : q_St) => r = r0 ∧ u = σ0) (fun u t => XB u t.heap) A
def q_Wl (XB : q_St → Heap → Prop) (A : Nat → Prop) (r0 : Int64) (σ0 : q_St) : Array Value → State → Outcome → State → Prop := va_Ql (fun (r : Int64) (u : q_St) => r = r0 ∧ u = σ0) (fun u t => XB u t.heap) A
def q_Wv (XB : q_St → Heap → Prop) (A : Nat → Prop) (σ0 : q_St) : Array Value → State → Outcome → State → Prop := va_Qv (fun (u : q_St) => u = σ0) (fun u t => XB u t.heap) A
def q_Wq (XB : q_St → Heap → Prop) (A : Nat → Prop) (r0 : Option Nat) (σ0 : q_St) : Array Value → State → Outcome → State → Prop := va_Qq (fun (r : Option Nat) (u : q_St) => r = r0 ∧ u = σ0) (fun u t => XB u t.heap) A
section QC
variable {p : Program} {l : Launch} {e : Env} {R : Room} {s : State} {m : MethodId} {args : Array Value} {below : List Frame} {meth : Method} {c : Code} {H : Heap} {locs : List Loc} {cells slots : Nat} {Q : State → Prop}
variable {pc : Nat} {ls : Array Slot} {rest st0 : List Value} {a : Array Value} {A : Nat → Prop} {H0 : Heap} {mc ms : Nat} {XB : q_St → Heap → Prop} {σ0 σ1 : q_St}
theorem qc_i {r0 r1 : Int32} (hr : va_Run p l e R s m args below meth c H locs cells slots mc ms (F0 m pc ls st0) rest (q_Wi XB A r0 σ0 a) A) (hS : va_S A H0 H locs) (he : r0 = r1) (hs : σ0 = σ1)
    (kk : ∀ (H1 : Heap) (locs1 : List Loc), XB σ1 H1 → va_S A H0 H1 locs1 → W p l e R s m args below meth c H1 locs1 (cells + mc) (slots + ms) Q (F0 m (pc + 3) ls (.int r1 :: rest))) : W p l e R s m args below meth c H locs cells slots Q (F0 m pc ls st0) := by
  subst he; subst hs
  refine va_calli hr hS (fun q _ h => h) (fun q h => h) (fun r u t H1 locs1 ht hvm hw hB hz hk hS1 => ?_)
  obtain ⟨rfl, rfl⟩ := hw
  rw [ht] at hB
  exact kk H1 locs1 hB hS1
theorem qc_l {r0 r1 : Int64} (hr : va_Run p l e R s m args below meth c H locs cells slots mc ms (F0 m pc ls st0) rest (q_Wl XB A r0 σ0 a) A) (hS : va_S A H0 H locs) (he : r0 = r1) (hs : σ0 = σ1)
    (kk : ∀ (H1 : Heap) (locs1 : List Loc), XB σ1 H1 → va_S A H0 H1 locs1 → W p l e R s m args below meth c H1 locs1 (cells + mc) (slots + ms) Q (F0 m (pc + 3) ls (.long r1 :: rest))) : W p l e R s m args below meth c H locs cells slots Q (F0 m pc ls st0) := by
  subst he; subst hs
  refine va_calll hr hS (fun q _ h => h) (fun q h => h) (fun r u t H1 locs1 ht hvm hw hB hz hk hS1 => ?_)
  obtain ⟨rfl, rfl⟩ := hw
  rw [ht] at hB
  exact kk H1 locs1 hB hS1
theorem qc_v (hr : va_Run p l e R s m args below meth c H locs cells slots mc ms (F0 m pc ls st0) rest (q_Wv XB A σ0 a) A) (hS : va_S A H0 H locs) (hs : σ0 = σ1)
    (kk : ∀ (H1 : Heap) (locs1 : List Loc), XB σ1 H1 → va_S A H0 H1 locs1 → W p l e R s m args below meth c H1 locs1 (cells + mc) (slots + ms) Q (F0 m (pc + 3) ls rest)) : W p l e R s m args below meth c H locs cells slots Q (F0 m pc ls st0) := by
  subst hs
  refine va_callv hr hS (fun q _ h => h) (fun q h => h) (fun u t H1 locs1 ht hvm hw hB hz hk hS1 => ?_)
  subst hw
  rw [ht] at hB
  exact kk H1 locs1 hB hS1
theorem qc_q {r0 r1 : Option Nat} (hr : va_Run p l e R s m args below meth c H locs cells slots mc ms (F0 m pc ls st0) rest (q_Wq XB A r0 σ0 a) A) (hS : va_S A H0 H locs) (he : r0 = r1) (hs : σ0 = σ1)
    (kk : ∀ (H1 : Heap) (locs1 : List Loc), XB σ1 H1 → va_S A H0 H1 locs1 → W p l e R s m args below meth c H1 locs1 (cells + mc) (slots + ms) Q (F0 m (pc + 3) ls (va_rf r1 :: rest))) : W p l e R s m args below meth c H locs cells slots Q (F0 m pc ls st0) := by
  subst he; subst hs
  refine va_callq hr hS (fun q _ h => h) (fun q h => h) (fun r u t H1 locs1 ht hvm hw hB hz hk hS1 => ?_)
  obtain ⟨rfl, rfl⟩ := hw
  rw [ht] at hB
  exact kk H1 locs1 hB hS1
theorem qc_ri {r0 r1 : Int32} (hr : CallRun p l e R s m args below meth c H locs cells slots 0 0 (F0 m pc ls st0) rest (vp_Si (fun r => r = r0) a) (fun _ => False)) (he : r0 = r1) (kk : W p l e R s m args below meth c H locs cells slots Q (F0 m (pc + 3) ls (.int r1 :: rest))) : W p l e R s m args below meth c H locs cells slots Q (F0 m pc ls st0) :=
  vp_callSi hr (fun r h => by subst h; subst he; exact kk)
theorem qc_rl {r0 r1 : Int64} (hr : CallRun p l e R s m args below meth c H locs cells slots 0 0 (F0 m pc ls st0) rest (vp_Sl (fun r => r = r0) a) (fun _ => False)) (he : r0 = r1) (kk : W p l e R s m args below meth c H locs cells slots Q (F0 m (pc + 3) ls (.long r1 :: rest))) : W p l e R s m args below meth c H locs cells slots Q (F0 m pc ls st0) :=
  vp_callSl hr (fun r h => by subst h; subst he; exact kk)
end QC
/-! ===== what a slot, a part holds: nothing, or a thing that there is ===== -/
section QS
variable {p : Program} {l : Launch} {e : Env} {R : Room} {s : State} {m : MethodId} {args : Array Value} {below : List Frame} {meth : Method} {c : Code} {H : Heap} {locs : List Loc} {cells slots : Nat} {Q : State → Prop}
variable {cc : ByteArray} {pc : Nat} {ls : Array Slot} {rest : List Value} {E : q_E} {x T0 mm S : Nat} {σ : q_St}
theorem qx_slot (hexec : p.tables.exec = Jvm.exec) (hb : c.code = cc) (hK : q_K E s) (hX : q_X E x T0 σ H) (hI : q_I σ) {j : Nat} (hj : j < 12) (hdg : decode cc pc = .ok (.aaload, 1))
    (kN : σ.2.2.2.2.2.2.1 j = none → W p l e R s m args below meth c H locs cells slots Q (F0 m (pc + 1) ls (.null :: rest)))
    (kS : ∀ k, k < σ.1 → σ.2.2.2.2.2.2.1 j = some k → W p l e R s m args below meth c H locs cells slots Q (F0 m (pc + 1) ls (.ref (T0 + 3 * k) :: rest))) : W p l e R s m args below meth c H locs cells slots Q (F0 m pc ls (.int (nI j) :: .ref (x + 1) :: rest)) := by
  refine qw_aald hexec hb hK hX.2.1 hj (by decide) hdg ?_
  cases ho : σ.2.2.2.2.2.2.1 j with
  | none => simp only [ho, q_rf]; exact kN ho
  | some k => simp only [ho, q_rf]; exact kS k (hI.2.2 j k ho) ho
theorem qx_part (hexec : p.tables.exec = Jvm.exec) (hb : c.code = cc) (hK : q_K E s) (hX : q_X E x T0 σ H) (hI : q_I σ) {k i : Nat} (hk : k < σ.1) (hi : i < q_pl (σ.2.1 k) (σ.2.2.1 k)) (hdg : decode cc pc = .ok (.aaload, 1))
    (kN : σ.2.2.2.2.2.1 k i = none → W p l e R s m args below meth c H locs cells slots Q (F0 m (pc + 1) ls (.null :: rest)))
    (kS : ∀ j, j < σ.1 → q_ok (σ.2.1 k) (σ.2.1 j) → σ.2.2.2.2.2.1 k i = some j → W p l e R s m args below meth c H locs cells slots Q (F0 m (pc + 1) ls (.ref (T0 + 3 * j) :: rest))) : W p l e R s m args below meth c H locs cells slots Q (F0 m pc ls (.int (nI i) :: .ref (T0 + 3 * k + 2) :: rest)) := by
  have hb1 : q_pl (σ.2.1 k) (σ.2.2.1 k) < 2 ^ 31 := by
    have := (hI.2.1 k hk).2.1
    unfold q_pl
    split <;> omega
  refine qw_aald hexec hb hK (hX.2.2.1 k hk).2.2 hi hb1 hdg ?_
  cases ho : σ.2.2.2.2.2.1 k i with
  | none => simp only [ho, q_rf]; exact kN ho
  | some j => simp only [ho, q_rf]; exact kS j ((hI.2.1 k hk).2.2.2 i j ho).1 ((hI.2.1 k hk).2.2.2 i j ho).2 ho
theorem qm_slot (hexec : p.tables.exec = Jvm.exec) (hb : c.code = cc) (hK : q_K E s) (hM : q_M E mm S σ H) (hI : q_I σ) {j : Nat} (hj : j < 12) (hdg : decode cc pc = .ok (.iaload, 1))
    (kN : σ.2.2.2.2.2.2.1 j = none → W p l e R s m args below meth c H locs cells slots Q (F0 m (pc + 1) ls (.int (-1) :: rest)))
    (kS : ∀ k, k < σ.1 → σ.2.2.2.2.2.2.1 j = some k → W p l e R s m args below meth c H locs cells slots Q (F0 m (pc + 1) ls (.int (nI k) :: rest))) : W p l e R s m args below meth c H locs cells slots Q (F0 m pc ls (.int (nI j) :: .ref (mm + 5) :: rest)) := by
  refine qw_iald hexec hb hK hM.2.2.2.2.2.1 hj (by decide) hdg ?_
  cases ho : σ.2.2.2.2.2.2.1 j with
  | none => simp only [ho, q_eI]; exact kN ho
  | some k => simp only [ho, q_eI]; exact kS k (hI.2.2 j k ho) ho
theorem qm_num (hexec : p.tables.exec = Jvm.exec) (hb : c.code = cc) (hK : q_K E s) (hM : q_M E mm S σ H) {k i : Nat} (hk : k < 60) (hi : i < 8) (hd : ¬ (3 ≤ σ.2.1 k ∧ σ.2.1 k < 9)) (hdg : decode cc pc = .ok (.laload, 1))
    (kk : W p l e R s m args below meth c H locs cells slots Q (F0 m (pc + 1) ls (.long (σ.2.2.2.2.1 k i) :: rest))) : W p l e R s m args below meth c H locs cells slots Q (F0 m pc ls (.int (nI (8 * k + i)) :: .ref (mm + 4) :: rest)) := by
  have e1 : (8 * k + i) / 8 = k := by omega
  have e2 : (8 * k + i) % 8 = i := by omega
  refine qw_lald hexec hb hK hM.2.2.2.2.1 (by omega) (by decide) hdg ?_
  rw [e1, e2, q_cv, if_neg hd]
  exact kk
theorem qm_part (hexec : p.tables.exec = Jvm.exec) (hb : c.code = cc) (hK : q_K E s) (hM : q_M E mm S σ H) (hI : q_I σ) {k i : Nat} (hk : k < σ.1) (hi : i < 8) (hd : 3 ≤ σ.2.1 k ∧ σ.2.1 k < 9) (hdg : decode cc pc = .ok (.laload, 1))
    (kN : σ.2.2.2.2.2.1 k i = none → W p l e R s m args below meth c H locs cells slots Q (F0 m (pc + 1) ls (.long (-1) :: rest)))
    (kS : ∀ j, j < σ.1 → q_ok (σ.2.1 k) (σ.2.1 j) → σ.2.2.2.2.2.1 k i = some j → W p l e R s m args below meth c H locs cells slots Q (F0 m (pc + 1) ls (.long (lN j) :: rest))) : W p l e R s m args below meth c H locs cells slots Q (F0 m pc ls (.int (nI (8 * k + i)) :: .ref (mm + 4) :: rest)) := by
  have h60 := hI.1
  have e1 : (8 * k + i) / 8 = k := by omega
  have e2 : (8 * k + i) % 8 = i := by omega
  refine qw_lald hexec hb hK hM.2.2.2.2.1 (by omega) (by decide) hdg ?_
  rw [e1, e2, q_cv, if_pos hd]
  cases ho : σ.2.2.2.2.2.1 k i with
  | none => simp only [q_eL]; exact kN ho
  | some j => simp only [q_eL]; exact kS j ((hI.2.1 k hk).2.2.2 i j ho).1 ((hI.2.1 k hk).2.2.2 i j ho).2 ho
end QS
