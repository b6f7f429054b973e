/-! ===== more rows and words for the walks ===== -/
section QR
variable {p : Program} {l : Launch} {e : Env} {R : Room} {s : State} {m : MethodId} {args : Array Value} {below : List Frame} {meth : Method} {c : Code} {H : Heap} {locs : List Loc} {cells slots : Nat} {Q : State → Prop}
variable {cc : ByteArray} {pc : Nat} {ls : Array Slot} {rest : List Value} {E : q_E} {x T0 mm S : Nat} {σ : q_St}
theorem ln_ladd (hexec : p.tables.exec = Jvm.exec) (hb : c.code = cc) {a b : Nat} (hdg : decode cc pc = .ok (.ladd, 1)) (k : W p l e R s m args below meth c H locs cells slots Q (F0 m (pc + 1) ls (.long (lN (a + b)) :: rest))) : W p l e R s m args below meth c H locs cells slots Q (F0 m pc ls (.long (lN b) :: .long (lN a) :: rest)) := lv_ladd hexec hb hdg (by rw [lN_add]; exact k)
theorem qx_slotN (hexec : p.tables.exec = Jvm.exec) (hb : c.code = cc) (hK : q_K E s) (hX : q_X E x T0 σ H) {j : Nat} (h : σ.2.2.2.2.2.2.1 j = none) (hj : j < 12) (hdg : decode cc pc = .ok (.aaload, 1))
    (kk : W p l e R s m args below meth c H locs cells slots Q (F0 m (pc + 1) ls (.null :: rest))) : W p l e R s m args below meth c H locs cells slots Q (F0 m pc ls (.int (nI j) :: .ref (x + 1) :: rest)) := by
  refine qw_aald hexec hb hK hX.2.1 hj (by decide) hdg ?_
  simp only [h, q_rf]; exact kk
theorem qx_slotS (hexec : p.tables.exec = Jvm.exec) (hb : c.code = cc) (hK : q_K E s) (hX : q_X E x T0 σ H) {j k : Nat} (h : σ.2.2.2.2.2.2.1 j = some k) (hj : j < 12) (hdg : decode cc pc = .ok (.aaload, 1))
    (kk : W p l e R s m args below meth c H locs cells slots Q (F0 m (pc + 1) ls (.ref (T0 + 3 * k) :: rest))) : W p l e R s m args below meth c H locs cells slots Q (F0 m pc ls (.int (nI j) :: .ref (x + 1) :: rest)) := by
  refine qw_aald hexec hb hK hX.2.1 hj (by decide) hdg ?_
  simp only [h, q_rf]; exact kk
theorem qm_slotN (hexec : p.tables.exec = Jvm.exec) (hb : c.code = cc) (hK : q_K E s) (hM : q_M E mm S σ H) {j : Nat} (h : σ.2.2.2.2.2.2.1 j = none) (hj : j < 12) (hdg : decode cc pc = .ok (.iaload, 1))
    (kk : W p l e R s m args below meth c H locs cells slots Q (F0 m (pc + 1) ls (.int (-1) :: rest))) : W p l e R s m args below meth c H locs cells slots Q (F0 m pc ls (.int (nI j) :: .ref (mm + 5) :: rest)) := by
  refine qw_iald hexec hb hK hM.2.2.2.2.2.1 hj (by decide) hdg ?_
  simp only [h, q_eI]; exact kk
theorem qm_slotS (hexec : p.tables.exec = Jvm.exec) (hb : c.code = cc) (hK : q_K E s) (hM : q_M E mm S σ H) {j k : Nat} (h : σ.2.2.2.2.2.2.1 j = some k) (hj : j < 12) (hdg : decode cc pc = .ok (.iaload, 1))
    (kk : W p l e R s m args below meth c H locs cells slots Q (F0 m (pc + 1) ls (.int (nI k) :: rest))) : W p l e R s m args below meth c H locs cells slots Q (F0 m pc ls (.int (nI j) :: .ref (mm + 5) :: rest)) := by
  refine qw_iald hexec hb hK hM.2.2.2.2.2.1 hj (by decide) hdg ?_
  simp only [h, q_eI]; exact kk
end QR
theorem q_nl_le (a b : Nat) : q_nl a b ≤ b := by unfold q_nl; split <;> omega
theorem q_pl_le (a b : Nat) : q_pl a b ≤ b := by unfold q_pl; split <;> omega
theorem q_am_le (a b : Nat) : q_am a b ≤ b := by unfold q_am; split <;> omega
theorem q_am9 {a b : Nat} (h : 9 ≤ a) : q_am a b = b := by unfold q_am; rw [if_neg (by omega)]
theorem q_nl3 {a b : Nat} (h : a < 3) : q_nl a b = b := by unfold q_nl; rw [if_pos h]
theorem q_pl39 {a b : Nat} (h : 3 ≤ a) (h2 : a < 9) : q_pl a b = b := by unfold q_pl; rw [if_pos ⟨h, h2⟩]
theorem q_pl0' {a b : Nat} (h : ¬ (3 ≤ a ∧ a < 9)) : q_pl a b = 0 := by unfold q_pl; rw [if_neg h]
theorem q_w_le {kd sz : Nat → Nat} {sh : Nat → Bool} {t : Nat} (h : sz t ≤ 1000000) : q_w kd sz sh t ≤ 2000000 := by unfold q_w; split; omega; split <;> omega
theorem q_ld_le {kd sz : Nat → Nat} {sh : Nat → Bool} {b : Bool} {t : Nat} (h : sz t ≤ 1000000) : q_ld kd sz sh b t ≤ 2000000 := by
  unfold q_ld
  split
  · split <;> omega
  · exact q_w_le h
theorem q_su_n {f : Nat → Nat} {p : Nat → Option Nat} {i : Nat} (h : p i = none) : q_su f p (i + 1) = q_su f p i := by simp [q_su, h]
theorem q_su_s {f : Nat → Nat} {p : Nat → Option Nat} {i j : Nat} (h : p i = some j) : q_su f p (i + 1) = q_su f p i + f j := by simp [q_su, h]
theorem q_su_le {f : Nat → Nat} {p : Nat → Option Nat} {B : Nat} (h : ∀ i j, p i = some j → f j ≤ B) : ∀ m, q_su f p m ≤ B * m := by
  intro m
  induction m with
  | zero => simp [q_su]
  | succ m ih =>
    rw [Nat.mul_succ]
    cases hp : p m with
    | none => rw [q_su_n hp]; omega
    | some j => rw [q_su_s hp]; have := h m j hp; omega
theorem q_gs_n {f : Nat → Int32} {p : Nat → Option Nat} {i : Nat} (h : p i = none) : q_gs f p (i + 1) = q_gs f p i := by simp [q_gs, h]
theorem q_gs_s {f : Nat → Int32} {p : Nat → Option Nat} {i j : Nat} (h : p i = some j) : q_gs f p (i + 1) = q_gs f p i + f j := by simp [q_gs, h]
def q_g6 (f : Nat → Int64) (p : Nat → Option Nat) : Nat → Int64
  | 0 => 0
  | i + 1 => q_g6 f p i + (match p i with
    | none => 0
    | some j => f j)
theorem q_g6_n {f : Nat → Int64} {p : Nat → Option Nat} {i : Nat} (h : p i = none) : q_g6 f p (i + 1) = q_g6 f p i := by simp [q_g6, h]
theorem q_g6_s {f : Nat → Int64} {p : Nat → Option Nat} {i j : Nat} (h : p i = some j) : q_g6 f p (i + 1) = q_g6 f p i + f j := by simp [q_g6, h]
theorem q_g6_32 (f : Nat → Int32) (p : Nat → Option Nat) : ∀ m, (q_g6 (fun j => (f j).toInt64) p m).toInt32 = q_gs f p m := by
  intro m
  induction m with
  | zero => rfl
  | succ m ih =>
    cases hp : p m with
    | none => rw [q_g6_n hp, q_gs_n hp, ih]
    | some j => rw [q_g6_s hp, q_gs_s hp, Int64.toInt32_add, ih]; simp
theorem q_h1_t {p : Nat → Option Nat} {i : Nat} (h : p i = none) : ∀ {m}, i < m → q_h1 p m = true := by
  intro m
  induction m with
  | zero => intro q; omega
  | succ m ih =>
    intro q
    by_cases e : i = m
    · subst e; simp [q_h1, h]
    · simp [q_h1, ih (by omega)]
theorem q_h2_t {g : Nat → Bool} {p : Nat → Option Nat} {i : Nat} (h : p i = none ∨ ∃ j, p i = some j ∧ g j = true) : ∀ {m}, i < m → q_h2 g p m = true := by
  intro m
  induction m with
  | zero => intro q; omega
  | succ m ih =>
    intro q
    by_cases e : i = m
    · subst e
      rcases h with h | ⟨j, h, h2⟩
      · simp [q_h2, h]
      · simp [q_h2, h, h2]
    · simp [q_h2, ih (by omega)]
theorem q_gofacts {k g : Nat} (h : q_go k g = true) : g = k ∨ (k = 10 ∧ (g = 9 ∨ g = 12)) ∨ ((k = 9 ∨ k = 11) ∧ g = 12) ∨ (k = 5 ∧ (g = 4 ∨ g = 6)) ∨ (k = 4 ∧ g = 6) ∨ (k = 8 ∧ g = 7) := by
  unfold q_go at h
  exact of_decide_eq_true h
theorem q_gofalse {k g : Nat} (h : q_go k g = false) : ¬ (g = k ∨ (k = 10 ∧ (g = 9 ∨ g = 12)) ∨ ((k = 9 ∨ k = 11) ∧ g = 12) ∨ (k = 5 ∧ (g = 4 ∨ g = 6)) ∨ (k = 4 ∧ g = 6) ∨ (k = 8 ∧ g = 7)) := by
  unfold q_go at h
  exact of_decide_eq_false h
theorem q_goF {k g : Nat} (h : ¬ (g = k ∨ (k = 10 ∧ (g = 9 ∨ g = 12)) ∨ ((k = 9 ∨ k = 11) ∧ g = 12) ∨ (k = 5 ∧ (g = 4 ∨ g = 6)) ∨ (k = 4 ∧ g = 6) ∨ (k = 8 ∧ g = 7))) : q_go k g = false := by
  unfold q_go
  exact decide_eq_false h
def q_row (kd sz : Nat → Nat) (sh : Nat → Bool) (nu : Nat → Nat → Int64) (pa : Nat → Nat → Option Nat) (t g : Nat) : Int64 :=
  if g = 0 ∨ g = 1 then (q_num kd sz nu t).toInt32.toInt64 else if g = 2 then q_num kd sz nu t else if g = 5 then lN (q_ins kd sz sh pa true t) else lN (q_ins kd sz sh pa false t)
/-- a heap and what was written so far get names -/
theorem qw_name {p : Program} {l : Launch} {e : Env} {R : Room} {s : State} {m : MethodId} {args : Array Value} {below : List Frame} {meth : Method} {c : Code} {H : Heap} {locs : List Loc} {cells slots : Nat} {Q : State → Prop} {g : JFrame} {P : Heap → List Loc → Prop} (h : P H locs) (k : ∀ (H : Heap) (locs : List Loc), P H locs → W p l e R s m args below meth c H locs cells slots Q g) : W p l e R s m args below meth c H locs cells slots Q g := k H locs h
