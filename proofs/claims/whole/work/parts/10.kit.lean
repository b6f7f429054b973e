/-! ===== the pure words of the dock: one state for the class and for the reference ===== -/
/-- things; kinds; sizes (places, weight, litres); shut; numbers; parts; slots; fault; turns; turned slot; turned gate -/
abbrev q_St : Type := Nat × (Nat → Nat) × (Nat → Nat) × (Nat → Bool) × (Nat → Nat → Int64) × (Nat → Nat → Option Nat) × (Nat → Option Nat) × Int32 × Int32 × Int32 × Int32
def q_b (b : Bool) : Int32 := if b then 1 else 0
def q_am (k z : Nat) : Nat := if k < 9 then 0 else z
def q_nl (k z : Nat) : Nat := if k < 3 then z else 0
def q_pl (k z : Nat) : Nat := if 3 ≤ k ∧ k < 9 then z else 0
def q_rf (T0 : Nat) (o : Option Nat) : Option Nat := o.map (fun k => T0 + 3 * k)
def q_eI (o : Option Nat) : Int32 := match o with
  | none => -1
  | some k => nI k
def q_eL (o : Option Nat) : Int64 := match o with
  | none => -1
  | some k => lN k
def q_cv (k : Nat) (v : Int64) (o : Option Nat) : Int64 := if 3 ≤ k ∧ k < 9 then q_eL o else v
/-- what a row of kind a may hold: a thing of kind b -/
def q_ok (a b : Nat) : Prop := (a = 3 ∧ b = 0) ∨ (a = 4 ∧ (b = 9 ∨ b = 10)) ∨ (a = 5 ∧ b = 10) ∨ (a = 6 ∧ 9 ≤ b) ∨ (a = 7 ∧ (b = 4 ∨ b = 5)) ∨ (a = 8 ∧ b = 5)
/-- what holds of every state that is reached -/
def q_I (σ : q_St) : Prop := σ.1 ≤ 60 ∧ (∀ k, k < σ.1 → σ.2.1 k < 12 ∧ σ.2.2.1 k ≤ 1000000 ∧ (σ.2.1 k < 9 → σ.2.2.1 k ≤ 8) ∧ ∀ i j, σ.2.2.2.2.2.1 k i = some j → j < σ.1 ∧ q_ok (σ.2.1 k) (σ.2.1 j)) ∧ ∀ i k, σ.2.2.2.2.2.2.1 i = some k → k < σ.1
/-- the class numbers of the tables: the objects', and those of the arrays of int, long, boolean, Thing -/
abbrev q_E : Type := va_G × ClassId × ClassId × ClassId × ClassId
def q_K (E : q_E) (U : State) : Prop := va_K E.1 vwCl [(E.2.1, .int), (E.2.2.1, .long), (E.2.2.2.1, .boolean), (E.2.2.2.2, .object RX0)] U
def q_ob (E : q_E) (ci a : Nat) (fs : List Value) (H : Heap) : Prop := va_at E.1 vwCl (a, .inr (ci, fs)) H
def q_ia (E : q_E) (a n : Nat) (f : Nat → Int32) (H : Heap) : Prop := H[a]? = some (vp_cell E.2.1 (n, .inl f))
def q_ja (E : q_E) (a n : Nat) (f : Nat → Int64) (H : Heap) : Prop := H[a]? = some (vp_cell E.2.2.1 (n, .inr (.inl f)))
def q_za (E : q_E) (a n : Nat) (f : Nat → Int32) (H : Heap) : Prop := H[a]? = some (vp_cell E.2.2.2.1 (n, .inl f))
def q_ta (E : q_E) (a n : Nat) (f : Nat → Option Nat) (H : Heap) : Prop := H[a]? = some (vp_cell E.2.2.2.2 (n, .inr (.inr (.inr (.inr f)))))
/-- one thing and its two rows -/
def q_th (E : q_E) (T0 k kd sz : Nat) (sh : Bool) (nu : Nat → Int64) (pa : Nat → Option Nat) (H : Heap) : Prop :=
  q_ob E 0 (T0 + 3 * k) [.int (nI k), .int (nI kd), .ref (T0 + 3 * k + 1), .ref (T0 + 3 * k + 2), .int (nI (q_am kd sz)), .int (q_b sh)] H ∧ q_ja E (T0 + 3 * k + 1) (q_nl kd sz) nu H ∧ q_ta E (T0 + 3 * k + 2) (q_pl kd sz) (fun i => q_rf T0 (pa i)) H
/-- the class's object at x, its slots at x + 1, the things from T0 on, three cells each, and nothing behind them -/
def q_X (E : q_E) (x T0 : Nat) (σ : q_St) (H : Heap) : Prop :=
  q_ob E 1 x [.ref (x + 1), .int (nI σ.1), .int σ.2.2.2.2.2.2.2.1, .int σ.2.2.2.2.2.2.2.2.1, .int σ.2.2.2.2.2.2.2.2.2.1, .int σ.2.2.2.2.2.2.2.2.2.2] H ∧
  q_ta E (x + 1) 12 (fun j => q_rf T0 (σ.2.2.2.2.2.2.1 j)) H ∧
  (∀ k, k < σ.1 → q_th E T0 k (σ.2.1 k) (σ.2.2.1 k) (σ.2.2.2.1 k) (σ.2.2.2.2.1 k) (σ.2.2.2.2.2.1 k) H) ∧ H.size = T0 + 3 * σ.1 ∧ x + 1 < T0
/-- the reference's object at m, its five rows behind it -/
def q_M (E : q_E) (m S : Nat) (σ : q_St) (H : Heap) : Prop :=
  q_ob E 2 m [.int (nI σ.1), .ref (m + 1), .ref (m + 2), .ref (m + 3), .ref (m + 4), .ref (m + 5), .int σ.2.2.2.2.2.2.2.1, .int σ.2.2.2.2.2.2.2.2.1, .int σ.2.2.2.2.2.2.2.2.2.1, .int σ.2.2.2.2.2.2.2.2.2.2] H ∧
  q_ia E (m + 1) 60 (fun k => nI (σ.2.1 k)) H ∧ q_ia E (m + 2) 60 (fun k => nI (σ.2.2.1 k)) H ∧ q_za E (m + 3) 60 (fun k => q_b (σ.2.2.2.1 k)) H ∧
  q_ja E (m + 4) 480 (fun q => q_cv (σ.2.1 (q / 8)) (σ.2.2.2.2.1 (q / 8) (q % 8)) (σ.2.2.2.2.2.1 (q / 8) (q % 8))) H ∧
  q_ia E (m + 5) 12 (fun j => q_eI (σ.2.2.2.2.2.2.1 j)) H ∧ H.size = S
/-- which cells a method of the class, of the reference may write -/
def q_Ax (x T0 : Nat) : Nat → Prop := fun q => q = x ∨ q = x + 1 ∨ T0 ≤ q
def q_Am (m : Nat) : Nat → Prop := fun q => m ≤ q ∧ q ≤ m + 5
/-! ===== numbers ===== -/
theorem q_c {a b : Nat} (h : a = b) : nI a = nI b := by rw [h]
theorem q_nm1 {k : Nat} (h : k < 2 ^ 31) : ¬ nI k = (-1) := by
  intro e
  have h1 := congrArg Int32.toInt e
  rw [nI_toInt h] at h1
  have h2 : (-1 : Int32).toInt = -1 := by decide
  omega
theorem q_eIn {o : Option Nat} (ho : ∀ k, o = some k → k < 2 ^ 31) : q_eI o = (-1) ↔ o = none := by
  cases o with
  | none => simp [q_eI]
  | some k => simp [q_eI, q_nm1 (ho k rfl)]
theorem q_b01 (b : Bool) : q_b b = 0 ∨ q_b b = 1 := by cases b <;> simp [q_b]
/-- an int as a place below n -/
def q_ix (x : Int32) (n : Nat) : Option Nat := if x < 0 ∨ n ≤ x.toNatClampNeg then none else some x.toNatClampNeg
theorem q_ix_in {j n : Nat} (h : j < n) (hn : n ≤ 2 ^ 31) : q_ix (nI j) n = some j := by
  have h1 : (nI j).toNatClampNeg = j := nI_clamp (by omega)
  have h2 : ¬ nI j < 0 := nI_pos (by omega)
  unfold q_ix
  rw [h1, if_neg (by intro q; rcases q with q | q; exact h2 q; omega)]
theorem q_ix_neg {x : Int32} {n : Nat} (h : x < 0) : q_ix x n = none := by unfold q_ix; rw [if_pos (Or.inl h)]
theorem q_ix_big {x : Int32} {n : Nat} (hn : n < 2 ^ 31) (h : nI n ≤ x) : q_ix x n = none := by
  unfold q_ix
  by_cases h0 : x < 0
  · rw [if_pos (Or.inl h0)]
  · obtain ⟨j, hj, rfl⟩ := nI_of h0
    rw [if_pos (Or.inr (by rw [nI_clamp hj]; exact (nI_leI hn hj).mp h))]
theorem q_ix_of {x : Int32} {n : Nat} (hn : n < 2 ^ 31) (h0 : ¬ x < 0) (h1 : ¬ nI n ≤ x) : ∃ j : Nat, j < n ∧ x = nI j := by
  rcases pk_ix x hn with h | h | h
  · exact absurd h h0
  · exact absurd h h1
  · exact h
theorem q_ix_none {j n : Nat} (h : n ≤ j) (hj : j < 2 ^ 31) : q_ix (nI j) n = none := q_ix_big (by omega) (nI_le h hj)
/-- every int: below n, or out -/
theorem q_ix_or (x : Int32) {n : Nat} (hn : n < 2 ^ 31) : (∃ j, j < n ∧ x = nI j) ∨ q_ix x n = none := by
  rcases pk_ix x hn with h | h | h
  · exact Or.inr (q_ix_neg h)
  · exact Or.inr (q_ix_big hn h)
  · exact Or.inl h
theorem q_pl0 {n : Nat} : n - 0 = n := rfl
/-! ===== the heap's pictures: kept where their cell is ===== -/
theorem q_P1 {E : q_E} {ci a : Nat} {fs : List Value} {H : Heap} (h : q_ob E ci a fs H) : va_P E.1 vwCl [(a, .inr (ci, fs))] H := fun k q hq => by
  have hz : k < 1 := (List.getElem?_eq_some_iff.mp hq).1
  rw [show k = 0 by omega] at hq
  cases hq
  exact h
theorem q_P2 {D : va_G} {cA : ClassId} {a : Nat} {y : vp_A} {H : Heap} (h : H[a]? = some (vp_cell cA y)) : va_P D vwCl [(a, .inl (cA, y))] H := fun k q hq => by
  have hz : k < 1 := (List.getElem?_eq_some_iff.mp hq).1
  rw [show k = 0 by omega] at hq
  cases hq
  exact h
theorem q_ob.kept {E : q_E} {ci a : Nat} {fs : List Value} {H H1 : Heap} (h : q_ob E ci a fs H) (hq : H1[a]? = H[a]?) : q_ob E ci a fs H1 := va_at.kept h hq
theorem q_ja_congr {E : q_E} {a n : Nat} {f g : Nat → Int64} {H : Heap} (h : q_ja E a n f H) (e : ∀ j, j < n → f j = g j) : q_ja E a n g H := by
  unfold q_ja at h ⊢
  rw [h, vp_cell_l, vp_cell_l]
  congr 1
  simp only [arrV]
  congr 2
  funext j
  rw [e j.val j.isLt]
theorem q_ta_congr {E : q_E} {a n : Nat} {f g : Nat → Option Nat} {H : Heap} (h : q_ta E a n f H) (e : ∀ j, j < n → f j = g j) : q_ta E a n g H := by
  unfold q_ta at h ⊢
  rw [h, vp_cell_q, vp_cell_q]
  congr 1
  simp only [arrV]
  congr 2
  funext j
  rw [e j.val j.isLt]
theorem q_ia_congr {E : q_E} {a n : Nat} {f g : Nat → Int32} {H : Heap} (h : q_ia E a n f H) (e : ∀ j, j < n → f j = g j) : q_ia E a n g H := by
  unfold q_ia at h ⊢
  rw [h, vp_cell_i, vp_cell_i]
  congr 1
  simp only [arrV]
  congr 2
  funext j
  rw [e j.val j.isLt]
theorem q_za_congr {E : q_E} {a n : Nat} {f g : Nat → Int32} {H : Heap} (h : q_za E a n f H) (e : ∀ j, j < n → f j = g j) : q_za E a n g H := by
  unfold q_za at h ⊢
  rw [h, vp_cell_i, vp_cell_i]
  congr 1
  simp only [arrV]
  congr 2
  funext j
  rw [e j.val j.isLt]
theorem q_th.kept {E : q_E} {T0 k kd sz : Nat} {sh : Bool} {nu : Nat → Int64} {pa : Nat → Option Nat} {H H1 : Heap} (h : q_th E T0 k kd sz sh nu pa H) (hq : ∀ q, T0 + 3 * k ≤ q → q ≤ T0 + 3 * k + 2 → H1[q]? = H[q]?) : q_th E T0 k kd sz sh nu pa H1 :=
  ⟨h.1.kept (hq _ (by omega) (by omega)), (hq _ (by omega) (by omega)).trans h.2.1, (hq _ (by omega) (by omega)).trans h.2.2⟩
theorem q_lt {α : Type} {xs : Array α} {i : Nat} {v : α} (h : xs[i]? = some v) : i < xs.size := (Array.getElem?_eq_some_iff.mp h).1
theorem q_ob.lt {E : q_E} {ci a : Nat} {fs : List Value} {H : Heap} (h : q_ob E ci a fs H) : a < H.size := va_at.lt h
theorem q_M.kept {E : q_E} {m S S1 : Nat} {σ : q_St} {H H1 : Heap} (h : q_M E m S σ H) (hz : H1.size = S1) (hq : ∀ q, q_Am m q → H1[q]? = H[q]?) : q_M E m S1 σ H1 :=
  ⟨h.1.kept (hq _ ⟨by omega, by omega⟩), (hq _ ⟨by omega, by omega⟩).trans h.2.1, (hq _ ⟨by omega, by omega⟩).trans h.2.2.1, (hq _ ⟨by omega, by omega⟩).trans h.2.2.2.1, (hq _ ⟨by omega, by omega⟩).trans h.2.2.2.2.1, (hq _ ⟨by omega, by omega⟩).trans h.2.2.2.2.2.1, hz⟩
theorem q_X.kept {E : q_E} {x T0 : Nat} {σ : q_St} {H H1 : Heap} (h : q_X E x T0 σ H) (hz : H1.size = H.size) (hq : ∀ q, q_Ax x T0 q → H1[q]? = H[q]?) : q_X E x T0 σ H1 :=
  ⟨h.1.kept (hq _ (Or.inl rfl)), (hq _ (Or.inr (Or.inl rfl))).trans h.2.1, fun k hk => (h.2.2.1 k hk).kept (fun q h1 _ => hq q (Or.inr (Or.inr (by omega)))), hz.trans h.2.2.2.1, h.2.2.2.2⟩
/-- the class's own fields change -/
theorem q_X.obj {E : q_E} {x T0 n : Nat} {kd sz : Nat → Nat} {sh : Nat → Bool} {nu : Nat → Nat → Int64} {pa : Nat → Nat → Option Nat} {sl : Nat → Option Nat} {ft tn ts tg ft' tn' ts' tg' : Int32} {H H1 : Heap} (h : q_X E x T0 (n, kd, sz, sh, nu, pa, sl, ft, tn, ts, tg) H) (ho : q_ob E 1 x [.ref (x + 1), .int (nI n), .int ft', .int tn', .int ts', .int tg'] H1) (hz : H1.size = H.size) (hq : ∀ q, q ≠ x → H1[q]? = H[q]?) : q_X E x T0 (n, kd, sz, sh, nu, pa, sl, ft', tn', ts', tg') H1 := by
  have hx := h.2.2.2.2
  exact ⟨ho, (hq _ (by omega)).trans h.2.1, fun k hk => (h.2.2.1 k hk).kept (fun q h1 _ => hq q (by omega)), hz.trans h.2.2.2.1, hx⟩
/-- the reference's own fields change -/
theorem q_M.obj {E : q_E} {m S n : Nat} {kd sz : Nat → Nat} {sh : Nat → Bool} {nu : Nat → Nat → Int64} {pa : Nat → Nat → Option Nat} {sl : Nat → Option Nat} {ft tn ts tg ft' tn' ts' tg' : Int32} {H H1 : Heap} (h : q_M E m S (n, kd, sz, sh, nu, pa, sl, ft, tn, ts, tg) H) (ho : q_ob E 2 m [.int (nI n), .ref (m + 1), .ref (m + 2), .ref (m + 3), .ref (m + 4), .ref (m + 5), .int ft', .int tn', .int ts', .int tg'] H1) (hz : H1.size = H.size) (hq : ∀ q, q ≠ m → H1[q]? = H[q]?) : q_M E m S (n, kd, sz, sh, nu, pa, sl, ft', tn', ts', tg') H1 :=
  ⟨ho, (hq _ (by omega)).trans h.2.1, (hq _ (by omega)).trans h.2.2.1, (hq _ (by omega)).trans h.2.2.2.1, (hq _ (by omega)).trans h.2.2.2.2.1, (hq _ (by omega)).trans h.2.2.2.2.2.1, hz.trans h.2.2.2.2.2.2⟩
/-! ===== rows: an instruction over these pictures ===== -/
section QW
variable {p : Program} {l : Launch} {e : Env} {R : Room} {s : State} {m : MethodId} {args : Array Value} {below : List Frame} {meth : Method} {c : Code} {H : Heap} {locs : List Loc} {cells slots : Nat} {Q : State → Prop}
variable {cc : ByteArray} {pc : Nat} {ls : Array Slot} {rest : List Value} {E : q_E} {A : Nat → Prop} {a : Nat} {H0 : Heap}
theorem qw_get (hexec : p.tables.exec = Jvm.exec) (hb : c.code = cc) {own ref C : String} {T : u_T} {N ci index : Nat} {Ts : List Cond} (hts : ∀ w ∈ Ts, w.before args s = true) (hin : ∀ w ∈ u_ws C T N, w ∈ Ts) (hown : s.vm.findClass own = some m.cls) (hK : q_K E s) {fs : List Value} (ho : q_ob E ci a fs H) (hc : vwCl[ci]? = some (C, T, N)) (k : Nat) (hk : k < N) (hlink : (Cond.fieldLink own index ref (T k).2.1 (T k).2.2.1).before args s = true) (hsame : (T k).1 = ref) {v : Value} (hv : fs[k]? = some v) (hdg : decode cc pc = .ok (.getfield index, 3))
    (kk : W p l e R s m args below meth c H locs cells slots Q (F0 m (pc + 3) ls (v :: rest))) : W p l e R s m args below meth c H locs cells slots Q (F0 m pc ls (.ref a :: rest)) :=
  va_get hexec hb hts hin hown hK (q_P1 ho) 0 rfl hc k hk hlink (fun x hx => by rw [← hsame]; exact hx) hv hdg kk
theorem qw_put (hexec : p.tables.exec = Jvm.exec) (hb : c.code = cc) {own ref C : String} {T : u_T} {N ci index : Nat} {Ts : List Cond} (hts : ∀ w ∈ Ts, w.before args s = true) (hin : ∀ w ∈ u_ws C T N, w ∈ Ts) (ty0 : Nat → FieldType) (hty : ∀ k, k < N → parseFieldDescriptor (T k).2.2.1 = some (ty0 k)) (hnm : ∀ a, a < N → ∀ b, b < N → a ≠ b → (T a).2.1 ≠ (T b).2.1) (hown : s.vm.findClass own = some m.cls) (hK : q_K E s) {fs : List Value} (ho : q_ob E ci a fs H) (hS0 : va_S A H0 H locs) (hAa : A a) (hc : vwCl[ci]? = some (C, T, N)) (k : Nat) (hk : k < N) (hlink : (Cond.fieldLink own index ref (T k).2.1 (T k).2.2.1).before args s = true) (hsame : (T k).1 = ref) (hfin : (T k).2.2.2 = false) {v : Value} (hn : narrow (ty0 k) v = v) (hfit : fits (ty0 k) v = true) (hl : k < fs.length)
    (hdg : decode cc pc = .ok (.putfield index, 3)) (kk : ∀ (H1 : Heap) (locs1 : List Loc), q_ob E ci a (fs.set k v) H1 → H1.size = H.size → (∀ q, q ≠ a → H1[q]? = H[q]?) → va_S A H0 H1 locs1 → W p l e R s m args below meth c H1 locs1 cells slots Q (F0 m (pc + 3) ls rest)) : W p l e R s m args below meth c H locs cells slots Q (F0 m pc ls (v :: .ref a :: rest)) := by
  have hap := va_apart (own := own) hts hin ty0 hty hnm hK hc
  obtain ⟨r, h1, cell, q1, q2, q3, q4⟩ := ho
  have hr : r = (C, T, N) := Option.some.inj (h1.symm.trans hc)
  subst hr
  obtain ⟨hS, hfc, kC, hkC, hkind⟩ := hK.1 ci _ hc
  obtain ⟨cf, kf, fi, f, hi, hsl⟩ := hS k hk
  have hlay := hts _ (hin _ (u_in_lay hk))
  unfold u_lay at hlay
  rw [if_neg (by rw [hfin]; decide)] at hlay
  have hst := (u_facts hfc hkC (u_lays hts hin hk) hi).1
  have h6 := u_store hfc hkC hkind hlay hi (hty k hk) hn hfit
  refine W.putK hexec hb (f := f) ⟨hown, hlink, ⟨_, _, _, by rw [← hsame]; exact hi⟩, hst⟩ (by rw [q2]; exact h6) q1 q3 (by rw [hsl]; exact k2_hasslot (q4 k hk)) rfl rfl hdg fun H' e1 e2 e3 => ?_
  rw [hsl] at e1 ⊢
  exact kk H' _ ⟨_, hc, t_OB.to (V := updV (vp_V fs) k v) ⟨_, e1, q2, q3, t_set q4 hap hk v⟩ (fun j _ => vp_updV_set hl v j)⟩ e2 e3 (hS0.put e2 e3 hAa)
theorem qw_putF (hexec : p.tables.exec = Jvm.exec) (hb : c.code = cc) {own ref C : String} {T : u_T} {N ci index : Nat} {Ts : List Cond} (hts : ∀ w ∈ Ts, w.before args s = true) (hin : ∀ w ∈ u_ws C T N, w ∈ Ts) (ty0 : Nat → FieldType) (hty : ∀ k, k < N → parseFieldDescriptor (T k).2.2.1 = some (ty0 k)) (hnm : ∀ a, a < N → ∀ b, b < N → a ≠ b → (T a).2.1 ≠ (T b).2.1) (hown : s.vm.findClass own = some m.cls) (hK : q_K E s) {fs : List Value} (ho : q_ob E ci a fs H) (hS0 : va_S A H0 H locs) (hAa : A a) (hc : vwCl[ci]? = some (C, T, N)) (k : Nat) (hk : k < N) (hlink : (Cond.fieldLink own index ref (T k).2.1 (T k).2.2.1).before args s = true) (hsame : (T k).1 = ref) (hfin : (T k).2.2.2 = true) (hin2 : meth.name = "<init>") (hdecl : (T k).1 = own) {v : Value} (hn : narrow (ty0 k) v = v) (hfit : fits (ty0 k) v = true) (hl : k < fs.length)
    (hdg : decode cc pc = .ok (.putfield index, 3)) (kk : ∀ (H1 : Heap) (locs1 : List Loc), q_ob E ci a (fs.set k v) H1 → H1.size = H.size → (∀ q, q ≠ a → H1[q]? = H[q]?) → va_S A H0 H1 locs1 → W p l e R s m args below meth c H1 locs1 cells slots Q (F0 m (pc + 3) ls rest)) : W p l e R s m args below meth c H locs cells slots Q (F0 m pc ls (v :: .ref a :: rest)) := by
  have hap := va_apart (own := own) hts hin ty0 hty hnm hK hc
  obtain ⟨r, h1, cell, q1, q2, q3, q4⟩ := ho
  have hr : r = (C, T, N) := Option.some.inj (h1.symm.trans hc)
  subst hr
  obtain ⟨hS, hfc, kC, hkC, hkind⟩ := hK.1 ci _ hc
  obtain ⟨cf, kf, fi, f, hi, hsl⟩ := hS k hk
  have hlay := hts _ (hin _ (u_in_lay hk))
  unfold u_lay at hlay
  rw [if_pos hfin] at hlay
  have hst := (u_facts hfc hkC (u_lays hts hin hk) hi).1
  have hcf : m.cls = cf := by
    obtain ⟨_, _, c', _, _, _, -, -, hf', -, -, -, hown2, -⟩ := Cond.laysFinal_spec hlay
    have e1 : c' = cf := by have := hi.symm.trans hf'; simp at this; exact this.1.symm
    rw [hdecl] at hown2
    rw [← e1]; exact Option.some.inj (hown.symm.trans hown2)
  have h6 := u_fits hfc hkC hkind (Or.inr hlay) hi (hty k hk) hn hfit
  refine W.putFinK hexec hb hown hlink (by rw [← hsame]; exact hi) hst hcf hin2 (by rw [q2]; exact h6) q1 q3 (by rw [hsl]; exact k2_hasslot (q4 k hk)) rfl rfl hdg fun H' e1 e2 e3 => ?_
  rw [hsl] at e1 ⊢
  exact kk H' _ ⟨_, hc, t_OB.to (V := updV (vp_V fs) k v) ⟨_, e1, q2, q3, t_set q4 hap hk v⟩ (fun j _ => vp_updV_set hl v j)⟩ e2 e3 (hS0.put e2 e3 hAa)
theorem qw_iald (hexec : p.tables.exec = Jvm.exec) (hb : c.code = cc) (hK : q_K E s) {n i : Nat} {f : Nat → Int32} (hc : q_ia E a n f H) (hi : i < n) (hn : n < 2 ^ 31) (hdg : decode cc pc = .ok (.iaload, 1))
    (kk : W p l e R s m args below meth c H locs cells slots Q (F0 m (pc + 1) ls (.int (f i) :: rest))) : W p l e R s m args below meth c H locs cells slots Q (F0 m pc ls (.int (nI i) :: .ref a :: rest)) :=
  va_iald hexec hb hK (q_P2 hc) 0 0 rfl rfl (vp_in_nI hi hn) hdg (by rw [nI_clamp (by omega)]; exact kk)
theorem qw_zald (hexec : p.tables.exec = Jvm.exec) (hb : c.code = cc) (hK : q_K E s) {n i : Nat} {f : Nat → Int32} (hc : q_za E a n f H) (hi : i < n) (hn : n < 2 ^ 31) (hdg : decode cc pc = .ok (.baload, 1))
    (kk : W p l e R s m args below meth c H locs cells slots Q (F0 m (pc + 1) ls (.int (f i) :: rest))) : W p l e R s m args below meth c H locs cells slots Q (F0 m pc ls (.int (nI i) :: .ref a :: rest)) :=
  va_zald hexec hb hK (q_P2 hc) 0 2 rfl rfl (vp_in_nI hi hn) hdg (by rw [nI_clamp (by omega)]; exact kk)
theorem qw_lald (hexec : p.tables.exec = Jvm.exec) (hb : c.code = cc) (hK : q_K E s) {n i : Nat} {f : Nat → Int64} (hc : q_ja E a n f H) (hi : i < n) (hn : n < 2 ^ 31) (hdg : decode cc pc = .ok (.laload, 1))
    (kk : W p l e R s m args below meth c H locs cells slots Q (F0 m (pc + 1) ls (.long (f i) :: rest))) : W p l e R s m args below meth c H locs cells slots Q (F0 m pc ls (.int (nI i) :: .ref a :: rest)) :=
  va_lald hexec hb hK (q_P2 hc) 0 1 rfl rfl (vp_in_nI hi hn) hdg (by rw [nI_clamp (by omega)]; exact kk)
theorem qw_aald (hexec : p.tables.exec = Jvm.exec) (hb : c.code = cc) (hK : q_K E s) {n i : Nat} {f : Nat → Option Nat} (hc : q_ta E a n f H) (hi : i < n) (hn : n < 2 ^ 31) (hdg : decode cc pc = .ok (.aaload, 1))
    (kk : W p l e R s m args below meth c H locs cells slots Q (F0 m (pc + 1) ls (va_rf (f i) :: rest))) : W p l e R s m args below meth c H locs cells slots Q (F0 m pc ls (.int (nI i) :: .ref a :: rest)) :=
  va_aldq hexec hb hK (q_P2 hc) 0 3 rfl rfl (vp_in_nI hi hn) hdg (by rw [nI_clamp (by omega)]; exact kk)
theorem qw_jlen (hexec : p.tables.exec = Jvm.exec) (hb : c.code = cc) (hK : q_K E s) {n : Nat} {f : Nat → Int64} (hc : q_ja E a n f H) (hdg : decode cc pc = .ok (.arraylength, 1))
    (kk : W p l e R s m args below meth c H locs cells slots Q (F0 m (pc + 1) ls (.int (nI n) :: rest))) : W p l e R s m args below meth c H locs cells slots Q (F0 m pc ls (.ref a :: rest)) :=
  va_alen hexec hb hK (q_P2 hc) 0 1 rfl rfl rfl hdg kk
theorem qw_tlen (hexec : p.tables.exec = Jvm.exec) (hb : c.code = cc) (hK : q_K E s) {n : Nat} {f : Nat → Option Nat} (hc : q_ta E a n f H) (hdg : decode cc pc = .ok (.arraylength, 1))
    (kk : W p l e R s m args below meth c H locs cells slots Q (F0 m (pc + 1) ls (.int (nI n) :: rest))) : W p l e R s m args below meth c H locs cells slots Q (F0 m pc ls (.ref a :: rest)) :=
  va_alen hexec hb hK (q_P2 hc) 0 3 rfl rfl rfl hdg kk
theorem qw_iast (hexec : p.tables.exec = Jvm.exec) (hb : c.code = cc) (hK : q_K E s) {n i : Nat} {f : Nat → Int32} {x : Int32} (hc : q_ia E a n f H) (hS : va_S A H0 H locs) (hAa : A a) (hi : i < n) (hn : n < 2 ^ 31) (hdg : decode cc pc = .ok (.iastore, 1))
    (kk : ∀ (H1 : Heap) (locs1 : List Loc), q_ia E a n (va_up f i x) H1 → H1.size = H.size → (∀ q, q ≠ a → H1[q]? = H[q]?) → va_S A H0 H1 locs1 → W p l e R s m args below meth c H1 locs1 cells slots Q (F0 m (pc + 1) ls rest)) : W p l e R s m args below meth c H locs cells slots Q (F0 m pc ls (.int x :: .int (nI i) :: .ref a :: rest)) := by
  have hcl : (nI i).toNatClampNeg = i := nI_clamp (by omega)
  refine W.iast hexec hb hc ((hK.2 0 _ rfl).1 n (fun j => .int (f j))) (fun q => by cases q) (by show ¬ (_ ∨ (arrV _ _ _).slots.size ≤ _); rw [arrV_size]; exact vp_in_nI hi hn) rfl rfl hdg fun H1 e z oq => ?_
  refine kk H1 _ ?_ z oq (hS.put z oq hAa)
  unfold q_ia
  rw [e, hcl, vp_cell_i, vp_cell_i, arrV_store]
  congr 2
  funext q
  by_cases hq : q = i <;> simp [updV, va_up, hq]
theorem qw_zast (hexec : p.tables.exec = Jvm.exec) (hb : c.code = cc) (hK : q_K E s) {n i : Nat} {f : Nat → Int32} {x : Bool} (hc : q_za E a n f H) (hS : va_S A H0 H locs) (hAa : A a) (hi : i < n) (hn : n < 2 ^ 31) (hdg : decode cc pc = .ok (.bastore, 1))
    (kk : ∀ (H1 : Heap) (locs1 : List Loc), q_za E a n (va_up f i (q_b x)) H1 → H1.size = H.size → (∀ q, q ≠ a → H1[q]? = H[q]?) → va_S A H0 H1 locs1 → W p l e R s m args below meth c H1 locs1 cells slots Q (F0 m (pc + 1) ls rest)) : W p l e R s m args below meth c H locs cells slots Q (F0 m pc ls (.int (q_b x) :: .int (nI i) :: .ref a :: rest)) := by
  have hcl : (nI i).toNatClampNeg = i := nI_clamp (by omega)
  refine W.zast hexec hb hc ((hK.2 2 _ rfl).1 n (fun j => .int (f j))) (fun q => by cases q) (by show ¬ (_ ∨ (arrV _ _ _).slots.size ≤ _); rw [arrV_size]; exact vp_in_nI hi hn) rfl rfl hdg fun H1 e z oq => ?_
  refine kk H1 _ ?_ z oq (hS.put z oq hAa)
  unfold q_za
  rw [e, hcl, vp_cell_i, vp_cell_i, arrV_store]
  congr 2
  funext q
  by_cases hq : q = i
  · cases x <;> simp [updV, va_up, hq, q_b] <;> rfl
  · simp [updV, va_up, hq]
theorem qw_last (hexec : p.tables.exec = Jvm.exec) (hb : c.code = cc) (hK : q_K E s) {n i : Nat} {f : Nat → Int64} {x : Int64} (hc : q_ja E a n f H) (hS : va_S A H0 H locs) (hAa : A a) (hi : i < n) (hn : n < 2 ^ 31) (hdg : decode cc pc = .ok (.lastore, 1))
    (kk : ∀ (H1 : Heap) (locs1 : List Loc), q_ja E a n (va_up f i x) H1 → H1.size = H.size → (∀ q, q ≠ a → H1[q]? = H[q]?) → va_S A H0 H1 locs1 → W p l e R s m args below meth c H1 locs1 cells slots Q (F0 m (pc + 1) ls rest)) : W p l e R s m args below meth c H locs cells slots Q (F0 m pc ls (.long x :: .int (nI i) :: .ref a :: rest)) := by
  have hcl : (nI i).toNatClampNeg = i := nI_clamp (by omega)
  refine W.last hexec hb hc ((hK.2 1 _ rfl).1 n (fun j => .long (f j))) (fun q => by cases q) (by show ¬ (_ ∨ (arrV _ _ _).slots.size ≤ _); rw [arrV_size]; exact vp_in_nI hi hn) rfl rfl hdg fun H1 e z oq => ?_
  refine kk H1 _ ?_ z oq (hS.put z oq hAa)
  unfold q_ja
  rw [e, hcl, vp_cell_l, vp_cell_l, arrV_store]
  congr 2
  funext q
  by_cases hq : q = i <;> simp [updV, va_up, hq]
theorem qw_aast (hexec : p.tables.exec = Jvm.exec) (hb : c.code = cc) (hK : q_K E s) {n i v : Nat} {f : Nat → Option Nat} {vs : List Value} (hc : q_ta E a n f H) (hv : q_ob E 0 v vs H) (hS : va_S A H0 H locs) (hAa : A a) (hi : i < n) (hn : n < 2 ^ 31) (hdg : decode cc pc = .ok (.aastore, 1))
    (kk : ∀ (H1 : Heap) (locs1 : List Loc), q_ta E a n (va_up f i (some v)) H1 → H1.size = H.size → (∀ q, q ≠ a → H1[q]? = H[q]?) → va_S A H0 H1 locs1 → W p l e R s m args below meth c H1 locs1 cells slots Q (F0 m (pc + 1) ls rest)) : W p l e R s m args below meth c H locs cells slots Q (F0 m pc ls (.ref v :: .int (nI i) :: .ref a :: rest)) := by
  have hcl : (nI i).toNatClampNeg = i := nI_clamp (by omega)
  obtain ⟨r', hr', cellV, g1, g2, g3, -⟩ := hv
  have hcls := (hK.1 0 (RX0, TX0, 6) rfl).2
  obtain ⟨kA, comp, k1, k2, k3, -⟩ := (hK.2 3 _ rfl).2
  have hcomp : comp = E.1.1 0 := Option.some.inj (k3.symm.trans hcls.1)
  subst hcomp
  obtain ⟨kC, hkC, -⟩ := hcls.2
  refine W.aast hexec hb hc (fun q h => by cases h) (fun h => by cases h) k1 k2 rfl hkC ⟨nI_pos (by omega), by show _ < (arrV _ _ _).slots.size; rw [arrV_size, hcl]; exact hi⟩ g1 (fun q h => by rw [g3] at h; cases h) (by rw [g2]; exact hkC) (by rw [g2]; exact va_assign hcls) rfl rfl hdg fun H1 e z oq => ?_
  refine kk H1 _ ?_ z oq (hS.put z oq hAa)
  unfold q_ta
  rw [e, hcl, vp_cell_q, vp_cell_q, arrV_store]
  congr 2
  funext q
  by_cases hq : q = i <;> simp [updV, va_up, hq, va_rf]
theorem qw_aastN (hexec : p.tables.exec = Jvm.exec) (hb : c.code = cc) (hK : q_K E s) {n i : Nat} {f : Nat → Option Nat} (hc : q_ta E a n f H) (hS : va_S A H0 H locs) (hAa : A a) (hi : i < n) (hn : n < 2 ^ 31) (hdg : decode cc pc = .ok (.aastore, 1))
    (kk : ∀ (H1 : Heap) (locs1 : List Loc), q_ta E a n (va_up f i none) H1 → H1.size = H.size → (∀ q, q ≠ a → H1[q]? = H[q]?) → va_S A H0 H1 locs1 → W p l e R s m args below meth c H1 locs1 cells slots Q (F0 m (pc + 1) ls rest)) : W p l e R s m args below meth c H locs cells slots Q (F0 m pc ls (.null :: .int (nI i) :: .ref a :: rest)) := by
  have hcl : (nI i).toNatClampNeg = i := nI_clamp (by omega)
  refine va_WaastN (C := RX0) hexec hb hc ((hK.2 3 _ rfl).1 n (fun j => va_rf (f j))) (fun h => by cases h) (by show ¬ (_ ∨ (arrV _ _ _).slots.size ≤ _); rw [arrV_size]; exact vp_in_nI hi hn) rfl rfl hdg fun H1 e z oq => ?_
  refine kk H1 _ ?_ z oq (hS.put z oq hAa)
  unfold q_ta
  rw [e, hcl, vp_cell_q, vp_cell_q, arrV_store]
  congr 2
  funext q
  by_cases hq : q = i <;> simp [updV, va_up, hq, va_rf]
/-! numbers that are no greater than an int holds, as natural numbers -/
theorem ln_add (hexec : p.tables.exec = Jvm.exec) (hb : c.code = cc) {a b : Nat} (hdg : decode cc pc = .ok (.iadd, 1)) (k : W p l e R s m args below meth c H locs cells slots Q (F0 m (pc + 1) ls (.int (nI (a + b)) :: rest))) : W p l e R s m args below meth c H locs cells slots Q (F0 m pc ls (.int (nI b) :: .int (nI a) :: rest)) := lv_iadd hexec hb hdg (by rw [nI_add]; exact k)
theorem ln_mul (hexec : p.tables.exec = Jvm.exec) (hb : c.code = cc) {a b : Nat} (hdg : decode cc pc = .ok (.imul, 1)) (k : W p l e R s m args below meth c H locs cells slots Q (F0 m (pc + 1) ls (.int (nI (a * b)) :: rest))) : W p l e R s m args below meth c H locs cells slots Q (F0 m pc ls (.int (nI b) :: .int (nI a) :: rest)) := lv_imul hexec hb hdg (by rw [pk_mul]; exact k)
theorem ln_sub (hexec : p.tables.exec = Jvm.exec) (hb : c.code = cc) {a b : Nat} (h : b ≤ a) (hdg : decode cc pc = .ok (.isub, 1)) (k : W p l e R s m args below meth c H locs cells slots Q (F0 m (pc + 1) ls (.int (nI (a - b)) :: rest))) : W p l e R s m args below meth c H locs cells slots Q (F0 m pc ls (.int (nI b) :: .int (nI a) :: rest)) := lv_isub hexec hb hdg (by rw [pk_sub h]; exact k)
theorem ln_cmp_eq (hexec : p.tables.exec = Jvm.exec) (hb : c.code = cc) {a b : Nat} {off : Int} {tgt : Nat} (ha : a < 2 ^ 31) (hb2 : b < 2 ^ 31) (hdg : decode cc pc = .ok (.if_icmp .eq off, 3)) (ht : (pc : Int) + off = (tgt : Int)) (kt : a = b → W p l e R s m args below meth c H locs cells slots Q (F0 m tgt ls rest)) (kf : ¬ a = b → W p l e R s m args below meth c H locs cells slots Q (F0 m (pc + 3) ls rest)) : W p l e R s m args below meth c H locs cells slots Q (F0 m pc ls (.int (nI b) :: .int (nI a) :: rest)) :=
  lv_icmp_eq hexec hb hdg ht (fun h => kt ((nI_eq ha hb2).mp h)) (fun h => kf (fun q => h ((nI_eq ha hb2).mpr q)))
theorem ln_cmp_ne (hexec : p.tables.exec = Jvm.exec) (hb : c.code = cc) {a b : Nat} {off : Int} {tgt : Nat} (ha : a < 2 ^ 31) (hb2 : b < 2 ^ 31) (hdg : decode cc pc = .ok (.if_icmp .ne off, 3)) (ht : (pc : Int) + off = (tgt : Int)) (kt : ¬ a = b → W p l e R s m args below meth c H locs cells slots Q (F0 m tgt ls rest)) (kf : a = b → W p l e R s m args below meth c H locs cells slots Q (F0 m (pc + 3) ls rest)) : W p l e R s m args below meth c H locs cells slots Q (F0 m pc ls (.int (nI b) :: .int (nI a) :: rest)) :=
  lv_icmp_ne hexec hb hdg ht (fun h => kt (fun q => h ((nI_eq ha hb2).mpr q))) (fun h => kf ((nI_eq ha hb2).mp h))
theorem ln_cmp_lt (hexec : p.tables.exec = Jvm.exec) (hb : c.code = cc) {a b : Nat} {off : Int} {tgt : Nat} (ha : a < 2 ^ 31) (hb2 : b < 2 ^ 31) (hdg : decode cc pc = .ok (.if_icmp .lt off, 3)) (ht : (pc : Int) + off = (tgt : Int)) (kt : a < b → W p l e R s m args below meth c H locs cells slots Q (F0 m tgt ls rest)) (kf : b ≤ a → W p l e R s m args below meth c H locs cells slots Q (F0 m (pc + 3) ls rest)) : W p l e R s m args below meth c H locs cells slots Q (F0 m pc ls (.int (nI b) :: .int (nI a) :: rest)) :=
  lv_icmp_lt hexec hb hdg ht (fun h => kt ((nI_ltI ha hb2).mp h)) (fun h => kf (Nat.not_lt.mp (fun q => h ((nI_ltI ha hb2).mpr q))))
theorem ln_cmp_ge (hexec : p.tables.exec = Jvm.exec) (hb : c.code = cc) {a b : Nat} {off : Int} {tgt : Nat} (ha : a < 2 ^ 31) (hb2 : b < 2 ^ 31) (hdg : decode cc pc = .ok (.if_icmp .ge off, 3)) (ht : (pc : Int) + off = (tgt : Int)) (kt : b ≤ a → W p l e R s m args below meth c H locs cells slots Q (F0 m tgt ls rest)) (kf : a < b → W p l e R s m args below meth c H locs cells slots Q (F0 m (pc + 3) ls rest)) : W p l e R s m args below meth c H locs cells slots Q (F0 m pc ls (.int (nI b) :: .int (nI a) :: rest)) :=
  lv_icmp_ge hexec hb hdg ht (fun h => kt ((nI_leI hb2 ha).mp h)) (fun h => kf (Nat.not_le.mp (fun q => h ((nI_leI hb2 ha).mpr q))))
theorem ln_cmp_gt (hexec : p.tables.exec = Jvm.exec) (hb : c.code = cc) {a b : Nat} {off : Int} {tgt : Nat} (ha : a < 2 ^ 31) (hb2 : b < 2 ^ 31) (hdg : decode cc pc = .ok (.if_icmp .gt off, 3)) (ht : (pc : Int) + off = (tgt : Int)) (kt : b < a → W p l e R s m args below meth c H locs cells slots Q (F0 m tgt ls rest)) (kf : a ≤ b → W p l e R s m args below meth c H locs cells slots Q (F0 m (pc + 3) ls rest)) : W p l e R s m args below meth c H locs cells slots Q (F0 m pc ls (.int (nI b) :: .int (nI a) :: rest)) :=
  lv_icmp_gt hexec hb hdg ht (fun h => kt ((nI_ltI hb2 ha).mp h)) (fun h => kf (Nat.not_lt.mp (fun q => h ((nI_ltI hb2 ha).mpr q))))
theorem ln_cmp_le (hexec : p.tables.exec = Jvm.exec) (hb : c.code = cc) {a b : Nat} {off : Int} {tgt : Nat} (ha : a < 2 ^ 31) (hb2 : b < 2 ^ 31) (hdg : decode cc pc = .ok (.if_icmp .le off, 3)) (ht : (pc : Int) + off = (tgt : Int)) (kt : a ≤ b → W p l e R s m args below meth c H locs cells slots Q (F0 m tgt ls rest)) (kf : b < a → W p l e R s m args below meth c H locs cells slots Q (F0 m (pc + 3) ls rest)) : W p l e R s m args below meth c H locs cells slots Q (F0 m pc ls (.int (nI b) :: .int (nI a) :: rest)) :=
  lv_icmp_le hexec hb hdg ht (fun h => kt ((nI_leI ha hb2).mp h)) (fun h => kf (Nat.not_le.mp (fun q => h ((nI_leI ha hb2).mpr q))))
theorem ln_if_eq (hexec : p.tables.exec = Jvm.exec) (hb : c.code = cc) {a : Nat} {off : Int} {tgt : Nat} (ha : a < 2 ^ 31) (hdg : decode cc pc = .ok (.ifCond .eq off, 3)) (ht : (pc : Int) + off = (tgt : Int)) (kt : a = 0 → W p l e R s m args below meth c H locs cells slots Q (F0 m tgt ls rest)) (kf : ¬ a = 0 → W p l e R s m args below meth c H locs cells slots Q (F0 m (pc + 3) ls rest)) : W p l e R s m args below meth c H locs cells slots Q (F0 m pc ls (.int (nI a) :: rest)) :=
  lv_if_eq hexec hb hdg ht (fun h => kt ((nI_eq ha (by decide)).mp (h.trans nI_0.symm))) (fun h => kf (fun q => h (by rw [q]; exact nI_0)))
theorem ln_if_ne (hexec : p.tables.exec = Jvm.exec) (hb : c.code = cc) {a : Nat} {off : Int} {tgt : Nat} (ha : a < 2 ^ 31) (hdg : decode cc pc = .ok (.ifCond .ne off, 3)) (ht : (pc : Int) + off = (tgt : Int)) (kt : ¬ a = 0 → W p l e R s m args below meth c H locs cells slots Q (F0 m tgt ls rest)) (kf : a = 0 → W p l e R s m args below meth c H locs cells slots Q (F0 m (pc + 3) ls rest)) : W p l e R s m args below meth c H locs cells slots Q (F0 m pc ls (.int (nI a) :: rest)) :=
  lv_if_ne hexec hb hdg ht (fun h => kt (fun q => h (by rw [q]; exact nI_0))) (fun h => kf ((nI_eq ha (by decide)).mp (h.trans nI_0.symm)))
theorem ln_if_ge (hexec : p.tables.exec = Jvm.exec) (hb : c.code = cc) {a : Nat} {off : Int} {tgt : Nat} (ha : a < 2 ^ 31) (hdg : decode cc pc = .ok (.ifCond .ge off, 3)) (ht : (pc : Int) + off = (tgt : Int)) (k : W p l e R s m args below meth c H locs cells slots Q (F0 m tgt ls rest)) : W p l e R s m args below meth c H locs cells slots Q (F0 m pc ls (.int (nI a) :: rest)) :=
  lv_if_ge hexec hb hdg ht (fun _ => k) (fun h => absurd (nI_pos' ha) h)
theorem ln_if_lt (hexec : p.tables.exec = Jvm.exec) (hb : c.code = cc) {a : Nat} {off : Int} {tgt : Nat} (ha : a < 2 ^ 31) (hdg : decode cc pc = .ok (.ifCond .lt off, 3)) (ht : (pc : Int) + off = (tgt : Int)) (k : W p l e R s m args below meth c H locs cells slots Q (F0 m (pc + 3) ls rest)) : W p l e R s m args below meth c H locs cells slots Q (F0 m pc ls (.int (nI a) :: rest)) :=
  lv_if_lt hexec hb hdg ht (fun h => absurd h (nI_pos ha)) (fun _ => k)
/-- a shift of a branch to a known truth -/
theorem ln_b_eq (hexec : p.tables.exec = Jvm.exec) (hb : c.code = cc) {x : Bool} {off : Int} {tgt : Nat} (hdg : decode cc pc = .ok (.ifCond .eq off, 3)) (ht : (pc : Int) + off = (tgt : Int)) (kt : x = false → W p l e R s m args below meth c H locs cells slots Q (F0 m tgt ls rest)) (kf : x = true → W p l e R s m args below meth c H locs cells slots Q (F0 m (pc + 3) ls rest)) : W p l e R s m args below meth c H locs cells slots Q (F0 m pc ls (.int (q_b x) :: rest)) := by
  cases x with
  | false => exact lv_if_eq hexec hb hdg ht (fun _ => kt rfl) (fun h => absurd rfl h)
  | true => exact lv_if_eq hexec hb hdg ht (fun h => absurd h (by decide)) (fun _ => kf rfl)
theorem ln_b_ne (hexec : p.tables.exec = Jvm.exec) (hb : c.code = cc) {x : Bool} {off : Int} {tgt : Nat} (hdg : decode cc pc = .ok (.ifCond .ne off, 3)) (ht : (pc : Int) + off = (tgt : Int)) (kt : x = true → W p l e R s m args below meth c H locs cells slots Q (F0 m tgt ls rest)) (kf : x = false → W p l e R s m args below meth c H locs cells slots Q (F0 m (pc + 3) ls rest)) : W p l e R s m args below meth c H locs cells slots Q (F0 m pc ls (.int (q_b x) :: rest)) := by
  cases x with
  | false => exact lv_if_ne hexec hb hdg ht (fun h => absurd rfl h) (fun _ => kf rfl)
  | true => exact lv_if_ne hexec hb hdg ht (fun _ => kt rfl) (fun h => absurd h (by decide))
end QW
