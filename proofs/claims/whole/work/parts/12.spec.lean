/-! ===== switches, ranges ===== -/
theorem q_is {x : Int32} {n : Nat} (hn : n < 2 ^ 31) (h : (q_ix x n).isSome = true) : ∃ j, j < n ∧ x = nI j := by
  rcases q_ix_or x hn with h1 | h1
  · exact h1
  · rw [h1] at h; cases h
theorem q_isn {x : Int32} {n : Nat} (h : (q_ix x n).isSome = false) : q_ix x n = none := by
  cases h1 : q_ix x n with
  | none => rfl
  | some j => rw [h1] at h; cases h
section QT
variable {p : Program} {l : Launch} {e : Env} {R : Room} {s : State} {m : MethodId} {args : Array Value} {below : List Frame} {meth : Method} {c : Code} {H : Heap} {locs : List Loc} {cells slots : Nat} {Q : State → Prop}
variable {cc : ByteArray} {pc : Nat} {ls : Array Slot} {rest : List Value}
theorem q_tIn (hexec : p.tables.exec = Jvm.exec) (hb : c.code = cc) {dflt lo hi : Int} {offs : Array Int} {len a v : Nat} {off : Int} {tgt : Nat} (he : a = v) (hdg : decode cc pc = .ok (.tableswitch dflt lo hi offs, len)) (h1 : ¬ (nI v).toInt < lo) (h2 : ¬ hi < (nI v).toInt) (ho : offs[((nI v).toInt - lo).toNat]? = some off) (ht : (pc : Int) + off = (tgt : Int))
    (k : W p l e R s m args below meth c H locs cells slots Q (F0 m tgt ls rest)) : W p l e R s m args below meth c H locs cells slots Q (F0 m pc ls (.int (nI a) :: rest)) := by
  subst he; exact lv_tableIn hexec hb hdg h1 h2 ho ht k
theorem q_tOut (hexec : p.tables.exec = Jvm.exec) (hb : c.code = cc) {dflt lo hi : Int} {offs : Array Int} {len a : Nat} {tgt : Nat} (ha : a < 2 ^ 31) (hdg : decode cc pc = .ok (.tableswitch dflt lo hi offs, len)) (h : (a : Int) < lo ∨ hi < (a : Int)) (ht : (pc : Int) + dflt = (tgt : Int))
    (k : W p l e R s m args below meth c H locs cells slots Q (F0 m tgt ls rest)) : W p l e R s m args below meth c H locs cells slots Q (F0 m pc ls (.int (nI a) :: rest)) :=
  lv_tableOut hexec hb hdg (by rw [nI_toInt ha]; exact h) ht k
theorem q_lk (hexec : p.tables.exec = Jvm.exec) (hb : c.code = cc) {dflt : Int} {ps : Array (Int × Int)} {len a v : Nat} {off : Int} {tgt : Nat} (he : a = v) (hdg : decode cc pc = .ok (.lookupswitch dflt ps, len)) (hp : (ps.toList.zip (ps.toList.drop 1)).all (fun (a, next) => a.1 < next.1) = true) (ho : Op.lookupswitch.offset ps.toList dflt (nI v).toInt = off) (ht : (pc : Int) + off = (tgt : Int))
    (k : W p l e R s m args below meth c H locs cells slots Q (F0 m tgt ls rest)) : W p l e R s m args below meth c H locs cells slots Q (F0 m pc ls (.int (nI a) :: rest)) := by
  subst he; exact lv_lookup hexec hb hdg hp ho ht k
theorem q_lkd (hexec : p.tables.exec = Jvm.exec) (hb : c.code = cc) {dflt : Int} {ps : Array (Int × Int)} {len a : Nat} {tgt : Nat} (ha : a < 2 ^ 31) (hdg : decode cc pc = .ok (.lookupswitch dflt ps, len)) (hp : (ps.toList.zip (ps.toList.drop 1)).all (fun (a, next) => a.1 < next.1) = true) (ho : Op.lookupswitch.offset ps.toList dflt (a : Int) = dflt) (ht : (pc : Int) + dflt = (tgt : Int))
    (k : W p l e R s m args below meth c H locs cells slots Q (F0 m tgt ls rest)) : W p l e R s m args below meth c H locs cells slots Q (F0 m pc ls (.int (nI a) :: rest)) :=
  lv_lookup hexec hb hdg hp (by rw [nI_toInt ha]; exact ho) ht k
end QT
/-! ===== what the dock does, in pure words ===== -/
/-- a thing of kind k fits gate g -/
def q_go (k g : Nat) : Bool := decide (g = k ∨ (k = 10 ∧ (g = 9 ∨ g = 12)) ∨ ((k = 9 ∨ k = 11) ∧ g = 12) ∨ (k = 5 ∧ (g = 4 ∨ g = 6)) ∨ (k = 4 ∧ g = 6) ∨ (k = 8 ∧ g = 7))
/-- the gate of laying at a row of kind k; the gate of its places; what a row of kind r can hold -/
def q_gl (k : Nat) : Nat := if k = 3 then 0 else if k = 7 ∨ k = 8 then 4 else 12
def q_gp (k : Nat) : Nat := if k = 4 then 9 else if k = 5 then 10 else if k = 8 then 5 else q_gl k
def q_ch (r k : Nat) : Bool := if r = 4 then decide (¬ k = 11) else if r = 5 then decide (k = 10) else if r = 8 then decide (k = 5) else true
theorem q_gpch : ∀ r, r < 12 → ∀ k, k < 12 → 3 ≤ r → r < 9 → q_go k (q_gl r) = true → q_go k (q_gp r) = q_ch r k := by decide
theorem q_lays0 : ∀ r, r < 12 → ∀ k, k < 12 → (!(decide (3 ≤ r)) || !(decide (r < 9)) || !(q_go k (q_gl r)) || !(q_ch r k) || decide ((r = 3 ∧ k = 0) ∨ (r = 4 ∧ (k = 9 ∨ k = 10)) ∨ (r = 5 ∧ k = 10) ∨ (r = 6 ∧ 9 ≤ k) ∨ (r = 7 ∧ (k = 4 ∨ k = 5)) ∨ (r = 8 ∧ k = 5))) = true := by decide
theorem q_lays (r : Nat) (hr : r < 12) (k : Nat) (hk : k < 12) (h3 : 3 ≤ r) (h9 : r < 9) (hg : q_go k (q_gl r) = true) (hc : q_ch r k = true) : q_ok r k := by
  have h := q_lays0 r hr k hk
  simp only [h3, h9, hg, hc, decide_true, Bool.not_true, Bool.false_or, decide_eq_true_eq] at h
  exact h
/-- what a row of kind k keeps of a number -/
def q_nr (k : Nat) (v : Int64) : Int64 := if k = 0 then v.toInt32.toInt64 else if k = 1 then v.toInt32.toInt8.toInt32.toInt64 else v
def q_sm (f : Nat → Int64) : Nat → Int64
  | 0 => 0
  | i + 1 => q_sm f i + f i
def q_w (kd sz : Nat → Nat) (sh : Nat → Bool) (t : Nat) : Nat := if kd t = 11 then 2 * sz t else sz t + (if sh t then 1 else 0)
def q_ld (kd sz : Nat → Nat) (sh : Nat → Bool) (lids : Bool) (t : Nat) : Nat := if lids then (if sh t then 1 else 0) else q_w kd sz sh t
def q_su (f : Nat → Nat) (p : Nat → Option Nat) : Nat → Nat
  | 0 => 0
  | i + 1 => q_su f p i + (match p i with
    | none => 0
    | some j => f j)
def q_gs (f : Nat → Int32) (p : Nat → Option Nat) : Nat → Int32
  | 0 => 0
  | i + 1 => q_gs f p i + (match p i with
    | none => 0
    | some j => f j)
def q_h1 (p : Nat → Option Nat) : Nat → Bool
  | 0 => false
  | i + 1 => q_h1 p i || (p i).isNone
def q_h2 (h : Nat → Bool) (p : Nat → Option Nat) : Nat → Bool
  | 0 => false
  | i + 1 => q_h2 h p i || (match p i with
    | none => true
    | some j => h j)
/-- the loads of a row together; the loads of the rows of a stack; the numbers of the rows of a grid; a hole in a row, in a row or its rows -/
def q_ins (kd sz : Nat → Nat) (sh : Nat → Bool) (pa : Nat → Nat → Option Nat) (lids : Bool) (t : Nat) : Nat := q_su (q_ld kd sz sh lids) (pa t) (q_pl (kd t) (sz t))
def q_rws (kd sz : Nat → Nat) (sh : Nat → Bool) (pa : Nat → Nat → Option Nat) (lids : Bool) (t : Nat) : Nat := q_su (q_ins kd sz sh pa lids) (pa t) (q_pl (kd t) (sz t))
def q_num (kd sz : Nat → Nat) (nu : Nat → Nat → Int64) (t : Nat) : Int64 := q_sm (nu t) (q_nl (kd t) (sz t))
def q_grd (kd sz : Nat → Nat) (nu : Nat → Nat → Int64) (pa : Nat → Nat → Option Nat) (t : Nat) : Int32 := q_gs (fun j => (q_num kd sz nu j).toInt32) (pa t) (q_pl (kd t) (sz t))
def q_ho1 (kd sz : Nat → Nat) (pa : Nat → Nat → Option Nat) (t : Nat) : Bool := q_h1 (pa t) (q_pl (kd t) (sz t))
def q_ho2 (kd sz : Nat → Nat) (pa : Nat → Nat → Option Nat) (t : Nat) : Bool := q_h2 (q_ho1 kd sz pa) (pa t) (q_pl (kd t) (sz t))
/-- what a thing t tells at a gate g -/
def q_val (kd sz : Nat → Nat) (sh : Nat → Bool) (nu : Nat → Nat → Int64) (pa : Nat → Nat → Option Nat) (t g : Nat) : Int64 :=
  if g = 0 ∨ g = 1 then (q_num kd sz nu t).toInt32.toInt64 else if g = 2 then q_num kd sz nu t else if g = 3 then (q_grd kd sz nu pa t).toInt64
  else if g = 4 ∨ g = 6 then lN (q_ins kd sz sh pa false t) else if g = 5 then lN (q_ins kd sz sh pa true t) else if g = 7 then lN (q_rws kd sz sh pa false t)
  else if g = 8 then lN (q_rws kd sz sh pa true t) else if g = 9 ∨ g = 11 then lN (sz t) else if g = 10 then lN (if sh t then 1 else 0) else lN (q_w kd sz sh t)
def q_sf : q_St → Int32 → q_St
  | (n, kd, sz, sh, nu, pa, sl, _, tn, ts, tg), v => (n, kd, sz, sh, nu, pa, sl, v, tn, ts, tg)
def q_tu : q_St → Int32 → Int32 → Int32 → q_St
  | (n, kd, sz, sh, nu, pa, sl, _, tn, _, _), f, a, g => (n, kd, sz, sh, nu, pa, sl, f, tn + 1, a, g)
def f_make : q_St → Int32 → Int32 → Int32 → Int32 × q_St
  | (n, kd, sz, sh, nu, pa, sl, _, tn, ts, tg), kind, m, slot => match q_ix kind 12 with
    | none => (-2, (n, kd, sz, sh, nu, pa, sl, 0, tn, ts, tg))
    | some k => match q_ix slot 12 with
      | none => (-2, (n, kd, sz, sh, nu, pa, sl, 0, tn, ts, tg))
      | some j => match q_ix m (if k < 9 then 9 else 1000001) with
        | none => (-2, (n, kd, sz, sh, nu, pa, sl, 0, tn, ts, tg))
        | some z => if n = 60 then (-3, (n, kd, sz, sh, nu, pa, sl, 0, tn, ts, tg)) else (nI n, (n + 1, va_up kd n k, va_up sz n z, va_up sh n false, va_up nu n (fun _ => 0), va_up pa n (fun _ => none), va_up sl j (some n), 0, tn, ts, tg))
def f_fits : q_St → Int32 → Int32 → Int32 × q_St
  | (n, kd, sz, sh, nu, pa, sl, _, tn, ts, tg), slot, gate => match q_ix slot 12 with
    | none => (-2, (n, kd, sz, sh, nu, pa, sl, 0, tn, ts, tg))
    | some j => match q_ix gate 13 with
      | none => (-2, (n, kd, sz, sh, nu, pa, sl, 0, tn, ts, tg))
      | some g => match sl j with
        | none => (0, (n, kd, sz, sh, nu, pa, sl, 0, tn, ts, tg))
        | some k => (q_b (q_go (kd k) g), (n, kd, sz, sh, nu, pa, sl, 0, tn, ts, tg))
def f_pass : q_St → Int32 → Int32 → Int64 × q_St
  | (n, kd, sz, sh, nu, pa, sl, _, tn, ts, tg), slot, gate => match q_ix slot 12 with
    | none => (0, (n, kd, sz, sh, nu, pa, sl, -2, tn, ts, tg))
    | some j => match q_ix gate 13 with
      | none => (0, (n, kd, sz, sh, nu, pa, sl, -2, tn, ts, tg))
      | some g => match sl j with
        | none => (0, (n, kd, sz, sh, nu, pa, sl, 2, tn, ts, tg))
        | some k => if q_go (kd k) g = true then (if q_ho2 kd sz pa k = true then (0, (n, kd, sz, sh, nu, pa, sl, 4, tn, ts, tg)) else (q_val kd sz sh nu pa k g, (n, kd, sz, sh, nu, pa, sl, 0, tn, ts, tg))) else (0, (n, kd, sz, sh, nu, pa, sl, 1, tn + 1, slot, gate))
/-- the search of a gate: how many are left, the next one, the turns so far -/
def q_sk (fit : Nat → Bool) (slot : Int32) : Nat → Nat → Int32 × Int32 × Int32 → Int32 × Int32 × Int32 × Int32
  | 0, _, u => (-1, u)
  | d + 1, g, (tn, ts, tg) => if fit g = true then (nI g, (tn, ts, tg)) else q_sk fit slot d (g + 1) (tn + 1, slot, nI g)
def q_fit (kd : Nat → Nat) (o : Option Nat) (g : Nat) : Bool := match o with
  | none => false
  | some k => q_go (kd k) g
def f_seek : q_St → Int32 → Int32 → Int32 → Int32 × q_St
  | (n, kd, sz, sh, nu, pa, sl, _, tn, ts, tg), slot, first, last => match q_ix slot 12 with
    | none => (-2, (n, kd, sz, sh, nu, pa, sl, 0, tn, ts, tg))
    | some j => match q_ix first 13 with
      | none => (-2, (n, kd, sz, sh, nu, pa, sl, 0, tn, ts, tg))
      | some a => match q_ix last 13 with
        | none => (-2, (n, kd, sz, sh, nu, pa, sl, 0, tn, ts, tg))
        | some b => if b < a then (-2, (n, kd, sz, sh, nu, pa, sl, 0, tn, ts, tg)) else ((q_sk (q_fit kd (sl j)) slot (b + 1 - a) a (tn, ts, tg)).1, (n, kd, sz, sh, nu, pa, sl, 0, (q_sk (q_fit kd (sl j)) slot (b + 1 - a) a (tn, ts, tg)).2))
def f_put : q_St → Int32 → Int32 → Int64 → Int32 × q_St
  | (n, kd, sz, sh, nu, pa, sl, _, tn, ts, tg), slot, i, v => match q_ix slot 12 with
    | none => (-2, (n, kd, sz, sh, nu, pa, sl, 0, tn, ts, tg))
    | some j => match sl j with
      | none => (0, (n, kd, sz, sh, nu, pa, sl, 2, tn, ts, tg))
      | some k => if kd k < 3 then (match q_ix i (sz k) with
          | none => (0, (n, kd, sz, sh, nu, pa, sl, 3, tn, ts, tg))
          | some z => (1, (n, kd, sz, sh, va_up nu k (va_up (nu k) z (q_nr (kd k) v)), pa, sl, 0, tn, ts, tg))) else (0, (n, kd, sz, sh, nu, pa, sl, 1, tn + 1, slot, nI 2))
def f_get : q_St → Int32 → Int32 → Int64 × q_St
  | (n, kd, sz, sh, nu, pa, sl, _, tn, ts, tg), slot, i => match q_ix slot 12 with
    | none => (0, (n, kd, sz, sh, nu, pa, sl, -2, tn, ts, tg))
    | some j => match sl j with
      | none => (0, (n, kd, sz, sh, nu, pa, sl, 2, tn, ts, tg))
      | some k => if kd k < 3 then (match q_ix i (sz k) with
          | none => (0, (n, kd, sz, sh, nu, pa, sl, 3, tn, ts, tg))
          | some z => (nu k z, (n, kd, sz, sh, nu, pa, sl, 0, tn, ts, tg))) else (0, (n, kd, sz, sh, nu, pa, sl, 1, tn + 1, slot, nI 2))
def f_lay : q_St → Int32 → Int32 → Int32 → Int32 × q_St
  | (n, kd, sz, sh, nu, pa, sl, _, tn, ts, tg), to, i, fr => match q_ix to 12 with
    | none => (-2, (n, kd, sz, sh, nu, pa, sl, 0, tn, ts, tg))
    | some j => match q_ix fr 12 with
      | none => (-2, (n, kd, sz, sh, nu, pa, sl, 0, tn, ts, tg))
      | some f => match sl j with
        | none => (0, (n, kd, sz, sh, nu, pa, sl, 2, tn, ts, tg))
        | some k => if 3 ≤ kd k ∧ kd k < 9 then (match sl f with
            | none => (match q_ix i (sz k) with
              | none => (0, (n, kd, sz, sh, nu, pa, sl, 3, tn, ts, tg))
              | some z => (1, (n, kd, sz, sh, nu, va_up pa k (va_up (pa k) z none), sl, 0, tn, ts, tg)))
            | some y => if q_go (kd y) (q_gl (kd k)) = true then (match q_ix i (sz k) with
                | none => (0, (n, kd, sz, sh, nu, pa, sl, 3, tn, ts, tg))
                | some z => if q_ch (kd k) (kd y) = true then (1, (n, kd, sz, sh, nu, va_up pa k (va_up (pa k) z (some y)), sl, 0, tn, ts, tg)) else (0, (n, kd, sz, sh, nu, pa, sl, 5, tn, ts, tg)))
              else (0, (n, kd, sz, sh, nu, pa, sl, 1, tn + 1, fr, nI (q_gl (kd k))))) else (0, (n, kd, sz, sh, nu, pa, sl, 1, tn + 1, to, nI 6))
def f_take : q_St → Int32 → Int32 → Int32 → Int32 × q_St
  | (n, kd, sz, sh, nu, pa, sl, _, tn, ts, tg), fr, i, to => match q_ix fr 12 with
    | none => (-2, (n, kd, sz, sh, nu, pa, sl, 0, tn, ts, tg))
    | some j => match q_ix to 12 with
      | none => (-2, (n, kd, sz, sh, nu, pa, sl, 0, tn, ts, tg))
      | some t => match sl j with
        | none => (0, (n, kd, sz, sh, nu, pa, sl, 2, tn, ts, tg))
        | some k => if 3 ≤ kd k ∧ kd k < 9 then (match q_ix i (sz k) with
              | none => (0, (n, kd, sz, sh, nu, pa, sl, 3, tn, ts, tg))
              | some z => (q_eI (pa k z), (n, kd, sz, sh, nu, pa, va_up sl t (pa k z), 0, tn, ts, tg))) else (0, (n, kd, sz, sh, nu, pa, sl, 1, tn + 1, fr, nI 6))
def f_share : q_St → Int32 → Int32 → Int32 × q_St
  | (n, kd, sz, sh, nu, pa, sl, _, tn, ts, tg), fr, to => match q_ix fr 12 with
    | none => (-2, (n, kd, sz, sh, nu, pa, sl, 0, tn, ts, tg))
    | some j => match q_ix to 12 with
      | none => (-2, (n, kd, sz, sh, nu, pa, sl, 0, tn, ts, tg))
      | some t => (q_eI (sl j), (n, kd, sz, sh, nu, pa, va_up sl t (sl j), 0, tn, ts, tg))
def f_empty : q_St → Int32 → Int32 × q_St
  | (n, kd, sz, sh, nu, pa, sl, _, tn, ts, tg), slot => match q_ix slot 12 with
    | none => (-2, (n, kd, sz, sh, nu, pa, sl, 0, tn, ts, tg))
    | some j => (q_eI (sl j), (n, kd, sz, sh, nu, pa, va_up sl j none, 0, tn, ts, tg))
def f_lid : q_St → Int32 → Bool → Int32 × q_St
  | (n, kd, sz, sh, nu, pa, sl, _, tn, ts, tg), slot, b => match q_ix slot 12 with
    | none => (-2, (n, kd, sz, sh, nu, pa, sl, 0, tn, ts, tg))
    | some j => match sl j with
      | none => (0, (n, kd, sz, sh, nu, pa, sl, 2, tn, ts, tg))
      | some k => if q_go (kd k) 10 = true then (q_b (sh k), (n, kd, sz, va_up sh k b, nu, pa, sl, 0, tn, ts, tg)) else (0, (n, kd, sz, sh, nu, pa, sl, 1, tn + 1, slot, nI 10))
def f_weigh : q_St → Int32 → Int32 → Int32 × q_St
  | (n, kd, sz, sh, nu, pa, sl, _, tn, ts, tg), slot, w => match q_ix slot 12 with
    | none => (-2, (n, kd, sz, sh, nu, pa, sl, 0, tn, ts, tg))
    | some j => match q_ix w 1000001 with
      | none => (-2, (n, kd, sz, sh, nu, pa, sl, 0, tn, ts, tg))
      | some z => match sl j with
        | none => (0, (n, kd, sz, sh, nu, pa, sl, 2, tn, ts, tg))
        | some k => if q_go (kd k) 9 = true then (nI (sz k), (n, kd, va_up sz k z, sh, nu, pa, sl, 0, tn, ts, tg)) else (0, (n, kd, sz, sh, nu, pa, sl, 1, tn + 1, slot, nI 9))
def f_size : q_St → Int32 → Int32 × q_St
  | (n, kd, sz, sh, nu, pa, sl, _, tn, ts, tg), slot => match q_ix slot 12 with
    | none => (-2, (n, kd, sz, sh, nu, pa, sl, 0, tn, ts, tg))
    | some j => match sl j with
      | none => (0, (n, kd, sz, sh, nu, pa, sl, 2, tn, ts, tg))
      | some k => if kd k < 9 then (nI (sz k), (n, kd, sz, sh, nu, pa, sl, 0, tn, ts, tg)) else (0, (n, kd, sz, sh, nu, pa, sl, 1, tn + 1, slot, nI 8))
def f_at : q_St → Int32 → Int32
  | (_, _, _, _, _, _, sl, _, _, _, _), slot => match q_ix slot 12 with
    | none => -2
    | some j => q_eI (sl j)
def f_told : q_St → Int32 → Int32
  | (_, _, _, _, _, _, _, _, tn, ts, tg), w => match q_ix w 3 with
    | none => -2
    | some j => if j = 0 then tn else if j = 1 then ts else tg
