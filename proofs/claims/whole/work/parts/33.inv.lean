/-! ===== what holds of every state stays ===== -/
section QI
variable {n : Nat} {kd sz : Nat → Nat} {sh : Nat → Bool} {nu : Nat → Nat → Int64} {pa : Nat → Nat → Option Nat} {sl : Nat → Option Nat} {ft tn ts tg : Int32}
theorem q_I.fits (h : q_I (n, kd, sz, sh, nu, pa, sl, ft, tn, ts, tg)) (a b : Int32) : q_I (f_fits (n, kd, sz, sh, nu, pa, sl, ft, tn, ts, tg) a b).2 := by
  simp only [f_fits]; (repeat' split) <;> exact h
theorem q_I.pass (h : q_I (n, kd, sz, sh, nu, pa, sl, ft, tn, ts, tg)) (a b : Int32) : q_I (f_pass (n, kd, sz, sh, nu, pa, sl, ft, tn, ts, tg) a b).2 := by
  simp only [f_pass]; (repeat' split) <;> exact h
theorem q_I.seek (h : q_I (n, kd, sz, sh, nu, pa, sl, ft, tn, ts, tg)) (a b c : Int32) : q_I (f_seek (n, kd, sz, sh, nu, pa, sl, ft, tn, ts, tg) a b c).2 := by
  simp only [f_seek]; (repeat' split) <;> exact h
theorem q_I.put (h : q_I (n, kd, sz, sh, nu, pa, sl, ft, tn, ts, tg)) (a b : Int32) (v : Int64) : q_I (f_put (n, kd, sz, sh, nu, pa, sl, ft, tn, ts, tg) a b v).2 := by
  simp only [f_put]; (repeat' split) <;> exact h
theorem q_I.get (h : q_I (n, kd, sz, sh, nu, pa, sl, ft, tn, ts, tg)) (a b : Int32) : q_I (f_get (n, kd, sz, sh, nu, pa, sl, ft, tn, ts, tg) a b).2 := by
  simp only [f_get]; (repeat' split) <;> exact h
theorem q_I.size (h : q_I (n, kd, sz, sh, nu, pa, sl, ft, tn, ts, tg)) (a : Int32) : q_I (f_size (n, kd, sz, sh, nu, pa, sl, ft, tn, ts, tg) a).2 := by
  simp only [f_size]; (repeat' split) <;> exact h
theorem q_I.lid (h : q_I (n, kd, sz, sh, nu, pa, sl, ft, tn, ts, tg)) (a : Int32) (b : Bool) : q_I (f_lid (n, kd, sz, sh, nu, pa, sl, ft, tn, ts, tg) a b).2 := by
  simp only [f_lid]; (repeat' split) <;> exact h
theorem q_I.part (h : q_I (n, kd, sz, sh, nu, pa, sl, ft, tn, ts, tg)) (k i : Nat) {o : Option Nat} (ho : ∀ y, o = some y → y < n ∧ q_ok (kd k) (kd y)) {ft' tn' ts' tg' : Int32} : q_I (n, kd, sz, sh, nu, va_up pa k (va_up (pa k) i o), sl, ft', tn', ts', tg') := by
  refine ⟨h.1, fun t ht => ⟨(h.2.1 t ht).1, (h.2.1 t ht).2.1, (h.2.1 t ht).2.2.1, fun q y hy => ?_⟩, h.2.2⟩
  have hy : va_up pa k (va_up (pa k) i o) t q = some y := hy
  by_cases e : t = k
  · subst e
    rw [va_up_self] at hy
    by_cases e2 : q = i
    · subst e2
      rw [va_up_self] at hy
      exact ho y hy
    · rw [va_up_ne _ _ e2] at hy
      exact (h.2.1 t ht).2.2.2 q y hy
  · rw [va_up_ne _ _ e] at hy
    exact (h.2.1 t ht).2.2.2 q y hy
theorem q_I.lay (h : q_I (n, kd, sz, sh, nu, pa, sl, ft, tn, ts, tg)) (a b c : Int32) : q_I (f_lay (n, kd, sz, sh, nu, pa, sl, ft, tn, ts, tg) a b c).2 := by
  cases h1 : q_ix a 12 with
  | none => simp only [f_lay, h1]; exact h
  | some j =>
    cases h2 : q_ix c 12 with
    | none => simp only [f_lay, h1, h2]; exact h
    | some f =>
      cases h3 : sl j with
      | none => simp only [f_lay, h1, h2, h3]; exact h
      | some k =>
        have hk : k < n := h.2.2 j k h3
        by_cases h4 : 3 ≤ kd k ∧ kd k < 9
        · cases h5 : sl f with
          | none =>
            cases h6 : q_ix b (sz k) with
            | none => simp only [f_lay, h1, h2, h3, h5, h6, if_pos h4]; exact h
            | some z => simp only [f_lay, h1, h2, h3, h5, h6, if_pos h4]; exact h.part k z (fun y hy => by cases hy)
          | some y =>
            have hy : y < n := h.2.2 f y h5
            by_cases h7 : q_go (kd y) (q_gl (kd k)) = true
            · cases h6 : q_ix b (sz k) with
              | none => simp only [f_lay, h1, h2, h3, h5, h6, if_pos h4, if_pos h7]; exact h
              | some z =>
                by_cases h8 : q_ch (kd k) (kd y) = true
                · simp only [f_lay, h1, h2, h3, h5, h6, if_pos h4, if_pos h7, if_pos h8]
                  exact h.part k z (fun y' hy' => by cases hy'; exact ⟨hy, q_lays _ (h.2.1 k hk).1 _ (h.2.1 y hy).1 h4.1 h4.2 h7 h8⟩)
                · simp only [f_lay, h1, h2, h3, h5, h6, if_pos h4, if_pos h7, if_neg h8]; exact h
            · simp only [f_lay, h1, h2, h3, h5, if_pos h4, if_neg h7]; exact h
        · simp only [f_lay, h1, h2, h3, if_neg h4]; exact h
theorem q_I.take (h : q_I (n, kd, sz, sh, nu, pa, sl, ft, tn, ts, tg)) (a b c : Int32) : q_I (f_take (n, kd, sz, sh, nu, pa, sl, ft, tn, ts, tg) a b c).2 := by
  cases h1 : q_ix a 12 with
  | none => simp only [f_take, h1]; exact h
  | some j =>
    cases h2 : q_ix c 12 with
    | none => simp only [f_take, h1, h2]; exact h
    | some f =>
      cases h3 : sl j with
      | none => simp only [f_take, h1, h2, h3]; exact h
      | some k =>
        have hk : k < n := h.2.2 j k h3
        by_cases h4 : 3 ≤ kd k ∧ kd k < 9
        · cases h6 : q_ix b (sz k) with
          | none => simp only [f_take, h1, h2, h3, h6, if_pos h4]; exact h
          | some z => simp only [f_take, h1, h2, h3, h6, if_pos h4]; exact h.slot f (fun y hy => ((h.2.1 k hk).2.2.2 z y hy).1)
        · simp only [f_take, h1, h2, h3, if_neg h4]; exact h
theorem q_I.share (h : q_I (n, kd, sz, sh, nu, pa, sl, ft, tn, ts, tg)) (a b : Int32) : q_I (f_share (n, kd, sz, sh, nu, pa, sl, ft, tn, ts, tg) a b).2 := by
  cases h1 : q_ix a 12 with
  | none => simp only [f_share, h1]; exact h
  | some j =>
    cases h2 : q_ix b 12 with
    | none => simp only [f_share, h1, h2]; exact h
    | some f => simp only [f_share, h1, h2]; exact h.slot f (fun y hy => h.2.2 j y hy)
theorem q_I.empty (h : q_I (n, kd, sz, sh, nu, pa, sl, ft, tn, ts, tg)) (a : Int32) : q_I (f_empty (n, kd, sz, sh, nu, pa, sl, ft, tn, ts, tg) a).2 := by
  cases h1 : q_ix a 12 with
  | none => simp only [f_empty, h1]; exact h
  | some j => simp only [f_empty, h1]; exact h.slot j (fun y hy => by cases hy)
theorem q_ix_lt {x : Int32} {m j : Nat} (h : q_ix x m = some j) : j < m := by
  unfold q_ix at h
  split at h
  · cases h
  · cases h; omega
theorem q_I.weigh (h : q_I (n, kd, sz, sh, nu, pa, sl, ft, tn, ts, tg)) (a b : Int32) : q_I (f_weigh (n, kd, sz, sh, nu, pa, sl, ft, tn, ts, tg) a b).2 := by
  cases h1 : q_ix a 12 with
  | none => simp only [f_weigh, h1]; exact h
  | some j =>
    cases h2 : q_ix b 1000001 with
    | none => simp only [f_weigh, h1, h2]; exact h
    | some z =>
      have hz := q_ix_lt h2
      cases h3 : sl j with
      | none => simp only [f_weigh, h1, h2, h3]; exact h
      | some k =>
        by_cases h4 : q_go (kd k) 9 = true
        · simp only [f_weigh, h1, h2, h3, if_pos h4]
          have hg := q_gofacts h4
          refine ⟨h.1, fun t ht => ⟨(h.2.1 t ht).1, ?_, ?_, (h.2.1 t ht).2.2.2⟩, h.2.2⟩
          · show va_up sz k z t ≤ 1000000
            by_cases e : t = k
            · subst e; rw [va_up_self]; omega
            · rw [va_up_ne _ _ e]; exact (h.2.1 t ht).2.1
          · show kd t < 9 → va_up sz k z t ≤ 8
            intro h9
            by_cases e : t = k
            · subst e; omega
            · rw [va_up_ne _ _ e]; exact (h.2.1 t ht).2.2.1 h9
        · simp only [f_weigh, h1, h2, h3, if_neg h4]; exact h
theorem q_I.make (h : q_I (n, kd, sz, sh, nu, pa, sl, ft, tn, ts, tg)) (a b c : Int32) : q_I (f_make (n, kd, sz, sh, nu, pa, sl, ft, tn, ts, tg) a b c).2 := by
  cases h1 : q_ix a 12 with
  | none => simp only [f_make, h1]; exact h
  | some k =>
    have hk := q_ix_lt h1
    cases h2 : q_ix c 12 with
    | none => simp only [f_make, h1, h2]; exact h
    | some j =>
      cases h3 : q_ix b (if k < 9 then 9 else 1000001) with
      | none => simp only [f_make, h1, h2, h3]; exact h
      | some z =>
        have hz := q_ix_lt h3
        by_cases h4 : n = 60
        · simp only [f_make, h1, h2, h3, if_pos h4]; exact h
        · simp only [f_make, h1, h2, h3, if_neg h4]
          have h60 : n ≤ 60 := h.1
          refine ⟨by show n + 1 ≤ 60; omega, fun t ht => ?_, fun i t hi => ?_⟩
          · have ht : t < n + 1 := ht
            show va_up kd n k t < 12 ∧ va_up sz n z t ≤ 1000000 ∧ (va_up kd n k t < 9 → va_up sz n z t ≤ 8) ∧ ∀ i y, va_up pa n (fun _ => none) t i = some y → y < n + 1 ∧ q_ok (va_up kd n k t) (va_up kd n k y)
            by_cases e : t = n
            · subst e
              rw [va_up_self, va_up_self, va_up_self]
              refine ⟨hk, ?_, fun h9 => ?_, fun i y hy => by cases hy⟩
              · by_cases h9 : k < 9
                · rw [if_pos h9] at hz; omega
                · rw [if_neg h9] at hz; omega
              · rw [if_pos h9] at hz; omega
            · rw [va_up_ne _ _ e, va_up_ne _ _ e, va_up_ne _ _ e]
              obtain ⟨g1, g2, g3, g4⟩ := h.2.1 t (by show t < n; omega)
              refine ⟨g1, g2, g3, fun i y hy => ?_⟩
              obtain ⟨u1, u2⟩ := g4 i y hy
              have u1 : y < n := u1
              rw [va_up_ne _ _ (show y ≠ n by omega)]
              exact ⟨by omega, u2⟩
          · have hi : va_up sl j (some n) i = some t := hi
            show t < n + 1
            by_cases e : i = j
            · subst e
              rw [va_up_self] at hi
              cases hi; omega
            · rw [va_up_ne _ _ e] at hi
              have : t < n := h.2.2 i t hi
              omega
end QI
theorem q_I0 : q_I q_s0 := ⟨by show 0 ≤ 60; omega, fun k hk => absurd hk (Nat.not_lt_zero k), fun i k hk => by cases hk⟩
/-! ===== the law's rows: its script, its calls on both ===== -/
section QL
variable {p : Program} {l : Launch} {e : Env} {R : Room} {s : State} {m : MethodId} {args : Array Value} {below : List Frame} {meth : Method} {c : Code} {H : Heap} {locs : List Loc} {cells slots : Nat} {Q : State → Prop}
variable {cc : ByteArray} {pc : Nat} {ls : Array Slot} {rest st0 : List Value} {E : q_E} {x S : Nat} {σ σ0 σ1 : q_St} {a : Array Value} {mc ms : Nat}
theorem qw_sld (hexec : p.tables.exec = Jvm.exec) (hb : c.code = cc) {A : Nat → Prop} {b L : Nat} {xs : Nat → Int32} {H0 : Heap} (hX : va_X b L xs s H0) (hbl : b < H0.size) (hbA : ¬ A b) (hS : va_S A H0 H locs) {i : Nat} (hi : i < L) (hL : L < 2 ^ 31) (hdg : decode cc pc = .ok (.iaload, 1))
    (kk : W p l e R s m args below meth c H locs cells slots Q (F0 m (pc + 1) ls (.int (xs i) :: rest))) : W p l e R s m args below meth c H locs cells slots Q (F0 m pc ls (.int (nI i) :: .ref b :: rest)) :=
  va_sld hexec hb hX hbl hbA hS (vp_in_nI hi hL) hdg (by rw [nI_clamp (by omega)]; exact kk)
theorem lc_M {H1 : Heap} (hM : q_M E (x + 2) S σ H) (hX : q_X E x (x + 8) σ1 H) (hk : ∀ q : Nat, q < H.size → ¬ q_Ax x (x + 8) q → H1[q]? = H[q]?) : q_M E (x + 2) H1.size σ H1 :=
  hM.kept rfl (fun q hq => by
    have h1 : x + 2 ≤ q := hq.1
    have h2 : q ≤ x + 2 + 5 := hq.2
    have h3 := hX.2.2.2.1
    refine hk q (by omega) (fun h => ?_)
    rcases h with h | h | h <;> omega)
theorem lc_X {H1 : Heap} (hX : q_X E x (x + 8) σ1 H) (hz : H1.size = H.size) (hk : ∀ q : Nat, q < H.size → ¬ q_Am (x + 2) q → H1[q]? = H[q]?) : q_X E x (x + 8) σ1 H1 :=
  hX.kept hz (fun q hq => by
    by_cases hl : q < H.size
    · refine hk q hl (fun h => ?_)
      have h1 : x + 2 ≤ q := h.1
      have h2 : q ≤ x + 2 + 5 := h.2
      rcases hq with h | h | h <;> omega
    · rw [Array.getElem?_eq_none (by omega), Array.getElem?_eq_none (by omega)])
theorem lc_xi {r0 : Int32} (hr : va_Run p l e R s m args below meth c H locs cells slots mc ms (F0 m pc ls st0) rest (q_Wi (q_X E x (x + 8)) (q_Ax x (x + 8)) r0 σ0 a) (q_Ax x (x + 8))) (hS : va_S (fun q : Nat => s.heap.size ≤ q) s.heap H locs) (hx0 : s.heap.size ≤ x) (hX : q_X E x (x + 8) σ H) (hM : q_M E (x + 2) S σ1 H)
    (kk : ∀ (H1 : Heap) (locs1 : List Loc), q_X E x (x + 8) σ0 H1 → q_M E (x + 2) H1.size σ1 H1 → va_S (fun q : Nat => s.heap.size ≤ q) s.heap H1 locs1 → W p l e R s m args below meth c H1 locs1 (cells + mc) (slots + ms) Q (F0 m (pc + 3) ls (.int r0 :: rest))) : W p l e R s m args below meth c H locs cells slots Q (F0 m pc ls st0) := by
  refine va_calli hr hS (fun q _ h => by show s.heap.size ≤ q; rcases h with h | h | h <;> omega) (fun q h => by show s.heap.size ≤ q; rcases h with h | h | h <;> omega) (fun r u t H1 locs1 ht hvm hw hB hz hk hS1 => ?_)
  obtain ⟨rfl, rfl⟩ := hw
  rw [ht] at hB
  exact kk H1 locs1 hB (lc_M hM hX hk) hS1
theorem lc_xl {r0 : Int64} (hr : va_Run p l e R s m args below meth c H locs cells slots mc ms (F0 m pc ls st0) rest (q_Wl (q_X E x (x + 8)) (q_Ax x (x + 8)) r0 σ0 a) (q_Ax x (x + 8))) (hS : va_S (fun q : Nat => s.heap.size ≤ q) s.heap H locs) (hx0 : s.heap.size ≤ x) (hX : q_X E x (x + 8) σ H) (hM : q_M E (x + 2) S σ1 H)
    (kk : ∀ (H1 : Heap) (locs1 : List Loc), q_X E x (x + 8) σ0 H1 → q_M E (x + 2) H1.size σ1 H1 → va_S (fun q : Nat => s.heap.size ≤ q) s.heap H1 locs1 → W p l e R s m args below meth c H1 locs1 (cells + mc) (slots + ms) Q (F0 m (pc + 3) ls (.long r0 :: rest))) : W p l e R s m args below meth c H locs cells slots Q (F0 m pc ls st0) := by
  refine va_calll hr hS (fun q _ h => by show s.heap.size ≤ q; rcases h with h | h | h <;> omega) (fun q h => by show s.heap.size ≤ q; rcases h with h | h | h <;> omega) (fun r u t H1 locs1 ht hvm hw hB hz hk hS1 => ?_)
  obtain ⟨rfl, rfl⟩ := hw
  rw [ht] at hB
  exact kk H1 locs1 hB (lc_M hM hX hk) hS1
theorem lc_mi {r0 : Int32} (hr : va_Run p l e R s m args below meth c H locs cells slots mc ms (F0 m pc ls st0) rest (q_Wi (q_M E (x + 2) H.size) (q_Am (x + 2)) r0 σ0 a) (q_Am (x + 2))) (hS : va_S (fun q : Nat => s.heap.size ≤ q) s.heap H locs) (hx0 : s.heap.size ≤ x) (hX : q_X E x (x + 8) σ H)
    (kk : ∀ (H1 : Heap) (locs1 : List Loc), q_X E x (x + 8) σ H1 → q_M E (x + 2) H1.size σ0 H1 → va_S (fun q : Nat => s.heap.size ≤ q) s.heap H1 locs1 → W p l e R s m args below meth c H1 locs1 (cells + mc) (slots + ms) Q (F0 m (pc + 3) ls (.int r0 :: rest))) : W p l e R s m args below meth c H locs cells slots Q (F0 m pc ls st0) := by
  refine va_calli hr hS (fun q _ h => by show s.heap.size ≤ q; have := h.1; omega) (fun q h => by show s.heap.size ≤ q; have := h.1; omega) (fun r u t H1 locs1 ht hvm hw hB hz hk hS1 => ?_)
  obtain ⟨rfl, rfl⟩ := hw
  rw [ht] at hB
  have hz1 : H1.size = H.size := hB.2.2.2.2.2.2
  exact kk H1 locs1 (lc_X hX hz1 hk) (by rw [hz1]; exact hB) hS1
theorem lc_ml {r0 : Int64} (hr : va_Run p l e R s m args below meth c H locs cells slots mc ms (F0 m pc ls st0) rest (q_Wl (q_M E (x + 2) H.size) (q_Am (x + 2)) r0 σ0 a) (q_Am (x + 2))) (hS : va_S (fun q : Nat => s.heap.size ≤ q) s.heap H locs) (hx0 : s.heap.size ≤ x) (hX : q_X E x (x + 8) σ H)
    (kk : ∀ (H1 : Heap) (locs1 : List Loc), q_X E x (x + 8) σ H1 → q_M E (x + 2) H1.size σ0 H1 → va_S (fun q : Nat => s.heap.size ≤ q) s.heap H1 locs1 → W p l e R s m args below meth c H1 locs1 (cells + mc) (slots + ms) Q (F0 m (pc + 3) ls (.long r0 :: rest))) : W p l e R s m args below meth c H locs cells slots Q (F0 m pc ls st0) := by
  refine va_calll hr hS (fun q _ h => by show s.heap.size ≤ q; have := h.1; omega) (fun q h => by show s.heap.size ≤ q; have := h.1; omega) (fun r u t H1 locs1 ht hvm hw hB hz hk hS1 => ?_)
  obtain ⟨rfl, rfl⟩ := hw
  rw [ht] at hB
  have hz1 : H1.size = H.size := hB.2.2.2.2.2.2
  exact kk H1 locs1 (lc_X hX hz1 hk) (by rw [hz1]; exact hB) hS1
end QL
theorem lg_same (r : Int64) : lg_cmp r r = 0 := by simp [lg_cmp]
theorem q_lim {L i : Nat} (hL : L ≤ 2560) (hi : i ≤ 4000) (h : ¬ nI L - nI 5 < nI i) : i + 5 ≤ L := by
  have h1 := pk_sub_toInt (a := L) (b := 5) (by omega) (by omega)
  have h2 := nI_toInt (n := i) (by omega)
  have h3 : ¬ ((nI L - nI 5).toInt < (nI i).toInt) := fun q => h (Int32.lt_iff_toInt_lt.mpr q)
  omega
