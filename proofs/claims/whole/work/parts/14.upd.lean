/-! ===== the pictures behind a store ===== -/
theorem q_ix_of2 {x : Int32} {n : Nat} (hn : n < 2 ^ 31) (h0 : ¬ x < 0) (h1 : x < nI n) : ∃ j : Nat, j < n ∧ x = nI j := q_ix_of hn h0 (Int32.not_le.mpr h1)
theorem q_ix_nlt {x : Int32} {n : Nat} (hn : n < 2 ^ 31) (h1 : ¬ x < nI n) : q_ix x n = none := q_ix_big hn (Int32.not_lt.mp h1)
theorem q_ix_of3 {x : Int32} {n : Nat} (hn : n + 1 < 2 ^ 31) (h0 : ¬ x < 0) (h1 : x ≤ nI n) : ∃ j : Nat, j < n + 1 ∧ x = nI j := by
  obtain ⟨j, hj, rfl⟩ := nI_of h0
  exact ⟨j, by have := (nI_leI hj (by omega)).mp h1; omega, rfl⟩
theorem q_ix_nle {x : Int32} {n : Nat} (hn : n + 1 < 2 ^ 31) (h1 : ¬ x ≤ nI n) : q_ix x (n + 1) = none := by
  rcases q_ix_or x hn with ⟨j, hj, rfl⟩ | h
  · exact absurd (nI_le (by omega) (by omega)) h1
  · exact h
theorem q_ix_out {x : Int32} {n : Nat} (hn : n < 2 ^ 31) (h : q_ix x n = none) : x.toInt < 0 ∨ (n : Int) - 1 < x.toInt := by
  by_cases h0 : x < 0
  · exact Or.inl (by have := Int32.lt_iff_toInt_lt.mp h0; simpa using this)
  · obtain ⟨j, hj, rfl⟩ := nI_of h0
    rw [nI_toInt hj]
    by_cases hl : j < n
    · rw [q_ix_in hl (by omega)] at h; cases h
    · exact Or.inr (by omega)
theorem q_gl_lt (k : Nat) : q_gl k < 13 := by unfold q_gl; split; omega; split <;> omega
theorem q_gp_lt (k : Nat) : q_gp k < 13 := by
  have := q_gl_lt k
  unfold q_gp; split; omega; split; omega; split <;> omega
theorem q_X.slot {E : q_E} {x T0 n : Nat} {kd sz : Nat → Nat} {sh : Nat → Bool} {nu : Nat → Nat → Int64} {pa : Nat → Nat → Option Nat} {sl : Nat → Option Nat} {ft tn ts tg : Int32} {H H1 : Heap} (h : q_X E x T0 (n, kd, sz, sh, nu, pa, sl, ft, tn, ts, tg) H) {j : Nat} (o : Option Nat) (hc : q_ta E (x + 1) 12 (va_up (fun j => q_rf T0 (sl j)) j (q_rf T0 o)) H1) (hz : H1.size = H.size) (hq : ∀ q, q ≠ x + 1 → H1[q]? = H[q]?) : q_X E x T0 (n, kd, sz, sh, nu, pa, va_up sl j o, ft, tn, ts, tg) H1 := by
  have hx := h.2.2.2.2
  refine ⟨h.1.kept (hq _ (by omega)), q_ta_congr hc (fun q _ => ?_), fun k hk => (h.2.2.1 k hk).kept (fun q h1 _ => hq q (by omega)), hz.trans h.2.2.2.1, hx⟩
  by_cases e : q = j <;> simp [va_up, e]
theorem q_X.num {E : q_E} {x T0 n : Nat} {kd sz : Nat → Nat} {sh : Nat → Bool} {nu : Nat → Nat → Int64} {pa : Nat → Nat → Option Nat} {sl : Nat → Option Nat} {ft tn ts tg : Int32} {H H1 : Heap} (h : q_X E x T0 (n, kd, sz, sh, nu, pa, sl, ft, tn, ts, tg) H) {k i : Nat} (hk : k < n) (v : Int64) (hc : q_ja E (T0 + 3 * k + 1) (q_nl (kd k) (sz k)) (va_up (nu k) i v) H1) (hz : H1.size = H.size) (hq : ∀ q, q ≠ T0 + 3 * k + 1 → H1[q]? = H[q]?) : q_X E x T0 (n, kd, sz, sh, va_up nu k (va_up (nu k) i v), pa, sl, ft, tn, ts, tg) H1 := by
  have hx := h.2.2.2.2
  refine ⟨h.1.kept (hq _ (by omega)), (hq _ (by omega)).trans h.2.1, fun t ht => ?_, hz.trans h.2.2.2.1, hx⟩
  by_cases e : t = k
  · subst e
    obtain ⟨h1, h2, h3⟩ := h.2.2.1 t ht
    refine ⟨h1.kept (hq _ (by omega)), ?_, (hq _ (by omega)).trans h3⟩
    show q_ja E _ _ (va_up nu t (va_up (nu t) i v) t) H1
    rw [va_up_self]; exact hc
  · have h1 := (h.2.2.1 t ht).kept (H1 := H1) (fun q h1 h2 => hq q (by omega))
    show q_th E T0 t _ _ _ (va_up nu k (va_up (nu k) i v) t) _ H1
    rw [va_up_ne _ _ e]; exact h1
theorem q_X.par {E : q_E} {x T0 n : Nat} {kd sz : Nat → Nat} {sh : Nat → Bool} {nu : Nat → Nat → Int64} {pa : Nat → Nat → Option Nat} {sl : Nat → Option Nat} {ft tn ts tg : Int32} {H H1 : Heap} (h : q_X E x T0 (n, kd, sz, sh, nu, pa, sl, ft, tn, ts, tg) H) {k i : Nat} (hk : k < n) (o : Option Nat) (hc : q_ta E (T0 + 3 * k + 2) (q_pl (kd k) (sz k)) (va_up (fun i => q_rf T0 (pa k i)) i (q_rf T0 o)) H1) (hz : H1.size = H.size) (hq : ∀ q, q ≠ T0 + 3 * k + 2 → H1[q]? = H[q]?) : q_X E x T0 (n, kd, sz, sh, nu, va_up pa k (va_up (pa k) i o), sl, ft, tn, ts, tg) H1 := by
  have hx := h.2.2.2.2
  refine ⟨h.1.kept (hq _ (by omega)), (hq _ (by omega)).trans h.2.1, fun t ht => ?_, hz.trans h.2.2.2.1, hx⟩
  by_cases e : t = k
  · subst e
    obtain ⟨h1, h2, h3⟩ := h.2.2.1 t ht
    refine ⟨h1.kept (hq _ (by omega)), (hq _ (by omega)).trans h2, ?_⟩
    show q_ta E _ _ (fun i_1 => q_rf T0 (va_up pa t (va_up (pa t) i o) t i_1)) H1
    rw [va_up_self]
    refine q_ta_congr hc (fun q _ => ?_)
    by_cases e : q = i <;> simp [va_up, e]
  · have h1 := (h.2.2.1 t ht).kept (H1 := H1) (fun q h1 h2 => hq q (by omega))
    show q_th E T0 t _ _ _ _ (va_up pa k (va_up (pa k) i o) t) H1
    rw [va_up_ne _ _ e]; exact h1
theorem q_X.lid {E : q_E} {x T0 n : Nat} {kd sz : Nat → Nat} {sh : Nat → Bool} {nu : Nat → Nat → Int64} {pa : Nat → Nat → Option Nat} {sl : Nat → Option Nat} {ft tn ts tg : Int32} {H H1 : Heap} (h : q_X E x T0 (n, kd, sz, sh, nu, pa, sl, ft, tn, ts, tg) H) {k : Nat} (hk : k < n) (b : Bool) (hc : q_ob E 0 (T0 + 3 * k) [.int (nI k), .int (nI (kd k)), .ref (T0 + 3 * k + 1), .ref (T0 + 3 * k + 2), .int (nI (q_am (kd k) (sz k))), .int (q_b b)] H1) (hz : H1.size = H.size) (hq : ∀ q, q ≠ T0 + 3 * k → H1[q]? = H[q]?) : q_X E x T0 (n, kd, sz, va_up sh k b, nu, pa, sl, ft, tn, ts, tg) H1 := by
  have hx := h.2.2.2.2
  refine ⟨h.1.kept (hq _ (by omega)), (hq _ (by omega)).trans h.2.1, fun t ht => ?_, hz.trans h.2.2.2.1, hx⟩
  by_cases e : t = k
  · subst e
    obtain ⟨h1, h2, h3⟩ := h.2.2.1 t ht
    show q_th E T0 t _ _ (va_up sh t b t) _ _ H1
    rw [va_up_self]
    exact ⟨hc, (hq _ (by omega)).trans h2, (hq _ (by omega)).trans h3⟩
  · have h1 := (h.2.2.1 t ht).kept (H1 := H1) (fun q h1 h2 => hq q (by omega))
    show q_th E T0 t _ _ (va_up sh k b t) _ _ H1
    rw [va_up_ne _ _ e]; exact h1
theorem q_X.amt {E : q_E} {x T0 n : Nat} {kd sz : Nat → Nat} {sh : Nat → Bool} {nu : Nat → Nat → Int64} {pa : Nat → Nat → Option Nat} {sl : Nat → Option Nat} {ft tn ts tg : Int32} {H H1 : Heap} (h : q_X E x T0 (n, kd, sz, sh, nu, pa, sl, ft, tn, ts, tg) H) {k : Nat} (hk : k < n) (h9 : 9 ≤ kd k) (z : Nat) (hc : q_ob E 0 (T0 + 3 * k) [.int (nI k), .int (nI (kd k)), .ref (T0 + 3 * k + 1), .ref (T0 + 3 * k + 2), .int (nI z), .int (q_b (sh k))] H1) (hz : H1.size = H.size) (hq : ∀ q, q ≠ T0 + 3 * k → H1[q]? = H[q]?) : q_X E x T0 (n, kd, va_up sz k z, sh, nu, pa, sl, ft, tn, ts, tg) H1 := by
  have hx := h.2.2.2.2
  refine ⟨h.1.kept (hq _ (by omega)), (hq _ (by omega)).trans h.2.1, fun t ht => ?_, hz.trans h.2.2.2.1, hx⟩
  by_cases e : t = k
  · subst e
    obtain ⟨h1, h2, h3⟩ := h.2.2.1 t ht
    show q_th E T0 t _ (va_up sz t z t) _ _ _ H1
    rw [va_up_self]
    have en : q_nl (kd t) z = q_nl (kd t) (sz t) := by unfold q_nl; rw [if_neg (by omega), if_neg (by omega)]
    have ep : q_pl (kd t) z = q_pl (kd t) (sz t) := by rw [q_pl0' (by omega), q_pl0' (by omega)]
    refine ⟨?_, ?_, ?_⟩
    · rw [q_am9 h9]; exact hc
    · rw [en]; exact (hq _ (by omega)).trans h2
    · rw [ep]; exact (hq _ (by omega)).trans h3
  · have h1 := (h.2.2.1 t ht).kept (H1 := H1) (fun q h1 h2 => hq q (by omega))
    show q_th E T0 t _ (va_up sz k z t) _ _ _ H1
    rw [va_up_ne _ _ e]; exact h1
/-! the same for the reference -/
theorem q_M.slot {E : q_E} {m S n : Nat} {kd sz : Nat → Nat} {sh : Nat → Bool} {nu : Nat → Nat → Int64} {pa : Nat → Nat → Option Nat} {sl : Nat → Option Nat} {ft tn ts tg : Int32} {H H1 : Heap} (h : q_M E m S (n, kd, sz, sh, nu, pa, sl, ft, tn, ts, tg) H) {j : Nat} (o : Option Nat) (hc : q_ia E (m + 5) 12 (va_up (fun j => q_eI (sl j)) j (q_eI o)) H1) (hz : H1.size = H.size) (hq : ∀ q, q ≠ m + 5 → H1[q]? = H[q]?) : q_M E m S (n, kd, sz, sh, nu, pa, va_up sl j o, ft, tn, ts, tg) H1 := by
  refine ⟨h.1.kept (hq _ (by omega)), (hq _ (by omega)).trans h.2.1, (hq _ (by omega)).trans h.2.2.1, (hq _ (by omega)).trans h.2.2.2.1, (hq _ (by omega)).trans h.2.2.2.2.1, q_ia_congr hc (fun q _ => ?_), hz.trans h.2.2.2.2.2.2⟩
  by_cases e : q = j <;> simp [va_up, e]
theorem q_M.num {E : q_E} {m S n : Nat} {kd sz : Nat → Nat} {sh : Nat → Bool} {nu : Nat → Nat → Int64} {pa : Nat → Nat → Option Nat} {sl : Nat → Option Nat} {ft tn ts tg : Int32} {H H1 : Heap} (h : q_M E m S (n, kd, sz, sh, nu, pa, sl, ft, tn, ts, tg) H) {k i : Nat} (hi : i < 8) (hd : ¬ (3 ≤ kd k ∧ kd k < 9)) (v : Int64) (hc : q_ja E (m + 4) 480 (va_up (fun q => q_cv (kd (q / 8)) (nu (q / 8) (q % 8)) (pa (q / 8) (q % 8))) (8 * k + i) v) H1) (hz : H1.size = H.size) (hq : ∀ q, q ≠ m + 4 → H1[q]? = H[q]?) : q_M E m S (n, kd, sz, sh, va_up nu k (va_up (nu k) i v), pa, sl, ft, tn, ts, tg) H1 := by
  refine ⟨h.1.kept (hq _ (by omega)), (hq _ (by omega)).trans h.2.1, (hq _ (by omega)).trans h.2.2.1, (hq _ (by omega)).trans h.2.2.2.1, q_ja_congr hc (fun q _ => ?_), (hq _ (by omega)).trans h.2.2.2.2.2.1, hz.trans h.2.2.2.2.2.2⟩
  show _ = q_cv (kd (q / 8)) (va_up nu k (va_up (nu k) i v) (q / 8) (q % 8)) (pa (q / 8) (q % 8))
  by_cases e : q = 8 * k + i
  · rw [e, show (8 * k + i) / 8 = k by omega, show (8 * k + i) % 8 = i by omega, va_up_self, va_up_self, va_up_self, q_cv, if_neg hd]
  · rw [va_up_ne _ _ e]
    by_cases e1 : q / 8 = k
    · rw [e1, va_up_self, va_up_ne _ _ (by omega)]
    · rw [va_up_ne _ _ e1]
theorem q_M.par {E : q_E} {m S n : Nat} {kd sz : Nat → Nat} {sh : Nat → Bool} {nu : Nat → Nat → Int64} {pa : Nat → Nat → Option Nat} {sl : Nat → Option Nat} {ft tn ts tg : Int32} {H H1 : Heap} (h : q_M E m S (n, kd, sz, sh, nu, pa, sl, ft, tn, ts, tg) H) {k i : Nat} (hi : i < 8) (hd : 3 ≤ kd k ∧ kd k < 9) (o : Option Nat) (hc : q_ja E (m + 4) 480 (va_up (fun q => q_cv (kd (q / 8)) (nu (q / 8) (q % 8)) (pa (q / 8) (q % 8))) (8 * k + i) (q_eL o)) H1) (hz : H1.size = H.size) (hq : ∀ q, q ≠ m + 4 → H1[q]? = H[q]?) : q_M E m S (n, kd, sz, sh, nu, va_up pa k (va_up (pa k) i o), sl, ft, tn, ts, tg) H1 := by
  refine ⟨h.1.kept (hq _ (by omega)), (hq _ (by omega)).trans h.2.1, (hq _ (by omega)).trans h.2.2.1, (hq _ (by omega)).trans h.2.2.2.1, q_ja_congr hc (fun q _ => ?_), (hq _ (by omega)).trans h.2.2.2.2.2.1, hz.trans h.2.2.2.2.2.2⟩
  show _ = q_cv (kd (q / 8)) (nu (q / 8) (q % 8)) (va_up pa k (va_up (pa k) i o) (q / 8) (q % 8))
  by_cases e : q = 8 * k + i
  · rw [e, show (8 * k + i) / 8 = k by omega, show (8 * k + i) % 8 = i by omega, va_up_self, va_up_self, va_up_self, q_cv, if_pos hd]
  · rw [va_up_ne _ _ e]
    by_cases e1 : q / 8 = k
    · rw [e1, va_up_self, va_up_ne _ _ (by omega)]
    · rw [va_up_ne _ _ e1]
theorem q_M.lid {E : q_E} {m S n : Nat} {kd sz : Nat → Nat} {sh : Nat → Bool} {nu : Nat → Nat → Int64} {pa : Nat → Nat → Option Nat} {sl : Nat → Option Nat} {ft tn ts tg : Int32} {H H1 : Heap} (h : q_M E m S (n, kd, sz, sh, nu, pa, sl, ft, tn, ts, tg) H) {k : Nat} (b : Bool) (hc : q_za E (m + 3) 60 (va_up (fun k => q_b (sh k)) k (q_b b)) H1) (hz : H1.size = H.size) (hq : ∀ q, q ≠ m + 3 → H1[q]? = H[q]?) : q_M E m S (n, kd, sz, va_up sh k b, nu, pa, sl, ft, tn, ts, tg) H1 := by
  refine ⟨h.1.kept (hq _ (by omega)), (hq _ (by omega)).trans h.2.1, (hq _ (by omega)).trans h.2.2.1, q_za_congr hc (fun q _ => ?_), (hq _ (by omega)).trans h.2.2.2.2.1, (hq _ (by omega)).trans h.2.2.2.2.2.1, hz.trans h.2.2.2.2.2.2⟩
  by_cases e : q = k <;> simp [va_up, e]
theorem q_M.amt {E : q_E} {m S n : Nat} {kd sz : Nat → Nat} {sh : Nat → Bool} {nu : Nat → Nat → Int64} {pa : Nat → Nat → Option Nat} {sl : Nat → Option Nat} {ft tn ts tg : Int32} {H H1 : Heap} (h : q_M E m S (n, kd, sz, sh, nu, pa, sl, ft, tn, ts, tg) H) {k : Nat} (z : Nat) (hc : q_ia E (m + 2) 60 (va_up (fun k => nI (sz k)) k (nI z)) H1) (hz : H1.size = H.size) (hq : ∀ q, q ≠ m + 2 → H1[q]? = H[q]?) : q_M E m S (n, kd, va_up sz k z, sh, nu, pa, sl, ft, tn, ts, tg) H1 := by
  refine ⟨h.1.kept (hq _ (by omega)), (hq _ (by omega)).trans h.2.1, q_ia_congr hc (fun q _ => ?_), (hq _ (by omega)).trans h.2.2.2.1, (hq _ (by omega)).trans h.2.2.2.2.1, (hq _ (by omega)).trans h.2.2.2.2.2.1, hz.trans h.2.2.2.2.2.2⟩
  by_cases e : q = k <;> simp [va_up, e]
theorem q_bn (b : Bool) : nI (if b = true then 1 else 0) = q_b b := by cases b <;> rfl
theorem q_I.slot {n : Nat} {kd sz : Nat → Nat} {sh : Nat → Bool} {nu : Nat → Nat → Int64} {pa : Nat → Nat → Option Nat} {sl : Nat → Option Nat} {ft tn ts tg ft' tn' ts' tg' : Int32} (h : q_I (n, kd, sz, sh, nu, pa, sl, ft, tn, ts, tg)) (j : Nat) {o : Option Nat} (ho : ∀ k, o = some k → k < n) : q_I (n, kd, sz, sh, nu, pa, va_up sl j o, ft', tn', ts', tg') := by
  refine ⟨h.1, h.2.1, fun i k hk => ?_⟩
  have hk : va_up sl j o i = some k := hk
  by_cases e : i = j
  · subst e
    rw [show va_up sl i o i = o from va_up_self _ _ _] at hk
    exact ho k hk
  · rw [show va_up sl j o i = sl i from va_up_ne _ _ e] at hk
    exact h.2.2 i k hk
