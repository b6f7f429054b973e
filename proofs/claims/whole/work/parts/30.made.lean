/-! ===== a thing more ===== -/
theorem q_X.made {E : q_E} {x T0 n : Nat} {kd sz : Nat → Nat} {sh : Nat → Bool} {nu : Nat → Nat → Int64} {pa : Nat → Nat → Option Nat} {sl : Nat → Option Nat} {ft tn ts tg : Int32} {H H2 H3 H4 : Heap} (h : q_X E x T0 (n, kd, sz, sh, nu, pa, sl, ft, tn, ts, tg) H) {k z j : Nat} (hkeep : ∀ q, q < T0 + 3 * n → H2[q]? = H[q]?) (hnew : q_new E (T0 + 3 * n) n k z H2) (h3 : q_ta E (x + 1) 12 (va_up (fun j => q_rf T0 (sl j)) j (some (T0 + 3 * n))) H3) (hz3 : H3.size = H2.size) (hq3 : ∀ q, q ≠ x + 1 → H3[q]? = H2[q]?) (h4 : q_ob E 1 x [.ref (x + 1), .int (nI (n + 1)), .int ft, .int tn, .int ts, .int tg] H4) (hz4 : H4.size = H3.size) (hq4 : ∀ q, q ≠ x → H4[q]? = H3[q]?) : q_X E x T0 (n + 1, va_up kd n k, va_up sz n z, va_up sh n false, va_up nu n (fun _ => 0), va_up pa n (fun _ => none), va_up sl j (some n), ft, tn, ts, tg) H4 := by
  have hx := h.2.2.2.2
  obtain ⟨n1, n2, n3, n4⟩ := hnew
  have hq : ∀ q, T0 ≤ q → H4[q]? = H2[q]? := fun q h => (hq4 q (by omega)).trans (hq3 q (by omega))
  refine ⟨h4, q_ta_congr ((hq4 _ (by omega)).trans h3) (fun q _ => ?_), fun t ht => ?_, ?_, hx⟩
  · by_cases e : q = j <;> simp [va_up, e, q_rf]
  · show q_th E T0 t (va_up kd n k t) (va_up sz n z t) (va_up sh n false t) (va_up nu n (fun _ => 0) t) (va_up pa n (fun _ => none) t) H4
    by_cases e : t = n
    · subst e
      rw [va_up_self, va_up_self, va_up_self, va_up_self, va_up_self]
      exact ⟨n1.kept (hq _ (by omega)), (hq _ (by omega)).trans n2, (hq _ (by omega)).trans n3⟩
    · rw [va_up_ne _ _ e, va_up_ne _ _ e, va_up_ne _ _ e, va_up_ne _ _ e, va_up_ne _ _ e]
      have ht : t < n + 1 := ht
      exact (h.2.2.1 t (by show t < n; omega)).kept (fun q h1 h2 => (hq q (by omega)).trans (hkeep q (by omega)))
  · show H4.size = T0 + 3 * (n + 1)
    omega
theorem q_M.made {E : q_E} {m S n : Nat} {kd sz : Nat → Nat} {sh : Nat → Bool} {nu : Nat → Nat → Int64} {pa : Nat → Nat → Option Nat} {sl : Nat → Option Nat} {ft tn ts tg : Int32} {H : Heap} {k z j : Nat} (hn : n < 60)
    (mO : q_ob E 2 m [.int (nI (n + 1)), .ref (m + 1), .ref (m + 2), .ref (m + 3), .ref (m + 4), .ref (m + 5), .int ft, .int tn, .int ts, .int tg] H) (mK : q_ia E (m + 1) 60 (va_up (fun k => nI (kd k)) n (nI k)) H) (mZ : q_ia E (m + 2) 60 (va_up (fun k => nI (sz k)) n (nI z)) H) (mH : q_za E (m + 3) 60 (va_up (fun k => q_b (sh k)) n (q_b false)) H) {cv : Int64} (hcv : q_cv k 0 none = cv)
    (mC : q_ja E (m + 4) 480 (fun q => if 8 * n ≤ q ∧ q < 8 * n + 8 then cv else q_cv (kd (q / 8)) (nu (q / 8) (q % 8)) (pa (q / 8) (q % 8))) H) (mS : q_ia E (m + 5) 12 (va_up (fun j => q_eI (sl j)) j (nI n)) H) (mZz : H.size = S) : q_M E m S (n + 1, va_up kd n k, va_up sz n z, va_up sh n false, va_up nu n (fun _ => 0), va_up pa n (fun _ => none), va_up sl j (some n), ft, tn, ts, tg) H := by
  refine ⟨mO, q_ia_congr mK (fun q _ => ?_), q_ia_congr mZ (fun q _ => ?_), q_za_congr mH (fun q _ => ?_), q_ja_congr mC (fun q _ => ?_), q_ia_congr mS (fun q _ => ?_), mZz⟩
  · by_cases e : q = n <;> simp [va_up, e]
  · by_cases e : q = n <;> simp [va_up, e]
  · by_cases e : q = n <;> simp [va_up, e]
  · show _ = q_cv (va_up kd n k (q / 8)) (va_up nu n (fun _ => 0) (q / 8) (q % 8)) (va_up pa n (fun _ => none) (q / 8) (q % 8))
    by_cases e : q / 8 = n
    · rw [if_pos (by omega), e, va_up_self, va_up_self, va_up_self, hcv]
    · rw [if_neg (by omega), va_up_ne _ _ e, va_up_ne _ _ e, va_up_ne _ _ e]
  · by_cases e : q = j <;> simp [va_up, e, q_eI]
