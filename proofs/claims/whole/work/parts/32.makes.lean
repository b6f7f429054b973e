/-! ===== make, of both (written by program) ===== -/
set_option maxRecDepth 20000 in
theorem nX1_make_0 : ∀ w ∈ u_ws RX0 TX0 6, w ∈ wsX1_make := by decide +kernel
set_option maxRecDepth 20000 in
theorem nX1_make_1 : ∀ w ∈ u_ws RX1 TX1 6, w ∈ wsX1_make := by decide +kernel
set_option maxHeartbeats 4000000 in
set_option maxRecDepth 100000 in
theorem kX1_make (l : Launch) (E : q_E) (x T0 : Nat) (n : Nat) (kd sz : Nat → Nat) (sh : Nat → Bool) (nu : Nat → Nat → Int64) (pa : Nat → Nat → Option Nat) (sl : Nat → Option Nat) (ft tn ts tg : Int32) (hI : q_I (n, kd, sz, sh, nu, pa, sl, ft, tn, ts, tg)) (kind am slot : Int32)  : Met l yX1_make wsX1_make ({ frames := 2, cells := 3, slots := 14, locals := 45 }) (q_PN E (q_X E x T0 (n, kd, sz, sh, nu, pa, sl, ft, tn, ts, tg)) [.ref x, .int kind, .int am, .int slot]) (q_Wi (q_X E x T0) (q_Ax x T0) ((f_make (n, kd, sz, sh, nu, pa, sl, ft, tn, ts, tg) kind am slot).1) (f_make (n, kd, sz, sh, nu, pa, sl, ft, tn, ts, tg) kind am slot).2) 3 14 (q_Ax x T0) := by
  refine Met.ofW (cc := cX1_make) (maxL := 5) (ret := (some .int)) (by decide) rfl ?_
  intro p e s m args below meth c s₁ B hml hv
  obtain ⟨rfl, hK, hN, hX⟩ := hv
  have hx := B.exec
  have hb := B.bytes
  have hr := B.returns
  have hts := atoms_spec (ws := wsX1_make) B.pre
  have hown : s.vm.findClass RX1 = some m.cls := findClass_of_methodNamed B.named
  have hlocks := B.notSynchronized
  have hl := lv_entry ([.ref x, .int kind, .int am, .int slot]) (n := 5) (Nat.le_of_ble_eq_true rfl)
  rw [lg_entry_eq]
  generalize (lg_sl ([.ref x, .int kind, .int am, .int slot]) ++ List.replicate (5 - (lg_sl ([.ref x, .int kind, .int am, .int slot])).length) Slot.unset).toArray = ls at hl ⊢
  have hl : lv_has ls 5 [(0, .ref x), (1, .int kind), (2, .int am), (3, .int slot)] := hl
  have hS : va_S (q_Ax x T0) s.heap s.heap [] := va_S.rf
  have n60 := hI.1
  try dsimp only at n60
  refine lv_aload_n hx hb dX1_make_0 rfl (lv_at hl 0 rfl) ?_
  refine lv_iconst (v := nI 0) hx hb dX1_make_1 (by decide) ?_
  refine qw_put (ci := 1) (C := RX1) (T := TX1) (N := 6) hx hb hts nX1_make_1 tyX1 tyX1_ok nmX1 hown hK hX.1 hS (Or.inl rfl) rfl 2 (by decide) (hts (.fieldLink RX1 19 "DockGates" "latestFault" "I") (by decide +kernel)) rfl rfl rfl rfl (Nat.le_of_ble_eq_true rfl) dX1_make_2 (fun H locs hO hz hq hS => ?_)
  have hX : q_X E x T0 (n, kd, sz, sh, nu, pa, sl, (nI 0), tn, ts, tg) H := hX.obj hO hz hq
  refine lv_iload_n hx hb dX1_make_5 rfl (lv_at hl 1 rfl) ?_
  refine qc_ri (r1 := q_b ((q_ix kind 12).isSome)) (W.runS (As := [.int kind]) (rest := []) ⟨hx, hb, hml, hown, hts⟩ (kX1_isKind l kind) (va_cwS 1 hts gX1_make_X1_isKind rfl rfl rfl (by decide +kernel) ⟨Nat.le_of_ble_eq_true rfl, Nat.le_of_ble_eq_true rfl⟩) preEq rfl rfl hl.1 rfl (lv_room (Nat.le_of_ble_eq_true rfl)) dX1_make_6 ⟨Nat.le_of_ble_eq_true rfl, Nat.le_of_ble_eq_true rfl⟩) rfl ?_
  refine ln_b_eq (tgt := 31) hx hb dX1_make_9 (by decide) (fun c_1 => ?_) (fun c_1 => ?_)
  · have c_1 := q_isn c_1
    refine lv_bipush (v := (-2)) hx hb dX1_make_31 (by decide) ?_
    refine W.widen (k := 3) (n := 14) (by omega) (by omega) ?_
    have ee : f_make (n, kd, sz, sh, nu, pa, sl, ft, tn, ts, tg) kind am slot = (((-2)), (n, kd, sz, sh, nu, pa, sl, (nI 0), tn, ts, tg)) := by first | (simp only [f_make, c_1]; done) | (simp only [f_make, c_1]; rfl) | (simp only [f_make, c_1]; rw [if_neg (by omega)]; done) | (simp only [f_make, c_1]; rw [if_pos (by omega)]; done) | (simp only [f_make, c_1]; rw [if_neg (by omega)]; rfl) | (simp only [f_make, c_1]; rw [if_pos (by omega)]; rfl) | (simp only [f_make, c_1]; cases q_ix slot 12 <;> first | rfl | (simp only [f_make, c_1]; rfl))
    exact W.iret (v := ((-2))) hx hb hr (fun t ht hW => ⟨⟨((-2)), (n, kd, sz, sh, nu, pa, sl, (nI 0), tn, ts, tg), rfl, ⟨(by rw [ee]), (by rw [ee])⟩, (by show q_X E x T0 (n, kd, sz, sh, nu, pa, sl, (nI 0), tn, ts, tg) t.heap; rw [ht]; exact hX)⟩, hS.F ht⟩) hS.2.2 dX1_make_33
  · obtain ⟨j_kind, hj_kind, rfl⟩ := q_is (by first | decide | omega) c_1
    have ej_kind := q_ix_in hj_kind (by first | decide | omega)
    refine lv_iload_n hx hb dX1_make_12 rfl (lv_at hl 3 rfl) ?_
    refine qc_ri (r1 := q_b ((q_ix slot 12).isSome)) (W.runS (As := [.int slot]) (rest := []) ⟨hx, hb, hml, hown, hts⟩ (kX1_isSlot l slot) (va_cwS 1 hts gX1_make_X1_isSlot rfl rfl rfl (by decide +kernel) ⟨Nat.le_of_ble_eq_true rfl, Nat.le_of_ble_eq_true rfl⟩) preEq rfl rfl hl.1 rfl (lv_room (Nat.le_of_ble_eq_true rfl)) dX1_make_13 ⟨Nat.le_of_ble_eq_true rfl, Nat.le_of_ble_eq_true rfl⟩) rfl ?_
    refine ln_b_eq (tgt := 31) hx hb dX1_make_16 (by decide) (fun c_2 => ?_) (fun c_2 => ?_)
    · have c_2 := q_isn c_2
      refine lv_bipush (v := (-2)) hx hb dX1_make_31 (by decide) ?_
      refine W.widen (k := 3) (n := 14) (by omega) (by omega) ?_
      have ee : f_make (n, kd, sz, sh, nu, pa, sl, ft, tn, ts, tg) (nI j_kind) am slot = (((-2)), (n, kd, sz, sh, nu, pa, sl, (nI 0), tn, ts, tg)) := by first | (simp only [f_make, ej_kind, c_2]; done) | (simp only [f_make, ej_kind, c_2]; rfl) | (simp only [f_make, ej_kind, c_2]; rw [if_neg (by omega)]; done) | (simp only [f_make, ej_kind, c_2]; rw [if_pos (by omega)]; done) | (simp only [f_make, ej_kind, c_2]; rw [if_neg (by omega)]; rfl) | (simp only [f_make, ej_kind, c_2]; rw [if_pos (by omega)]; rfl) | (simp only [f_make, ej_kind, c_2]; cases q_ix slot 12 <;> first | rfl | (simp only [f_make, ej_kind, c_2]; rfl))
      exact W.iret (v := ((-2))) hx hb hr (fun t ht hW => ⟨⟨((-2)), (n, kd, sz, sh, nu, pa, sl, (nI 0), tn, ts, tg), rfl, ⟨(by rw [ee]), (by rw [ee])⟩, (by show q_X E x T0 (n, kd, sz, sh, nu, pa, sl, (nI 0), tn, ts, tg) t.heap; rw [ht]; exact hX)⟩, hS.F ht⟩) hS.2.2 dX1_make_33
    · obtain ⟨j_slot, hj_slot, rfl⟩ := q_is (by first | decide | omega) c_2
      have ej_slot := q_ix_in hj_slot (by first | decide | omega)
      refine lv_iload_n hx hb dX1_make_19 rfl (lv_at hl 2 rfl) ?_
      refine lv_if_lt (tgt := 31) hx hb dX1_make_20 (by decide) (fun c_3 => ?_) (fun c_3 => ?_)
      · have c_3 : ∀ q, q_ix am q = none := fun q => q_ix_neg c_3
        refine lv_bipush (v := (-2)) hx hb dX1_make_31 (by decide) ?_
        refine W.widen (k := 3) (n := 14) (by omega) (by omega) ?_
        have ee : f_make (n, kd, sz, sh, nu, pa, sl, ft, tn, ts, tg) (nI j_kind) am (nI j_slot) = (((-2)), (n, kd, sz, sh, nu, pa, sl, (nI 0), tn, ts, tg)) := by first | (simp only [f_make, ej_kind, ej_slot, c_3]; done) | (simp only [f_make, ej_kind, ej_slot, c_3]; rfl) | (simp only [f_make, ej_kind, ej_slot, c_3]; rw [if_neg (by omega)]; done) | (simp only [f_make, ej_kind, ej_slot, c_3]; rw [if_pos (by omega)]; done) | (simp only [f_make, ej_kind, ej_slot, c_3]; rw [if_neg (by omega)]; rfl) | (simp only [f_make, ej_kind, ej_slot, c_3]; rw [if_pos (by omega)]; rfl) | (simp only [f_make, ej_kind, ej_slot, c_3]; cases q_ix slot 12 <;> first | rfl | (simp only [f_make, ej_kind, ej_slot, c_3]; rfl))
        exact W.iret (v := ((-2))) hx hb hr (fun t ht hW => ⟨⟨((-2)), (n, kd, sz, sh, nu, pa, sl, (nI 0), tn, ts, tg), rfl, ⟨(by rw [ee]), (by rw [ee])⟩, (by show q_X E x T0 (n, kd, sz, sh, nu, pa, sl, (nI 0), tn, ts, tg) t.heap; rw [ht]; exact hX)⟩, hS.F ht⟩) hS.2.2 dX1_make_33
      · refine lv_iload_n hx hb dX1_make_23 rfl (lv_at hl 2 rfl) ?_
        by_cases hk9 : j_kind < 9
        · refine lv_iload_n hx hb dX1_make_24 rfl (lv_at hl 1 rfl) ?_
          refine qc_ri (r1 := nI 8) (W.runS (As := [.int (nI j_kind)]) (rest := [.int am]) ⟨hx, hb, hml, hown, hts⟩ (kX1_mostOf l j_kind (by omega)) (va_cwS 1 hts gX1_make_X1_mostOf rfl rfl rfl (by decide +kernel) ⟨Nat.le_of_ble_eq_true rfl, Nat.le_of_ble_eq_true rfl⟩) preEq rfl rfl hl.1 rfl (lv_room (Nat.le_of_ble_eq_true rfl)) dX1_make_25 ⟨Nat.le_of_ble_eq_true rfl, Nat.le_of_ble_eq_true rfl⟩) (q_c (if_pos hk9)) ?_
          refine lv_icmp_le (tgt := 34) hx hb dX1_make_28 (by decide) (fun c_4 => ?_) (fun c_4 => ?_)
          · obtain ⟨j_am, hj_am, rfl⟩ := q_ix_of3 (by omega) c_3 c_4
            have ej_am : q_ix (nI j_am) 9 = some j_am := q_ix_in hj_am (by omega)
            refine lv_aload_n hx hb dX1_make_34 rfl (lv_at hl 0 rfl) ?_
            refine qw_get (v := .int (nI n)) (ci := 1) (C := RX1) (T := TX1) (N := 6) hx hb hts nX1_make_1 hown hK hX.1 rfl 1 (by decide) (hts (.fieldLink RX1 15 "DockGates" "made" "I") (by decide +kernel)) rfl rfl dX1_make_35 ?_
            refine lv_bipush (v := nI 60) hx hb dX1_make_38 (by decide) ?_
            refine ln_cmp_lt (tgt := 46) hx hb (by omega) (by omega) dX1_make_40 (by decide) (fun c_5 => ?_) (fun c_5 => ?_)
            · refine lv_aload_n hx hb dX1_make_46 rfl (lv_at hl 0 rfl) ?_
              refine qw_get (v := .int (nI n)) (ci := 1) (C := RX1) (T := TX1) (N := 6) hx hb hts nX1_make_1 hown hK hX.1 rfl 1 (by decide) (hts (.fieldLink RX1 15 "DockGates" "made" "I") (by decide +kernel)) rfl rfl dX1_make_47 ?_
              refine lv_istore (lv' := [(4, .int (nI n)), (0, .ref x), (1, .int (nI j_kind)), (2, .int (nI j_am)), (3, .int (nI j_slot))]) hx hb dX1_make_50 hl (by decide) rfl (fun ls hl => ?_)
              refine lv_aload_n hx hb dX1_make_52 rfl (lv_at hl 1 rfl) ?_
              refine qw_get (v := .ref (x + 1)) (ci := 1) (C := RX1) (T := TX1) (N := 6) hx hb hts nX1_make_1 hown hK hX.1 rfl 0 (by decide) (hts (.fieldLink RX1 11 "DockGates" "slots" "[LDockGates$Thing;") (by decide +kernel)) rfl rfl dX1_make_53 ?_
              refine lv_iload_n hx hb dX1_make_56 rfl (lv_at hl 4 rfl) ?_
              have hsz : Array.size H = T0 + 3 * n := hX.2.2.2.1
              have hx1 : x + 1 < T0 := hX.2.2.2.2
              refine qw_newo (ci := 0) (C := RX0) (T := TX0) (N := 6) (fs := [.int 0, .int 0, .null, .null, .int 0, .int 0]) hx hb hts nX1_make_0 tyX0 tyX0_ok hown (hts (.classLink RX1 9 RX0) (by decide +kernel)) (hts (.instantiable RX0 6) (by decide +kernel)) (hts (.initialized RX0) (by decide +kernel)) hK rfl (fun j hj => by rcases (show j = 0 ∨ j = 1 ∨ j = 2 ∨ j = 3 ∨ j = 4 ∨ j = 5 by omega) with rfl | rfl | rfl | rfl | rfl | rfl <;> rfl) (Nat.le_of_ble_eq_true rfl) (Nat.le_of_ble_eq_true rfl) dX1_make_57 (fun H1 hO hz1 hq1 => ?_)
              rw [hsz] at hO hz1 hq1 ⊢
              have hS1 := q_Sgrow hS (by omega) (fun q h => hq1 q (by omega))
              refine lv_dup hx hb dX1_make_60 rfl ?_
              refine lv_iload hx hb dX1_make_61 (lv_at hl 0 rfl) ?_
              refine lv_iload_n hx hb dX1_make_63 rfl (lv_at hl 2 rfl) ?_
              refine lv_iload_n hx hb dX1_make_64 rfl (lv_at hl 3 rfl) ?_
              refine va_callv (va_runI (As := [.int (nI n), .int (nI j_kind), .int (nI j_am)]) (rest := [.ref (T0 + 3 * n), .int (nI j_slot), .ref (x + 1)]) ⟨hx, hb, hml, hown, hts⟩ (kX0_init l E (T0 + 3 * n) n j_kind j_am (by omega) (by omega) (by omega)) (cwI 3 hts gX1_make_X0_init rfl rfl rfl (hts (.initialized RX0) (by decide +kernel)) (hts (.methodLink RX1 42 yX0_init) (by decide +kernel)) (hts (.instanceMethod yX0_init) (by decide +kernel)) rfl (by decide +kernel) ⟨Nat.le_of_ble_eq_true rfl, Nat.le_of_ble_eq_true rfl⟩) (q_preN hK hN ⟨hO, hz1⟩) rfl rfl hl.1 rfl (lv_room (Nat.le_of_ble_eq_true rfl)) dX1_make_65 ⟨Nat.le_of_ble_eq_true rfl, Nat.le_of_ble_eq_true rfl⟩) hS1 (fun q _ h => Or.inr (Or.inr (Nat.le_trans (Nat.le_add_right _ _) h))) (fun q h => Or.inr (Or.inr (Nat.le_trans (Nat.le_add_right _ _) h))) (fun u t H2 locs2 ht hvm hw hB hz2 hk2 hS => ?_)
              have hB : q_new E (T0 + 3 * n) n j_kind j_am H2 := by rw [← ht]; exact hB
              have hkeep : ∀ q, q < T0 + 3 * n → H2[q]? = H[q]? := fun q h => (hk2 q (by omega) (Nat.not_le.mpr h)).trans (hq1 q h)
              have hTs : q_ta E (x + 1) 12 (fun j => q_rf T0 (sl j)) H2 := (hkeep _ (by omega)).trans hX.2.1
              refine qw_aast (A := q_Ax x T0) hx hb hK hTs hB.1 hS (Or.inr (Or.inl rfl)) hj_slot (by decide) dX1_make_68 (fun H3 locs3 hT3 hz3 hq3 hS => ?_)
              have hOx : q_ob E 1 x [.ref (x + 1), .int (nI n), .int (nI 0), .int tn, .int ts, .int tg] H3 := (hX.1.kept (hkeep _ (by omega))).kept (hq3 _ (by omega))
              refine lv_aload_n hx hb dX1_make_69 rfl (lv_at hl 1 rfl) ?_
              refine lv_dup hx hb dX1_make_70 rfl ?_
              refine qw_get (v := .int (nI n)) (ci := 1) (C := RX1) (T := TX1) (N := 6) hx hb hts nX1_make_1 hown hK hOx rfl 1 (by decide) (hts (.fieldLink RX1 15 "DockGates" "made" "I") (by decide +kernel)) rfl rfl dX1_make_71 ?_
              refine lv_iconst (v := nI 1) hx hb dX1_make_74 (by decide) ?_
              refine ln_add hx hb dX1_make_75 ?_
              refine qw_put (ci := 1) (C := RX1) (T := TX1) (N := 6) (A := q_Ax x T0) hx hb hts nX1_make_1 tyX1 tyX1_ok nmX1 hown hK hOx hS (Or.inl rfl) rfl 1 (by decide) (hts (.fieldLink RX1 15 "DockGates" "made" "I") (by decide +kernel)) rfl rfl rfl rfl (Nat.le_of_ble_eq_true rfl) dX1_make_76 (fun H4 locs4 hO4 hz4 hq4 hS => ?_)
              refine lv_iload hx hb dX1_make_79 (lv_at hl 0 rfl) ?_
              have hX : q_X E x T0 (n + 1, va_up kd n j_kind, va_up sz n j_am, va_up sh n false, va_up nu n (fun _ => 0), va_up pa n (fun _ => none), va_up sl j_slot (some n), nI 0, tn, ts, tg) H4 := hX.made hkeep hB hT3 hz3 hq3 hO4 hz4 hq4
              refine W.widen (k := 3) (n := 14) (by omega) (by omega) ?_
              have ee : f_make (n, kd, sz, sh, nu, pa, sl, ft, tn, ts, tg) (nI j_kind) (nI j_am) (nI j_slot) = (nI n, (n + 1, va_up kd n j_kind, va_up sz n j_am, va_up sh n false, va_up nu n (fun _ => 0), va_up pa n (fun _ => none), va_up sl j_slot (some n), nI 0, tn, ts, tg)) := by first | (simp only [f_make, ej_kind, ej_slot, ej_am, c_5, if_pos hk9]; done) | (simp only [f_make, ej_kind, ej_slot, ej_am, c_5, if_pos hk9]; rfl) | (simp only [f_make, ej_kind, ej_slot, ej_am, c_5, if_pos hk9]; rw [if_neg (by omega)]; done) | (simp only [f_make, ej_kind, ej_slot, ej_am, c_5, if_pos hk9]; rw [if_pos (by omega)]; done) | (simp only [f_make, ej_kind, ej_slot, ej_am, c_5, if_pos hk9]; rw [if_neg (by omega)]; rfl) | (simp only [f_make, ej_kind, ej_slot, ej_am, c_5, if_pos hk9]; rw [if_pos (by omega)]; rfl) | (simp only [f_make, ej_kind, ej_slot, ej_am, c_5, if_pos hk9]; cases q_ix slot 12 <;> first | rfl | (simp only [f_make, ej_kind, ej_slot, ej_am, c_5, if_pos hk9]; rfl))
              exact W.iret (v := nI n) hx hb hr (fun t ht hW => ⟨⟨nI n, (n + 1, va_up kd n j_kind, va_up sz n j_am, va_up sh n false, va_up nu n (fun _ => 0), va_up pa n (fun _ => none), va_up sl j_slot (some n), nI 0, tn, ts, tg), rfl, ⟨(by rw [ee]), (by rw [ee])⟩, (by show q_X E x T0 (n + 1, va_up kd n j_kind, va_up sz n j_am, va_up sh n false, va_up nu n (fun _ => 0), va_up pa n (fun _ => none), va_up sl j_slot (some n), nI 0, tn, ts, tg) t.heap; rw [ht]; exact hX)⟩, hS.F ht⟩) hS.2.2 dX1_make_81
            · refine lv_bipush (v := (-3)) hx hb dX1_make_43 (by decide) ?_
              refine W.widen (k := 3) (n := 14) (by omega) (by omega) ?_
              have ee : f_make (n, kd, sz, sh, nu, pa, sl, ft, tn, ts, tg) (nI j_kind) (nI j_am) (nI j_slot) = (((-3)), (n, kd, sz, sh, nu, pa, sl, (nI 0), tn, ts, tg)) := by first | (simp only [f_make, ej_kind, ej_slot, ej_am, c_5, if_pos hk9]; done) | (simp only [f_make, ej_kind, ej_slot, ej_am, c_5, if_pos hk9]; rfl) | (simp only [f_make, ej_kind, ej_slot, ej_am, c_5, if_pos hk9]; rw [if_neg (by omega)]; done) | (simp only [f_make, ej_kind, ej_slot, ej_am, c_5, if_pos hk9]; rw [if_pos (by omega)]; done) | (simp only [f_make, ej_kind, ej_slot, ej_am, c_5, if_pos hk9]; rw [if_neg (by omega)]; rfl) | (simp only [f_make, ej_kind, ej_slot, ej_am, c_5, if_pos hk9]; rw [if_pos (by omega)]; rfl) | (simp only [f_make, ej_kind, ej_slot, ej_am, c_5, if_pos hk9]; cases q_ix slot 12 <;> first | rfl | (simp only [f_make, ej_kind, ej_slot, ej_am, c_5, if_pos hk9]; rfl))
              exact W.iret (v := ((-3))) hx hb hr (fun t ht hW => ⟨⟨((-3)), (n, kd, sz, sh, nu, pa, sl, (nI 0), tn, ts, tg), rfl, ⟨(by rw [ee]), (by rw [ee])⟩, (by show q_X E x T0 (n, kd, sz, sh, nu, pa, sl, (nI 0), tn, ts, tg) t.heap; rw [ht]; exact hX)⟩, hS.F ht⟩) hS.2.2 dX1_make_45
          · have c_4 : q_ix am 9 = none := q_ix_nle (by omega) c_4
            refine lv_bipush (v := (-2)) hx hb dX1_make_31 (by decide) ?_
            refine W.widen (k := 3) (n := 14) (by omega) (by omega) ?_
            have ee : f_make (n, kd, sz, sh, nu, pa, sl, ft, tn, ts, tg) (nI j_kind) am (nI j_slot) = (((-2)), (n, kd, sz, sh, nu, pa, sl, (nI 0), tn, ts, tg)) := by first | (simp only [f_make, ej_kind, ej_slot, c_4, if_pos hk9]; done) | (simp only [f_make, ej_kind, ej_slot, c_4, if_pos hk9]; rfl) | (simp only [f_make, ej_kind, ej_slot, c_4, if_pos hk9]; rw [if_neg (by omega)]; done) | (simp only [f_make, ej_kind, ej_slot, c_4, if_pos hk9]; rw [if_pos (by omega)]; done) | (simp only [f_make, ej_kind, ej_slot, c_4, if_pos hk9]; rw [if_neg (by omega)]; rfl) | (simp only [f_make, ej_kind, ej_slot, c_4, if_pos hk9]; rw [if_pos (by omega)]; rfl) | (simp only [f_make, ej_kind, ej_slot, c_4, if_pos hk9]; cases q_ix slot 12 <;> first | rfl | (simp only [f_make, ej_kind, ej_slot, c_4, if_pos hk9]; rfl))
            exact W.iret (v := ((-2))) hx hb hr (fun t ht hW => ⟨⟨((-2)), (n, kd, sz, sh, nu, pa, sl, (nI 0), tn, ts, tg), rfl, ⟨(by rw [ee]), (by rw [ee])⟩, (by show q_X E x T0 (n, kd, sz, sh, nu, pa, sl, (nI 0), tn, ts, tg) t.heap; rw [ht]; exact hX)⟩, hS.F ht⟩) hS.2.2 dX1_make_33
        · refine lv_iload_n hx hb dX1_make_24 rfl (lv_at hl 1 rfl) ?_
          refine qc_ri (r1 := nI 1000000) (W.runS (As := [.int (nI j_kind)]) (rest := [.int am]) ⟨hx, hb, hml, hown, hts⟩ (kX1_mostOf l j_kind (by omega)) (va_cwS 1 hts gX1_make_X1_mostOf rfl rfl rfl (by decide +kernel) ⟨Nat.le_of_ble_eq_true rfl, Nat.le_of_ble_eq_true rfl⟩) preEq rfl rfl hl.1 rfl (lv_room (Nat.le_of_ble_eq_true rfl)) dX1_make_25 ⟨Nat.le_of_ble_eq_true rfl, Nat.le_of_ble_eq_true rfl⟩) (q_c (if_neg hk9)) ?_
          refine lv_icmp_le (tgt := 34) hx hb dX1_make_28 (by decide) (fun c_6 => ?_) (fun c_6 => ?_)
          · obtain ⟨j_am, hj_am, rfl⟩ := q_ix_of3 (by omega) c_3 c_6
            have ej_am : q_ix (nI j_am) 1000001 = some j_am := q_ix_in hj_am (by omega)
            refine lv_aload_n hx hb dX1_make_34 rfl (lv_at hl 0 rfl) ?_
            refine qw_get (v := .int (nI n)) (ci := 1) (C := RX1) (T := TX1) (N := 6) hx hb hts nX1_make_1 hown hK hX.1 rfl 1 (by decide) (hts (.fieldLink RX1 15 "DockGates" "made" "I") (by decide +kernel)) rfl rfl dX1_make_35 ?_
            refine lv_bipush (v := nI 60) hx hb dX1_make_38 (by decide) ?_
            refine ln_cmp_lt (tgt := 46) hx hb (by omega) (by omega) dX1_make_40 (by decide) (fun c_7 => ?_) (fun c_7 => ?_)
            · refine lv_aload_n hx hb dX1_make_46 rfl (lv_at hl 0 rfl) ?_
              refine qw_get (v := .int (nI n)) (ci := 1) (C := RX1) (T := TX1) (N := 6) hx hb hts nX1_make_1 hown hK hX.1 rfl 1 (by decide) (hts (.fieldLink RX1 15 "DockGates" "made" "I") (by decide +kernel)) rfl rfl dX1_make_47 ?_
              refine lv_istore (lv' := [(4, .int (nI n)), (0, .ref x), (1, .int (nI j_kind)), (2, .int (nI j_am)), (3, .int (nI j_slot))]) hx hb dX1_make_50 hl (by decide) rfl (fun ls hl => ?_)
              refine lv_aload_n hx hb dX1_make_52 rfl (lv_at hl 1 rfl) ?_
              refine qw_get (v := .ref (x + 1)) (ci := 1) (C := RX1) (T := TX1) (N := 6) hx hb hts nX1_make_1 hown hK hX.1 rfl 0 (by decide) (hts (.fieldLink RX1 11 "DockGates" "slots" "[LDockGates$Thing;") (by decide +kernel)) rfl rfl dX1_make_53 ?_
              refine lv_iload_n hx hb dX1_make_56 rfl (lv_at hl 4 rfl) ?_
              have hsz : Array.size H = T0 + 3 * n := hX.2.2.2.1
              have hx1 : x + 1 < T0 := hX.2.2.2.2
              refine qw_newo (ci := 0) (C := RX0) (T := TX0) (N := 6) (fs := [.int 0, .int 0, .null, .null, .int 0, .int 0]) hx hb hts nX1_make_0 tyX0 tyX0_ok hown (hts (.classLink RX1 9 RX0) (by decide +kernel)) (hts (.instantiable RX0 6) (by decide +kernel)) (hts (.initialized RX0) (by decide +kernel)) hK rfl (fun j hj => by rcases (show j = 0 ∨ j = 1 ∨ j = 2 ∨ j = 3 ∨ j = 4 ∨ j = 5 by omega) with rfl | rfl | rfl | rfl | rfl | rfl <;> rfl) (Nat.le_of_ble_eq_true rfl) (Nat.le_of_ble_eq_true rfl) dX1_make_57 (fun H1 hO hz1 hq1 => ?_)
              rw [hsz] at hO hz1 hq1 ⊢
              have hS1 := q_Sgrow hS (by omega) (fun q h => hq1 q (by omega))
              refine lv_dup hx hb dX1_make_60 rfl ?_
              refine lv_iload hx hb dX1_make_61 (lv_at hl 0 rfl) ?_
              refine lv_iload_n hx hb dX1_make_63 rfl (lv_at hl 2 rfl) ?_
              refine lv_iload_n hx hb dX1_make_64 rfl (lv_at hl 3 rfl) ?_
              refine va_callv (va_runI (As := [.int (nI n), .int (nI j_kind), .int (nI j_am)]) (rest := [.ref (T0 + 3 * n), .int (nI j_slot), .ref (x + 1)]) ⟨hx, hb, hml, hown, hts⟩ (kX0_init l E (T0 + 3 * n) n j_kind j_am (by omega) (by omega) (by omega)) (cwI 3 hts gX1_make_X0_init rfl rfl rfl (hts (.initialized RX0) (by decide +kernel)) (hts (.methodLink RX1 42 yX0_init) (by decide +kernel)) (hts (.instanceMethod yX0_init) (by decide +kernel)) rfl (by decide +kernel) ⟨Nat.le_of_ble_eq_true rfl, Nat.le_of_ble_eq_true rfl⟩) (q_preN hK hN ⟨hO, hz1⟩) rfl rfl hl.1 rfl (lv_room (Nat.le_of_ble_eq_true rfl)) dX1_make_65 ⟨Nat.le_of_ble_eq_true rfl, Nat.le_of_ble_eq_true rfl⟩) hS1 (fun q _ h => Or.inr (Or.inr (Nat.le_trans (Nat.le_add_right _ _) h))) (fun q h => Or.inr (Or.inr (Nat.le_trans (Nat.le_add_right _ _) h))) (fun u t H2 locs2 ht hvm hw hB hz2 hk2 hS => ?_)
              have hB : q_new E (T0 + 3 * n) n j_kind j_am H2 := by rw [← ht]; exact hB
              have hkeep : ∀ q, q < T0 + 3 * n → H2[q]? = H[q]? := fun q h => (hk2 q (by omega) (Nat.not_le.mpr h)).trans (hq1 q h)
              have hTs : q_ta E (x + 1) 12 (fun j => q_rf T0 (sl j)) H2 := (hkeep _ (by omega)).trans hX.2.1
              refine qw_aast (A := q_Ax x T0) hx hb hK hTs hB.1 hS (Or.inr (Or.inl rfl)) hj_slot (by decide) dX1_make_68 (fun H3 locs3 hT3 hz3 hq3 hS => ?_)
              have hOx : q_ob E 1 x [.ref (x + 1), .int (nI n), .int (nI 0), .int tn, .int ts, .int tg] H3 := (hX.1.kept (hkeep _ (by omega))).kept (hq3 _ (by omega))
              refine lv_aload_n hx hb dX1_make_69 rfl (lv_at hl 1 rfl) ?_
              refine lv_dup hx hb dX1_make_70 rfl ?_
              refine qw_get (v := .int (nI n)) (ci := 1) (C := RX1) (T := TX1) (N := 6) hx hb hts nX1_make_1 hown hK hOx rfl 1 (by decide) (hts (.fieldLink RX1 15 "DockGates" "made" "I") (by decide +kernel)) rfl rfl dX1_make_71 ?_
              refine lv_iconst (v := nI 1) hx hb dX1_make_74 (by decide) ?_
              refine ln_add hx hb dX1_make_75 ?_
              refine qw_put (ci := 1) (C := RX1) (T := TX1) (N := 6) (A := q_Ax x T0) hx hb hts nX1_make_1 tyX1 tyX1_ok nmX1 hown hK hOx hS (Or.inl rfl) rfl 1 (by decide) (hts (.fieldLink RX1 15 "DockGates" "made" "I") (by decide +kernel)) rfl rfl rfl rfl (Nat.le_of_ble_eq_true rfl) dX1_make_76 (fun H4 locs4 hO4 hz4 hq4 hS => ?_)
              refine lv_iload hx hb dX1_make_79 (lv_at hl 0 rfl) ?_
              have hX : q_X E x T0 (n + 1, va_up kd n j_kind, va_up sz n j_am, va_up sh n false, va_up nu n (fun _ => 0), va_up pa n (fun _ => none), va_up sl j_slot (some n), nI 0, tn, ts, tg) H4 := hX.made hkeep hB hT3 hz3 hq3 hO4 hz4 hq4
              refine W.widen (k := 3) (n := 14) (by omega) (by omega) ?_
              have ee : f_make (n, kd, sz, sh, nu, pa, sl, ft, tn, ts, tg) (nI j_kind) (nI j_am) (nI j_slot) = (nI n, (n + 1, va_up kd n j_kind, va_up sz n j_am, va_up sh n false, va_up nu n (fun _ => 0), va_up pa n (fun _ => none), va_up sl j_slot (some n), nI 0, tn, ts, tg)) := by first | (simp only [f_make, ej_kind, ej_slot, ej_am, c_7, if_neg hk9]; done) | (simp only [f_make, ej_kind, ej_slot, ej_am, c_7, if_neg hk9]; rfl) | (simp only [f_make, ej_kind, ej_slot, ej_am, c_7, if_neg hk9]; rw [if_neg (by omega)]; done) | (simp only [f_make, ej_kind, ej_slot, ej_am, c_7, if_neg hk9]; rw [if_pos (by omega)]; done) | (simp only [f_make, ej_kind, ej_slot, ej_am, c_7, if_neg hk9]; rw [if_neg (by omega)]; rfl) | (simp only [f_make, ej_kind, ej_slot, ej_am, c_7, if_neg hk9]; rw [if_pos (by omega)]; rfl) | (simp only [f_make, ej_kind, ej_slot, ej_am, c_7, if_neg hk9]; cases q_ix slot 12 <;> first | rfl | (simp only [f_make, ej_kind, ej_slot, ej_am, c_7, if_neg hk9]; rfl))
              exact W.iret (v := nI n) hx hb hr (fun t ht hW => ⟨⟨nI n, (n + 1, va_up kd n j_kind, va_up sz n j_am, va_up sh n false, va_up nu n (fun _ => 0), va_up pa n (fun _ => none), va_up sl j_slot (some n), nI 0, tn, ts, tg), rfl, ⟨(by rw [ee]), (by rw [ee])⟩, (by show q_X E x T0 (n + 1, va_up kd n j_kind, va_up sz n j_am, va_up sh n false, va_up nu n (fun _ => 0), va_up pa n (fun _ => none), va_up sl j_slot (some n), nI 0, tn, ts, tg) t.heap; rw [ht]; exact hX)⟩, hS.F ht⟩) hS.2.2 dX1_make_81
            · refine lv_bipush (v := (-3)) hx hb dX1_make_43 (by decide) ?_
              refine W.widen (k := 3) (n := 14) (by omega) (by omega) ?_
              have ee : f_make (n, kd, sz, sh, nu, pa, sl, ft, tn, ts, tg) (nI j_kind) (nI j_am) (nI j_slot) = (((-3)), (n, kd, sz, sh, nu, pa, sl, (nI 0), tn, ts, tg)) := by first | (simp only [f_make, ej_kind, ej_slot, ej_am, c_7, if_neg hk9]; done) | (simp only [f_make, ej_kind, ej_slot, ej_am, c_7, if_neg hk9]; rfl) | (simp only [f_make, ej_kind, ej_slot, ej_am, c_7, if_neg hk9]; rw [if_neg (by omega)]; done) | (simp only [f_make, ej_kind, ej_slot, ej_am, c_7, if_neg hk9]; rw [if_pos (by omega)]; done) | (simp only [f_make, ej_kind, ej_slot, ej_am, c_7, if_neg hk9]; rw [if_neg (by omega)]; rfl) | (simp only [f_make, ej_kind, ej_slot, ej_am, c_7, if_neg hk9]; rw [if_pos (by omega)]; rfl) | (simp only [f_make, ej_kind, ej_slot, ej_am, c_7, if_neg hk9]; cases q_ix slot 12 <;> first | rfl | (simp only [f_make, ej_kind, ej_slot, ej_am, c_7, if_neg hk9]; rfl))
              exact W.iret (v := ((-3))) hx hb hr (fun t ht hW => ⟨⟨((-3)), (n, kd, sz, sh, nu, pa, sl, (nI 0), tn, ts, tg), rfl, ⟨(by rw [ee]), (by rw [ee])⟩, (by show q_X E x T0 (n, kd, sz, sh, nu, pa, sl, (nI 0), tn, ts, tg) t.heap; rw [ht]; exact hX)⟩, hS.F ht⟩) hS.2.2 dX1_make_45
          · have c_6 : q_ix am 1000001 = none := q_ix_nle (by omega) c_6
            refine lv_bipush (v := (-2)) hx hb dX1_make_31 (by decide) ?_
            refine W.widen (k := 3) (n := 14) (by omega) (by omega) ?_
            have ee : f_make (n, kd, sz, sh, nu, pa, sl, ft, tn, ts, tg) (nI j_kind) am (nI j_slot) = (((-2)), (n, kd, sz, sh, nu, pa, sl, (nI 0), tn, ts, tg)) := by first | (simp only [f_make, ej_kind, ej_slot, c_6, if_neg hk9]; done) | (simp only [f_make, ej_kind, ej_slot, c_6, if_neg hk9]; rfl) | (simp only [f_make, ej_kind, ej_slot, c_6, if_neg hk9]; rw [if_neg (by omega)]; done) | (simp only [f_make, ej_kind, ej_slot, c_6, if_neg hk9]; rw [if_pos (by omega)]; done) | (simp only [f_make, ej_kind, ej_slot, c_6, if_neg hk9]; rw [if_neg (by omega)]; rfl) | (simp only [f_make, ej_kind, ej_slot, c_6, if_neg hk9]; rw [if_pos (by omega)]; rfl) | (simp only [f_make, ej_kind, ej_slot, c_6, if_neg hk9]; cases q_ix slot 12 <;> first | rfl | (simp only [f_make, ej_kind, ej_slot, c_6, if_neg hk9]; rfl))
            exact W.iret (v := ((-2))) hx hb hr (fun t ht hW => ⟨⟨((-2)), (n, kd, sz, sh, nu, pa, sl, (nI 0), tn, ts, tg), rfl, ⟨(by rw [ee]), (by rw [ee])⟩, (by show q_X E x T0 (n, kd, sz, sh, nu, pa, sl, (nI 0), tn, ts, tg) t.heap; rw [ht]; exact hX)⟩, hS.F ht⟩) hS.2.2 dX1_make_33
set_option maxRecDepth 20000 in
theorem nX2_make_2 : ∀ w ∈ u_ws RX2 TX2 10, w ∈ wsX2_make := by decide +kernel
set_option maxHeartbeats 4000000 in
set_option maxRecDepth 100000 in
theorem kX2_make (l : Launch) (E : q_E) (mm S : Nat) (n : Nat) (kd sz : Nat → Nat) (sh : Nat → Bool) (nu : Nat → Nat → Int64) (pa : Nat → Nat → Option Nat) (sl : Nat → Option Nat) (ft tn ts tg : Int32) (hI : q_I (n, kd, sz, sh, nu, pa, sl, ft, tn, ts, tg)) (kind am slot : Int32)  : Met l yX2_make wsX2_make ({ frames := 2, cells := 0, slots := 0, locals := 42 }) (q_P E (q_M E mm S (n, kd, sz, sh, nu, pa, sl, ft, tn, ts, tg)) [.ref mm, .int kind, .int am, .int slot]) (q_Wi (q_M E mm S) (q_Am mm) ((f_make (n, kd, sz, sh, nu, pa, sl, ft, tn, ts, tg) kind am slot).1) (f_make (n, kd, sz, sh, nu, pa, sl, ft, tn, ts, tg) kind am slot).2) 0 0 (q_Am mm) := by
  refine Met.ofW (cc := cX2_make) (maxL := 5) (ret := (some .int)) (by decide) rfl ?_
  intro p e s m args below meth c s₁ B hml hv
  obtain ⟨rfl, hK, hM⟩ := hv
  have hx := B.exec
  have hb := B.bytes
  have hr := B.returns
  have hts := atoms_spec (ws := wsX2_make) B.pre
  have hown : s.vm.findClass RX2 = some m.cls := findClass_of_methodNamed B.named
  have hlocks := B.notSynchronized
  have hl := lv_entry ([.ref mm, .int kind, .int am, .int slot]) (n := 5) (Nat.le_of_ble_eq_true rfl)
  rw [lg_entry_eq]
  generalize (lg_sl ([.ref mm, .int kind, .int am, .int slot]) ++ List.replicate (5 - (lg_sl ([.ref mm, .int kind, .int am, .int slot])).length) Slot.unset).toArray = ls at hl ⊢
  have hl : lv_has ls 5 [(0, .ref mm), (1, .int kind), (2, .int am), (3, .int slot)] := hl
  have hS : va_S (q_Am mm) s.heap s.heap [] := va_S.rf
  have n60 := hI.1
  try dsimp only at n60
  refine lv_aload_n hx hb dX2_make_0 rfl (lv_at hl 0 rfl) ?_
  refine lv_iconst (v := nI 0) hx hb dX2_make_1 (by decide) ?_
  refine qw_put (ci := 2) (C := RX2) (T := TX2) (N := 10) hx hb hts nX2_make_2 tyX2 tyX2_ok nmX2 hown hK hM.1 hS ⟨by omega, by omega⟩ rfl 6 (by decide) (hts (.fieldLink RX2 42 "DockGatesModel" "fault" "I") (by decide +kernel)) rfl rfl rfl rfl (Nat.le_of_ble_eq_true rfl) dX2_make_2 (fun H locs hO hz hq hS => ?_)
  have hM : q_M E mm S (n, kd, sz, sh, nu, pa, sl, (nI 0), tn, ts, tg) H := hM.obj hO hz hq
  refine lv_iload_n hx hb dX2_make_5 rfl (lv_at hl 1 rfl) ?_
  refine lv_iconst (v := nI 0) hx hb dX2_make_6 (by decide) ?_
  refine lv_bipush (v := nI 11) hx hb dX2_make_7 (by decide) ?_
  refine qc_ri (r1 := q_b ((q_ix kind 12).isSome)) (W.runS (As := [.int kind, .int (nI 0), .int (nI 11)]) (rest := []) ⟨hx, hb, hml, hown, hts⟩ (kX2_isIn l kind (nI 0) (nI 11)) (va_cwS 3 hts gX2_make_X2_isIn rfl rfl rfl (by decide +kernel) ⟨Nat.le_of_ble_eq_true rfl, Nat.le_of_ble_eq_true rfl⟩) preEq rfl rfl hl.1 rfl (lv_room (Nat.le_of_ble_eq_true rfl)) dX2_make_9 ⟨Nat.le_of_ble_eq_true rfl, Nat.le_of_ble_eq_true rfl⟩) (congrArg q_b (q_in0 _ (by decide))) ?_
  refine ln_b_eq (tgt := 43) hx hb dX2_make_12 (by decide) (fun c_1 => ?_) (fun c_1 => ?_)
  · have c_1 := q_isn c_1
    refine lv_bipush (v := (-2)) hx hb dX2_make_43 (by decide) ?_
    have ee : f_make (n, kd, sz, sh, nu, pa, sl, ft, tn, ts, tg) kind am slot = (((-2)), (n, kd, sz, sh, nu, pa, sl, (nI 0), tn, ts, tg)) := by first | (simp only [f_make, c_1]; done) | (simp only [f_make, c_1]; rfl) | (simp only [f_make, c_1]; rw [if_neg (by omega)]; done) | (simp only [f_make, c_1]; rw [if_pos (by omega)]; done) | (simp only [f_make, c_1]; rw [if_neg (by omega)]; rfl) | (simp only [f_make, c_1]; rw [if_pos (by omega)]; rfl) | (simp only [f_make, c_1]; cases q_ix slot 12 <;> first | rfl | (simp only [f_make, c_1]; rfl))
    exact W.iret (v := ((-2))) hx hb hr (fun tt ht hW => ⟨⟨((-2)), (n, kd, sz, sh, nu, pa, sl, (nI 0), tn, ts, tg), rfl, ⟨(by rw [ee]), (by rw [ee])⟩, (by show q_M E mm S (n, kd, sz, sh, nu, pa, sl, (nI 0), tn, ts, tg) tt.heap; rw [ht]; exact hM)⟩, hS.F ht⟩) hS.2.2 dX2_make_45
  · obtain ⟨j_kind, hj_kind, rfl⟩ := q_is (by first | decide | omega) c_1
    have ej_kind := q_ix_in hj_kind (by first | decide | omega)
    by_cases hk9 : j_kind < 9
    · refine lv_iload_n hx hb dX2_make_15 rfl (lv_at hl 2 rfl) ?_
      refine lv_iconst (v := nI 0) hx hb dX2_make_16 (by decide) ?_
      refine lv_iload_n hx hb dX2_make_17 rfl (lv_at hl 1 rfl) ?_
      refine lv_bipush (v := nI 9) hx hb dX2_make_18 (by decide) ?_
      refine ln_cmp_ge (tgt := 28) hx hb (by omega) (by omega) dX2_make_20 (by decide) (fun c_2 => absurd c_2 (by omega)) (fun _ => ?_)
      refine lv_bipush (v := nI 8) hx hb dX2_make_23 (by decide) ?_
      refine lv_goto (tgt := 30) hx hb dX2_make_25 (by decide) ?_
      refine qc_ri (r1 := q_b ((q_ix am 9).isSome)) (W.runS (As := [.int am, .int (nI 0), .int (nI 8)]) (rest := []) ⟨hx, hb, hml, hown, hts⟩ (kX2_isIn l am (nI 0) (nI 8)) (va_cwS 3 hts gX2_make_X2_isIn rfl rfl rfl (by decide +kernel) ⟨Nat.le_of_ble_eq_true rfl, Nat.le_of_ble_eq_true rfl⟩) preEq rfl rfl hl.1 rfl (lv_room (Nat.le_of_ble_eq_true rfl)) dX2_make_30 ⟨Nat.le_of_ble_eq_true rfl, Nat.le_of_ble_eq_true rfl⟩) (congrArg q_b (q_in0 _ (by decide))) ?_
      refine ln_b_eq (tgt := 43) hx hb dX2_make_33 (by decide) (fun c_3 => ?_) (fun c_3 => ?_)
      · have c_3 := q_isn c_3
        refine lv_bipush (v := (-2)) hx hb dX2_make_43 (by decide) ?_
        have ee : f_make (n, kd, sz, sh, nu, pa, sl, ft, tn, ts, tg) (nI j_kind) am slot = (((-2)), (n, kd, sz, sh, nu, pa, sl, (nI 0), tn, ts, tg)) := by first | (simp only [f_make, ej_kind, c_3, if_pos hk9]; done) | (simp only [f_make, ej_kind, c_3, if_pos hk9]; rfl) | (simp only [f_make, ej_kind, c_3, if_pos hk9]; rw [if_neg (by omega)]; done) | (simp only [f_make, ej_kind, c_3, if_pos hk9]; rw [if_pos (by omega)]; done) | (simp only [f_make, ej_kind, c_3, if_pos hk9]; rw [if_neg (by omega)]; rfl) | (simp only [f_make, ej_kind, c_3, if_pos hk9]; rw [if_pos (by omega)]; rfl) | (simp only [f_make, ej_kind, c_3, if_pos hk9]; cases q_ix slot 12 <;> first | rfl | (simp only [f_make, ej_kind, c_3, if_pos hk9]; rfl))
        exact W.iret (v := ((-2))) hx hb hr (fun tt ht hW => ⟨⟨((-2)), (n, kd, sz, sh, nu, pa, sl, (nI 0), tn, ts, tg), rfl, ⟨(by rw [ee]), (by rw [ee])⟩, (by show q_M E mm S (n, kd, sz, sh, nu, pa, sl, (nI 0), tn, ts, tg) tt.heap; rw [ht]; exact hM)⟩, hS.F ht⟩) hS.2.2 dX2_make_45
      · obtain ⟨j_am, hj_am, rfl⟩ := q_is (by first | decide | omega) c_3
        have ej_am := q_ix_in hj_am (by first | decide | omega)
        refine lv_iload_n hx hb dX2_make_36 rfl (lv_at hl 3 rfl) ?_
        refine qc_ri (r1 := q_b ((q_ix slot 12).isSome)) (W.runS (As := [.int slot]) (rest := []) ⟨hx, hb, hml, hown, hts⟩ (kX2_isSlot l slot) (va_cwS 1 hts gX2_make_X2_isSlot rfl rfl rfl (by decide +kernel) ⟨Nat.le_of_ble_eq_true rfl, Nat.le_of_ble_eq_true rfl⟩) preEq rfl rfl hl.1 rfl (lv_room (Nat.le_of_ble_eq_true rfl)) dX2_make_37 ⟨Nat.le_of_ble_eq_true rfl, Nat.le_of_ble_eq_true rfl⟩) rfl ?_
        refine ln_b_ne (tgt := 46) hx hb dX2_make_40 (by decide) (fun c_4 => ?_) (fun c_4 => ?_)
        · obtain ⟨j_slot, hj_slot, rfl⟩ := q_is (by first | decide | omega) c_4
          have ej_slot := q_ix_in hj_slot (by first | decide | omega)
          refine lv_aload_n hx hb dX2_make_46 rfl (lv_at hl 0 rfl) ?_
          refine qw_get (v := .int (nI n)) (ci := 2) (C := RX2) (T := TX2) (N := 10) hx hb hts nX2_make_2 hown hK hM.1 rfl 0 (by decide) (hts (.fieldLink RX2 61 "DockGatesModel" "things" "I") (by decide +kernel)) rfl rfl dX2_make_47 ?_
          refine lv_bipush (v := nI 60) hx hb dX2_make_50 (by decide) ?_
          refine ln_cmp_ne (tgt := 58) hx hb (by omega) (by omega) dX2_make_52 (by decide) (fun c_5 => ?_) (fun c_5 => ?_)
          · obtain ⟨mO, mK, mZ, mH, mC, mS, mSz⟩ := hM
            have n60 := hI.1
            try dsimp only at n60
            by_cases hth : 3 ≤ j_kind ∧ j_kind < 9
            · have mO : q_ob E 2 mm [.int (nI n), .ref (mm + 1), .ref (mm + 2), .ref (mm + 3), .ref (mm + 4), .ref (mm + 5), .int (nI 0), .int tn, .int ts, .int tg] H := mO
              have mK : q_ia E (mm + 1) 60 (fun k => nI (kd k)) H := mK
              have mZ : q_ia E (mm + 2) 60 (fun k => nI (sz k)) H := mZ
              have mH : q_za E (mm + 3) 60 (fun k => q_b (sh k)) H := mH
              have mC : q_ja E (mm + 4) 480 (fun q => q_cv (kd (q / 8)) (nu (q / 8) (q % 8)) (pa (q / 8) (q % 8))) H := mC
              have mS : q_ia E (mm + 5) 12 (fun j => q_eI (sl j)) H := mS
              refine lv_aload_n hx hb dX2_make_58 rfl (lv_at hl 0 rfl) ?_
              refine qw_get (v := .ref (mm + 1)) (ci := 2) (C := RX2) (T := TX2) (N := 10) hx hb hts nX2_make_2 hown hK mO rfl 1 (by decide) (hts (.fieldLink RX2 7 "DockGatesModel" "kind" "[I") (by decide +kernel)) rfl rfl dX2_make_59 ?_
              refine lv_aload_n hx hb dX2_make_62 rfl (lv_at hl 0 rfl) ?_
              refine qw_get (v := .int (nI n)) (ci := 2) (C := RX2) (T := TX2) (N := 10) hx hb hts nX2_make_2 hown hK mO rfl 0 (by decide) (hts (.fieldLink RX2 61 "DockGatesModel" "things" "I") (by decide +kernel)) rfl rfl dX2_make_63 ?_
              refine lv_iload_n hx hb dX2_make_66 rfl (lv_at hl 1 rfl) ?_
              refine qw_iast (A := q_Am mm) hx hb hK mK hS ⟨by omega, by omega⟩ (by omega) (by decide) dX2_make_67 (fun H locs mK hz hq hS => ?_)
              have mO := mO.kept (hq _ (by omega))
              have mZ : q_ia E (mm + 2) 60 (fun k => nI (sz k)) H := (hq _ (by omega)).trans mZ
              have mH : q_za E (mm + 3) 60 (fun k => q_b (sh k)) H := (hq _ (by omega)).trans mH
              have mC : q_ja E (mm + 4) 480 (fun q => q_cv (kd (q / 8)) (nu (q / 8) (q % 8)) (pa (q / 8) (q % 8))) H := (hq _ (by omega)).trans mC
              have mS : q_ia E (mm + 5) 12 (fun j => q_eI (sl j)) H := (hq _ (by omega)).trans mS
              have mSz : Array.size H = S := hz.trans mSz
              refine lv_aload_n hx hb dX2_make_68 rfl (lv_at hl 0 rfl) ?_
              refine qw_get (v := .ref (mm + 2)) (ci := 2) (C := RX2) (T := TX2) (N := 10) hx hb hts nX2_make_2 hown hK mO rfl 2 (by decide) (hts (.fieldLink RX2 13 "DockGatesModel" "size" "[I") (by decide +kernel)) rfl rfl dX2_make_69 ?_
              refine lv_aload_n hx hb dX2_make_72 rfl (lv_at hl 0 rfl) ?_
              refine qw_get (v := .int (nI n)) (ci := 2) (C := RX2) (T := TX2) (N := 10) hx hb hts nX2_make_2 hown hK mO rfl 0 (by decide) (hts (.fieldLink RX2 61 "DockGatesModel" "things" "I") (by decide +kernel)) rfl rfl dX2_make_73 ?_
              refine lv_iload_n hx hb dX2_make_76 rfl (lv_at hl 2 rfl) ?_
              refine qw_iast (A := q_Am mm) hx hb hK mZ hS ⟨by omega, by omega⟩ (by omega) (by decide) dX2_make_77 (fun H locs mZ hz hq hS => ?_)
              have mO := mO.kept (hq _ (by omega))
              have mK : q_ia E (mm + 1) 60 (va_up (fun k => nI (kd k)) n (nI j_kind)) H := (hq _ (by omega)).trans mK
              have mH : q_za E (mm + 3) 60 (fun k => q_b (sh k)) H := (hq _ (by omega)).trans mH
              have mC : q_ja E (mm + 4) 480 (fun q => q_cv (kd (q / 8)) (nu (q / 8) (q % 8)) (pa (q / 8) (q % 8))) H := (hq _ (by omega)).trans mC
              have mS : q_ia E (mm + 5) 12 (fun j => q_eI (sl j)) H := (hq _ (by omega)).trans mS
              have mSz : Array.size H = S := hz.trans mSz
              refine lv_aload_n hx hb dX2_make_78 rfl (lv_at hl 0 rfl) ?_
              refine qw_get (v := .ref (mm + 3)) (ci := 2) (C := RX2) (T := TX2) (N := 10) hx hb hts nX2_make_2 hown hK mO rfl 3 (by decide) (hts (.fieldLink RX2 16 "DockGatesModel" "isShut" "[Z") (by decide +kernel)) rfl rfl dX2_make_79 ?_
              refine lv_aload_n hx hb dX2_make_82 rfl (lv_at hl 0 rfl) ?_
              refine qw_get (v := .int (nI n)) (ci := 2) (C := RX2) (T := TX2) (N := 10) hx hb hts nX2_make_2 hown hK mO rfl 0 (by decide) (hts (.fieldLink RX2 61 "DockGatesModel" "things" "I") (by decide +kernel)) rfl rfl dX2_make_83 ?_
              refine lv_iconst (v := nI 0) hx hb dX2_make_86 (by decide) ?_
              refine qw_zast (x := false) (A := q_Am mm) hx hb hK mH hS ⟨by omega, by omega⟩ (by omega) (by decide) dX2_make_87 (fun H locs mH hz hq hS => ?_)
              have mO := mO.kept (hq _ (by omega))
              have mK : q_ia E (mm + 1) 60 (va_up (fun k => nI (kd k)) n (nI j_kind)) H := (hq _ (by omega)).trans mK
              have mZ : q_ia E (mm + 2) 60 (va_up (fun k => nI (sz k)) n (nI j_am)) H := (hq _ (by omega)).trans mZ
              have mC : q_ja E (mm + 4) 480 (fun q => q_cv (kd (q / 8)) (nu (q / 8) (q % 8)) (pa (q / 8) (q % 8))) H := (hq _ (by omega)).trans mC
              have mS : q_ia E (mm + 5) 12 (fun j => q_eI (sl j)) H := (hq _ (by omega)).trans mS
              have mSz : Array.size H = S := hz.trans mSz
              refine lv_iconst (v := nI 0) hx hb dX2_make_88 (by decide) ?_
              refine lv_istore (lv' := [(4, .int (nI 0)), (0, .ref mm), (1, .int (nI j_kind)), (2, .int (nI j_am)), (3, .int (nI j_slot))]) hx hb dX2_make_89 hl (by decide) rfl (fun ls hl => ?_)
              obtain ⟨i, ei⟩ : ∃ i : Nat, i = 0 := ⟨_, rfl⟩
              refine qw_name (P := fun H locs => q_ob E 2 mm [.int (nI n), .ref (mm + 1), .ref (mm + 2), .ref (mm + 3), .ref (mm + 4), .ref (mm + 5), .int (nI 0), .int tn, .int ts, .int tg] H ∧ q_ia E (mm + 1) 60 (va_up (fun k => nI (kd k)) n (nI j_kind)) H ∧ q_ia E (mm + 2) 60 (va_up (fun k => nI (sz k)) n (nI j_am)) H ∧ q_za E (mm + 3) 60 (va_up (fun k => q_b (sh k)) n (q_b false)) H ∧ q_ja E (mm + 4) 480 (fun q => if 8 * n ≤ q ∧ q < 8 * n + i then (-1) else q_cv (kd (q / 8)) (nu (q / 8) (q % 8)) (pa (q / 8) (q % 8))) H ∧ q_ia E (mm + 5) 12 (fun j => q_eI (sl j)) H ∧ Array.size H = S ∧ va_S (q_Am mm) s.heap H locs) (by subst ei; exact ⟨mO, mK, mZ, mH, q_ja_congr mC (fun q _ => by rw [if_neg (by omega)]), mS, mSz, hS⟩) (fun H locs hMS => ?_)
              clear mO mK mZ mH mC mS mSz hS
              obtain ⟨mO, mK, mZ, mH, mC, mS, mSz, hS⟩ := hMS
              have hl : lv_has ls 5 [(0, .ref mm), (1, .int (nI j_kind)), (2, .int (nI j_am)), (3, .int (nI j_slot)), (4, .int (nI i))] := by subst ei; exact lv_sub hl [1, 2, 3, 4, 0] rfl
              generalize els : ls = lz at hl ⊢
              clear els
              obtain ⟨d, hd⟩ : ∃ d, i + d = 8 := ⟨8 - i, by omega⟩
              clear ei
              induction d generalizing i H locs lz with
              | zero =>
                refine lv_iload hx hb dX2_make_91 (lv_at hl 4 rfl) ?_
                refine lv_bipush (v := nI 8) hx hb dX2_make_93 (by decide) ?_
                refine ln_cmp_ge (tgt := 133) hx hb (by omega) (by omega) dX2_make_95 (by decide) (fun _ => ?_) (fun c_6 => absurd c_6 (by omega))
                refine lv_aload_n hx hb dX2_make_133 rfl (lv_at hl 0 rfl) ?_
                refine qw_get (v := .ref (mm + 5)) (ci := 2) (C := RX2) (T := TX2) (N := 10) hx hb hts nX2_make_2 hown hK mO rfl 5 (by decide) (hts (.fieldLink RX2 24 "DockGatesModel" "slots" "[I") (by decide +kernel)) rfl rfl dX2_make_134 ?_
                refine lv_iload_n hx hb dX2_make_137 rfl (lv_at hl 3 rfl) ?_
                refine lv_aload_n hx hb dX2_make_138 rfl (lv_at hl 0 rfl) ?_
                refine qw_get (v := .int (nI n)) (ci := 2) (C := RX2) (T := TX2) (N := 10) hx hb hts nX2_make_2 hown hK mO rfl 0 (by decide) (hts (.fieldLink RX2 61 "DockGatesModel" "things" "I") (by decide +kernel)) rfl rfl dX2_make_139 ?_
                refine qw_iast (A := q_Am mm) hx hb hK mS hS ⟨by omega, by omega⟩ (by omega) (by decide) dX2_make_142 (fun H locs mS hz hq hS => ?_)
                have mO := mO.kept (hq _ (by omega))
                have mK : q_ia E (mm + 1) 60 (va_up (fun k => nI (kd k)) n (nI j_kind)) H := (hq _ (by omega)).trans mK
                have mZ : q_ia E (mm + 2) 60 (va_up (fun k => nI (sz k)) n (nI j_am)) H := (hq _ (by omega)).trans mZ
                have mH : q_za E (mm + 3) 60 (va_up (fun k => q_b (sh k)) n (q_b false)) H := (hq _ (by omega)).trans mH
                have mC : q_ja E (mm + 4) 480 (fun q => if 8 * n ≤ q ∧ q < 8 * n + i then (-1) else q_cv (kd (q / 8)) (nu (q / 8) (q % 8)) (pa (q / 8) (q % 8))) H := (hq _ (by omega)).trans mC
                have mSz : Array.size H = S := hz.trans mSz
                refine lv_aload_n hx hb dX2_make_143 rfl (lv_at hl 0 rfl) ?_
                refine lv_dup hx hb dX2_make_144 rfl ?_
                refine qw_get (v := .int (nI n)) (ci := 2) (C := RX2) (T := TX2) (N := 10) hx hb hts nX2_make_2 hown hK mO rfl 0 (by decide) (hts (.fieldLink RX2 61 "DockGatesModel" "things" "I") (by decide +kernel)) rfl rfl dX2_make_145 ?_
                refine lv_iconst (v := nI 1) hx hb dX2_make_148 (by decide) ?_
                refine ln_add hx hb dX2_make_149 ?_
                refine qw_put (ci := 2) (C := RX2) (T := TX2) (N := 10) hx hb hts nX2_make_2 tyX2 tyX2_ok nmX2 hown hK mO hS ⟨by omega, by omega⟩ rfl 0 (by decide) (hts (.fieldLink RX2 61 "DockGatesModel" "things" "I") (by decide +kernel)) rfl rfl rfl rfl (Nat.le_of_ble_eq_true rfl) dX2_make_150 (fun H locs mO hz hq hS => ?_)
                have mO : q_ob E 2 mm [.int (nI (n + 1)), .ref (mm + 1), .ref (mm + 2), .ref (mm + 3), .ref (mm + 4), .ref (mm + 5), .int (nI 0), .int tn, .int ts, .int tg] H := mO
                have mK : q_ia E (mm + 1) 60 (va_up (fun k => nI (kd k)) n (nI j_kind)) H := (hq _ (by omega)).trans mK
                have mZ : q_ia E (mm + 2) 60 (va_up (fun k => nI (sz k)) n (nI j_am)) H := (hq _ (by omega)).trans mZ
                have mH : q_za E (mm + 3) 60 (va_up (fun k => q_b (sh k)) n (q_b false)) H := (hq _ (by omega)).trans mH
                have mC : q_ja E (mm + 4) 480 (fun q => if 8 * n ≤ q ∧ q < 8 * n + i then (-1) else q_cv (kd (q / 8)) (nu (q / 8) (q % 8)) (pa (q / 8) (q % 8))) H := (hq _ (by omega)).trans mC
                have mS : q_ia E (mm + 5) 12 (va_up (fun j => q_eI (sl j)) j_slot (nI n)) H := (hq _ (by omega)).trans mS
                have mSz : Array.size H = S := hz.trans mSz
                refine lv_aload_n hx hb dX2_make_153 rfl (lv_at hl 0 rfl) ?_
                refine qw_get (v := .int (nI (n + 1))) (ci := 2) (C := RX2) (T := TX2) (N := 10) hx hb hts nX2_make_2 hown hK mO rfl 0 (by decide) (hts (.fieldLink RX2 61 "DockGatesModel" "things" "I") (by decide +kernel)) rfl rfl dX2_make_154 ?_
                refine lv_iconst (v := nI 1) hx hb dX2_make_157 (by decide) ?_
                refine lv_isub hx hb dX2_make_158 ?_
                have hi8 : i = 8 := by omega
                subst hi8
                have hM : q_M E mm S (n + 1, va_up kd n j_kind, va_up sz n j_am, va_up sh n false, va_up nu n (fun _ => 0), va_up pa n (fun _ => none), va_up sl j_slot (some n), nI 0, tn, ts, tg) H := q_M.made (cv := (-1)) (by omega) mO mK mZ mH (by unfold q_cv; rw [if_pos hth]; rfl) mC mS mSz
                rw [pk_sub (show 1 ≤ n + 1 by omega), show n + 1 - 1 = n by omega]
                have ee : f_make (n, kd, sz, sh, nu, pa, sl, ft, tn, ts, tg) (nI j_kind) (nI j_am) (nI j_slot) = (nI n, (n + 1, va_up kd n j_kind, va_up sz n j_am, va_up sh n false, va_up nu n (fun _ => 0), va_up pa n (fun _ => none), va_up sl j_slot (some n), nI 0, tn, ts, tg)) := by first | (simp only [f_make, ej_kind, ej_am, ej_slot, c_5, if_pos hk9]; done) | (simp only [f_make, ej_kind, ej_am, ej_slot, c_5, if_pos hk9]; rfl) | (simp only [f_make, ej_kind, ej_am, ej_slot, c_5, if_pos hk9]; rw [if_neg (by omega)]; done) | (simp only [f_make, ej_kind, ej_am, ej_slot, c_5, if_pos hk9]; rw [if_pos (by omega)]; done) | (simp only [f_make, ej_kind, ej_am, ej_slot, c_5, if_pos hk9]; rw [if_neg (by omega)]; rfl) | (simp only [f_make, ej_kind, ej_am, ej_slot, c_5, if_pos hk9]; rw [if_pos (by omega)]; rfl) | (simp only [f_make, ej_kind, ej_am, ej_slot, c_5, if_pos hk9]; cases q_ix slot 12 <;> first | rfl | (simp only [f_make, ej_kind, ej_am, ej_slot, c_5, if_pos hk9]; rfl))
                exact W.iret (v := nI n) hx hb hr (fun tt ht hW => ⟨⟨nI n, (n + 1, va_up kd n j_kind, va_up sz n j_am, va_up sh n false, va_up nu n (fun _ => 0), va_up pa n (fun _ => none), va_up sl j_slot (some n), nI 0, tn, ts, tg), rfl, ⟨(by rw [ee]), (by rw [ee])⟩, (by show q_M E mm S (n + 1, va_up kd n j_kind, va_up sz n j_am, va_up sh n false, va_up nu n (fun _ => 0), va_up pa n (fun _ => none), va_up sl j_slot (some n), nI 0, tn, ts, tg) tt.heap; rw [ht]; exact hM)⟩, hS.F ht⟩) hS.2.2 dX2_make_159
              | succ d ih =>
                refine lv_iload hx hb dX2_make_91 (lv_at hl 4 rfl) ?_
                refine lv_bipush (v := nI 8) hx hb dX2_make_93 (by decide) ?_
                refine ln_cmp_ge (tgt := 133) hx hb (by omega) (by omega) dX2_make_95 (by decide) (fun c_7 => absurd c_7 (by omega)) (fun _ => ?_)
                refine lv_aload_n hx hb dX2_make_98 rfl (lv_at hl 0 rfl) ?_
                refine qw_get (v := .ref (mm + 4)) (ci := 2) (C := RX2) (T := TX2) (N := 10) hx hb hts nX2_make_2 hown hK mO rfl 4 (by decide) (hts (.fieldLink RX2 20 "DockGatesModel" "cell" "[J") (by decide +kernel)) rfl rfl dX2_make_99 ?_
                refine lv_bipush (v := nI 8) hx hb dX2_make_102 (by decide) ?_
                refine lv_aload_n hx hb dX2_make_104 rfl (lv_at hl 0 rfl) ?_
                refine qw_get (v := .int (nI n)) (ci := 2) (C := RX2) (T := TX2) (N := 10) hx hb hts nX2_make_2 hown hK mO rfl 0 (by decide) (hts (.fieldLink RX2 61 "DockGatesModel" "things" "I") (by decide +kernel)) rfl rfl dX2_make_105 ?_
                refine ln_mul hx hb dX2_make_108 ?_
                refine lv_iload hx hb dX2_make_109 (lv_at hl 4 rfl) ?_
                refine ln_add hx hb dX2_make_111 ?_
                refine lv_iload_n hx hb dX2_make_112 rfl (lv_at hl 1 rfl) ?_
                refine qc_ri (r1 := q_b true) (W.runS (As := [.int (nI j_kind)]) (rest := [.int (nI ((8 * n) + i)), .ref (mm + 4)]) ⟨hx, hb, hml, hown, hts⟩ (kX2_holdsThings l j_kind (by omega)) (va_cwS 1 hts gX2_make_X2_holdsThings rfl rfl rfl (by decide +kernel) ⟨Nat.le_of_ble_eq_true rfl, Nat.le_of_ble_eq_true rfl⟩) preEq rfl rfl hl.1 rfl (lv_room (Nat.le_of_ble_eq_true rfl)) dX2_make_113 ⟨Nat.le_of_ble_eq_true rfl, Nat.le_of_ble_eq_true rfl⟩) (congrArg q_b (decide_eq_true hth)) ?_
                refine ln_b_eq (tgt := 125) hx hb dX2_make_116 (by decide) (fun c_8 => absurd c_8 (by decide)) (fun _ => ?_)
                refine lv_ldc2 (v := (-1)) hx hb hown (hts (.constantLong RX2 67 (-1)) (by decide +kernel)) dX2_make_119 ?_
                refine lv_goto (tgt := 126) hx hb dX2_make_122 (by decide) ?_
                refine qw_last (i := 8 * n + i) (A := q_Am mm) hx hb hK mC hS ⟨by omega, by omega⟩ (by omega) (by decide) dX2_make_126 (fun H locs mC hz hq hS => ?_)
                have mO := mO.kept (hq _ (by omega))
                have mK : q_ia E (mm + 1) 60 (va_up (fun k => nI (kd k)) n (nI j_kind)) H := (hq _ (by omega)).trans mK
                have mZ : q_ia E (mm + 2) 60 (va_up (fun k => nI (sz k)) n (nI j_am)) H := (hq _ (by omega)).trans mZ
                have mH : q_za E (mm + 3) 60 (va_up (fun k => q_b (sh k)) n (q_b false)) H := (hq _ (by omega)).trans mH
                have mS : q_ia E (mm + 5) 12 (fun j => q_eI (sl j)) H := (hq _ (by omega)).trans mS
                have mSz : Array.size H = S := hz.trans mSz
                have mC : q_ja E (mm + 4) 480 (fun q => if 8 * n ≤ q ∧ q < 8 * n + (i + 1) then (-1) else q_cv (kd (q / 8)) (nu (q / 8) (q % 8)) (pa (q / 8) (q % 8))) H := q_ja_congr mC (fun q _ => by
                    by_cases e : q = 8 * n + i
                    · rw [e, va_up_self, if_pos (by omega)]
                    · rw [va_up_ne _ _ e]
                      by_cases e2 : 8 * n ≤ q ∧ q < 8 * n + i
                      · rw [if_pos e2, if_pos (by omega)]
                      · rw [if_neg e2, if_neg (by omega)])
                refine lv_iinc (v := nI (i + 1)) (lv' := [(4, .int (nI (i + 1))), (0, .ref mm), (1, .int (nI j_kind)), (2, .int (nI j_am)), (3, .int (nI j_slot))]) hx hb dX2_make_127 hl (k := 4) rfl (nI_1 _) (by decide) rfl (fun ls hl => ?_)
                refine lv_goto (tgt := 91) hx hb dX2_make_130 (by decide) ?_
                exact ih (i + 1) H locs mO mK mZ mH mC mS mSz hS ls (lv_sub hl [1, 2, 3, 4, 0] rfl) (by omega)
            · have mO : q_ob E 2 mm [.int (nI n), .ref (mm + 1), .ref (mm + 2), .ref (mm + 3), .ref (mm + 4), .ref (mm + 5), .int (nI 0), .int tn, .int ts, .int tg] H := mO
              have mK : q_ia E (mm + 1) 60 (fun k => nI (kd k)) H := mK
              have mZ : q_ia E (mm + 2) 60 (fun k => nI (sz k)) H := mZ
              have mH : q_za E (mm + 3) 60 (fun k => q_b (sh k)) H := mH
              have mC : q_ja E (mm + 4) 480 (fun q => q_cv (kd (q / 8)) (nu (q / 8) (q % 8)) (pa (q / 8) (q % 8))) H := mC
              have mS : q_ia E (mm + 5) 12 (fun j => q_eI (sl j)) H := mS
              refine lv_aload_n hx hb dX2_make_58 rfl (lv_at hl 0 rfl) ?_
              refine qw_get (v := .ref (mm + 1)) (ci := 2) (C := RX2) (T := TX2) (N := 10) hx hb hts nX2_make_2 hown hK mO rfl 1 (by decide) (hts (.fieldLink RX2 7 "DockGatesModel" "kind" "[I") (by decide +kernel)) rfl rfl dX2_make_59 ?_
              refine lv_aload_n hx hb dX2_make_62 rfl (lv_at hl 0 rfl) ?_
              refine qw_get (v := .int (nI n)) (ci := 2) (C := RX2) (T := TX2) (N := 10) hx hb hts nX2_make_2 hown hK mO rfl 0 (by decide) (hts (.fieldLink RX2 61 "DockGatesModel" "things" "I") (by decide +kernel)) rfl rfl dX2_make_63 ?_
              refine lv_iload_n hx hb dX2_make_66 rfl (lv_at hl 1 rfl) ?_
              refine qw_iast (A := q_Am mm) hx hb hK mK hS ⟨by omega, by omega⟩ (by omega) (by decide) dX2_make_67 (fun H locs mK hz hq hS => ?_)
              have mO := mO.kept (hq _ (by omega))
              have mZ : q_ia E (mm + 2) 60 (fun k => nI (sz k)) H := (hq _ (by omega)).trans mZ
              have mH : q_za E (mm + 3) 60 (fun k => q_b (sh k)) H := (hq _ (by omega)).trans mH
              have mC : q_ja E (mm + 4) 480 (fun q => q_cv (kd (q / 8)) (nu (q / 8) (q % 8)) (pa (q / 8) (q % 8))) H := (hq _ (by omega)).trans mC
              have mS : q_ia E (mm + 5) 12 (fun j => q_eI (sl j)) H := (hq _ (by omega)).trans mS
              have mSz : Array.size H = S := hz.trans mSz
              refine lv_aload_n hx hb dX2_make_68 rfl (lv_at hl 0 rfl) ?_
              refine qw_get (v := .ref (mm + 2)) (ci := 2) (C := RX2) (T := TX2) (N := 10) hx hb hts nX2_make_2 hown hK mO rfl 2 (by decide) (hts (.fieldLink RX2 13 "DockGatesModel" "size" "[I") (by decide +kernel)) rfl rfl dX2_make_69 ?_
              refine lv_aload_n hx hb dX2_make_72 rfl (lv_at hl 0 rfl) ?_
              refine qw_get (v := .int (nI n)) (ci := 2) (C := RX2) (T := TX2) (N := 10) hx hb hts nX2_make_2 hown hK mO rfl 0 (by decide) (hts (.fieldLink RX2 61 "DockGatesModel" "things" "I") (by decide +kernel)) rfl rfl dX2_make_73 ?_
              refine lv_iload_n hx hb dX2_make_76 rfl (lv_at hl 2 rfl) ?_
              refine qw_iast (A := q_Am mm) hx hb hK mZ hS ⟨by omega, by omega⟩ (by omega) (by decide) dX2_make_77 (fun H locs mZ hz hq hS => ?_)
              have mO := mO.kept (hq _ (by omega))
              have mK : q_ia E (mm + 1) 60 (va_up (fun k => nI (kd k)) n (nI j_kind)) H := (hq _ (by omega)).trans mK
              have mH : q_za E (mm + 3) 60 (fun k => q_b (sh k)) H := (hq _ (by omega)).trans mH
              have mC : q_ja E (mm + 4) 480 (fun q => q_cv (kd (q / 8)) (nu (q / 8) (q % 8)) (pa (q / 8) (q % 8))) H := (hq _ (by omega)).trans mC
              have mS : q_ia E (mm + 5) 12 (fun j => q_eI (sl j)) H := (hq _ (by omega)).trans mS
              have mSz : Array.size H = S := hz.trans mSz
              refine lv_aload_n hx hb dX2_make_78 rfl (lv_at hl 0 rfl) ?_
              refine qw_get (v := .ref (mm + 3)) (ci := 2) (C := RX2) (T := TX2) (N := 10) hx hb hts nX2_make_2 hown hK mO rfl 3 (by decide) (hts (.fieldLink RX2 16 "DockGatesModel" "isShut" "[Z") (by decide +kernel)) rfl rfl dX2_make_79 ?_
              refine lv_aload_n hx hb dX2_make_82 rfl (lv_at hl 0 rfl) ?_
              refine qw_get (v := .int (nI n)) (ci := 2) (C := RX2) (T := TX2) (N := 10) hx hb hts nX2_make_2 hown hK mO rfl 0 (by decide) (hts (.fieldLink RX2 61 "DockGatesModel" "things" "I") (by decide +kernel)) rfl rfl dX2_make_83 ?_
              refine lv_iconst (v := nI 0) hx hb dX2_make_86 (by decide) ?_
              refine qw_zast (x := false) (A := q_Am mm) hx hb hK mH hS ⟨by omega, by omega⟩ (by omega) (by decide) dX2_make_87 (fun H locs mH hz hq hS => ?_)
              have mO := mO.kept (hq _ (by omega))
              have mK : q_ia E (mm + 1) 60 (va_up (fun k => nI (kd k)) n (nI j_kind)) H := (hq _ (by omega)).trans mK
              have mZ : q_ia E (mm + 2) 60 (va_up (fun k => nI (sz k)) n (nI j_am)) H := (hq _ (by omega)).trans mZ
              have mC : q_ja E (mm + 4) 480 (fun q => q_cv (kd (q / 8)) (nu (q / 8) (q % 8)) (pa (q / 8) (q % 8))) H := (hq _ (by omega)).trans mC
              have mS : q_ia E (mm + 5) 12 (fun j => q_eI (sl j)) H := (hq _ (by omega)).trans mS
              have mSz : Array.size H = S := hz.trans mSz
              refine lv_iconst (v := nI 0) hx hb dX2_make_88 (by decide) ?_
              refine lv_istore (lv' := [(4, .int (nI 0)), (0, .ref mm), (1, .int (nI j_kind)), (2, .int (nI j_am)), (3, .int (nI j_slot))]) hx hb dX2_make_89 hl (by decide) rfl (fun ls hl => ?_)
              obtain ⟨i, ei⟩ : ∃ i : Nat, i = 0 := ⟨_, rfl⟩
              refine qw_name (P := fun H locs => q_ob E 2 mm [.int (nI n), .ref (mm + 1), .ref (mm + 2), .ref (mm + 3), .ref (mm + 4), .ref (mm + 5), .int (nI 0), .int tn, .int ts, .int tg] H ∧ q_ia E (mm + 1) 60 (va_up (fun k => nI (kd k)) n (nI j_kind)) H ∧ q_ia E (mm + 2) 60 (va_up (fun k => nI (sz k)) n (nI j_am)) H ∧ q_za E (mm + 3) 60 (va_up (fun k => q_b (sh k)) n (q_b false)) H ∧ q_ja E (mm + 4) 480 (fun q => if 8 * n ≤ q ∧ q < 8 * n + i then 0 else q_cv (kd (q / 8)) (nu (q / 8) (q % 8)) (pa (q / 8) (q % 8))) H ∧ q_ia E (mm + 5) 12 (fun j => q_eI (sl j)) H ∧ Array.size H = S ∧ va_S (q_Am mm) s.heap H locs) (by subst ei; exact ⟨mO, mK, mZ, mH, q_ja_congr mC (fun q _ => by rw [if_neg (by omega)]), mS, mSz, hS⟩) (fun H locs hMS => ?_)
              clear mO mK mZ mH mC mS mSz hS
              obtain ⟨mO, mK, mZ, mH, mC, mS, mSz, hS⟩ := hMS
              have hl : lv_has ls 5 [(0, .ref mm), (1, .int (nI j_kind)), (2, .int (nI j_am)), (3, .int (nI j_slot)), (4, .int (nI i))] := by subst ei; exact lv_sub hl [1, 2, 3, 4, 0] rfl
              generalize els : ls = lz at hl ⊢
              clear els
              obtain ⟨d, hd⟩ : ∃ d, i + d = 8 := ⟨8 - i, by omega⟩
              clear ei
              induction d generalizing i H locs lz with
              | zero =>
                refine lv_iload hx hb dX2_make_91 (lv_at hl 4 rfl) ?_
                refine lv_bipush (v := nI 8) hx hb dX2_make_93 (by decide) ?_
                refine ln_cmp_ge (tgt := 133) hx hb (by omega) (by omega) dX2_make_95 (by decide) (fun _ => ?_) (fun c_9 => absurd c_9 (by omega))
                refine lv_aload_n hx hb dX2_make_133 rfl (lv_at hl 0 rfl) ?_
                refine qw_get (v := .ref (mm + 5)) (ci := 2) (C := RX2) (T := TX2) (N := 10) hx hb hts nX2_make_2 hown hK mO rfl 5 (by decide) (hts (.fieldLink RX2 24 "DockGatesModel" "slots" "[I") (by decide +kernel)) rfl rfl dX2_make_134 ?_
                refine lv_iload_n hx hb dX2_make_137 rfl (lv_at hl 3 rfl) ?_
                refine lv_aload_n hx hb dX2_make_138 rfl (lv_at hl 0 rfl) ?_
                refine qw_get (v := .int (nI n)) (ci := 2) (C := RX2) (T := TX2) (N := 10) hx hb hts nX2_make_2 hown hK mO rfl 0 (by decide) (hts (.fieldLink RX2 61 "DockGatesModel" "things" "I") (by decide +kernel)) rfl rfl dX2_make_139 ?_
                refine qw_iast (A := q_Am mm) hx hb hK mS hS ⟨by omega, by omega⟩ (by omega) (by decide) dX2_make_142 (fun H locs mS hz hq hS => ?_)
                have mO := mO.kept (hq _ (by omega))
                have mK : q_ia E (mm + 1) 60 (va_up (fun k => nI (kd k)) n (nI j_kind)) H := (hq _ (by omega)).trans mK
                have mZ : q_ia E (mm + 2) 60 (va_up (fun k => nI (sz k)) n (nI j_am)) H := (hq _ (by omega)).trans mZ
                have mH : q_za E (mm + 3) 60 (va_up (fun k => q_b (sh k)) n (q_b false)) H := (hq _ (by omega)).trans mH
                have mC : q_ja E (mm + 4) 480 (fun q => if 8 * n ≤ q ∧ q < 8 * n + i then 0 else q_cv (kd (q / 8)) (nu (q / 8) (q % 8)) (pa (q / 8) (q % 8))) H := (hq _ (by omega)).trans mC
                have mSz : Array.size H = S := hz.trans mSz
                refine lv_aload_n hx hb dX2_make_143 rfl (lv_at hl 0 rfl) ?_
                refine lv_dup hx hb dX2_make_144 rfl ?_
                refine qw_get (v := .int (nI n)) (ci := 2) (C := RX2) (T := TX2) (N := 10) hx hb hts nX2_make_2 hown hK mO rfl 0 (by decide) (hts (.fieldLink RX2 61 "DockGatesModel" "things" "I") (by decide +kernel)) rfl rfl dX2_make_145 ?_
                refine lv_iconst (v := nI 1) hx hb dX2_make_148 (by decide) ?_
                refine ln_add hx hb dX2_make_149 ?_
                refine qw_put (ci := 2) (C := RX2) (T := TX2) (N := 10) hx hb hts nX2_make_2 tyX2 tyX2_ok nmX2 hown hK mO hS ⟨by omega, by omega⟩ rfl 0 (by decide) (hts (.fieldLink RX2 61 "DockGatesModel" "things" "I") (by decide +kernel)) rfl rfl rfl rfl (Nat.le_of_ble_eq_true rfl) dX2_make_150 (fun H locs mO hz hq hS => ?_)
                have mO : q_ob E 2 mm [.int (nI (n + 1)), .ref (mm + 1), .ref (mm + 2), .ref (mm + 3), .ref (mm + 4), .ref (mm + 5), .int (nI 0), .int tn, .int ts, .int tg] H := mO
                have mK : q_ia E (mm + 1) 60 (va_up (fun k => nI (kd k)) n (nI j_kind)) H := (hq _ (by omega)).trans mK
                have mZ : q_ia E (mm + 2) 60 (va_up (fun k => nI (sz k)) n (nI j_am)) H := (hq _ (by omega)).trans mZ
                have mH : q_za E (mm + 3) 60 (va_up (fun k => q_b (sh k)) n (q_b false)) H := (hq _ (by omega)).trans mH
                have mC : q_ja E (mm + 4) 480 (fun q => if 8 * n ≤ q ∧ q < 8 * n + i then 0 else q_cv (kd (q / 8)) (nu (q / 8) (q % 8)) (pa (q / 8) (q % 8))) H := (hq _ (by omega)).trans mC
                have mS : q_ia E (mm + 5) 12 (va_up (fun j => q_eI (sl j)) j_slot (nI n)) H := (hq _ (by omega)).trans mS
                have mSz : Array.size H = S := hz.trans mSz
                refine lv_aload_n hx hb dX2_make_153 rfl (lv_at hl 0 rfl) ?_
                refine qw_get (v := .int (nI (n + 1))) (ci := 2) (C := RX2) (T := TX2) (N := 10) hx hb hts nX2_make_2 hown hK mO rfl 0 (by decide) (hts (.fieldLink RX2 61 "DockGatesModel" "things" "I") (by decide +kernel)) rfl rfl dX2_make_154 ?_
                refine lv_iconst (v := nI 1) hx hb dX2_make_157 (by decide) ?_
                refine lv_isub hx hb dX2_make_158 ?_
                have hi8 : i = 8 := by omega
                subst hi8
                have hM : q_M E mm S (n + 1, va_up kd n j_kind, va_up sz n j_am, va_up sh n false, va_up nu n (fun _ => 0), va_up pa n (fun _ => none), va_up sl j_slot (some n), nI 0, tn, ts, tg) H := q_M.made (cv := 0) (by omega) mO mK mZ mH (by unfold q_cv; rw [if_neg hth]) mC mS mSz
                rw [pk_sub (show 1 ≤ n + 1 by omega), show n + 1 - 1 = n by omega]
                have ee : f_make (n, kd, sz, sh, nu, pa, sl, ft, tn, ts, tg) (nI j_kind) (nI j_am) (nI j_slot) = (nI n, (n + 1, va_up kd n j_kind, va_up sz n j_am, va_up sh n false, va_up nu n (fun _ => 0), va_up pa n (fun _ => none), va_up sl j_slot (some n), nI 0, tn, ts, tg)) := by first | (simp only [f_make, ej_kind, ej_am, ej_slot, c_5, if_pos hk9]; done) | (simp only [f_make, ej_kind, ej_am, ej_slot, c_5, if_pos hk9]; rfl) | (simp only [f_make, ej_kind, ej_am, ej_slot, c_5, if_pos hk9]; rw [if_neg (by omega)]; done) | (simp only [f_make, ej_kind, ej_am, ej_slot, c_5, if_pos hk9]; rw [if_pos (by omega)]; done) | (simp only [f_make, ej_kind, ej_am, ej_slot, c_5, if_pos hk9]; rw [if_neg (by omega)]; rfl) | (simp only [f_make, ej_kind, ej_am, ej_slot, c_5, if_pos hk9]; rw [if_pos (by omega)]; rfl) | (simp only [f_make, ej_kind, ej_am, ej_slot, c_5, if_pos hk9]; cases q_ix slot 12 <;> first | rfl | (simp only [f_make, ej_kind, ej_am, ej_slot, c_5, if_pos hk9]; rfl))
                exact W.iret (v := nI n) hx hb hr (fun tt ht hW => ⟨⟨nI n, (n + 1, va_up kd n j_kind, va_up sz n j_am, va_up sh n false, va_up nu n (fun _ => 0), va_up pa n (fun _ => none), va_up sl j_slot (some n), nI 0, tn, ts, tg), rfl, ⟨(by rw [ee]), (by rw [ee])⟩, (by show q_M E mm S (n + 1, va_up kd n j_kind, va_up sz n j_am, va_up sh n false, va_up nu n (fun _ => 0), va_up pa n (fun _ => none), va_up sl j_slot (some n), nI 0, tn, ts, tg) tt.heap; rw [ht]; exact hM)⟩, hS.F ht⟩) hS.2.2 dX2_make_159
              | succ d ih =>
                refine lv_iload hx hb dX2_make_91 (lv_at hl 4 rfl) ?_
                refine lv_bipush (v := nI 8) hx hb dX2_make_93 (by decide) ?_
                refine ln_cmp_ge (tgt := 133) hx hb (by omega) (by omega) dX2_make_95 (by decide) (fun c_10 => absurd c_10 (by omega)) (fun _ => ?_)
                refine lv_aload_n hx hb dX2_make_98 rfl (lv_at hl 0 rfl) ?_
                refine qw_get (v := .ref (mm + 4)) (ci := 2) (C := RX2) (T := TX2) (N := 10) hx hb hts nX2_make_2 hown hK mO rfl 4 (by decide) (hts (.fieldLink RX2 20 "DockGatesModel" "cell" "[J") (by decide +kernel)) rfl rfl dX2_make_99 ?_
                refine lv_bipush (v := nI 8) hx hb dX2_make_102 (by decide) ?_
                refine lv_aload_n hx hb dX2_make_104 rfl (lv_at hl 0 rfl) ?_
                refine qw_get (v := .int (nI n)) (ci := 2) (C := RX2) (T := TX2) (N := 10) hx hb hts nX2_make_2 hown hK mO rfl 0 (by decide) (hts (.fieldLink RX2 61 "DockGatesModel" "things" "I") (by decide +kernel)) rfl rfl dX2_make_105 ?_
                refine ln_mul hx hb dX2_make_108 ?_
                refine lv_iload hx hb dX2_make_109 (lv_at hl 4 rfl) ?_
                refine ln_add hx hb dX2_make_111 ?_
                refine lv_iload_n hx hb dX2_make_112 rfl (lv_at hl 1 rfl) ?_
                refine qc_ri (r1 := q_b false) (W.runS (As := [.int (nI j_kind)]) (rest := [.int (nI ((8 * n) + i)), .ref (mm + 4)]) ⟨hx, hb, hml, hown, hts⟩ (kX2_holdsThings l j_kind (by omega)) (va_cwS 1 hts gX2_make_X2_holdsThings rfl rfl rfl (by decide +kernel) ⟨Nat.le_of_ble_eq_true rfl, Nat.le_of_ble_eq_true rfl⟩) preEq rfl rfl hl.1 rfl (lv_room (Nat.le_of_ble_eq_true rfl)) dX2_make_113 ⟨Nat.le_of_ble_eq_true rfl, Nat.le_of_ble_eq_true rfl⟩) (congrArg q_b (decide_eq_false hth)) ?_
                refine ln_b_eq (tgt := 125) hx hb dX2_make_116 (by decide) (fun _ => ?_) (fun c_11 => absurd c_11 (by decide))
                refine lv_lconst (v := 0) hx hb dX2_make_125 (by decide) ?_
                refine qw_last (i := 8 * n + i) (A := q_Am mm) hx hb hK mC hS ⟨by omega, by omega⟩ (by omega) (by decide) dX2_make_126 (fun H locs mC hz hq hS => ?_)
                have mO := mO.kept (hq _ (by omega))
                have mK : q_ia E (mm + 1) 60 (va_up (fun k => nI (kd k)) n (nI j_kind)) H := (hq _ (by omega)).trans mK
                have mZ : q_ia E (mm + 2) 60 (va_up (fun k => nI (sz k)) n (nI j_am)) H := (hq _ (by omega)).trans mZ
                have mH : q_za E (mm + 3) 60 (va_up (fun k => q_b (sh k)) n (q_b false)) H := (hq _ (by omega)).trans mH
                have mS : q_ia E (mm + 5) 12 (fun j => q_eI (sl j)) H := (hq _ (by omega)).trans mS
                have mSz : Array.size H = S := hz.trans mSz
                have mC : q_ja E (mm + 4) 480 (fun q => if 8 * n ≤ q ∧ q < 8 * n + (i + 1) then 0 else q_cv (kd (q / 8)) (nu (q / 8) (q % 8)) (pa (q / 8) (q % 8))) H := q_ja_congr mC (fun q _ => by
                    by_cases e : q = 8 * n + i
                    · rw [e, va_up_self, if_pos (by omega)]
                    · rw [va_up_ne _ _ e]
                      by_cases e2 : 8 * n ≤ q ∧ q < 8 * n + i
                      · rw [if_pos e2, if_pos (by omega)]
                      · rw [if_neg e2, if_neg (by omega)])
                refine lv_iinc (v := nI (i + 1)) (lv' := [(4, .int (nI (i + 1))), (0, .ref mm), (1, .int (nI j_kind)), (2, .int (nI j_am)), (3, .int (nI j_slot))]) hx hb dX2_make_127 hl (k := 4) rfl (nI_1 _) (by decide) rfl (fun ls hl => ?_)
                refine lv_goto (tgt := 91) hx hb dX2_make_130 (by decide) ?_
                exact ih (i + 1) H locs mO mK mZ mH mC mS mSz hS ls (lv_sub hl [1, 2, 3, 4, 0] rfl) (by omega)
          · refine lv_bipush (v := (-3)) hx hb dX2_make_55 (by decide) ?_
            have ee : f_make (n, kd, sz, sh, nu, pa, sl, ft, tn, ts, tg) (nI j_kind) (nI j_am) (nI j_slot) = (((-3)), (n, kd, sz, sh, nu, pa, sl, (nI 0), tn, ts, tg)) := by first | (simp only [f_make, ej_kind, ej_am, ej_slot, c_5, if_pos hk9]; done) | (simp only [f_make, ej_kind, ej_am, ej_slot, c_5, if_pos hk9]; rfl) | (simp only [f_make, ej_kind, ej_am, ej_slot, c_5, if_pos hk9]; rw [if_neg (by omega)]; done) | (simp only [f_make, ej_kind, ej_am, ej_slot, c_5, if_pos hk9]; rw [if_pos (by omega)]; done) | (simp only [f_make, ej_kind, ej_am, ej_slot, c_5, if_pos hk9]; rw [if_neg (by omega)]; rfl) | (simp only [f_make, ej_kind, ej_am, ej_slot, c_5, if_pos hk9]; rw [if_pos (by omega)]; rfl) | (simp only [f_make, ej_kind, ej_am, ej_slot, c_5, if_pos hk9]; cases q_ix slot 12 <;> first | rfl | (simp only [f_make, ej_kind, ej_am, ej_slot, c_5, if_pos hk9]; rfl))
            exact W.iret (v := ((-3))) hx hb hr (fun tt ht hW => ⟨⟨((-3)), (n, kd, sz, sh, nu, pa, sl, (nI 0), tn, ts, tg), rfl, ⟨(by rw [ee]), (by rw [ee])⟩, (by show q_M E mm S (n, kd, sz, sh, nu, pa, sl, (nI 0), tn, ts, tg) tt.heap; rw [ht]; exact hM)⟩, hS.F ht⟩) hS.2.2 dX2_make_57
        · have c_4 := q_isn c_4
          refine lv_bipush (v := (-2)) hx hb dX2_make_43 (by decide) ?_
          have ee : f_make (n, kd, sz, sh, nu, pa, sl, ft, tn, ts, tg) (nI j_kind) (nI j_am) slot = (((-2)), (n, kd, sz, sh, nu, pa, sl, (nI 0), tn, ts, tg)) := by first | (simp only [f_make, ej_kind, ej_am, c_4, if_pos hk9]; done) | (simp only [f_make, ej_kind, ej_am, c_4, if_pos hk9]; rfl) | (simp only [f_make, ej_kind, ej_am, c_4, if_pos hk9]; rw [if_neg (by omega)]; done) | (simp only [f_make, ej_kind, ej_am, c_4, if_pos hk9]; rw [if_pos (by omega)]; done) | (simp only [f_make, ej_kind, ej_am, c_4, if_pos hk9]; rw [if_neg (by omega)]; rfl) | (simp only [f_make, ej_kind, ej_am, c_4, if_pos hk9]; rw [if_pos (by omega)]; rfl) | (simp only [f_make, ej_kind, ej_am, c_4, if_pos hk9]; cases q_ix slot 12 <;> first | rfl | (simp only [f_make, ej_kind, ej_am, c_4, if_pos hk9]; rfl))
          exact W.iret (v := ((-2))) hx hb hr (fun tt ht hW => ⟨⟨((-2)), (n, kd, sz, sh, nu, pa, sl, (nI 0), tn, ts, tg), rfl, ⟨(by rw [ee]), (by rw [ee])⟩, (by show q_M E mm S (n, kd, sz, sh, nu, pa, sl, (nI 0), tn, ts, tg) tt.heap; rw [ht]; exact hM)⟩, hS.F ht⟩) hS.2.2 dX2_make_45
    · refine lv_iload_n hx hb dX2_make_15 rfl (lv_at hl 2 rfl) ?_
      refine lv_iconst (v := nI 0) hx hb dX2_make_16 (by decide) ?_
      refine lv_iload_n hx hb dX2_make_17 rfl (lv_at hl 1 rfl) ?_
      refine lv_bipush (v := nI 9) hx hb dX2_make_18 (by decide) ?_
      refine ln_cmp_ge (tgt := 28) hx hb (by omega) (by omega) dX2_make_20 (by decide) (fun _ => ?_) (fun c_12 => absurd c_12 (by omega))
      refine lv_ldc (v := 1000000) hx hb hown (hts (.constant RX2 56 (1000000)) (by decide +kernel)) dX2_make_28 ?_
      rw [show (1000000 : Int32) = nI 1000000 by decide]
      refine qc_ri (r1 := q_b ((q_ix am 1000001).isSome)) (W.runS (As := [.int am, .int (nI 0), .int (nI 1000000)]) (rest := []) ⟨hx, hb, hml, hown, hts⟩ (kX2_isIn l am (nI 0) (nI 1000000)) (va_cwS 3 hts gX2_make_X2_isIn rfl rfl rfl (by decide +kernel) ⟨Nat.le_of_ble_eq_true rfl, Nat.le_of_ble_eq_true rfl⟩) preEq rfl rfl hl.1 rfl (lv_room (Nat.le_of_ble_eq_true rfl)) dX2_make_30 ⟨Nat.le_of_ble_eq_true rfl, Nat.le_of_ble_eq_true rfl⟩) (congrArg q_b (q_in0 _ (by decide))) ?_
      refine ln_b_eq (tgt := 43) hx hb dX2_make_33 (by decide) (fun c_13 => ?_) (fun c_13 => ?_)
      · have c_13 := q_isn c_13
        refine lv_bipush (v := (-2)) hx hb dX2_make_43 (by decide) ?_
        have ee : f_make (n, kd, sz, sh, nu, pa, sl, ft, tn, ts, tg) (nI j_kind) am slot = (((-2)), (n, kd, sz, sh, nu, pa, sl, (nI 0), tn, ts, tg)) := by first | (simp only [f_make, ej_kind, c_13, if_neg hk9]; done) | (simp only [f_make, ej_kind, c_13, if_neg hk9]; rfl) | (simp only [f_make, ej_kind, c_13, if_neg hk9]; rw [if_neg (by omega)]; done) | (simp only [f_make, ej_kind, c_13, if_neg hk9]; rw [if_pos (by omega)]; done) | (simp only [f_make, ej_kind, c_13, if_neg hk9]; rw [if_neg (by omega)]; rfl) | (simp only [f_make, ej_kind, c_13, if_neg hk9]; rw [if_pos (by omega)]; rfl) | (simp only [f_make, ej_kind, c_13, if_neg hk9]; cases q_ix slot 12 <;> first | rfl | (simp only [f_make, ej_kind, c_13, if_neg hk9]; rfl))
        exact W.iret (v := ((-2))) hx hb hr (fun tt ht hW => ⟨⟨((-2)), (n, kd, sz, sh, nu, pa, sl, (nI 0), tn, ts, tg), rfl, ⟨(by rw [ee]), (by rw [ee])⟩, (by show q_M E mm S (n, kd, sz, sh, nu, pa, sl, (nI 0), tn, ts, tg) tt.heap; rw [ht]; exact hM)⟩, hS.F ht⟩) hS.2.2 dX2_make_45
      · obtain ⟨j_am, hj_am, rfl⟩ := q_is (by first | decide | omega) c_13
        have ej_am := q_ix_in hj_am (by first | decide | omega)
        refine lv_iload_n hx hb dX2_make_36 rfl (lv_at hl 3 rfl) ?_
        refine qc_ri (r1 := q_b ((q_ix slot 12).isSome)) (W.runS (As := [.int slot]) (rest := []) ⟨hx, hb, hml, hown, hts⟩ (kX2_isSlot l slot) (va_cwS 1 hts gX2_make_X2_isSlot rfl rfl rfl (by decide +kernel) ⟨Nat.le_of_ble_eq_true rfl, Nat.le_of_ble_eq_true rfl⟩) preEq rfl rfl hl.1 rfl (lv_room (Nat.le_of_ble_eq_true rfl)) dX2_make_37 ⟨Nat.le_of_ble_eq_true rfl, Nat.le_of_ble_eq_true rfl⟩) rfl ?_
        refine ln_b_ne (tgt := 46) hx hb dX2_make_40 (by decide) (fun c_14 => ?_) (fun c_14 => ?_)
        · obtain ⟨j_slot, hj_slot, rfl⟩ := q_is (by first | decide | omega) c_14
          have ej_slot := q_ix_in hj_slot (by first | decide | omega)
          refine lv_aload_n hx hb dX2_make_46 rfl (lv_at hl 0 rfl) ?_
          refine qw_get (v := .int (nI n)) (ci := 2) (C := RX2) (T := TX2) (N := 10) hx hb hts nX2_make_2 hown hK hM.1 rfl 0 (by decide) (hts (.fieldLink RX2 61 "DockGatesModel" "things" "I") (by decide +kernel)) rfl rfl dX2_make_47 ?_
          refine lv_bipush (v := nI 60) hx hb dX2_make_50 (by decide) ?_
          refine ln_cmp_ne (tgt := 58) hx hb (by omega) (by omega) dX2_make_52 (by decide) (fun c_15 => ?_) (fun c_15 => ?_)
          · obtain ⟨mO, mK, mZ, mH, mC, mS, mSz⟩ := hM
            have n60 := hI.1
            try dsimp only at n60
            have hth : ¬ (3 ≤ j_kind ∧ j_kind < 9) := by omega
            have mO : q_ob E 2 mm [.int (nI n), .ref (mm + 1), .ref (mm + 2), .ref (mm + 3), .ref (mm + 4), .ref (mm + 5), .int (nI 0), .int tn, .int ts, .int tg] H := mO
            have mK : q_ia E (mm + 1) 60 (fun k => nI (kd k)) H := mK
            have mZ : q_ia E (mm + 2) 60 (fun k => nI (sz k)) H := mZ
            have mH : q_za E (mm + 3) 60 (fun k => q_b (sh k)) H := mH
            have mC : q_ja E (mm + 4) 480 (fun q => q_cv (kd (q / 8)) (nu (q / 8) (q % 8)) (pa (q / 8) (q % 8))) H := mC
            have mS : q_ia E (mm + 5) 12 (fun j => q_eI (sl j)) H := mS
            refine lv_aload_n hx hb dX2_make_58 rfl (lv_at hl 0 rfl) ?_
            refine qw_get (v := .ref (mm + 1)) (ci := 2) (C := RX2) (T := TX2) (N := 10) hx hb hts nX2_make_2 hown hK mO rfl 1 (by decide) (hts (.fieldLink RX2 7 "DockGatesModel" "kind" "[I") (by decide +kernel)) rfl rfl dX2_make_59 ?_
            refine lv_aload_n hx hb dX2_make_62 rfl (lv_at hl 0 rfl) ?_
            refine qw_get (v := .int (nI n)) (ci := 2) (C := RX2) (T := TX2) (N := 10) hx hb hts nX2_make_2 hown hK mO rfl 0 (by decide) (hts (.fieldLink RX2 61 "DockGatesModel" "things" "I") (by decide +kernel)) rfl rfl dX2_make_63 ?_
            refine lv_iload_n hx hb dX2_make_66 rfl (lv_at hl 1 rfl) ?_
            refine qw_iast (A := q_Am mm) hx hb hK mK hS ⟨by omega, by omega⟩ (by omega) (by decide) dX2_make_67 (fun H locs mK hz hq hS => ?_)
            have mO := mO.kept (hq _ (by omega))
            have mZ : q_ia E (mm + 2) 60 (fun k => nI (sz k)) H := (hq _ (by omega)).trans mZ
            have mH : q_za E (mm + 3) 60 (fun k => q_b (sh k)) H := (hq _ (by omega)).trans mH
            have mC : q_ja E (mm + 4) 480 (fun q => q_cv (kd (q / 8)) (nu (q / 8) (q % 8)) (pa (q / 8) (q % 8))) H := (hq _ (by omega)).trans mC
            have mS : q_ia E (mm + 5) 12 (fun j => q_eI (sl j)) H := (hq _ (by omega)).trans mS
            have mSz : Array.size H = S := hz.trans mSz
            refine lv_aload_n hx hb dX2_make_68 rfl (lv_at hl 0 rfl) ?_
            refine qw_get (v := .ref (mm + 2)) (ci := 2) (C := RX2) (T := TX2) (N := 10) hx hb hts nX2_make_2 hown hK mO rfl 2 (by decide) (hts (.fieldLink RX2 13 "DockGatesModel" "size" "[I") (by decide +kernel)) rfl rfl dX2_make_69 ?_
            refine lv_aload_n hx hb dX2_make_72 rfl (lv_at hl 0 rfl) ?_
            refine qw_get (v := .int (nI n)) (ci := 2) (C := RX2) (T := TX2) (N := 10) hx hb hts nX2_make_2 hown hK mO rfl 0 (by decide) (hts (.fieldLink RX2 61 "DockGatesModel" "things" "I") (by decide +kernel)) rfl rfl dX2_make_73 ?_
            refine lv_iload_n hx hb dX2_make_76 rfl (lv_at hl 2 rfl) ?_
            refine qw_iast (A := q_Am mm) hx hb hK mZ hS ⟨by omega, by omega⟩ (by omega) (by decide) dX2_make_77 (fun H locs mZ hz hq hS => ?_)
            have mO := mO.kept (hq _ (by omega))
            have mK : q_ia E (mm + 1) 60 (va_up (fun k => nI (kd k)) n (nI j_kind)) H := (hq _ (by omega)).trans mK
            have mH : q_za E (mm + 3) 60 (fun k => q_b (sh k)) H := (hq _ (by omega)).trans mH
            have mC : q_ja E (mm + 4) 480 (fun q => q_cv (kd (q / 8)) (nu (q / 8) (q % 8)) (pa (q / 8) (q % 8))) H := (hq _ (by omega)).trans mC
            have mS : q_ia E (mm + 5) 12 (fun j => q_eI (sl j)) H := (hq _ (by omega)).trans mS
            have mSz : Array.size H = S := hz.trans mSz
            refine lv_aload_n hx hb dX2_make_78 rfl (lv_at hl 0 rfl) ?_
            refine qw_get (v := .ref (mm + 3)) (ci := 2) (C := RX2) (T := TX2) (N := 10) hx hb hts nX2_make_2 hown hK mO rfl 3 (by decide) (hts (.fieldLink RX2 16 "DockGatesModel" "isShut" "[Z") (by decide +kernel)) rfl rfl dX2_make_79 ?_
            refine lv_aload_n hx hb dX2_make_82 rfl (lv_at hl 0 rfl) ?_
            refine qw_get (v := .int (nI n)) (ci := 2) (C := RX2) (T := TX2) (N := 10) hx hb hts nX2_make_2 hown hK mO rfl 0 (by decide) (hts (.fieldLink RX2 61 "DockGatesModel" "things" "I") (by decide +kernel)) rfl rfl dX2_make_83 ?_
            refine lv_iconst (v := nI 0) hx hb dX2_make_86 (by decide) ?_
            refine qw_zast (x := false) (A := q_Am mm) hx hb hK mH hS ⟨by omega, by omega⟩ (by omega) (by decide) dX2_make_87 (fun H locs mH hz hq hS => ?_)
            have mO := mO.kept (hq _ (by omega))
            have mK : q_ia E (mm + 1) 60 (va_up (fun k => nI (kd k)) n (nI j_kind)) H := (hq _ (by omega)).trans mK
            have mZ : q_ia E (mm + 2) 60 (va_up (fun k => nI (sz k)) n (nI j_am)) H := (hq _ (by omega)).trans mZ
            have mC : q_ja E (mm + 4) 480 (fun q => q_cv (kd (q / 8)) (nu (q / 8) (q % 8)) (pa (q / 8) (q % 8))) H := (hq _ (by omega)).trans mC
            have mS : q_ia E (mm + 5) 12 (fun j => q_eI (sl j)) H := (hq _ (by omega)).trans mS
            have mSz : Array.size H = S := hz.trans mSz
            refine lv_iconst (v := nI 0) hx hb dX2_make_88 (by decide) ?_
            refine lv_istore (lv' := [(4, .int (nI 0)), (0, .ref mm), (1, .int (nI j_kind)), (2, .int (nI j_am)), (3, .int (nI j_slot))]) hx hb dX2_make_89 hl (by decide) rfl (fun ls hl => ?_)
            obtain ⟨i, ei⟩ : ∃ i : Nat, i = 0 := ⟨_, rfl⟩
            refine qw_name (P := fun H locs => q_ob E 2 mm [.int (nI n), .ref (mm + 1), .ref (mm + 2), .ref (mm + 3), .ref (mm + 4), .ref (mm + 5), .int (nI 0), .int tn, .int ts, .int tg] H ∧ q_ia E (mm + 1) 60 (va_up (fun k => nI (kd k)) n (nI j_kind)) H ∧ q_ia E (mm + 2) 60 (va_up (fun k => nI (sz k)) n (nI j_am)) H ∧ q_za E (mm + 3) 60 (va_up (fun k => q_b (sh k)) n (q_b false)) H ∧ q_ja E (mm + 4) 480 (fun q => if 8 * n ≤ q ∧ q < 8 * n + i then 0 else q_cv (kd (q / 8)) (nu (q / 8) (q % 8)) (pa (q / 8) (q % 8))) H ∧ q_ia E (mm + 5) 12 (fun j => q_eI (sl j)) H ∧ Array.size H = S ∧ va_S (q_Am mm) s.heap H locs) (by subst ei; exact ⟨mO, mK, mZ, mH, q_ja_congr mC (fun q _ => by rw [if_neg (by omega)]), mS, mSz, hS⟩) (fun H locs hMS => ?_)
            clear mO mK mZ mH mC mS mSz hS
            obtain ⟨mO, mK, mZ, mH, mC, mS, mSz, hS⟩ := hMS
            have hl : lv_has ls 5 [(0, .ref mm), (1, .int (nI j_kind)), (2, .int (nI j_am)), (3, .int (nI j_slot)), (4, .int (nI i))] := by subst ei; exact lv_sub hl [1, 2, 3, 4, 0] rfl
            generalize els : ls = lz at hl ⊢
            clear els
            obtain ⟨d, hd⟩ : ∃ d, i + d = 8 := ⟨8 - i, by omega⟩
            clear ei
            induction d generalizing i H locs lz with
            | zero =>
              refine lv_iload hx hb dX2_make_91 (lv_at hl 4 rfl) ?_
              refine lv_bipush (v := nI 8) hx hb dX2_make_93 (by decide) ?_
              refine ln_cmp_ge (tgt := 133) hx hb (by omega) (by omega) dX2_make_95 (by decide) (fun _ => ?_) (fun c_16 => absurd c_16 (by omega))
              refine lv_aload_n hx hb dX2_make_133 rfl (lv_at hl 0 rfl) ?_
              refine qw_get (v := .ref (mm + 5)) (ci := 2) (C := RX2) (T := TX2) (N := 10) hx hb hts nX2_make_2 hown hK mO rfl 5 (by decide) (hts (.fieldLink RX2 24 "DockGatesModel" "slots" "[I") (by decide +kernel)) rfl rfl dX2_make_134 ?_
              refine lv_iload_n hx hb dX2_make_137 rfl (lv_at hl 3 rfl) ?_
              refine lv_aload_n hx hb dX2_make_138 rfl (lv_at hl 0 rfl) ?_
              refine qw_get (v := .int (nI n)) (ci := 2) (C := RX2) (T := TX2) (N := 10) hx hb hts nX2_make_2 hown hK mO rfl 0 (by decide) (hts (.fieldLink RX2 61 "DockGatesModel" "things" "I") (by decide +kernel)) rfl rfl dX2_make_139 ?_
              refine qw_iast (A := q_Am mm) hx hb hK mS hS ⟨by omega, by omega⟩ (by omega) (by decide) dX2_make_142 (fun H locs mS hz hq hS => ?_)
              have mO := mO.kept (hq _ (by omega))
              have mK : q_ia E (mm + 1) 60 (va_up (fun k => nI (kd k)) n (nI j_kind)) H := (hq _ (by omega)).trans mK
              have mZ : q_ia E (mm + 2) 60 (va_up (fun k => nI (sz k)) n (nI j_am)) H := (hq _ (by omega)).trans mZ
              have mH : q_za E (mm + 3) 60 (va_up (fun k => q_b (sh k)) n (q_b false)) H := (hq _ (by omega)).trans mH
              have mC : q_ja E (mm + 4) 480 (fun q => if 8 * n ≤ q ∧ q < 8 * n + i then 0 else q_cv (kd (q / 8)) (nu (q / 8) (q % 8)) (pa (q / 8) (q % 8))) H := (hq _ (by omega)).trans mC
              have mSz : Array.size H = S := hz.trans mSz
              refine lv_aload_n hx hb dX2_make_143 rfl (lv_at hl 0 rfl) ?_
              refine lv_dup hx hb dX2_make_144 rfl ?_
              refine qw_get (v := .int (nI n)) (ci := 2) (C := RX2) (T := TX2) (N := 10) hx hb hts nX2_make_2 hown hK mO rfl 0 (by decide) (hts (.fieldLink RX2 61 "DockGatesModel" "things" "I") (by decide +kernel)) rfl rfl dX2_make_145 ?_
              refine lv_iconst (v := nI 1) hx hb dX2_make_148 (by decide) ?_
              refine ln_add hx hb dX2_make_149 ?_
              refine qw_put (ci := 2) (C := RX2) (T := TX2) (N := 10) hx hb hts nX2_make_2 tyX2 tyX2_ok nmX2 hown hK mO hS ⟨by omega, by omega⟩ rfl 0 (by decide) (hts (.fieldLink RX2 61 "DockGatesModel" "things" "I") (by decide +kernel)) rfl rfl rfl rfl (Nat.le_of_ble_eq_true rfl) dX2_make_150 (fun H locs mO hz hq hS => ?_)
              have mO : q_ob E 2 mm [.int (nI (n + 1)), .ref (mm + 1), .ref (mm + 2), .ref (mm + 3), .ref (mm + 4), .ref (mm + 5), .int (nI 0), .int tn, .int ts, .int tg] H := mO
              have mK : q_ia E (mm + 1) 60 (va_up (fun k => nI (kd k)) n (nI j_kind)) H := (hq _ (by omega)).trans mK
              have mZ : q_ia E (mm + 2) 60 (va_up (fun k => nI (sz k)) n (nI j_am)) H := (hq _ (by omega)).trans mZ
              have mH : q_za E (mm + 3) 60 (va_up (fun k => q_b (sh k)) n (q_b false)) H := (hq _ (by omega)).trans mH
              have mC : q_ja E (mm + 4) 480 (fun q => if 8 * n ≤ q ∧ q < 8 * n + i then 0 else q_cv (kd (q / 8)) (nu (q / 8) (q % 8)) (pa (q / 8) (q % 8))) H := (hq _ (by omega)).trans mC
              have mS : q_ia E (mm + 5) 12 (va_up (fun j => q_eI (sl j)) j_slot (nI n)) H := (hq _ (by omega)).trans mS
              have mSz : Array.size H = S := hz.trans mSz
              refine lv_aload_n hx hb dX2_make_153 rfl (lv_at hl 0 rfl) ?_
              refine qw_get (v := .int (nI (n + 1))) (ci := 2) (C := RX2) (T := TX2) (N := 10) hx hb hts nX2_make_2 hown hK mO rfl 0 (by decide) (hts (.fieldLink RX2 61 "DockGatesModel" "things" "I") (by decide +kernel)) rfl rfl dX2_make_154 ?_
              refine lv_iconst (v := nI 1) hx hb dX2_make_157 (by decide) ?_
              refine lv_isub hx hb dX2_make_158 ?_
              have hi8 : i = 8 := by omega
              subst hi8
              have hM : q_M E mm S (n + 1, va_up kd n j_kind, va_up sz n j_am, va_up sh n false, va_up nu n (fun _ => 0), va_up pa n (fun _ => none), va_up sl j_slot (some n), nI 0, tn, ts, tg) H := q_M.made (cv := 0) (by omega) mO mK mZ mH (by unfold q_cv; rw [if_neg hth]) mC mS mSz
              rw [pk_sub (show 1 ≤ n + 1 by omega), show n + 1 - 1 = n by omega]
              have ee : f_make (n, kd, sz, sh, nu, pa, sl, ft, tn, ts, tg) (nI j_kind) (nI j_am) (nI j_slot) = (nI n, (n + 1, va_up kd n j_kind, va_up sz n j_am, va_up sh n false, va_up nu n (fun _ => 0), va_up pa n (fun _ => none), va_up sl j_slot (some n), nI 0, tn, ts, tg)) := by first | (simp only [f_make, ej_kind, ej_am, ej_slot, c_15, if_neg hk9]; done) | (simp only [f_make, ej_kind, ej_am, ej_slot, c_15, if_neg hk9]; rfl) | (simp only [f_make, ej_kind, ej_am, ej_slot, c_15, if_neg hk9]; rw [if_neg (by omega)]; done) | (simp only [f_make, ej_kind, ej_am, ej_slot, c_15, if_neg hk9]; rw [if_pos (by omega)]; done) | (simp only [f_make, ej_kind, ej_am, ej_slot, c_15, if_neg hk9]; rw [if_neg (by omega)]; rfl) | (simp only [f_make, ej_kind, ej_am, ej_slot, c_15, if_neg hk9]; rw [if_pos (by omega)]; rfl) | (simp only [f_make, ej_kind, ej_am, ej_slot, c_15, if_neg hk9]; cases q_ix slot 12 <;> first | rfl | (simp only [f_make, ej_kind, ej_am, ej_slot, c_15, if_neg hk9]; rfl))
              exact W.iret (v := nI n) hx hb hr (fun tt ht hW => ⟨⟨nI n, (n + 1, va_up kd n j_kind, va_up sz n j_am, va_up sh n false, va_up nu n (fun _ => 0), va_up pa n (fun _ => none), va_up sl j_slot (some n), nI 0, tn, ts, tg), rfl, ⟨(by rw [ee]), (by rw [ee])⟩, (by show q_M E mm S (n + 1, va_up kd n j_kind, va_up sz n j_am, va_up sh n false, va_up nu n (fun _ => 0), va_up pa n (fun _ => none), va_up sl j_slot (some n), nI 0, tn, ts, tg) tt.heap; rw [ht]; exact hM)⟩, hS.F ht⟩) hS.2.2 dX2_make_159
            | succ d ih =>
              refine lv_iload hx hb dX2_make_91 (lv_at hl 4 rfl) ?_
              refine lv_bipush (v := nI 8) hx hb dX2_make_93 (by decide) ?_
              refine ln_cmp_ge (tgt := 133) hx hb (by omega) (by omega) dX2_make_95 (by decide) (fun c_17 => absurd c_17 (by omega)) (fun _ => ?_)
              refine lv_aload_n hx hb dX2_make_98 rfl (lv_at hl 0 rfl) ?_
              refine qw_get (v := .ref (mm + 4)) (ci := 2) (C := RX2) (T := TX2) (N := 10) hx hb hts nX2_make_2 hown hK mO rfl 4 (by decide) (hts (.fieldLink RX2 20 "DockGatesModel" "cell" "[J") (by decide +kernel)) rfl rfl dX2_make_99 ?_
              refine lv_bipush (v := nI 8) hx hb dX2_make_102 (by decide) ?_
              refine lv_aload_n hx hb dX2_make_104 rfl (lv_at hl 0 rfl) ?_
              refine qw_get (v := .int (nI n)) (ci := 2) (C := RX2) (T := TX2) (N := 10) hx hb hts nX2_make_2 hown hK mO rfl 0 (by decide) (hts (.fieldLink RX2 61 "DockGatesModel" "things" "I") (by decide +kernel)) rfl rfl dX2_make_105 ?_
              refine ln_mul hx hb dX2_make_108 ?_
              refine lv_iload hx hb dX2_make_109 (lv_at hl 4 rfl) ?_
              refine ln_add hx hb dX2_make_111 ?_
              refine lv_iload_n hx hb dX2_make_112 rfl (lv_at hl 1 rfl) ?_
              refine qc_ri (r1 := q_b false) (W.runS (As := [.int (nI j_kind)]) (rest := [.int (nI ((8 * n) + i)), .ref (mm + 4)]) ⟨hx, hb, hml, hown, hts⟩ (kX2_holdsThings l j_kind (by omega)) (va_cwS 1 hts gX2_make_X2_holdsThings rfl rfl rfl (by decide +kernel) ⟨Nat.le_of_ble_eq_true rfl, Nat.le_of_ble_eq_true rfl⟩) preEq rfl rfl hl.1 rfl (lv_room (Nat.le_of_ble_eq_true rfl)) dX2_make_113 ⟨Nat.le_of_ble_eq_true rfl, Nat.le_of_ble_eq_true rfl⟩) (congrArg q_b (decide_eq_false hth)) ?_
              refine ln_b_eq (tgt := 125) hx hb dX2_make_116 (by decide) (fun _ => ?_) (fun c_18 => absurd c_18 (by decide))
              refine lv_lconst (v := 0) hx hb dX2_make_125 (by decide) ?_
              refine qw_last (i := 8 * n + i) (A := q_Am mm) hx hb hK mC hS ⟨by omega, by omega⟩ (by omega) (by decide) dX2_make_126 (fun H locs mC hz hq hS => ?_)
              have mO := mO.kept (hq _ (by omega))
              have mK : q_ia E (mm + 1) 60 (va_up (fun k => nI (kd k)) n (nI j_kind)) H := (hq _ (by omega)).trans mK
              have mZ : q_ia E (mm + 2) 60 (va_up (fun k => nI (sz k)) n (nI j_am)) H := (hq _ (by omega)).trans mZ
              have mH : q_za E (mm + 3) 60 (va_up (fun k => q_b (sh k)) n (q_b false)) H := (hq _ (by omega)).trans mH
              have mS : q_ia E (mm + 5) 12 (fun j => q_eI (sl j)) H := (hq _ (by omega)).trans mS
              have mSz : Array.size H = S := hz.trans mSz
              have mC : q_ja E (mm + 4) 480 (fun q => if 8 * n ≤ q ∧ q < 8 * n + (i + 1) then 0 else q_cv (kd (q / 8)) (nu (q / 8) (q % 8)) (pa (q / 8) (q % 8))) H := q_ja_congr mC (fun q _ => by
                  by_cases e : q = 8 * n + i
                  · rw [e, va_up_self, if_pos (by omega)]
                  · rw [va_up_ne _ _ e]
                    by_cases e2 : 8 * n ≤ q ∧ q < 8 * n + i
                    · rw [if_pos e2, if_pos (by omega)]
                    · rw [if_neg e2, if_neg (by omega)])
              refine lv_iinc (v := nI (i + 1)) (lv' := [(4, .int (nI (i + 1))), (0, .ref mm), (1, .int (nI j_kind)), (2, .int (nI j_am)), (3, .int (nI j_slot))]) hx hb dX2_make_127 hl (k := 4) rfl (nI_1 _) (by decide) rfl (fun ls hl => ?_)
              refine lv_goto (tgt := 91) hx hb dX2_make_130 (by decide) ?_
              exact ih (i + 1) H locs mO mK mZ mH mC mS mSz hS ls (lv_sub hl [1, 2, 3, 4, 0] rfl) (by omega)
          · refine lv_bipush (v := (-3)) hx hb dX2_make_55 (by decide) ?_
            have ee : f_make (n, kd, sz, sh, nu, pa, sl, ft, tn, ts, tg) (nI j_kind) (nI j_am) (nI j_slot) = (((-3)), (n, kd, sz, sh, nu, pa, sl, (nI 0), tn, ts, tg)) := by first | (simp only [f_make, ej_kind, ej_am, ej_slot, c_15, if_neg hk9]; done) | (simp only [f_make, ej_kind, ej_am, ej_slot, c_15, if_neg hk9]; rfl) | (simp only [f_make, ej_kind, ej_am, ej_slot, c_15, if_neg hk9]; rw [if_neg (by omega)]; done) | (simp only [f_make, ej_kind, ej_am, ej_slot, c_15, if_neg hk9]; rw [if_pos (by omega)]; done) | (simp only [f_make, ej_kind, ej_am, ej_slot, c_15, if_neg hk9]; rw [if_neg (by omega)]; rfl) | (simp only [f_make, ej_kind, ej_am, ej_slot, c_15, if_neg hk9]; rw [if_pos (by omega)]; rfl) | (simp only [f_make, ej_kind, ej_am, ej_slot, c_15, if_neg hk9]; cases q_ix slot 12 <;> first | rfl | (simp only [f_make, ej_kind, ej_am, ej_slot, c_15, if_neg hk9]; rfl))
            exact W.iret (v := ((-3))) hx hb hr (fun tt ht hW => ⟨⟨((-3)), (n, kd, sz, sh, nu, pa, sl, (nI 0), tn, ts, tg), rfl, ⟨(by rw [ee]), (by rw [ee])⟩, (by show q_M E mm S (n, kd, sz, sh, nu, pa, sl, (nI 0), tn, ts, tg) tt.heap; rw [ht]; exact hM)⟩, hS.F ht⟩) hS.2.2 dX2_make_57
        · have c_14 := q_isn c_14
          refine lv_bipush (v := (-2)) hx hb dX2_make_43 (by decide) ?_
          have ee : f_make (n, kd, sz, sh, nu, pa, sl, ft, tn, ts, tg) (nI j_kind) (nI j_am) slot = (((-2)), (n, kd, sz, sh, nu, pa, sl, (nI 0), tn, ts, tg)) := by first | (simp only [f_make, ej_kind, ej_am, c_14, if_neg hk9]; done) | (simp only [f_make, ej_kind, ej_am, c_14, if_neg hk9]; rfl) | (simp only [f_make, ej_kind, ej_am, c_14, if_neg hk9]; rw [if_neg (by omega)]; done) | (simp only [f_make, ej_kind, ej_am, c_14, if_neg hk9]; rw [if_pos (by omega)]; done) | (simp only [f_make, ej_kind, ej_am, c_14, if_neg hk9]; rw [if_neg (by omega)]; rfl) | (simp only [f_make, ej_kind, ej_am, c_14, if_neg hk9]; rw [if_pos (by omega)]; rfl) | (simp only [f_make, ej_kind, ej_am, c_14, if_neg hk9]; cases q_ix slot 12 <;> first | rfl | (simp only [f_make, ej_kind, ej_am, c_14, if_neg hk9]; rfl))
          exact W.iret (v := ((-2))) hx hb hr (fun tt ht hW => ⟨⟨((-2)), (n, kd, sz, sh, nu, pa, sl, (nI 0), tn, ts, tg), rfl, ⟨(by rw [ee]), (by rw [ee])⟩, (by show q_M E mm S (n, kd, sz, sh, nu, pa, sl, (nI 0), tn, ts, tg) tt.heap; rw [ht]; exact hM)⟩, hS.F ht⟩) hS.2.2 dX2_make_45
