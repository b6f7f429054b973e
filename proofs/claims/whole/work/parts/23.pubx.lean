/-! ===== the class: its public methods (written by program) ===== -/
set_option maxRecDepth 20000 in
theorem nX1_fits_1 : ∀ w ∈ u_ws RX1 TX1 6, w ∈ wsX1_fits := by decide +kernel
set_option maxHeartbeats 4000000 in
set_option maxRecDepth 100000 in
theorem kX1_fits (l : Launch) (E : q_E) (x T0 : Nat) (n : Nat) (kd sz : Nat → Nat) (sh : Nat → Bool) (nu : Nat → Nat → Int64) (pa : Nat → Nat → Option Nat) (sl : Nat → Option Nat) (ft tn ts tg : Int32) (hI : q_I (n, kd, sz, sh, nu, pa, sl, ft, tn, ts, tg)) (slot gate : Int32)  : Met l yX1_fits wsX1_fits ({ frames := 1, cells := 0, slots := 0, locals := 22 }) (q_P E (q_X E x T0 (n, kd, sz, sh, nu, pa, sl, ft, tn, ts, tg)) [.ref x, .int slot, .int gate]) (q_Wi (q_X E x T0) (q_Ax x T0) ((f_fits (n, kd, sz, sh, nu, pa, sl, ft, tn, ts, tg) slot gate).1) (f_fits (n, kd, sz, sh, nu, pa, sl, ft, tn, ts, tg) slot gate).2) 0 0 (q_Ax x T0) := by
  refine Met.ofW (cc := cX1_fits) (maxL := 3) (ret := (some .int)) (by decide) rfl ?_
  intro p e s m args below meth c s₁ B hml hv
  obtain ⟨rfl, hK, hX⟩ := hv
  have hx := B.exec
  have hb := B.bytes
  have hr := B.returns
  have hts := atoms_spec (ws := wsX1_fits) B.pre
  have hown : s.vm.findClass RX1 = some m.cls := findClass_of_methodNamed B.named
  have hlocks := B.notSynchronized
  have hl := lv_entry ([.ref x, .int slot, .int gate]) (n := 3) (Nat.le_of_ble_eq_true rfl)
  rw [lg_entry_eq]
  generalize (lg_sl ([.ref x, .int slot, .int gate]) ++ List.replicate (3 - (lg_sl ([.ref x, .int slot, .int gate])).length) Slot.unset).toArray = ls at hl ⊢
  have hl : lv_has ls 3 [(0, .ref x), (1, .int slot), (2, .int gate)] := hl
  have hS : va_S (q_Ax x T0) s.heap s.heap [] := va_S.rf
  refine lv_aload_n hx hb dX1_fits_0 rfl (lv_at hl 0 rfl) ?_
  refine lv_iconst (v := nI 0) hx hb dX1_fits_1 (by decide) ?_
  refine qw_put (ci := 1) (C := RX1) (T := TX1) (N := 6) hx hb hts nX1_fits_1 tyX1 tyX1_ok nmX1 hown hK hX.1 hS (Or.inl rfl) rfl 2 (by decide) (hts (.fieldLink RX1 19 "DockGates" "latestFault" "I") (by decide +kernel)) rfl rfl rfl rfl (Nat.le_of_ble_eq_true rfl) dX1_fits_2 (fun H locs hO hz hq hS => ?_)
  have hX : q_X E x T0 (n, kd, sz, sh, nu, pa, sl, (nI 0), tn, ts, tg) H := hX.obj hO hz hq
  refine lv_iload_n hx hb dX1_fits_5 rfl (lv_at hl 1 rfl) ?_
  refine qc_ri (r1 := q_b ((q_ix slot 12).isSome)) (W.runS (As := [.int slot]) (rest := []) ⟨hx, hb, hml, hown, hts⟩ (kX1_isSlot l slot) (va_cwS 1 hts gX1_fits_X1_isSlot rfl rfl rfl (by decide +kernel) ⟨Nat.le_of_ble_eq_true rfl, Nat.le_of_ble_eq_true rfl⟩) preEq rfl rfl hl.1 rfl (lv_room (Nat.le_of_ble_eq_true rfl)) dX1_fits_6 ⟨Nat.le_of_ble_eq_true rfl, Nat.le_of_ble_eq_true rfl⟩) rfl ?_
  refine ln_b_eq (tgt := 19) hx hb dX1_fits_9 (by decide) (fun c_1 => ?_) (fun c_1 => ?_)
  · have c_1 := q_isn c_1
    refine lv_bipush (v := (-2)) hx hb dX1_fits_19 (by decide) ?_
    have ee : f_fits (n, kd, sz, sh, nu, pa, sl, ft, tn, ts, tg) slot gate = (((-2)), (n, kd, sz, sh, nu, pa, sl, (nI 0), tn, ts, tg)) := by first | (simp only [f_fits, c_1]; done) | (simp only [f_fits, c_1]; rfl) | (simp [f_fits, c_1]; done) | (simp [f_fits, c_1]; rfl) | (simp only [f_fits, c_1]; (repeat' split) <;> first | rfl | (exfalso; omega))
    exact W.iret (v := ((-2))) hx hb hr (fun t ht hW => ⟨⟨((-2)), (n, kd, sz, sh, nu, pa, sl, (nI 0), tn, ts, tg), rfl, ⟨(by rw [ee]), (by rw [ee])⟩, (by show q_X E x T0 (n, kd, sz, sh, nu, pa, sl, (nI 0), tn, ts, tg) t.heap; rw [ht]; exact hX)⟩, hS.F ht⟩) hS.2.2 dX1_fits_21
  · obtain ⟨j_slot, hj_slot, rfl⟩ := q_is (by first | decide | omega) c_1
    have ej_slot := q_ix_in hj_slot (by first | decide | omega)
    refine lv_iload_n hx hb dX1_fits_12 rfl (lv_at hl 2 rfl) ?_
    refine qc_ri (r1 := q_b ((q_ix gate 13).isSome)) (W.runS (As := [.int gate]) (rest := []) ⟨hx, hb, hml, hown, hts⟩ (kX1_isGate l gate) (va_cwS 1 hts gX1_fits_X1_isGate rfl rfl rfl (by decide +kernel) ⟨Nat.le_of_ble_eq_true rfl, Nat.le_of_ble_eq_true rfl⟩) preEq rfl rfl hl.1 rfl (lv_room (Nat.le_of_ble_eq_true rfl)) dX1_fits_13 ⟨Nat.le_of_ble_eq_true rfl, Nat.le_of_ble_eq_true rfl⟩) rfl ?_
    refine ln_b_ne (tgt := 22) hx hb dX1_fits_16 (by decide) (fun c_2 => ?_) (fun c_2 => ?_)
    · obtain ⟨j_gate, hj_gate, rfl⟩ := q_is (by first | decide | omega) c_2
      have ej_gate := q_ix_in hj_gate (by first | decide | omega)
      refine lv_iload_n hx hb dX1_fits_22 rfl (lv_at hl 2 rfl) ?_
      refine lv_aload_n hx hb dX1_fits_23 rfl (lv_at hl 0 rfl) ?_
      refine qw_get (v := .ref (x + 1)) (ci := 1) (C := RX1) (T := TX1) (N := 6) hx hb hts nX1_fits_1 hown hK hX.1 rfl 0 (by decide) (hts (.fieldLink RX1 11 "DockGates" "slots" "[LDockGates$Thing;") (by decide +kernel)) rfl rfl dX1_fits_24 ?_
      refine lv_iload_n hx hb dX1_fits_27 rfl (lv_at hl 1 rfl) ?_
      refine qx_slot hx hb hK hX hI hj_slot dX1_fits_28 (fun s_3 => ?_) (fun k_3 hk_3 s_3 => ?_)
      · try dsimp only at s_3
        refine qc_ri (r1 := q_b false) (W.runS (As := [.int (nI j_gate), .null]) (rest := []) ⟨hx, hb, hml, hown, hts⟩ (kX1_letsThrough_N l E x T0 n kd sz sh nu pa sl ((nI 0)) tn ts tg hI j_gate) (va_cwS 2 hts gX1_fits_X1_letsThrough rfl rfl rfl (by decide +kernel) ⟨Nat.le_of_ble_eq_true rfl, Nat.le_of_ble_eq_true rfl⟩) (q_pre hK hX) rfl rfl hl.1 rfl (lv_room (Nat.le_of_ble_eq_true rfl)) dX1_fits_29 ⟨Nat.le_of_ble_eq_true rfl, Nat.le_of_ble_eq_true rfl⟩) rfl ?_
        refine ln_b_eq (tgt := 39) hx hb dX1_fits_32 (by decide) (fun _ => ?_) (fun c_4 => absurd c_4 (by decide))
        refine lv_iconst (v := nI 0) hx hb dX1_fits_39 (by decide) ?_
        have ee : f_fits (n, kd, sz, sh, nu, pa, sl, ft, tn, ts, tg) (nI j_slot) (nI j_gate) = (nI 0, (n, kd, sz, sh, nu, pa, sl, (nI 0), tn, ts, tg)) := by first | (simp only [f_fits, ej_slot, ej_gate, s_3]; done) | (simp only [f_fits, ej_slot, ej_gate, s_3]; rfl) | (simp [f_fits, ej_slot, ej_gate, s_3]; done) | (simp [f_fits, ej_slot, ej_gate, s_3]; rfl) | (simp only [f_fits, ej_slot, ej_gate, s_3]; (repeat' split) <;> first | rfl | (exfalso; omega))
        exact W.iret (v := nI 0) hx hb hr (fun t ht hW => ⟨⟨nI 0, (n, kd, sz, sh, nu, pa, sl, (nI 0), tn, ts, tg), rfl, ⟨(by rw [ee]), (by rw [ee])⟩, (by show q_X E x T0 (n, kd, sz, sh, nu, pa, sl, (nI 0), tn, ts, tg) t.heap; rw [ht]; exact hX)⟩, hS.F ht⟩) hS.2.2 dX1_fits_40
      · try dsimp only at s_3 hk_3
        obtain ⟨ak_3, bk_3, dk_3, wk_3⟩ := hI.2.1 k_3 hk_3
        have n60 := hI.1
        try dsimp only at ak_3 bk_3 dk_3 wk_3 n60
        refine qc_ri (r1 := q_b (q_go (kd k_3) j_gate)) (W.runS (As := [.int (nI j_gate), .ref (T0 + 3 * k_3)]) (rest := []) ⟨hx, hb, hml, hown, hts⟩ (kX1_letsThrough_S l E x T0 n kd sz sh nu pa sl ((nI 0)) tn ts tg hI j_gate (by first | omega | decide) k_3 hk_3) (va_cwS 2 hts gX1_fits_X1_letsThrough rfl rfl rfl (by decide +kernel) ⟨Nat.le_of_ble_eq_true rfl, Nat.le_of_ble_eq_true rfl⟩) (q_pre hK hX) rfl rfl hl.1 rfl (lv_room (Nat.le_of_ble_eq_true rfl)) dX1_fits_29 ⟨Nat.le_of_ble_eq_true rfl, Nat.le_of_ble_eq_true rfl⟩) rfl ?_
        refine ln_b_eq (tgt := 39) hx hb dX1_fits_32 (by decide) (fun c_5 => ?_) (fun c_5 => ?_)
        · refine lv_iconst (v := nI 0) hx hb dX1_fits_39 (by decide) ?_
          have ee : f_fits (n, kd, sz, sh, nu, pa, sl, ft, tn, ts, tg) (nI j_slot) (nI j_gate) = (nI 0, (n, kd, sz, sh, nu, pa, sl, (nI 0), tn, ts, tg)) := by first | (simp only [f_fits, ej_slot, ej_gate, s_3, c_5]; done) | (simp only [f_fits, ej_slot, ej_gate, s_3, c_5]; rfl) | (simp [f_fits, ej_slot, ej_gate, s_3, c_5]; done) | (simp [f_fits, ej_slot, ej_gate, s_3, c_5]; rfl) | (simp only [f_fits, ej_slot, ej_gate, s_3, c_5]; (repeat' split) <;> first | rfl | (exfalso; omega))
          exact W.iret (v := nI 0) hx hb hr (fun t ht hW => ⟨⟨nI 0, (n, kd, sz, sh, nu, pa, sl, (nI 0), tn, ts, tg), rfl, ⟨(by rw [ee]), (by rw [ee])⟩, (by show q_X E x T0 (n, kd, sz, sh, nu, pa, sl, (nI 0), tn, ts, tg) t.heap; rw [ht]; exact hX)⟩, hS.F ht⟩) hS.2.2 dX1_fits_40
        · refine lv_iconst (v := nI 1) hx hb dX1_fits_35 (by decide) ?_
          refine lv_goto (tgt := 40) hx hb dX1_fits_36 (by decide) ?_
          have ee : f_fits (n, kd, sz, sh, nu, pa, sl, ft, tn, ts, tg) (nI j_slot) (nI j_gate) = (nI 1, (n, kd, sz, sh, nu, pa, sl, (nI 0), tn, ts, tg)) := by first | (simp only [f_fits, ej_slot, ej_gate, s_3, c_5]; done) | (simp only [f_fits, ej_slot, ej_gate, s_3, c_5]; rfl) | (simp [f_fits, ej_slot, ej_gate, s_3, c_5]; done) | (simp [f_fits, ej_slot, ej_gate, s_3, c_5]; rfl) | (simp only [f_fits, ej_slot, ej_gate, s_3, c_5]; (repeat' split) <;> first | rfl | (exfalso; omega))
          exact W.iret (v := nI 1) hx hb hr (fun t ht hW => ⟨⟨nI 1, (n, kd, sz, sh, nu, pa, sl, (nI 0), tn, ts, tg), rfl, ⟨(by rw [ee]), (by rw [ee])⟩, (by show q_X E x T0 (n, kd, sz, sh, nu, pa, sl, (nI 0), tn, ts, tg) t.heap; rw [ht]; exact hX)⟩, hS.F ht⟩) hS.2.2 dX1_fits_40
    · have c_2 := q_isn c_2
      refine lv_bipush (v := (-2)) hx hb dX1_fits_19 (by decide) ?_
      have ee : f_fits (n, kd, sz, sh, nu, pa, sl, ft, tn, ts, tg) (nI j_slot) gate = (((-2)), (n, kd, sz, sh, nu, pa, sl, (nI 0), tn, ts, tg)) := by first | (simp only [f_fits, ej_slot, c_2]; done) | (simp only [f_fits, ej_slot, c_2]; rfl) | (simp [f_fits, ej_slot, c_2]; done) | (simp [f_fits, ej_slot, c_2]; rfl) | (simp only [f_fits, ej_slot, c_2]; (repeat' split) <;> first | rfl | (exfalso; omega))
      exact W.iret (v := ((-2))) hx hb hr (fun t ht hW => ⟨⟨((-2)), (n, kd, sz, sh, nu, pa, sl, (nI 0), tn, ts, tg), rfl, ⟨(by rw [ee]), (by rw [ee])⟩, (by show q_X E x T0 (n, kd, sz, sh, nu, pa, sl, (nI 0), tn, ts, tg) t.heap; rw [ht]; exact hX)⟩, hS.F ht⟩) hS.2.2 dX1_fits_21
set_option maxRecDepth 20000 in
theorem nX1_pass_1 : ∀ w ∈ u_ws RX1 TX1 6, w ∈ wsX1_pass := by decide +kernel
set_option maxHeartbeats 4000000 in
set_option maxRecDepth 100000 in
theorem kX1_pass (l : Launch) (E : q_E) (x T0 : Nat) (n : Nat) (kd sz : Nat → Nat) (sh : Nat → Bool) (nu : Nat → Nat → Int64) (pa : Nat → Nat → Option Nat) (sl : Nat → Option Nat) (ft tn ts tg : Int32) (hI : q_I (n, kd, sz, sh, nu, pa, sl, ft, tn, ts, tg)) (slot gate : Int32)  : Met l yX1_pass wsX1_pass ({ frames := 6, cells := 0, slots := 0, locals := 137 }) (q_P E (q_X E x T0 (n, kd, sz, sh, nu, pa, sl, ft, tn, ts, tg)) [.ref x, .int slot, .int gate]) (q_Wl (q_X E x T0) (q_Ax x T0) ((f_pass (n, kd, sz, sh, nu, pa, sl, ft, tn, ts, tg) slot gate).1) (f_pass (n, kd, sz, sh, nu, pa, sl, ft, tn, ts, tg) slot gate).2) 0 0 (q_Ax x T0) := by
  refine Met.ofW (cc := cX1_pass) (maxL := 4) (ret := (some .long)) (by decide) rfl ?_
  intro p e s m args below meth c s₁ B hml hv
  obtain ⟨rfl, hK, hX⟩ := hv
  have hx := B.exec
  have hb := B.bytes
  have hr := B.returns
  have hts := atoms_spec (ws := wsX1_pass) B.pre
  have hown : s.vm.findClass RX1 = some m.cls := findClass_of_methodNamed B.named
  have hlocks := B.notSynchronized
  have hl := lv_entry ([.ref x, .int slot, .int gate]) (n := 4) (Nat.le_of_ble_eq_true rfl)
  rw [lg_entry_eq]
  generalize (lg_sl ([.ref x, .int slot, .int gate]) ++ List.replicate (4 - (lg_sl ([.ref x, .int slot, .int gate])).length) Slot.unset).toArray = ls at hl ⊢
  have hl : lv_has ls 4 [(0, .ref x), (1, .int slot), (2, .int gate)] := hl
  have hS : va_S (q_Ax x T0) s.heap s.heap [] := va_S.rf
  refine lv_aload_n hx hb dX1_pass_0 rfl (lv_at hl 0 rfl) ?_
  refine lv_iconst (v := nI 0) hx hb dX1_pass_1 (by decide) ?_
  refine qw_put (ci := 1) (C := RX1) (T := TX1) (N := 6) hx hb hts nX1_pass_1 tyX1 tyX1_ok nmX1 hown hK hX.1 hS (Or.inl rfl) rfl 2 (by decide) (hts (.fieldLink RX1 19 "DockGates" "latestFault" "I") (by decide +kernel)) rfl rfl rfl rfl (Nat.le_of_ble_eq_true rfl) dX1_pass_2 (fun H locs hO hz hq hS => ?_)
  have hX : q_X E x T0 (n, kd, sz, sh, nu, pa, sl, (nI 0), tn, ts, tg) H := hX.obj hO hz hq
  refine lv_iload_n hx hb dX1_pass_5 rfl (lv_at hl 1 rfl) ?_
  refine qc_ri (r1 := q_b ((q_ix slot 12).isSome)) (W.runS (As := [.int slot]) (rest := []) ⟨hx, hb, hml, hown, hts⟩ (kX1_isSlot l slot) (va_cwS 1 hts gX1_pass_X1_isSlot rfl rfl rfl (by decide +kernel) ⟨Nat.le_of_ble_eq_true rfl, Nat.le_of_ble_eq_true rfl⟩) preEq rfl rfl hl.1 rfl (lv_room (Nat.le_of_ble_eq_true rfl)) dX1_pass_6 ⟨Nat.le_of_ble_eq_true rfl, Nat.le_of_ble_eq_true rfl⟩) rfl ?_
  refine ln_b_eq (tgt := 19) hx hb dX1_pass_9 (by decide) (fun c_1 => ?_) (fun c_1 => ?_)
  · have c_1 := q_isn c_1
    refine lv_aload_n hx hb dX1_pass_19 rfl (lv_at hl 0 rfl) ?_
    refine lv_bipush (v := (-2)) hx hb dX1_pass_20 (by decide) ?_
    refine qc_i (r1 := nI 0) (σ1 := (n, kd, sz, sh, nu, pa, sl, ((-2)), tn, ts, tg)) (va_runV (As := [.int ((-2))]) (rest := []) ⟨hx, hb, hml, hown, hts⟩ (kX1_failed l E x T0 n kd sz sh nu pa sl ((nI 0)) tn ts tg hI (((-2)))) (cwV 1 hts gX1_pass_X1_failed rfl rfl rfl (by decide +kernel) ⟨Nat.le_of_ble_eq_true rfl, Nat.le_of_ble_eq_true rfl⟩) (q_preV hK hX hX.1 rfl) rfl rfl hl.1 rfl (lv_room (Nat.le_of_ble_eq_true rfl)) dX1_pass_22 ⟨Nat.le_of_ble_eq_true rfl, Nat.le_of_ble_eq_true rfl⟩) hS rfl rfl (fun H locs hX hS => ?_)
    refine lv_i2l (v := lN 0) hx hb dX1_pass_25 (nI_l (by first | omega | (simp; omega))) ?_
    have ee : f_pass (n, kd, sz, sh, nu, pa, sl, ft, tn, ts, tg) slot gate = (lN 0, (n, kd, sz, sh, nu, pa, sl, ((-2)), tn, ts, tg)) := by first | (simp only [f_pass, c_1]; done) | (simp only [f_pass, c_1]; rfl) | (simp [f_pass, c_1]; done) | (simp [f_pass, c_1]; rfl) | (simp only [f_pass, c_1]; (repeat' split) <;> first | rfl | (exfalso; omega))
    exact W.lret (v := lN 0) hx hb hr (fun t ht hW => ⟨⟨lN 0, (n, kd, sz, sh, nu, pa, sl, ((-2)), tn, ts, tg), rfl, ⟨(by rw [ee]), (by rw [ee])⟩, (by show q_X E x T0 (n, kd, sz, sh, nu, pa, sl, ((-2)), tn, ts, tg) t.heap; rw [ht]; exact hX)⟩, hS.F ht⟩) hS.2.2 dX1_pass_26
  · obtain ⟨j_slot, hj_slot, rfl⟩ := q_is (by first | decide | omega) c_1
    have ej_slot := q_ix_in hj_slot (by first | decide | omega)
    refine lv_iload_n hx hb dX1_pass_12 rfl (lv_at hl 2 rfl) ?_
    refine qc_ri (r1 := q_b ((q_ix gate 13).isSome)) (W.runS (As := [.int gate]) (rest := []) ⟨hx, hb, hml, hown, hts⟩ (kX1_isGate l gate) (va_cwS 1 hts gX1_pass_X1_isGate rfl rfl rfl (by decide +kernel) ⟨Nat.le_of_ble_eq_true rfl, Nat.le_of_ble_eq_true rfl⟩) preEq rfl rfl hl.1 rfl (lv_room (Nat.le_of_ble_eq_true rfl)) dX1_pass_13 ⟨Nat.le_of_ble_eq_true rfl, Nat.le_of_ble_eq_true rfl⟩) rfl ?_
    refine ln_b_ne (tgt := 27) hx hb dX1_pass_16 (by decide) (fun c_2 => ?_) (fun c_2 => ?_)
    · obtain ⟨j_gate, hj_gate, rfl⟩ := q_is (by first | decide | omega) c_2
      have ej_gate := q_ix_in hj_gate (by first | decide | omega)
      refine lv_aload_n hx hb dX1_pass_27 rfl (lv_at hl 0 rfl) ?_
      refine lv_iload_n hx hb dX1_pass_28 rfl (lv_at hl 2 rfl) ?_
      refine lv_iload_n hx hb dX1_pass_29 rfl (lv_at hl 1 rfl) ?_
      cases s_3 : sl j_slot with
      | none =>
        refine qc_q (r1 := none) (σ1 := (n, kd, sz, sh, nu, pa, sl, nI 2, tn, ts, tg)) (va_runV (As := [.int (nI j_gate), .int (nI j_slot)]) (rest := []) ⟨hx, hb, hml, hown, hts⟩ (kX1_broughtThrough_N l E x T0 n kd sz sh nu pa sl ((nI 0)) tn ts tg hI j_gate j_slot hj_slot s_3) (cwV 2 hts gX1_pass_X1_broughtThrough rfl rfl rfl (by decide +kernel) ⟨Nat.le_of_ble_eq_true rfl, Nat.le_of_ble_eq_true rfl⟩) (q_preV hK hX hX.1 rfl) rfl rfl hl.1 rfl (lv_room (Nat.le_of_ble_eq_true rfl)) dX1_pass_30 ⟨Nat.le_of_ble_eq_true rfl, Nat.le_of_ble_eq_true rfl⟩) hS rfl rfl (fun H locs hX hS => ?_)
        try dsimp only [va_rf]
        refine lv_astore_nN (lv' := [(3, .null), (0, .ref x), (1, .int (nI j_slot)), (2, .int (nI j_gate))]) hx hb dX1_pass_33 rfl hl (by decide) rfl (fun ls hl => ?_)
        refine lv_aload_nN hx hb dX1_pass_34 rfl (lv_at hl 0 rfl) ?_
        refine lv_ifnonnullN hx hb dX1_pass_35 ?_
        refine lv_lconst (v := 0) hx hb dX1_pass_38 (by decide) ?_
        have ee : f_pass (n, kd, sz, sh, nu, pa, sl, ft, tn, ts, tg) (nI j_slot) (nI j_gate) = (0, (n, kd, sz, sh, nu, pa, sl, nI 2, tn, ts, tg)) := by first | (simp only [f_pass, ej_slot, ej_gate, s_3]; done) | (simp only [f_pass, ej_slot, ej_gate, s_3]; rfl) | (simp [f_pass, ej_slot, ej_gate, s_3]; done) | (simp [f_pass, ej_slot, ej_gate, s_3]; rfl) | (simp only [f_pass, ej_slot, ej_gate, s_3]; (repeat' split) <;> first | rfl | (exfalso; omega))
        exact W.lret (v := 0) hx hb hr (fun t ht hW => ⟨⟨0, (n, kd, sz, sh, nu, pa, sl, nI 2, tn, ts, tg), rfl, ⟨(by rw [ee]), (by rw [ee])⟩, (by show q_X E x T0 (n, kd, sz, sh, nu, pa, sl, nI 2, tn, ts, tg) t.heap; rw [ht]; exact hX)⟩, hS.F ht⟩) hS.2.2 dX1_pass_39
      | some k_3 =>
        have hk_3 : k_3 < n := hI.2.2 _ _ s_3
        obtain ⟨ak_3, bk_3, dk_3, wk_3⟩ := hI.2.1 k_3 hk_3
        have n60 := hI.1
        try dsimp only at ak_3 bk_3 dk_3 wk_3 n60
        cases g_4 : q_go (kd k_3) j_gate with
        | false =>
          have zg_4 := q_gofalse g_4
          refine qc_q (r1 := none) (σ1 := (n, kd, sz, sh, nu, pa, sl, nI 1, (tn + 1), nI j_slot, nI j_gate)) (va_runV (As := [.int (nI j_gate), .int (nI j_slot)]) (rest := []) ⟨hx, hb, hml, hown, hts⟩ (kX1_broughtThrough_T l E x T0 n kd sz sh nu pa sl ((nI 0)) tn ts tg hI j_gate j_slot (by first | omega | decide) hj_slot k_3 hk_3 s_3 g_4) (cwV 2 hts gX1_pass_X1_broughtThrough rfl rfl rfl (by decide +kernel) ⟨Nat.le_of_ble_eq_true rfl, Nat.le_of_ble_eq_true rfl⟩) (q_preV hK hX hX.1 rfl) rfl rfl hl.1 rfl (lv_room (Nat.le_of_ble_eq_true rfl)) dX1_pass_30 ⟨Nat.le_of_ble_eq_true rfl, Nat.le_of_ble_eq_true rfl⟩) hS rfl rfl (fun H locs hX hS => ?_)
          try dsimp only [va_rf]
          refine lv_astore_nN (lv' := [(3, .null), (0, .ref x), (1, .int (nI j_slot)), (2, .int (nI j_gate))]) hx hb dX1_pass_33 rfl hl (by decide) rfl (fun ls hl => ?_)
          refine lv_aload_nN hx hb dX1_pass_34 rfl (lv_at hl 0 rfl) ?_
          refine lv_ifnonnullN hx hb dX1_pass_35 ?_
          refine lv_lconst (v := 0) hx hb dX1_pass_38 (by decide) ?_
          have ee : f_pass (n, kd, sz, sh, nu, pa, sl, ft, tn, ts, tg) (nI j_slot) (nI j_gate) = (0, (n, kd, sz, sh, nu, pa, sl, nI 1, (tn + 1), nI j_slot, nI j_gate)) := by first | (simp only [f_pass, ej_slot, ej_gate, s_3, g_4]; done) | (simp only [f_pass, ej_slot, ej_gate, s_3, g_4]; rfl) | (simp [f_pass, ej_slot, ej_gate, s_3, g_4]; done) | (simp [f_pass, ej_slot, ej_gate, s_3, g_4]; rfl) | (simp only [f_pass, ej_slot, ej_gate, s_3, g_4]; (repeat' split) <;> first | rfl | (exfalso; omega))
          exact W.lret (v := 0) hx hb hr (fun t ht hW => ⟨⟨0, (n, kd, sz, sh, nu, pa, sl, nI 1, (tn + 1), nI j_slot, nI j_gate), rfl, ⟨(by rw [ee]), (by rw [ee])⟩, (by show q_X E x T0 (n, kd, sz, sh, nu, pa, sl, nI 1, (tn + 1), nI j_slot, nI j_gate) t.heap; rw [ht]; exact hX)⟩, hS.F ht⟩) hS.2.2 dX1_pass_39
        | true =>
          have zg_4 := q_gofacts g_4
          refine qc_q (r1 := some (T0 + 3 * k_3)) (σ1 := (n, kd, sz, sh, nu, pa, sl, (nI 0), tn, ts, tg)) (va_runV (As := [.int (nI j_gate), .int (nI j_slot)]) (rest := []) ⟨hx, hb, hml, hown, hts⟩ (kX1_broughtThrough_S l E x T0 n kd sz sh nu pa sl ((nI 0)) tn ts tg hI j_gate j_slot (by first | omega | decide) hj_slot k_3 hk_3 s_3 g_4) (cwV 2 hts gX1_pass_X1_broughtThrough rfl rfl rfl (by decide +kernel) ⟨Nat.le_of_ble_eq_true rfl, Nat.le_of_ble_eq_true rfl⟩) (q_preV hK hX hX.1 rfl) rfl rfl hl.1 rfl (lv_room (Nat.le_of_ble_eq_true rfl)) dX1_pass_30 ⟨Nat.le_of_ble_eq_true rfl, Nat.le_of_ble_eq_true rfl⟩) hS rfl rfl (fun H locs hX hS => ?_)
          try dsimp only [va_rf]
          refine lv_astore_n (lv' := [(3, .ref (T0 + 3 * k_3)), (0, .ref x), (1, .int (nI j_slot)), (2, .int (nI j_gate))]) hx hb dX1_pass_33 rfl hl (by decide) rfl (fun ls hl => ?_)
          refine lv_aload_n hx hb dX1_pass_34 rfl (lv_at hl 0 rfl) ?_
          refine lv_ifnonnull (tgt := 40) hx hb dX1_pass_35 (by decide) ?_
          refine lv_aload_n hx hb dX1_pass_40 rfl (lv_at hl 0 rfl) ?_
          refine qc_ri (r1 := q_b (q_ho2 kd sz pa k_3)) (W.runS (As := [.ref (T0 + 3 * k_3)]) (rest := []) ⟨hx, hb, hml, hown, hts⟩ (kX1_hasHole l E x T0 n kd sz sh nu pa sl ((nI 0)) tn ts tg hI k_3 hk_3) (va_cwS 1 hts gX1_pass_X1_hasHole rfl rfl rfl (by decide +kernel) ⟨Nat.le_of_ble_eq_true rfl, Nat.le_of_ble_eq_true rfl⟩) (q_pre hK hX) rfl rfl hl.1 rfl (lv_room (Nat.le_of_ble_eq_true rfl)) dX1_pass_41 ⟨Nat.le_of_ble_eq_true rfl, Nat.le_of_ble_eq_true rfl⟩) rfl ?_
          refine ln_b_eq (tgt := 54) hx hb dX1_pass_44 (by decide) (fun c_5 => ?_) (fun c_5 => ?_)
          · refine lv_aload_n hx hb dX1_pass_54 rfl (lv_at hl 0 rfl) ?_
            refine lv_iload_n hx hb dX1_pass_55 rfl (lv_at hl 3 rfl) ?_
            refine qc_rl (r1 := q_val kd sz sh nu pa k_3 j_gate) (W.runS (As := [.ref (T0 + 3 * k_3), .int (nI j_gate)]) (rest := []) ⟨hx, hb, hml, hown, hts⟩ (kX1_toldBy l E x T0 n kd sz sh nu pa sl ((nI 0)) tn ts tg hI k_3 j_gate hk_3 (by omega) g_4) (va_cwS 2 hts gX1_pass_X1_toldBy rfl rfl rfl (by decide +kernel) ⟨Nat.le_of_ble_eq_true rfl, Nat.le_of_ble_eq_true rfl⟩) (q_pre hK hX) rfl rfl hl.1 rfl (lv_room (Nat.le_of_ble_eq_true rfl)) dX1_pass_56 ⟨Nat.le_of_ble_eq_true rfl, Nat.le_of_ble_eq_true rfl⟩) rfl ?_
            have ee : f_pass (n, kd, sz, sh, nu, pa, sl, ft, tn, ts, tg) (nI j_slot) (nI j_gate) = (q_val kd sz sh nu pa k_3 j_gate, (n, kd, sz, sh, nu, pa, sl, (nI 0), tn, ts, tg)) := by first | (simp only [f_pass, ej_slot, ej_gate, s_3, g_4, c_5]; done) | (simp only [f_pass, ej_slot, ej_gate, s_3, g_4, c_5]; rfl) | (simp [f_pass, ej_slot, ej_gate, s_3, g_4, c_5]; done) | (simp [f_pass, ej_slot, ej_gate, s_3, g_4, c_5]; rfl) | (simp only [f_pass, ej_slot, ej_gate, s_3, g_4, c_5]; (repeat' split) <;> first | rfl | (exfalso; omega))
            exact W.lret (v := q_val kd sz sh nu pa k_3 j_gate) hx hb hr (fun t ht hW => ⟨⟨q_val kd sz sh nu pa k_3 j_gate, (n, kd, sz, sh, nu, pa, sl, (nI 0), tn, ts, tg), rfl, ⟨(by rw [ee]), (by rw [ee])⟩, (by show q_X E x T0 (n, kd, sz, sh, nu, pa, sl, (nI 0), tn, ts, tg) t.heap; rw [ht]; exact hX)⟩, hS.F ht⟩) hS.2.2 dX1_pass_59
          · refine lv_aload_n hx hb dX1_pass_47 rfl (lv_at hl 1 rfl) ?_
            refine lv_iconst (v := nI 4) hx hb dX1_pass_48 (by decide) ?_
            refine qc_i (r1 := nI 0) (σ1 := (n, kd, sz, sh, nu, pa, sl, nI 4, tn, ts, tg)) (va_runV (As := [.int (nI 4)]) (rest := []) ⟨hx, hb, hml, hown, hts⟩ (kX1_failed l E x T0 n kd sz sh nu pa sl ((nI 0)) tn ts tg hI (nI 4)) (cwV 1 hts gX1_pass_X1_failed rfl rfl rfl (by decide +kernel) ⟨Nat.le_of_ble_eq_true rfl, Nat.le_of_ble_eq_true rfl⟩) (q_preV hK hX hX.1 rfl) rfl rfl hl.1 rfl (lv_room (Nat.le_of_ble_eq_true rfl)) dX1_pass_49 ⟨Nat.le_of_ble_eq_true rfl, Nat.le_of_ble_eq_true rfl⟩) hS rfl rfl (fun H locs hX hS => ?_)
            refine lv_i2l (v := lN 0) hx hb dX1_pass_52 (nI_l (by first | omega | (simp; omega))) ?_
            have ee : f_pass (n, kd, sz, sh, nu, pa, sl, ft, tn, ts, tg) (nI j_slot) (nI j_gate) = (lN 0, (n, kd, sz, sh, nu, pa, sl, nI 4, tn, ts, tg)) := by first | (simp only [f_pass, ej_slot, ej_gate, s_3, g_4, c_5]; done) | (simp only [f_pass, ej_slot, ej_gate, s_3, g_4, c_5]; rfl) | (simp [f_pass, ej_slot, ej_gate, s_3, g_4, c_5]; done) | (simp [f_pass, ej_slot, ej_gate, s_3, g_4, c_5]; rfl) | (simp only [f_pass, ej_slot, ej_gate, s_3, g_4, c_5]; (repeat' split) <;> first | rfl | (exfalso; omega))
            exact W.lret (v := lN 0) hx hb hr (fun t ht hW => ⟨⟨lN 0, (n, kd, sz, sh, nu, pa, sl, nI 4, tn, ts, tg), rfl, ⟨(by rw [ee]), (by rw [ee])⟩, (by show q_X E x T0 (n, kd, sz, sh, nu, pa, sl, nI 4, tn, ts, tg) t.heap; rw [ht]; exact hX)⟩, hS.F ht⟩) hS.2.2 dX1_pass_53
    · have c_2 := q_isn c_2
      refine lv_aload_n hx hb dX1_pass_19 rfl (lv_at hl 0 rfl) ?_
      refine lv_bipush (v := (-2)) hx hb dX1_pass_20 (by decide) ?_
      refine qc_i (r1 := nI 0) (σ1 := (n, kd, sz, sh, nu, pa, sl, ((-2)), tn, ts, tg)) (va_runV (As := [.int ((-2))]) (rest := []) ⟨hx, hb, hml, hown, hts⟩ (kX1_failed l E x T0 n kd sz sh nu pa sl ((nI 0)) tn ts tg hI (((-2)))) (cwV 1 hts gX1_pass_X1_failed rfl rfl rfl (by decide +kernel) ⟨Nat.le_of_ble_eq_true rfl, Nat.le_of_ble_eq_true rfl⟩) (q_preV hK hX hX.1 rfl) rfl rfl hl.1 rfl (lv_room (Nat.le_of_ble_eq_true rfl)) dX1_pass_22 ⟨Nat.le_of_ble_eq_true rfl, Nat.le_of_ble_eq_true rfl⟩) hS rfl rfl (fun H locs hX hS => ?_)
      refine lv_i2l (v := lN 0) hx hb dX1_pass_25 (nI_l (by first | omega | (simp; omega))) ?_
      have ee : f_pass (n, kd, sz, sh, nu, pa, sl, ft, tn, ts, tg) (nI j_slot) gate = (lN 0, (n, kd, sz, sh, nu, pa, sl, ((-2)), tn, ts, tg)) := by first | (simp only [f_pass, ej_slot, c_2]; done) | (simp only [f_pass, ej_slot, c_2]; rfl) | (simp [f_pass, ej_slot, c_2]; done) | (simp [f_pass, ej_slot, c_2]; rfl) | (simp only [f_pass, ej_slot, c_2]; (repeat' split) <;> first | rfl | (exfalso; omega))
      exact W.lret (v := lN 0) hx hb hr (fun t ht hW => ⟨⟨lN 0, (n, kd, sz, sh, nu, pa, sl, ((-2)), tn, ts, tg), rfl, ⟨(by rw [ee]), (by rw [ee])⟩, (by show q_X E x T0 (n, kd, sz, sh, nu, pa, sl, ((-2)), tn, ts, tg) t.heap; rw [ht]; exact hX)⟩, hS.F ht⟩) hS.2.2 dX1_pass_26
set_option maxRecDepth 20000 in
theorem nX1_put_0 : ∀ w ∈ u_ws RX0 TX0 6, w ∈ wsX1_put := by decide +kernel
set_option maxRecDepth 20000 in
theorem nX1_put_1 : ∀ w ∈ u_ws RX1 TX1 6, w ∈ wsX1_put := by decide +kernel
set_option maxHeartbeats 4000000 in
set_option maxRecDepth 100000 in
theorem kX1_put (l : Launch) (E : q_E) (x T0 : Nat) (n : Nat) (kd sz : Nat → Nat) (sh : Nat → Bool) (nu : Nat → Nat → Int64) (pa : Nat → Nat → Option Nat) (sl : Nat → Option Nat) (ft tn ts tg : Int32) (hI : q_I (n, kd, sz, sh, nu, pa, sl, ft, tn, ts, tg)) (slot i : Int32) (v : Int64)  : Met l yX1_put wsX1_put ({ frames := 4, cells := 0, slots := 0, locals := 89 }) (q_P E (q_X E x T0 (n, kd, sz, sh, nu, pa, sl, ft, tn, ts, tg)) [.ref x, .int slot, .int i, .long v]) (q_Wi (q_X E x T0) (q_Ax x T0) ((f_put (n, kd, sz, sh, nu, pa, sl, ft, tn, ts, tg) slot i v).1) (f_put (n, kd, sz, sh, nu, pa, sl, ft, tn, ts, tg) slot i v).2) 0 0 (q_Ax x T0) := by
  refine Met.ofW (cc := cX1_put) (maxL := 6) (ret := (some .int)) (by decide) rfl ?_
  intro p e s m args below meth c s₁ B hml hv
  obtain ⟨rfl, hK, hX⟩ := hv
  have hx := B.exec
  have hb := B.bytes
  have hr := B.returns
  have hts := atoms_spec (ws := wsX1_put) B.pre
  have hown : s.vm.findClass RX1 = some m.cls := findClass_of_methodNamed B.named
  have hlocks := B.notSynchronized
  have hl := lv_entry ([.ref x, .int slot, .int i, .long v]) (n := 6) (Nat.le_of_ble_eq_true rfl)
  rw [lg_entry_eq]
  generalize (lg_sl ([.ref x, .int slot, .int i, .long v]) ++ List.replicate (6 - (lg_sl ([.ref x, .int slot, .int i, .long v])).length) Slot.unset).toArray = ls at hl ⊢
  have hl : lv_has ls 6 [(0, .ref x), (1, .int slot), (2, .int i), (3, .long v)] := hl
  have hS : va_S (q_Ax x T0) s.heap s.heap [] := va_S.rf
  refine lv_aload_n hx hb dX1_put_0 rfl (lv_at hl 0 rfl) ?_
  refine lv_iconst (v := nI 0) hx hb dX1_put_1 (by decide) ?_
  refine qw_put (ci := 1) (C := RX1) (T := TX1) (N := 6) hx hb hts nX1_put_1 tyX1 tyX1_ok nmX1 hown hK hX.1 hS (Or.inl rfl) rfl 2 (by decide) (hts (.fieldLink RX1 19 "DockGates" "latestFault" "I") (by decide +kernel)) rfl rfl rfl rfl (Nat.le_of_ble_eq_true rfl) dX1_put_2 (fun H locs hO hz hq hS => ?_)
  have hX : q_X E x T0 (n, kd, sz, sh, nu, pa, sl, (nI 0), tn, ts, tg) H := hX.obj hO hz hq
  refine lv_iload_n hx hb dX1_put_5 rfl (lv_at hl 1 rfl) ?_
  refine qc_ri (r1 := q_b ((q_ix slot 12).isSome)) (W.runS (As := [.int slot]) (rest := []) ⟨hx, hb, hml, hown, hts⟩ (kX1_isSlot l slot) (va_cwS 1 hts gX1_put_X1_isSlot rfl rfl rfl (by decide +kernel) ⟨Nat.le_of_ble_eq_true rfl, Nat.le_of_ble_eq_true rfl⟩) preEq rfl rfl hl.1 rfl (lv_room (Nat.le_of_ble_eq_true rfl)) dX1_put_6 ⟨Nat.le_of_ble_eq_true rfl, Nat.le_of_ble_eq_true rfl⟩) rfl ?_
  refine ln_b_ne (tgt := 15) hx hb dX1_put_9 (by decide) (fun c_1 => ?_) (fun c_1 => ?_)
  · obtain ⟨j_slot, hj_slot, rfl⟩ := q_is (by first | decide | omega) c_1
    have ej_slot := q_ix_in hj_slot (by first | decide | omega)
    refine lv_aload_n hx hb dX1_put_15 rfl (lv_at hl 0 rfl) ?_
    refine lv_iload_n hx hb dX1_put_16 rfl (lv_at hl 1 rfl) ?_
    cases s_2 : sl j_slot with
    | none =>
      refine qc_q (r1 := none) (σ1 := (n, kd, sz, sh, nu, pa, sl, nI 2, tn, ts, tg)) (va_runV (As := [.int (nI j_slot)]) (rest := []) ⟨hx, hb, hml, hown, hts⟩ (kX1_rowOfNumbers_N l E x T0 n kd sz sh nu pa sl ((nI 0)) tn ts tg hI j_slot hj_slot s_2) (cwV 1 hts gX1_put_X1_rowOfNumbers rfl rfl rfl (by decide +kernel) ⟨Nat.le_of_ble_eq_true rfl, Nat.le_of_ble_eq_true rfl⟩) (q_preV hK hX hX.1 rfl) rfl rfl hl.1 rfl (lv_room (Nat.le_of_ble_eq_true rfl)) dX1_put_17 ⟨Nat.le_of_ble_eq_true rfl, Nat.le_of_ble_eq_true rfl⟩) hS rfl rfl (fun H locs hX hS => ?_)
      try dsimp only [va_rf]
      refine lv_astoreN (lv' := [(5, .null), (0, .ref x), (1, .int (nI j_slot)), (2, .int i), (3, .long v)]) hx hb dX1_put_20 hl (by decide) rfl (fun ls hl => ?_)
      refine lv_aloadN hx hb dX1_put_22 (lv_at hl 0 rfl) ?_
      refine lv_ifnonnullN hx hb dX1_put_24 ?_
      refine lv_iconst (v := nI 0) hx hb dX1_put_27 (by decide) ?_
      have ee : f_put (n, kd, sz, sh, nu, pa, sl, ft, tn, ts, tg) (nI j_slot) i v = (nI 0, (n, kd, sz, sh, nu, pa, sl, nI 2, tn, ts, tg)) := by first | (simp only [f_put, ej_slot, s_2]; done) | (simp only [f_put, ej_slot, s_2]; rfl) | (simp [f_put, ej_slot, s_2]; done) | (simp [f_put, ej_slot, s_2]; rfl) | (simp only [f_put, ej_slot, s_2]; (repeat' split) <;> first | rfl | (exfalso; omega))
      exact W.iret (v := nI 0) hx hb hr (fun t ht hW => ⟨⟨nI 0, (n, kd, sz, sh, nu, pa, sl, nI 2, tn, ts, tg), rfl, ⟨(by rw [ee]), (by rw [ee])⟩, (by show q_X E x T0 (n, kd, sz, sh, nu, pa, sl, nI 2, tn, ts, tg) t.heap; rw [ht]; exact hX)⟩, hS.F ht⟩) hS.2.2 dX1_put_28
    | some k_2 =>
      have hk_2 : k_2 < n := hI.2.2 _ _ s_2
      obtain ⟨ak_2, bk_2, dk_2, wk_2⟩ := hI.2.1 k_2 hk_2
      have n60 := hI.1
      try dsimp only at ak_2 bk_2 dk_2 wk_2 n60
      by_cases r_3 : kd k_2 < 3
      · refine qc_q (r1 := some (T0 + 3 * k_2)) (σ1 := (n, kd, sz, sh, nu, pa, sl, (nI 0), tn, ts, tg)) (va_runV (As := [.int (nI j_slot)]) (rest := []) ⟨hx, hb, hml, hown, hts⟩ (kX1_rowOfNumbers_S l E x T0 n kd sz sh nu pa sl ((nI 0)) tn ts tg hI j_slot hj_slot k_2 hk_2 s_2 r_3) (cwV 1 hts gX1_put_X1_rowOfNumbers rfl rfl rfl (by decide +kernel) ⟨Nat.le_of_ble_eq_true rfl, Nat.le_of_ble_eq_true rfl⟩) (q_preV hK hX hX.1 rfl) rfl rfl hl.1 rfl (lv_room (Nat.le_of_ble_eq_true rfl)) dX1_put_17 ⟨Nat.le_of_ble_eq_true rfl, Nat.le_of_ble_eq_true rfl⟩) hS rfl rfl (fun H locs hX hS => ?_)
        try dsimp only [va_rf]
        refine lv_astore (lv' := [(5, .ref (T0 + 3 * k_2)), (0, .ref x), (1, .int (nI j_slot)), (2, .int i), (3, .long v)]) hx hb dX1_put_20 hl (by decide) rfl (fun ls hl => ?_)
        refine lv_aload hx hb dX1_put_22 (lv_at hl 0 rfl) ?_
        refine lv_ifnonnull (tgt := 29) hx hb dX1_put_24 (by decide) ?_
        refine lv_iload_n hx hb dX1_put_29 rfl (lv_at hl 3 rfl) ?_
        refine lv_if_lt (tgt := 43) hx hb dX1_put_30 (by decide) (fun c_4 => ?_) (fun c_4 => ?_)
        · have c_4 : ∀ q, q_ix i q = none := fun q => q_ix_neg c_4
          refine lv_aload_n hx hb dX1_put_43 rfl (lv_at hl 1 rfl) ?_
          refine lv_iconst (v := nI 3) hx hb dX1_put_44 (by decide) ?_
          refine qc_i (r1 := nI 0) (σ1 := (n, kd, sz, sh, nu, pa, sl, nI 3, tn, ts, tg)) (va_runV (As := [.int (nI 3)]) (rest := []) ⟨hx, hb, hml, hown, hts⟩ (kX1_failed l E x T0 n kd sz sh nu pa sl ((nI 0)) tn ts tg hI (nI 3)) (cwV 1 hts gX1_put_X1_failed rfl rfl rfl (by decide +kernel) ⟨Nat.le_of_ble_eq_true rfl, Nat.le_of_ble_eq_true rfl⟩) (q_preV hK hX hX.1 rfl) rfl rfl hl.1 rfl (lv_room (Nat.le_of_ble_eq_true rfl)) dX1_put_45 ⟨Nat.le_of_ble_eq_true rfl, Nat.le_of_ble_eq_true rfl⟩) hS rfl rfl (fun H locs hX hS => ?_)
          have ee : f_put (n, kd, sz, sh, nu, pa, sl, ft, tn, ts, tg) (nI j_slot) i v = (nI 0, (n, kd, sz, sh, nu, pa, sl, nI 3, tn, ts, tg)) := by first | (simp only [f_put, ej_slot, s_2, r_3, c_4]; done) | (simp only [f_put, ej_slot, s_2, r_3, c_4]; rfl) | (simp [f_put, ej_slot, s_2, r_3, c_4]; done) | (simp [f_put, ej_slot, s_2, r_3, c_4]; rfl) | (simp only [f_put, ej_slot, s_2, r_3, c_4]; (repeat' split) <;> first | rfl | (exfalso; omega))
          exact W.iret (v := nI 0) hx hb hr (fun t ht hW => ⟨⟨nI 0, (n, kd, sz, sh, nu, pa, sl, nI 3, tn, ts, tg), rfl, ⟨(by rw [ee]), (by rw [ee])⟩, (by show q_X E x T0 (n, kd, sz, sh, nu, pa, sl, nI 3, tn, ts, tg) t.heap; rw [ht]; exact hX)⟩, hS.F ht⟩) hS.2.2 dX1_put_48
        · refine lv_iload_n hx hb dX1_put_33 rfl (lv_at hl 3 rfl) ?_
          refine lv_aload hx hb dX1_put_34 (lv_at hl 0 rfl) ?_
          refine qw_get (v := .ref (T0 + 3 * k_2 + 1)) (ci := 0) (C := RX0) (T := TX0) (N := 6) hx hb hts nX1_put_0 hown hK (hX.2.2.1 k_2 hk_2).1 rfl 2 (by decide) (hts (.fieldLink RX1 75 "DockGates$Thing" "numbers" "[J") (by decide +kernel)) rfl rfl dX1_put_36 ?_
          refine qw_jlen (n := q_nl (kd k_2) (sz k_2)) hx hb hK (hX.2.2.1 k_2 hk_2).2.1 dX1_put_39 ?_
          rw [q_nl3 (show kd k_2 < 3 by omega)]
          refine lv_icmp_lt (tgt := 49) hx hb dX1_put_40 (by decide) (fun c_5 => ?_) (fun c_5 => ?_)
          · obtain ⟨j_i, hj_i, rfl⟩ := q_ix_of2 (by omega) c_4 c_5
            have ej_i := q_ix_in hj_i (by omega)
            refine lv_aload hx hb dX1_put_49 (lv_at hl 0 rfl) ?_
            refine qw_get (v := .ref (T0 + 3 * k_2 + 1)) (ci := 0) (C := RX0) (T := TX0) (N := 6) hx hb hts nX1_put_0 hown hK (hX.2.2.1 k_2 hk_2).1 rfl 2 (by decide) (hts (.fieldLink RX1 75 "DockGates$Thing" "numbers" "[J") (by decide +kernel)) rfl rfl dX1_put_51 ?_
            refine lv_iload_n hx hb dX1_put_54 rfl (lv_at hl 3 rfl) ?_
            refine lv_aload hx hb dX1_put_55 (lv_at hl 0 rfl) ?_
            refine qw_get (v := .int (nI (kd k_2))) (ci := 0) (C := RX0) (T := TX0) (N := 6) hx hb hts nX1_put_0 hown hK (hX.2.2.1 k_2 hk_2).1 rfl 1 (by decide) (hts (.fieldLink RX1 79 "DockGates$Thing" "kind" "I") (by decide +kernel)) rfl rfl dX1_put_57 ?_
            refine lv_lload_n hx hb dX1_put_60 rfl (lv_at hl 4 rfl) ?_
            refine qc_rl (r1 := q_nr (kd k_2) v) (W.runS (As := [.int (nI (kd k_2)), .long v]) (rest := [.int (nI j_i), .ref (T0 + 3 * k_2 + 1)]) ⟨hx, hb, hml, hown, hts⟩ (kX1_narrowed l (kd k_2) v (by omega)) (va_cwS 2 hts gX1_put_X1_narrowed rfl rfl rfl (by decide +kernel) ⟨Nat.le_of_ble_eq_true rfl, Nat.le_of_ble_eq_true rfl⟩) preEq rfl rfl hl.1 rfl (lv_room (Nat.le_of_ble_eq_true rfl)) dX1_put_61 ⟨Nat.le_of_ble_eq_true rfl, Nat.le_of_ble_eq_true rfl⟩) rfl ?_
            refine qw_last (n := q_nl (kd k_2) (sz k_2)) (f := nu k_2) (A := q_Ax x T0) hx hb hK (hX.2.2.1 k_2 hk_2).2.1 hS (Or.inr (Or.inr (by omega))) (by rw [q_nl3 (by omega)]; omega) (by rw [q_nl3 (by omega)]; omega) dX1_put_64 (fun H locs hO hz hq hS => ?_)
            have hX : q_X E x T0 (n, kd, sz, sh, (va_up nu k_2 (va_up (nu k_2) j_i (q_nr (kd k_2) v))), pa, sl, (nI 0), tn, ts, tg) H := hX.num hk_2 _ hO hz hq
            refine lv_iconst (v := nI 1) hx hb dX1_put_65 (by decide) ?_
            have ee : f_put (n, kd, sz, sh, nu, pa, sl, ft, tn, ts, tg) (nI j_slot) (nI j_i) v = (nI 1, (n, kd, sz, sh, (va_up nu k_2 (va_up (nu k_2) j_i (q_nr (kd k_2) v))), pa, sl, (nI 0), tn, ts, tg)) := by first | (simp only [f_put, ej_slot, s_2, r_3, ej_i]; done) | (simp only [f_put, ej_slot, s_2, r_3, ej_i]; rfl) | (simp [f_put, ej_slot, s_2, r_3, ej_i]; done) | (simp [f_put, ej_slot, s_2, r_3, ej_i]; rfl) | (simp only [f_put, ej_slot, s_2, r_3, ej_i]; (repeat' split) <;> first | rfl | (exfalso; omega))
            exact W.iret (v := nI 1) hx hb hr (fun t ht hW => ⟨⟨nI 1, (n, kd, sz, sh, (va_up nu k_2 (va_up (nu k_2) j_i (q_nr (kd k_2) v))), pa, sl, (nI 0), tn, ts, tg), rfl, ⟨(by rw [ee]), (by rw [ee])⟩, (by show q_X E x T0 (n, kd, sz, sh, (va_up nu k_2 (va_up (nu k_2) j_i (q_nr (kd k_2) v))), pa, sl, (nI 0), tn, ts, tg) t.heap; rw [ht]; exact hX)⟩, hS.F ht⟩) hS.2.2 dX1_put_66
          · have c_5 := q_ix_nlt (by omega) c_5
            refine lv_aload_n hx hb dX1_put_43 rfl (lv_at hl 1 rfl) ?_
            refine lv_iconst (v := nI 3) hx hb dX1_put_44 (by decide) ?_
            refine qc_i (r1 := nI 0) (σ1 := (n, kd, sz, sh, nu, pa, sl, nI 3, tn, ts, tg)) (va_runV (As := [.int (nI 3)]) (rest := []) ⟨hx, hb, hml, hown, hts⟩ (kX1_failed l E x T0 n kd sz sh nu pa sl ((nI 0)) tn ts tg hI (nI 3)) (cwV 1 hts gX1_put_X1_failed rfl rfl rfl (by decide +kernel) ⟨Nat.le_of_ble_eq_true rfl, Nat.le_of_ble_eq_true rfl⟩) (q_preV hK hX hX.1 rfl) rfl rfl hl.1 rfl (lv_room (Nat.le_of_ble_eq_true rfl)) dX1_put_45 ⟨Nat.le_of_ble_eq_true rfl, Nat.le_of_ble_eq_true rfl⟩) hS rfl rfl (fun H locs hX hS => ?_)
            have ee : f_put (n, kd, sz, sh, nu, pa, sl, ft, tn, ts, tg) (nI j_slot) i v = (nI 0, (n, kd, sz, sh, nu, pa, sl, nI 3, tn, ts, tg)) := by first | (simp only [f_put, ej_slot, s_2, r_3, c_5]; done) | (simp only [f_put, ej_slot, s_2, r_3, c_5]; rfl) | (simp [f_put, ej_slot, s_2, r_3, c_5]; done) | (simp [f_put, ej_slot, s_2, r_3, c_5]; rfl) | (simp only [f_put, ej_slot, s_2, r_3, c_5]; (repeat' split) <;> first | rfl | (exfalso; omega))
            exact W.iret (v := nI 0) hx hb hr (fun t ht hW => ⟨⟨nI 0, (n, kd, sz, sh, nu, pa, sl, nI 3, tn, ts, tg), rfl, ⟨(by rw [ee]), (by rw [ee])⟩, (by show q_X E x T0 (n, kd, sz, sh, nu, pa, sl, nI 3, tn, ts, tg) t.heap; rw [ht]; exact hX)⟩, hS.F ht⟩) hS.2.2 dX1_put_48
      · refine qc_q (r1 := none) (σ1 := (n, kd, sz, sh, nu, pa, sl, nI 1, (tn + 1), nI j_slot, nI 2)) (va_runV (As := [.int (nI j_slot)]) (rest := []) ⟨hx, hb, hml, hown, hts⟩ (kX1_rowOfNumbers_T l E x T0 n kd sz sh nu pa sl ((nI 0)) tn ts tg hI j_slot hj_slot k_2 hk_2 s_2 r_3) (cwV 1 hts gX1_put_X1_rowOfNumbers rfl rfl rfl (by decide +kernel) ⟨Nat.le_of_ble_eq_true rfl, Nat.le_of_ble_eq_true rfl⟩) (q_preV hK hX hX.1 rfl) rfl rfl hl.1 rfl (lv_room (Nat.le_of_ble_eq_true rfl)) dX1_put_17 ⟨Nat.le_of_ble_eq_true rfl, Nat.le_of_ble_eq_true rfl⟩) hS rfl rfl (fun H locs hX hS => ?_)
        try dsimp only [va_rf]
        refine lv_astoreN (lv' := [(5, .null), (0, .ref x), (1, .int (nI j_slot)), (2, .int i), (3, .long v)]) hx hb dX1_put_20 hl (by decide) rfl (fun ls hl => ?_)
        refine lv_aloadN hx hb dX1_put_22 (lv_at hl 0 rfl) ?_
        refine lv_ifnonnullN hx hb dX1_put_24 ?_
        refine lv_iconst (v := nI 0) hx hb dX1_put_27 (by decide) ?_
        have ee : f_put (n, kd, sz, sh, nu, pa, sl, ft, tn, ts, tg) (nI j_slot) i v = (nI 0, (n, kd, sz, sh, nu, pa, sl, nI 1, (tn + 1), nI j_slot, nI 2)) := by first | (simp only [f_put, ej_slot, s_2, r_3]; done) | (simp only [f_put, ej_slot, s_2, r_3]; rfl) | (simp [f_put, ej_slot, s_2, r_3]; done) | (simp [f_put, ej_slot, s_2, r_3]; rfl) | (simp only [f_put, ej_slot, s_2, r_3]; (repeat' split) <;> first | rfl | (exfalso; omega))
        exact W.iret (v := nI 0) hx hb hr (fun t ht hW => ⟨⟨nI 0, (n, kd, sz, sh, nu, pa, sl, nI 1, (tn + 1), nI j_slot, nI 2), rfl, ⟨(by rw [ee]), (by rw [ee])⟩, (by show q_X E x T0 (n, kd, sz, sh, nu, pa, sl, nI 1, (tn + 1), nI j_slot, nI 2) t.heap; rw [ht]; exact hX)⟩, hS.F ht⟩) hS.2.2 dX1_put_28
  · have c_1 := q_isn c_1
    refine lv_bipush (v := (-2)) hx hb dX1_put_12 (by decide) ?_
    have ee : f_put (n, kd, sz, sh, nu, pa, sl, ft, tn, ts, tg) slot i v = (((-2)), (n, kd, sz, sh, nu, pa, sl, (nI 0), tn, ts, tg)) := by first | (simp only [f_put, c_1]; done) | (simp only [f_put, c_1]; rfl) | (simp [f_put, c_1]; done) | (simp [f_put, c_1]; rfl) | (simp only [f_put, c_1]; (repeat' split) <;> first | rfl | (exfalso; omega))
    exact W.iret (v := ((-2))) hx hb hr (fun t ht hW => ⟨⟨((-2)), (n, kd, sz, sh, nu, pa, sl, (nI 0), tn, ts, tg), rfl, ⟨(by rw [ee]), (by rw [ee])⟩, (by show q_X E x T0 (n, kd, sz, sh, nu, pa, sl, (nI 0), tn, ts, tg) t.heap; rw [ht]; exact hX)⟩, hS.F ht⟩) hS.2.2 dX1_put_14
set_option maxRecDepth 20000 in
theorem nX1_get_0 : ∀ w ∈ u_ws RX0 TX0 6, w ∈ wsX1_get := by decide +kernel
set_option maxRecDepth 20000 in
theorem nX1_get_1 : ∀ w ∈ u_ws RX1 TX1 6, w ∈ wsX1_get := by decide +kernel
set_option maxHeartbeats 4000000 in
set_option maxRecDepth 100000 in
theorem kX1_get (l : Launch) (E : q_E) (x T0 : Nat) (n : Nat) (kd sz : Nat → Nat) (sh : Nat → Bool) (nu : Nat → Nat → Int64) (pa : Nat → Nat → Option Nat) (sl : Nat → Option Nat) (ft tn ts tg : Int32) (hI : q_I (n, kd, sz, sh, nu, pa, sl, ft, tn, ts, tg)) (slot i : Int32)  : Met l yX1_get wsX1_get ({ frames := 4, cells := 0, slots := 0, locals := 89 }) (q_P E (q_X E x T0 (n, kd, sz, sh, nu, pa, sl, ft, tn, ts, tg)) [.ref x, .int slot, .int i]) (q_Wl (q_X E x T0) (q_Ax x T0) ((f_get (n, kd, sz, sh, nu, pa, sl, ft, tn, ts, tg) slot i).1) (f_get (n, kd, sz, sh, nu, pa, sl, ft, tn, ts, tg) slot i).2) 0 0 (q_Ax x T0) := by
  refine Met.ofW (cc := cX1_get) (maxL := 4) (ret := (some .long)) (by decide) rfl ?_
  intro p e s m args below meth c s₁ B hml hv
  obtain ⟨rfl, hK, hX⟩ := hv
  have hx := B.exec
  have hb := B.bytes
  have hr := B.returns
  have hts := atoms_spec (ws := wsX1_get) B.pre
  have hown : s.vm.findClass RX1 = some m.cls := findClass_of_methodNamed B.named
  have hlocks := B.notSynchronized
  have hl := lv_entry ([.ref x, .int slot, .int i]) (n := 4) (Nat.le_of_ble_eq_true rfl)
  rw [lg_entry_eq]
  generalize (lg_sl ([.ref x, .int slot, .int i]) ++ List.replicate (4 - (lg_sl ([.ref x, .int slot, .int i])).length) Slot.unset).toArray = ls at hl ⊢
  have hl : lv_has ls 4 [(0, .ref x), (1, .int slot), (2, .int i)] := hl
  have hS : va_S (q_Ax x T0) s.heap s.heap [] := va_S.rf
  refine lv_aload_n hx hb dX1_get_0 rfl (lv_at hl 0 rfl) ?_
  refine lv_iconst (v := nI 0) hx hb dX1_get_1 (by decide) ?_
  refine qw_put (ci := 1) (C := RX1) (T := TX1) (N := 6) hx hb hts nX1_get_1 tyX1 tyX1_ok nmX1 hown hK hX.1 hS (Or.inl rfl) rfl 2 (by decide) (hts (.fieldLink RX1 19 "DockGates" "latestFault" "I") (by decide +kernel)) rfl rfl rfl rfl (Nat.le_of_ble_eq_true rfl) dX1_get_2 (fun H locs hO hz hq hS => ?_)
  have hX : q_X E x T0 (n, kd, sz, sh, nu, pa, sl, (nI 0), tn, ts, tg) H := hX.obj hO hz hq
  refine lv_iload_n hx hb dX1_get_5 rfl (lv_at hl 1 rfl) ?_
  refine qc_ri (r1 := q_b ((q_ix slot 12).isSome)) (W.runS (As := [.int slot]) (rest := []) ⟨hx, hb, hml, hown, hts⟩ (kX1_isSlot l slot) (va_cwS 1 hts gX1_get_X1_isSlot rfl rfl rfl (by decide +kernel) ⟨Nat.le_of_ble_eq_true rfl, Nat.le_of_ble_eq_true rfl⟩) preEq rfl rfl hl.1 rfl (lv_room (Nat.le_of_ble_eq_true rfl)) dX1_get_6 ⟨Nat.le_of_ble_eq_true rfl, Nat.le_of_ble_eq_true rfl⟩) rfl ?_
  refine ln_b_ne (tgt := 20) hx hb dX1_get_9 (by decide) (fun c_1 => ?_) (fun c_1 => ?_)
  · obtain ⟨j_slot, hj_slot, rfl⟩ := q_is (by first | decide | omega) c_1
    have ej_slot := q_ix_in hj_slot (by first | decide | omega)
    refine lv_aload_n hx hb dX1_get_20 rfl (lv_at hl 0 rfl) ?_
    refine lv_iload_n hx hb dX1_get_21 rfl (lv_at hl 1 rfl) ?_
    cases s_2 : sl j_slot with
    | none =>
      refine qc_q (r1 := none) (σ1 := (n, kd, sz, sh, nu, pa, sl, nI 2, tn, ts, tg)) (va_runV (As := [.int (nI j_slot)]) (rest := []) ⟨hx, hb, hml, hown, hts⟩ (kX1_rowOfNumbers_N l E x T0 n kd sz sh nu pa sl ((nI 0)) tn ts tg hI j_slot hj_slot s_2) (cwV 1 hts gX1_get_X1_rowOfNumbers rfl rfl rfl (by decide +kernel) ⟨Nat.le_of_ble_eq_true rfl, Nat.le_of_ble_eq_true rfl⟩) (q_preV hK hX hX.1 rfl) rfl rfl hl.1 rfl (lv_room (Nat.le_of_ble_eq_true rfl)) dX1_get_22 ⟨Nat.le_of_ble_eq_true rfl, Nat.le_of_ble_eq_true rfl⟩) hS rfl rfl (fun H locs hX hS => ?_)
      try dsimp only [va_rf]
      refine lv_astore_nN (lv' := [(3, .null), (0, .ref x), (1, .int (nI j_slot)), (2, .int i)]) hx hb dX1_get_25 rfl hl (by decide) rfl (fun ls hl => ?_)
      refine lv_aload_nN hx hb dX1_get_26 rfl (lv_at hl 0 rfl) ?_
      refine lv_ifnonnullN hx hb dX1_get_27 ?_
      refine lv_lconst (v := 0) hx hb dX1_get_30 (by decide) ?_
      have ee : f_get (n, kd, sz, sh, nu, pa, sl, ft, tn, ts, tg) (nI j_slot) i = (0, (n, kd, sz, sh, nu, pa, sl, nI 2, tn, ts, tg)) := by first | (simp only [f_get, ej_slot, s_2]; done) | (simp only [f_get, ej_slot, s_2]; rfl) | (simp [f_get, ej_slot, s_2]; done) | (simp [f_get, ej_slot, s_2]; rfl) | (simp only [f_get, ej_slot, s_2]; (repeat' split) <;> first | rfl | (exfalso; omega))
      exact W.lret (v := 0) hx hb hr (fun t ht hW => ⟨⟨0, (n, kd, sz, sh, nu, pa, sl, nI 2, tn, ts, tg), rfl, ⟨(by rw [ee]), (by rw [ee])⟩, (by show q_X E x T0 (n, kd, sz, sh, nu, pa, sl, nI 2, tn, ts, tg) t.heap; rw [ht]; exact hX)⟩, hS.F ht⟩) hS.2.2 dX1_get_31
    | some k_2 =>
      have hk_2 : k_2 < n := hI.2.2 _ _ s_2
      obtain ⟨ak_2, bk_2, dk_2, wk_2⟩ := hI.2.1 k_2 hk_2
      have n60 := hI.1
      try dsimp only at ak_2 bk_2 dk_2 wk_2 n60
      by_cases r_3 : kd k_2 < 3
      · refine qc_q (r1 := some (T0 + 3 * k_2)) (σ1 := (n, kd, sz, sh, nu, pa, sl, (nI 0), tn, ts, tg)) (va_runV (As := [.int (nI j_slot)]) (rest := []) ⟨hx, hb, hml, hown, hts⟩ (kX1_rowOfNumbers_S l E x T0 n kd sz sh nu pa sl ((nI 0)) tn ts tg hI j_slot hj_slot k_2 hk_2 s_2 r_3) (cwV 1 hts gX1_get_X1_rowOfNumbers rfl rfl rfl (by decide +kernel) ⟨Nat.le_of_ble_eq_true rfl, Nat.le_of_ble_eq_true rfl⟩) (q_preV hK hX hX.1 rfl) rfl rfl hl.1 rfl (lv_room (Nat.le_of_ble_eq_true rfl)) dX1_get_22 ⟨Nat.le_of_ble_eq_true rfl, Nat.le_of_ble_eq_true rfl⟩) hS rfl rfl (fun H locs hX hS => ?_)
        try dsimp only [va_rf]
        refine lv_astore_n (lv' := [(3, .ref (T0 + 3 * k_2)), (0, .ref x), (1, .int (nI j_slot)), (2, .int i)]) hx hb dX1_get_25 rfl hl (by decide) rfl (fun ls hl => ?_)
        refine lv_aload_n hx hb dX1_get_26 rfl (lv_at hl 0 rfl) ?_
        refine lv_ifnonnull (tgt := 32) hx hb dX1_get_27 (by decide) ?_
        refine lv_iload_n hx hb dX1_get_32 rfl (lv_at hl 3 rfl) ?_
        refine lv_if_lt (tgt := 45) hx hb dX1_get_33 (by decide) (fun c_4 => ?_) (fun c_4 => ?_)
        · have c_4 : ∀ q, q_ix i q = none := fun q => q_ix_neg c_4
          refine lv_aload_n hx hb dX1_get_45 rfl (lv_at hl 1 rfl) ?_
          refine lv_iconst (v := nI 3) hx hb dX1_get_46 (by decide) ?_
          refine qc_i (r1 := nI 0) (σ1 := (n, kd, sz, sh, nu, pa, sl, nI 3, tn, ts, tg)) (va_runV (As := [.int (nI 3)]) (rest := []) ⟨hx, hb, hml, hown, hts⟩ (kX1_failed l E x T0 n kd sz sh nu pa sl ((nI 0)) tn ts tg hI (nI 3)) (cwV 1 hts gX1_get_X1_failed rfl rfl rfl (by decide +kernel) ⟨Nat.le_of_ble_eq_true rfl, Nat.le_of_ble_eq_true rfl⟩) (q_preV hK hX hX.1 rfl) rfl rfl hl.1 rfl (lv_room (Nat.le_of_ble_eq_true rfl)) dX1_get_47 ⟨Nat.le_of_ble_eq_true rfl, Nat.le_of_ble_eq_true rfl⟩) hS rfl rfl (fun H locs hX hS => ?_)
          refine lv_i2l (v := lN 0) hx hb dX1_get_50 (nI_l (by first | omega | (simp; omega))) ?_
          have ee : f_get (n, kd, sz, sh, nu, pa, sl, ft, tn, ts, tg) (nI j_slot) i = (lN 0, (n, kd, sz, sh, nu, pa, sl, nI 3, tn, ts, tg)) := by first | (simp only [f_get, ej_slot, s_2, r_3, c_4]; done) | (simp only [f_get, ej_slot, s_2, r_3, c_4]; rfl) | (simp [f_get, ej_slot, s_2, r_3, c_4]; done) | (simp [f_get, ej_slot, s_2, r_3, c_4]; rfl) | (simp only [f_get, ej_slot, s_2, r_3, c_4]; (repeat' split) <;> first | rfl | (exfalso; omega))
          exact W.lret (v := lN 0) hx hb hr (fun t ht hW => ⟨⟨lN 0, (n, kd, sz, sh, nu, pa, sl, nI 3, tn, ts, tg), rfl, ⟨(by rw [ee]), (by rw [ee])⟩, (by show q_X E x T0 (n, kd, sz, sh, nu, pa, sl, nI 3, tn, ts, tg) t.heap; rw [ht]; exact hX)⟩, hS.F ht⟩) hS.2.2 dX1_get_51
        · refine lv_iload_n hx hb dX1_get_36 rfl (lv_at hl 3 rfl) ?_
          refine lv_aload_n hx hb dX1_get_37 rfl (lv_at hl 0 rfl) ?_
          refine qw_get (v := .ref (T0 + 3 * k_2 + 1)) (ci := 0) (C := RX0) (T := TX0) (N := 6) hx hb hts nX1_get_0 hown hK (hX.2.2.1 k_2 hk_2).1 rfl 2 (by decide) (hts (.fieldLink RX1 75 "DockGates$Thing" "numbers" "[J") (by decide +kernel)) rfl rfl dX1_get_38 ?_
          refine qw_jlen (n := q_nl (kd k_2) (sz k_2)) hx hb hK (hX.2.2.1 k_2 hk_2).2.1 dX1_get_41 ?_
          rw [q_nl3 (show kd k_2 < 3 by omega)]
          refine lv_icmp_lt (tgt := 52) hx hb dX1_get_42 (by decide) (fun c_5 => ?_) (fun c_5 => ?_)
          · obtain ⟨j_i, hj_i, rfl⟩ := q_ix_of2 (by omega) c_4 c_5
            have ej_i := q_ix_in hj_i (by omega)
            refine lv_aload_n hx hb dX1_get_52 rfl (lv_at hl 0 rfl) ?_
            refine qw_get (v := .ref (T0 + 3 * k_2 + 1)) (ci := 0) (C := RX0) (T := TX0) (N := 6) hx hb hts nX1_get_0 hown hK (hX.2.2.1 k_2 hk_2).1 rfl 2 (by decide) (hts (.fieldLink RX1 75 "DockGates$Thing" "numbers" "[J") (by decide +kernel)) rfl rfl dX1_get_53 ?_
            refine lv_iload_n hx hb dX1_get_56 rfl (lv_at hl 3 rfl) ?_
            refine qw_lald (n := q_nl (kd k_2) (sz k_2)) (f := nu k_2) hx hb hK (hX.2.2.1 k_2 hk_2).2.1 (by rw [q_nl3 (by omega)]; omega) (by rw [q_nl3 (by omega)]; omega) dX1_get_57 ?_
            have ee : f_get (n, kd, sz, sh, nu, pa, sl, ft, tn, ts, tg) (nI j_slot) (nI j_i) = (nu k_2 j_i, (n, kd, sz, sh, nu, pa, sl, (nI 0), tn, ts, tg)) := by first | (simp only [f_get, ej_slot, s_2, r_3, ej_i]; done) | (simp only [f_get, ej_slot, s_2, r_3, ej_i]; rfl) | (simp [f_get, ej_slot, s_2, r_3, ej_i]; done) | (simp [f_get, ej_slot, s_2, r_3, ej_i]; rfl) | (simp only [f_get, ej_slot, s_2, r_3, ej_i]; (repeat' split) <;> first | rfl | (exfalso; omega))
            exact W.lret (v := nu k_2 j_i) hx hb hr (fun t ht hW => ⟨⟨nu k_2 j_i, (n, kd, sz, sh, nu, pa, sl, (nI 0), tn, ts, tg), rfl, ⟨(by rw [ee]), (by rw [ee])⟩, (by show q_X E x T0 (n, kd, sz, sh, nu, pa, sl, (nI 0), tn, ts, tg) t.heap; rw [ht]; exact hX)⟩, hS.F ht⟩) hS.2.2 dX1_get_58
          · have c_5 := q_ix_nlt (by omega) c_5
            refine lv_aload_n hx hb dX1_get_45 rfl (lv_at hl 1 rfl) ?_
            refine lv_iconst (v := nI 3) hx hb dX1_get_46 (by decide) ?_
            refine qc_i (r1 := nI 0) (σ1 := (n, kd, sz, sh, nu, pa, sl, nI 3, tn, ts, tg)) (va_runV (As := [.int (nI 3)]) (rest := []) ⟨hx, hb, hml, hown, hts⟩ (kX1_failed l E x T0 n kd sz sh nu pa sl ((nI 0)) tn ts tg hI (nI 3)) (cwV 1 hts gX1_get_X1_failed rfl rfl rfl (by decide +kernel) ⟨Nat.le_of_ble_eq_true rfl, Nat.le_of_ble_eq_true rfl⟩) (q_preV hK hX hX.1 rfl) rfl rfl hl.1 rfl (lv_room (Nat.le_of_ble_eq_true rfl)) dX1_get_47 ⟨Nat.le_of_ble_eq_true rfl, Nat.le_of_ble_eq_true rfl⟩) hS rfl rfl (fun H locs hX hS => ?_)
            refine lv_i2l (v := lN 0) hx hb dX1_get_50 (nI_l (by first | omega | (simp; omega))) ?_
            have ee : f_get (n, kd, sz, sh, nu, pa, sl, ft, tn, ts, tg) (nI j_slot) i = (lN 0, (n, kd, sz, sh, nu, pa, sl, nI 3, tn, ts, tg)) := by first | (simp only [f_get, ej_slot, s_2, r_3, c_5]; done) | (simp only [f_get, ej_slot, s_2, r_3, c_5]; rfl) | (simp [f_get, ej_slot, s_2, r_3, c_5]; done) | (simp [f_get, ej_slot, s_2, r_3, c_5]; rfl) | (simp only [f_get, ej_slot, s_2, r_3, c_5]; (repeat' split) <;> first | rfl | (exfalso; omega))
            exact W.lret (v := lN 0) hx hb hr (fun t ht hW => ⟨⟨lN 0, (n, kd, sz, sh, nu, pa, sl, nI 3, tn, ts, tg), rfl, ⟨(by rw [ee]), (by rw [ee])⟩, (by show q_X E x T0 (n, kd, sz, sh, nu, pa, sl, nI 3, tn, ts, tg) t.heap; rw [ht]; exact hX)⟩, hS.F ht⟩) hS.2.2 dX1_get_51
      · refine qc_q (r1 := none) (σ1 := (n, kd, sz, sh, nu, pa, sl, nI 1, (tn + 1), nI j_slot, nI 2)) (va_runV (As := [.int (nI j_slot)]) (rest := []) ⟨hx, hb, hml, hown, hts⟩ (kX1_rowOfNumbers_T l E x T0 n kd sz sh nu pa sl ((nI 0)) tn ts tg hI j_slot hj_slot k_2 hk_2 s_2 r_3) (cwV 1 hts gX1_get_X1_rowOfNumbers rfl rfl rfl (by decide +kernel) ⟨Nat.le_of_ble_eq_true rfl, Nat.le_of_ble_eq_true rfl⟩) (q_preV hK hX hX.1 rfl) rfl rfl hl.1 rfl (lv_room (Nat.le_of_ble_eq_true rfl)) dX1_get_22 ⟨Nat.le_of_ble_eq_true rfl, Nat.le_of_ble_eq_true rfl⟩) hS rfl rfl (fun H locs hX hS => ?_)
        try dsimp only [va_rf]
        refine lv_astore_nN (lv' := [(3, .null), (0, .ref x), (1, .int (nI j_slot)), (2, .int i)]) hx hb dX1_get_25 rfl hl (by decide) rfl (fun ls hl => ?_)
        refine lv_aload_nN hx hb dX1_get_26 rfl (lv_at hl 0 rfl) ?_
        refine lv_ifnonnullN hx hb dX1_get_27 ?_
        refine lv_lconst (v := 0) hx hb dX1_get_30 (by decide) ?_
        have ee : f_get (n, kd, sz, sh, nu, pa, sl, ft, tn, ts, tg) (nI j_slot) i = (0, (n, kd, sz, sh, nu, pa, sl, nI 1, (tn + 1), nI j_slot, nI 2)) := by first | (simp only [f_get, ej_slot, s_2, r_3]; done) | (simp only [f_get, ej_slot, s_2, r_3]; rfl) | (simp [f_get, ej_slot, s_2, r_3]; done) | (simp [f_get, ej_slot, s_2, r_3]; rfl) | (simp only [f_get, ej_slot, s_2, r_3]; (repeat' split) <;> first | rfl | (exfalso; omega))
        exact W.lret (v := 0) hx hb hr (fun t ht hW => ⟨⟨0, (n, kd, sz, sh, nu, pa, sl, nI 1, (tn + 1), nI j_slot, nI 2), rfl, ⟨(by rw [ee]), (by rw [ee])⟩, (by show q_X E x T0 (n, kd, sz, sh, nu, pa, sl, nI 1, (tn + 1), nI j_slot, nI 2) t.heap; rw [ht]; exact hX)⟩, hS.F ht⟩) hS.2.2 dX1_get_31
  · have c_1 := q_isn c_1
    refine lv_aload_n hx hb dX1_get_12 rfl (lv_at hl 0 rfl) ?_
    refine lv_bipush (v := (-2)) hx hb dX1_get_13 (by decide) ?_
    refine qc_i (r1 := nI 0) (σ1 := (n, kd, sz, sh, nu, pa, sl, ((-2)), tn, ts, tg)) (va_runV (As := [.int ((-2))]) (rest := []) ⟨hx, hb, hml, hown, hts⟩ (kX1_failed l E x T0 n kd sz sh nu pa sl ((nI 0)) tn ts tg hI (((-2)))) (cwV 1 hts gX1_get_X1_failed rfl rfl rfl (by decide +kernel) ⟨Nat.le_of_ble_eq_true rfl, Nat.le_of_ble_eq_true rfl⟩) (q_preV hK hX hX.1 rfl) rfl rfl hl.1 rfl (lv_room (Nat.le_of_ble_eq_true rfl)) dX1_get_15 ⟨Nat.le_of_ble_eq_true rfl, Nat.le_of_ble_eq_true rfl⟩) hS rfl rfl (fun H locs hX hS => ?_)
    refine lv_i2l (v := lN 0) hx hb dX1_get_18 (nI_l (by first | omega | (simp; omega))) ?_
    have ee : f_get (n, kd, sz, sh, nu, pa, sl, ft, tn, ts, tg) slot i = (lN 0, (n, kd, sz, sh, nu, pa, sl, ((-2)), tn, ts, tg)) := by first | (simp only [f_get, c_1]; done) | (simp only [f_get, c_1]; rfl) | (simp [f_get, c_1]; done) | (simp [f_get, c_1]; rfl) | (simp only [f_get, c_1]; (repeat' split) <;> first | rfl | (exfalso; omega))
    exact W.lret (v := lN 0) hx hb hr (fun t ht hW => ⟨⟨lN 0, (n, kd, sz, sh, nu, pa, sl, ((-2)), tn, ts, tg), rfl, ⟨(by rw [ee]), (by rw [ee])⟩, (by show q_X E x T0 (n, kd, sz, sh, nu, pa, sl, ((-2)), tn, ts, tg) t.heap; rw [ht]; exact hX)⟩, hS.F ht⟩) hS.2.2 dX1_get_19
set_option maxRecDepth 20000 in
theorem nX1_lay_0 : ∀ w ∈ u_ws RX0 TX0 6, w ∈ wsX1_lay := by decide +kernel
set_option maxRecDepth 20000 in
theorem nX1_lay_1 : ∀ w ∈ u_ws RX1 TX1 6, w ∈ wsX1_lay := by decide +kernel
set_option maxHeartbeats 4000000 in
set_option maxRecDepth 100000 in
theorem kX1_lay (l : Launch) (E : q_E) (x T0 : Nat) (n : Nat) (kd sz : Nat → Nat) (sh : Nat → Bool) (nu : Nat → Nat → Int64) (pa : Nat → Nat → Option Nat) (sl : Nat → Option Nat) (ft tn ts tg : Int32) (hI : q_I (n, kd, sz, sh, nu, pa, sl, ft, tn, ts, tg)) (to i fr : Int32)  : Met l yX1_lay wsX1_lay ({ frames := 4, cells := 0, slots := 0, locals := 89 }) (q_P E (q_X E x T0 (n, kd, sz, sh, nu, pa, sl, ft, tn, ts, tg)) [.ref x, .int to, .int i, .int fr]) (q_Wi (q_X E x T0) (q_Ax x T0) ((f_lay (n, kd, sz, sh, nu, pa, sl, ft, tn, ts, tg) to i fr).1) (f_lay (n, kd, sz, sh, nu, pa, sl, ft, tn, ts, tg) to i fr).2) 0 0 (q_Ax x T0) := by
  refine Met.ofW (cc := cX1_lay) (maxL := 7) (ret := (some .int)) (by decide) rfl ?_
  intro p e s m args below meth c s₁ B hml hv
  obtain ⟨rfl, hK, hX⟩ := hv
  have hx := B.exec
  have hb := B.bytes
  have hr := B.returns
  have hts := atoms_spec (ws := wsX1_lay) B.pre
  have hown : s.vm.findClass RX1 = some m.cls := findClass_of_methodNamed B.named
  have hlocks := B.notSynchronized
  have hl := lv_entry ([.ref x, .int to, .int i, .int fr]) (n := 7) (Nat.le_of_ble_eq_true rfl)
  rw [lg_entry_eq]
  generalize (lg_sl ([.ref x, .int to, .int i, .int fr]) ++ List.replicate (7 - (lg_sl ([.ref x, .int to, .int i, .int fr])).length) Slot.unset).toArray = ls at hl ⊢
  have hl : lv_has ls 7 [(0, .ref x), (1, .int to), (2, .int i), (3, .int fr)] := hl
  have hS : va_S (q_Ax x T0) s.heap s.heap [] := va_S.rf
  refine lv_aload_n hx hb dX1_lay_0 rfl (lv_at hl 0 rfl) ?_
  refine lv_iconst (v := nI 0) hx hb dX1_lay_1 (by decide) ?_
  refine qw_put (ci := 1) (C := RX1) (T := TX1) (N := 6) hx hb hts nX1_lay_1 tyX1 tyX1_ok nmX1 hown hK hX.1 hS (Or.inl rfl) rfl 2 (by decide) (hts (.fieldLink RX1 19 "DockGates" "latestFault" "I") (by decide +kernel)) rfl rfl rfl rfl (Nat.le_of_ble_eq_true rfl) dX1_lay_2 (fun H locs hO hz hq hS => ?_)
  have hX : q_X E x T0 (n, kd, sz, sh, nu, pa, sl, (nI 0), tn, ts, tg) H := hX.obj hO hz hq
  refine lv_iload_n hx hb dX1_lay_5 rfl (lv_at hl 1 rfl) ?_
  refine qc_ri (r1 := q_b ((q_ix to 12).isSome)) (W.runS (As := [.int to]) (rest := []) ⟨hx, hb, hml, hown, hts⟩ (kX1_isSlot l to) (va_cwS 1 hts gX1_lay_X1_isSlot rfl rfl rfl (by decide +kernel) ⟨Nat.le_of_ble_eq_true rfl, Nat.le_of_ble_eq_true rfl⟩) preEq rfl rfl hl.1 rfl (lv_room (Nat.le_of_ble_eq_true rfl)) dX1_lay_6 ⟨Nat.le_of_ble_eq_true rfl, Nat.le_of_ble_eq_true rfl⟩) rfl ?_
  refine ln_b_eq (tgt := 19) hx hb dX1_lay_9 (by decide) (fun c_1 => ?_) (fun c_1 => ?_)
  · have c_1 := q_isn c_1
    refine lv_bipush (v := (-2)) hx hb dX1_lay_19 (by decide) ?_
    have ee : f_lay (n, kd, sz, sh, nu, pa, sl, ft, tn, ts, tg) to i fr = (((-2)), (n, kd, sz, sh, nu, pa, sl, (nI 0), tn, ts, tg)) := by first | (simp only [f_lay, c_1]; done) | (simp only [f_lay, c_1]; rfl) | (simp [f_lay, c_1]; done) | (simp [f_lay, c_1]; rfl) | (simp only [f_lay, c_1]; (repeat' split) <;> first | rfl | (exfalso; omega))
    exact W.iret (v := ((-2))) hx hb hr (fun t ht hW => ⟨⟨((-2)), (n, kd, sz, sh, nu, pa, sl, (nI 0), tn, ts, tg), rfl, ⟨(by rw [ee]), (by rw [ee])⟩, (by show q_X E x T0 (n, kd, sz, sh, nu, pa, sl, (nI 0), tn, ts, tg) t.heap; rw [ht]; exact hX)⟩, hS.F ht⟩) hS.2.2 dX1_lay_21
  · obtain ⟨j_to, hj_to, rfl⟩ := q_is (by first | decide | omega) c_1
    have ej_to := q_ix_in hj_to (by first | decide | omega)
    refine lv_iload_n hx hb dX1_lay_12 rfl (lv_at hl 3 rfl) ?_
    refine qc_ri (r1 := q_b ((q_ix fr 12).isSome)) (W.runS (As := [.int fr]) (rest := []) ⟨hx, hb, hml, hown, hts⟩ (kX1_isSlot l fr) (va_cwS 1 hts gX1_lay_X1_isSlot rfl rfl rfl (by decide +kernel) ⟨Nat.le_of_ble_eq_true rfl, Nat.le_of_ble_eq_true rfl⟩) preEq rfl rfl hl.1 rfl (lv_room (Nat.le_of_ble_eq_true rfl)) dX1_lay_13 ⟨Nat.le_of_ble_eq_true rfl, Nat.le_of_ble_eq_true rfl⟩) rfl ?_
    refine ln_b_ne (tgt := 22) hx hb dX1_lay_16 (by decide) (fun c_2 => ?_) (fun c_2 => ?_)
    · obtain ⟨j_fr, hj_fr, rfl⟩ := q_is (by first | decide | omega) c_2
      have ej_fr := q_ix_in hj_fr (by first | decide | omega)
      refine lv_aload_n hx hb dX1_lay_22 rfl (lv_at hl 0 rfl) ?_
      refine lv_iload_n hx hb dX1_lay_23 rfl (lv_at hl 1 rfl) ?_
      cases s_3 : sl j_to with
      | none =>
        refine qc_q (r1 := none) (σ1 := (n, kd, sz, sh, nu, pa, sl, nI 2, tn, ts, tg)) (va_runV (As := [.int (nI j_to)]) (rest := []) ⟨hx, hb, hml, hown, hts⟩ (kX1_rowOfThings_N l E x T0 n kd sz sh nu pa sl ((nI 0)) tn ts tg hI j_to hj_to s_3) (cwV 1 hts gX1_lay_X1_rowOfThings rfl rfl rfl (by decide +kernel) ⟨Nat.le_of_ble_eq_true rfl, Nat.le_of_ble_eq_true rfl⟩) (q_preV hK hX hX.1 rfl) rfl rfl hl.1 rfl (lv_room (Nat.le_of_ble_eq_true rfl)) dX1_lay_24 ⟨Nat.le_of_ble_eq_true rfl, Nat.le_of_ble_eq_true rfl⟩) hS rfl rfl (fun H locs hX hS => ?_)
        try dsimp only [va_rf]
        refine lv_astoreN (lv' := [(4, .null), (0, .ref x), (1, .int (nI j_to)), (2, .int i), (3, .int (nI j_fr))]) hx hb dX1_lay_27 hl (by decide) rfl (fun ls hl => ?_)
        refine lv_aloadN hx hb dX1_lay_29 (lv_at hl 0 rfl) ?_
        refine lv_ifnonnullN hx hb dX1_lay_31 ?_
        refine lv_iconst (v := nI 0) hx hb dX1_lay_34 (by decide) ?_
        have ee : f_lay (n, kd, sz, sh, nu, pa, sl, ft, tn, ts, tg) (nI j_to) i (nI j_fr) = (nI 0, (n, kd, sz, sh, nu, pa, sl, nI 2, tn, ts, tg)) := by first | (simp only [f_lay, ej_to, ej_fr, s_3]; done) | (simp only [f_lay, ej_to, ej_fr, s_3]; rfl) | (simp [f_lay, ej_to, ej_fr, s_3]; done) | (simp [f_lay, ej_to, ej_fr, s_3]; rfl) | (simp only [f_lay, ej_to, ej_fr, s_3]; (repeat' split) <;> first | rfl | (exfalso; omega))
        exact W.iret (v := nI 0) hx hb hr (fun t ht hW => ⟨⟨nI 0, (n, kd, sz, sh, nu, pa, sl, nI 2, tn, ts, tg), rfl, ⟨(by rw [ee]), (by rw [ee])⟩, (by show q_X E x T0 (n, kd, sz, sh, nu, pa, sl, nI 2, tn, ts, tg) t.heap; rw [ht]; exact hX)⟩, hS.F ht⟩) hS.2.2 dX1_lay_35
      | some k_3 =>
        have hk_3 : k_3 < n := hI.2.2 _ _ s_3
        obtain ⟨ak_3, bk_3, dk_3, wk_3⟩ := hI.2.1 k_3 hk_3
        have n60 := hI.1
        try dsimp only at ak_3 bk_3 dk_3 wk_3 n60
        by_cases r_4 : 3 ≤ kd k_3 ∧ kd k_3 < 9
        · refine qc_q (r1 := some (T0 + 3 * k_3)) (σ1 := (n, kd, sz, sh, nu, pa, sl, (nI 0), tn, ts, tg)) (va_runV (As := [.int (nI j_to)]) (rest := []) ⟨hx, hb, hml, hown, hts⟩ (kX1_rowOfThings_S l E x T0 n kd sz sh nu pa sl ((nI 0)) tn ts tg hI j_to hj_to k_3 hk_3 s_3 r_4) (cwV 1 hts gX1_lay_X1_rowOfThings rfl rfl rfl (by decide +kernel) ⟨Nat.le_of_ble_eq_true rfl, Nat.le_of_ble_eq_true rfl⟩) (q_preV hK hX hX.1 rfl) rfl rfl hl.1 rfl (lv_room (Nat.le_of_ble_eq_true rfl)) dX1_lay_24 ⟨Nat.le_of_ble_eq_true rfl, Nat.le_of_ble_eq_true rfl⟩) hS rfl rfl (fun H locs hX hS => ?_)
          try dsimp only [va_rf]
          refine lv_astore (lv' := [(4, .ref (T0 + 3 * k_3)), (0, .ref x), (1, .int (nI j_to)), (2, .int i), (3, .int (nI j_fr))]) hx hb dX1_lay_27 hl (by decide) rfl (fun ls hl => ?_)
          refine lv_aload hx hb dX1_lay_29 (lv_at hl 0 rfl) ?_
          refine lv_ifnonnull (tgt := 36) hx hb dX1_lay_31 (by decide) ?_
          refine lv_aload_n hx hb dX1_lay_36 rfl (lv_at hl 1 rfl) ?_
          refine qw_get (v := .ref (x + 1)) (ci := 1) (C := RX1) (T := TX1) (N := 6) hx hb hts nX1_lay_1 hown hK hX.1 rfl 0 (by decide) (hts (.fieldLink RX1 11 "DockGates" "slots" "[LDockGates$Thing;") (by decide +kernel)) rfl rfl dX1_lay_37 ?_
          refine lv_iload_n hx hb dX1_lay_40 rfl (lv_at hl 4 rfl) ?_
          refine qx_slot hx hb hK hX hI hj_fr dX1_lay_41 (fun s_5 => ?_) (fun k_5 hk_5 s_5 => ?_)
          · try dsimp only at s_5
            refine lv_astoreN (lv' := [(5, .null), (4, .ref (T0 + 3 * k_3)), (0, .ref x), (1, .int (nI j_to)), (2, .int i), (3, .int (nI j_fr))]) hx hb dX1_lay_42 hl (by decide) rfl (fun ls hl => ?_)
            refine lv_aload hx hb dX1_lay_44 (lv_at hl 1 rfl) ?_
            refine qw_get (v := .int (nI (kd k_3))) (ci := 0) (C := RX0) (T := TX0) (N := 6) hx hb hts nX1_lay_0 hown hK (hX.2.2.1 k_3 hk_3).1 rfl 1 (by decide) (hts (.fieldLink RX1 79 "DockGates$Thing" "kind" "I") (by decide +kernel)) rfl rfl dX1_lay_46 ?_
            refine qc_ri (r1 := nI (q_gl (kd k_3))) (W.runS (As := [.int (nI (kd k_3))]) (rest := []) ⟨hx, hb, hml, hown, hts⟩ (kX1_gateOfLaying l (kd k_3) (by omega)) (va_cwS 1 hts gX1_lay_X1_gateOfLaying rfl rfl rfl (by decide +kernel) ⟨Nat.le_of_ble_eq_true rfl, Nat.le_of_ble_eq_true rfl⟩) preEq rfl rfl hl.1 rfl (lv_room (Nat.le_of_ble_eq_true rfl)) dX1_lay_49 ⟨Nat.le_of_ble_eq_true rfl, Nat.le_of_ble_eq_true rfl⟩) rfl ?_
            have hgl := q_gl_lt (kd k_3)
            refine lv_istore (lv' := [(6, .int (nI (q_gl (kd k_3)))), (5, .null), (4, .ref (T0 + 3 * k_3)), (0, .ref x), (1, .int (nI j_to)), (2, .int i), (3, .int (nI j_fr))]) hx hb dX1_lay_52 hl (by decide) rfl (fun ls hl => ?_)
            refine lv_aloadN hx hb dX1_lay_54 (lv_at hl 1 rfl) ?_
            refine lv_ifnullN (tgt := 77) hx hb dX1_lay_56 (by decide) ?_
            refine lv_iload_n hx hb dX1_lay_77 rfl (lv_at hl 5 rfl) ?_
            refine lv_if_lt (tgt := 91) hx hb dX1_lay_78 (by decide) (fun c_6 => ?_) (fun c_6 => ?_)
            · have c_6 : ∀ q, q_ix i q = none := fun q => q_ix_neg c_6
              refine lv_aload_n hx hb dX1_lay_91 rfl (lv_at hl 3 rfl) ?_
              refine lv_iconst (v := nI 3) hx hb dX1_lay_92 (by decide) ?_
              refine qc_i (r1 := nI 0) (σ1 := (n, kd, sz, sh, nu, pa, sl, nI 3, tn, ts, tg)) (va_runV (As := [.int (nI 3)]) (rest := []) ⟨hx, hb, hml, hown, hts⟩ (kX1_failed l E x T0 n kd sz sh nu pa sl ((nI 0)) tn ts tg hI (nI 3)) (cwV 1 hts gX1_lay_X1_failed rfl rfl rfl (by decide +kernel) ⟨Nat.le_of_ble_eq_true rfl, Nat.le_of_ble_eq_true rfl⟩) (q_preV hK hX hX.1 rfl) rfl rfl hl.1 rfl (lv_room (Nat.le_of_ble_eq_true rfl)) dX1_lay_93 ⟨Nat.le_of_ble_eq_true rfl, Nat.le_of_ble_eq_true rfl⟩) hS rfl rfl (fun H locs hX hS => ?_)
              have ee : f_lay (n, kd, sz, sh, nu, pa, sl, ft, tn, ts, tg) (nI j_to) i (nI j_fr) = (nI 0, (n, kd, sz, sh, nu, pa, sl, nI 3, tn, ts, tg)) := by first | (simp only [f_lay, ej_to, ej_fr, s_3, r_4, s_5, c_6]; done) | (simp only [f_lay, ej_to, ej_fr, s_3, r_4, s_5, c_6]; rfl) | (simp [f_lay, ej_to, ej_fr, s_3, r_4, s_5, c_6]; done) | (simp [f_lay, ej_to, ej_fr, s_3, r_4, s_5, c_6]; rfl) | (simp only [f_lay, ej_to, ej_fr, s_3, r_4, s_5, c_6]; (repeat' split) <;> first | rfl | (exfalso; omega))
              exact W.iret (v := nI 0) hx hb hr (fun t ht hW => ⟨⟨nI 0, (n, kd, sz, sh, nu, pa, sl, nI 3, tn, ts, tg), rfl, ⟨(by rw [ee]), (by rw [ee])⟩, (by show q_X E x T0 (n, kd, sz, sh, nu, pa, sl, nI 3, tn, ts, tg) t.heap; rw [ht]; exact hX)⟩, hS.F ht⟩) hS.2.2 dX1_lay_96
            · refine lv_iload_n hx hb dX1_lay_81 rfl (lv_at hl 5 rfl) ?_
              refine lv_aload hx hb dX1_lay_82 (lv_at hl 2 rfl) ?_
              refine qw_get (v := .ref (T0 + 3 * k_3 + 2)) (ci := 0) (C := RX0) (T := TX0) (N := 6) hx hb hts nX1_lay_0 hown hK (hX.2.2.1 k_3 hk_3).1 rfl 3 (by decide) (hts (.fieldLink RX1 96 "DockGates$Thing" "parts" "[LDockGates$Thing;") (by decide +kernel)) rfl rfl dX1_lay_84 ?_
              refine qw_tlen (n := q_pl (kd k_3) (sz k_3)) hx hb hK (hX.2.2.1 k_3 hk_3).2.2 dX1_lay_87 ?_
              rw [q_pl39 (show 3 ≤ kd k_3 by omega) (show kd k_3 < 9 by omega)]
              refine lv_icmp_lt (tgt := 97) hx hb dX1_lay_88 (by decide) (fun c_7 => ?_) (fun c_7 => ?_)
              · obtain ⟨j_i, hj_i, rfl⟩ := q_ix_of2 (by omega) c_6 c_7
                have ej_i := q_ix_in hj_i (by omega)
                refine lv_aloadN hx hb dX1_lay_97 (lv_at hl 1 rfl) ?_
                refine lv_ifnullN (tgt := 124) hx hb dX1_lay_99 (by decide) ?_
                refine lv_aload hx hb dX1_lay_124 (lv_at hl 2 rfl) ?_
                refine qw_get (v := .ref (T0 + 3 * k_3 + 2)) (ci := 0) (C := RX0) (T := TX0) (N := 6) hx hb hts nX1_lay_0 hown hK (hX.2.2.1 k_3 hk_3).1 rfl 3 (by decide) (hts (.fieldLink RX1 96 "DockGates$Thing" "parts" "[LDockGates$Thing;") (by decide +kernel)) rfl rfl dX1_lay_126 ?_
                refine lv_iload_n hx hb dX1_lay_129 rfl (lv_at hl 5 rfl) ?_
                refine lv_aloadN hx hb dX1_lay_130 (lv_at hl 1 rfl) ?_
                refine qw_aastN (n := q_pl (kd k_3) (sz k_3)) (f := fun i => q_rf T0 (pa k_3 i)) (A := q_Ax x T0) hx hb hK (hX.2.2.1 k_3 hk_3).2.2 hS (Or.inr (Or.inr (by omega))) (by rw [q_pl39 (by omega) (by omega)]; omega) (by rw [q_pl39 (by omega) (by omega)]; omega) dX1_lay_132 (fun H locs hO hz hq hS => ?_)
                have hX : q_X E x T0 (n, kd, sz, sh, nu, (va_up pa k_3 (va_up (pa k_3) j_i none)), sl, (nI 0), tn, ts, tg) H := hX.par hk_3 none hO hz hq
                refine lv_iconst (v := nI 1) hx hb dX1_lay_133 (by decide) ?_
                have ee : f_lay (n, kd, sz, sh, nu, pa, sl, ft, tn, ts, tg) (nI j_to) (nI j_i) (nI j_fr) = (nI 1, (n, kd, sz, sh, nu, (va_up pa k_3 (va_up (pa k_3) j_i none)), sl, (nI 0), tn, ts, tg)) := by first | (simp only [f_lay, ej_to, ej_fr, s_3, r_4, s_5, ej_i]; done) | (simp only [f_lay, ej_to, ej_fr, s_3, r_4, s_5, ej_i]; rfl) | (simp [f_lay, ej_to, ej_fr, s_3, r_4, s_5, ej_i]; done) | (simp [f_lay, ej_to, ej_fr, s_3, r_4, s_5, ej_i]; rfl) | (simp only [f_lay, ej_to, ej_fr, s_3, r_4, s_5, ej_i]; (repeat' split) <;> first | rfl | (exfalso; omega))
                exact W.iret (v := nI 1) hx hb hr (fun t ht hW => ⟨⟨nI 1, (n, kd, sz, sh, nu, (va_up pa k_3 (va_up (pa k_3) j_i none)), sl, (nI 0), tn, ts, tg), rfl, ⟨(by rw [ee]), (by rw [ee])⟩, (by show q_X E x T0 (n, kd, sz, sh, nu, (va_up pa k_3 (va_up (pa k_3) j_i none)), sl, (nI 0), tn, ts, tg) t.heap; rw [ht]; exact hX)⟩, hS.F ht⟩) hS.2.2 dX1_lay_134
              · have c_7 := q_ix_nlt (by omega) c_7
                refine lv_aload_n hx hb dX1_lay_91 rfl (lv_at hl 3 rfl) ?_
                refine lv_iconst (v := nI 3) hx hb dX1_lay_92 (by decide) ?_
                refine qc_i (r1 := nI 0) (σ1 := (n, kd, sz, sh, nu, pa, sl, nI 3, tn, ts, tg)) (va_runV (As := [.int (nI 3)]) (rest := []) ⟨hx, hb, hml, hown, hts⟩ (kX1_failed l E x T0 n kd sz sh nu pa sl ((nI 0)) tn ts tg hI (nI 3)) (cwV 1 hts gX1_lay_X1_failed rfl rfl rfl (by decide +kernel) ⟨Nat.le_of_ble_eq_true rfl, Nat.le_of_ble_eq_true rfl⟩) (q_preV hK hX hX.1 rfl) rfl rfl hl.1 rfl (lv_room (Nat.le_of_ble_eq_true rfl)) dX1_lay_93 ⟨Nat.le_of_ble_eq_true rfl, Nat.le_of_ble_eq_true rfl⟩) hS rfl rfl (fun H locs hX hS => ?_)
                have ee : f_lay (n, kd, sz, sh, nu, pa, sl, ft, tn, ts, tg) (nI j_to) i (nI j_fr) = (nI 0, (n, kd, sz, sh, nu, pa, sl, nI 3, tn, ts, tg)) := by first | (simp only [f_lay, ej_to, ej_fr, s_3, r_4, s_5, c_7]; done) | (simp only [f_lay, ej_to, ej_fr, s_3, r_4, s_5, c_7]; rfl) | (simp [f_lay, ej_to, ej_fr, s_3, r_4, s_5, c_7]; done) | (simp [f_lay, ej_to, ej_fr, s_3, r_4, s_5, c_7]; rfl) | (simp only [f_lay, ej_to, ej_fr, s_3, r_4, s_5, c_7]; (repeat' split) <;> first | rfl | (exfalso; omega))
                exact W.iret (v := nI 0) hx hb hr (fun t ht hW => ⟨⟨nI 0, (n, kd, sz, sh, nu, pa, sl, nI 3, tn, ts, tg), rfl, ⟨(by rw [ee]), (by rw [ee])⟩, (by show q_X E x T0 (n, kd, sz, sh, nu, pa, sl, nI 3, tn, ts, tg) t.heap; rw [ht]; exact hX)⟩, hS.F ht⟩) hS.2.2 dX1_lay_96
          · try dsimp only at s_5 hk_5
            obtain ⟨ak_5, bk_5, dk_5, wk_5⟩ := hI.2.1 k_5 hk_5
            have n60 := hI.1
            try dsimp only at ak_5 bk_5 dk_5 wk_5 n60
            refine lv_astore (lv' := [(5, .ref (T0 + 3 * k_5)), (4, .ref (T0 + 3 * k_3)), (0, .ref x), (1, .int (nI j_to)), (2, .int i), (3, .int (nI j_fr))]) hx hb dX1_lay_42 hl (by decide) rfl (fun ls hl => ?_)
            refine lv_aload hx hb dX1_lay_44 (lv_at hl 1 rfl) ?_
            refine qw_get (v := .int (nI (kd k_3))) (ci := 0) (C := RX0) (T := TX0) (N := 6) hx hb hts nX1_lay_0 hown hK (hX.2.2.1 k_3 hk_3).1 rfl 1 (by decide) (hts (.fieldLink RX1 79 "DockGates$Thing" "kind" "I") (by decide +kernel)) rfl rfl dX1_lay_46 ?_
            refine qc_ri (r1 := nI (q_gl (kd k_3))) (W.runS (As := [.int (nI (kd k_3))]) (rest := []) ⟨hx, hb, hml, hown, hts⟩ (kX1_gateOfLaying l (kd k_3) (by omega)) (va_cwS 1 hts gX1_lay_X1_gateOfLaying rfl rfl rfl (by decide +kernel) ⟨Nat.le_of_ble_eq_true rfl, Nat.le_of_ble_eq_true rfl⟩) preEq rfl rfl hl.1 rfl (lv_room (Nat.le_of_ble_eq_true rfl)) dX1_lay_49 ⟨Nat.le_of_ble_eq_true rfl, Nat.le_of_ble_eq_true rfl⟩) rfl ?_
            have hgl := q_gl_lt (kd k_3)
            refine lv_istore (lv' := [(6, .int (nI (q_gl (kd k_3)))), (5, .ref (T0 + 3 * k_5)), (4, .ref (T0 + 3 * k_3)), (0, .ref x), (1, .int (nI j_to)), (2, .int i), (3, .int (nI j_fr))]) hx hb dX1_lay_52 hl (by decide) rfl (fun ls hl => ?_)
            refine lv_aload hx hb dX1_lay_54 (lv_at hl 1 rfl) ?_
            refine lv_ifnull hx hb dX1_lay_56 ?_
            refine lv_iload hx hb dX1_lay_59 (lv_at hl 0 rfl) ?_
            refine lv_aload hx hb dX1_lay_61 (lv_at hl 1 rfl) ?_
            refine qc_ri (r1 := q_b (q_go (kd k_5) (q_gl (kd k_3)))) (W.runS (As := [.int (nI (q_gl (kd k_3))), .ref (T0 + 3 * k_5)]) (rest := []) ⟨hx, hb, hml, hown, hts⟩ (kX1_letsThrough_S l E x T0 n kd sz sh nu pa sl ((nI 0)) tn ts tg hI (q_gl (kd k_3)) (by first | omega | decide) k_5 hk_5) (va_cwS 2 hts gX1_lay_X1_letsThrough rfl rfl rfl (by decide +kernel) ⟨Nat.le_of_ble_eq_true rfl, Nat.le_of_ble_eq_true rfl⟩) (q_pre hK hX) rfl rfl hl.1 rfl (lv_room (Nat.le_of_ble_eq_true rfl)) dX1_lay_63 ⟨Nat.le_of_ble_eq_true rfl, Nat.le_of_ble_eq_true rfl⟩) rfl ?_
            refine ln_b_ne (tgt := 77) hx hb dX1_lay_66 (by decide) (fun c_8 => ?_) (fun c_8 => ?_)
            · refine lv_iload_n hx hb dX1_lay_77 rfl (lv_at hl 5 rfl) ?_
              refine lv_if_lt (tgt := 91) hx hb dX1_lay_78 (by decide) (fun c_9 => ?_) (fun c_9 => ?_)
              · have c_9 : ∀ q, q_ix i q = none := fun q => q_ix_neg c_9
                refine lv_aload_n hx hb dX1_lay_91 rfl (lv_at hl 3 rfl) ?_
                refine lv_iconst (v := nI 3) hx hb dX1_lay_92 (by decide) ?_
                refine qc_i (r1 := nI 0) (σ1 := (n, kd, sz, sh, nu, pa, sl, nI 3, tn, ts, tg)) (va_runV (As := [.int (nI 3)]) (rest := []) ⟨hx, hb, hml, hown, hts⟩ (kX1_failed l E x T0 n kd sz sh nu pa sl ((nI 0)) tn ts tg hI (nI 3)) (cwV 1 hts gX1_lay_X1_failed rfl rfl rfl (by decide +kernel) ⟨Nat.le_of_ble_eq_true rfl, Nat.le_of_ble_eq_true rfl⟩) (q_preV hK hX hX.1 rfl) rfl rfl hl.1 rfl (lv_room (Nat.le_of_ble_eq_true rfl)) dX1_lay_93 ⟨Nat.le_of_ble_eq_true rfl, Nat.le_of_ble_eq_true rfl⟩) hS rfl rfl (fun H locs hX hS => ?_)
                have ee : f_lay (n, kd, sz, sh, nu, pa, sl, ft, tn, ts, tg) (nI j_to) i (nI j_fr) = (nI 0, (n, kd, sz, sh, nu, pa, sl, nI 3, tn, ts, tg)) := by first | (simp only [f_lay, ej_to, ej_fr, s_3, r_4, s_5, c_8, c_9]; done) | (simp only [f_lay, ej_to, ej_fr, s_3, r_4, s_5, c_8, c_9]; rfl) | (simp [f_lay, ej_to, ej_fr, s_3, r_4, s_5, c_8, c_9]; done) | (simp [f_lay, ej_to, ej_fr, s_3, r_4, s_5, c_8, c_9]; rfl) | (simp only [f_lay, ej_to, ej_fr, s_3, r_4, s_5, c_8, c_9]; (repeat' split) <;> first | rfl | (exfalso; omega))
                exact W.iret (v := nI 0) hx hb hr (fun t ht hW => ⟨⟨nI 0, (n, kd, sz, sh, nu, pa, sl, nI 3, tn, ts, tg), rfl, ⟨(by rw [ee]), (by rw [ee])⟩, (by show q_X E x T0 (n, kd, sz, sh, nu, pa, sl, nI 3, tn, ts, tg) t.heap; rw [ht]; exact hX)⟩, hS.F ht⟩) hS.2.2 dX1_lay_96
              · refine lv_iload_n hx hb dX1_lay_81 rfl (lv_at hl 5 rfl) ?_
                refine lv_aload hx hb dX1_lay_82 (lv_at hl 2 rfl) ?_
                refine qw_get (v := .ref (T0 + 3 * k_3 + 2)) (ci := 0) (C := RX0) (T := TX0) (N := 6) hx hb hts nX1_lay_0 hown hK (hX.2.2.1 k_3 hk_3).1 rfl 3 (by decide) (hts (.fieldLink RX1 96 "DockGates$Thing" "parts" "[LDockGates$Thing;") (by decide +kernel)) rfl rfl dX1_lay_84 ?_
                refine qw_tlen (n := q_pl (kd k_3) (sz k_3)) hx hb hK (hX.2.2.1 k_3 hk_3).2.2 dX1_lay_87 ?_
                rw [q_pl39 (show 3 ≤ kd k_3 by omega) (show kd k_3 < 9 by omega)]
                refine lv_icmp_lt (tgt := 97) hx hb dX1_lay_88 (by decide) (fun c_10 => ?_) (fun c_10 => ?_)
                · obtain ⟨j_i, hj_i, rfl⟩ := q_ix_of2 (by omega) c_9 c_10
                  have ej_i := q_ix_in hj_i (by omega)
                  refine lv_aload hx hb dX1_lay_97 (lv_at hl 1 rfl) ?_
                  refine lv_ifnull hx hb dX1_lay_99 ?_
                  refine lv_aload hx hb dX1_lay_102 (lv_at hl 2 rfl) ?_
                  refine qw_get (v := .int (nI (kd k_3))) (ci := 0) (C := RX0) (T := TX0) (N := 6) hx hb hts nX1_lay_0 hown hK (hX.2.2.1 k_3 hk_3).1 rfl 1 (by decide) (hts (.fieldLink RX1 79 "DockGates$Thing" "kind" "I") (by decide +kernel)) rfl rfl dX1_lay_104 ?_
                  refine qc_ri (r1 := nI (q_gp (kd k_3))) (W.runS (As := [.int (nI (kd k_3))]) (rest := []) ⟨hx, hb, hml, hown, hts⟩ (kX1_gateOfPlaces l (kd k_3) (by omega)) (va_cwS 1 hts gX1_lay_X1_gateOfPlaces rfl rfl rfl (by decide +kernel) ⟨Nat.le_of_ble_eq_true rfl, Nat.le_of_ble_eq_true rfl⟩) preEq rfl rfl hl.1 rfl (lv_room (Nat.le_of_ble_eq_true rfl)) dX1_lay_107 ⟨Nat.le_of_ble_eq_true rfl, Nat.le_of_ble_eq_true rfl⟩) rfl ?_
                  have hgp := q_gp_lt (kd k_3)
                  refine lv_aload hx hb dX1_lay_110 (lv_at hl 1 rfl) ?_
                  refine qc_ri (r1 := q_b (q_ch (kd k_3) (kd k_5))) (W.runS (As := [.int (nI (q_gp (kd k_3))), .ref (T0 + 3 * k_5)]) (rest := []) ⟨hx, hb, hml, hown, hts⟩ (kX1_letsThrough_S l E x T0 n kd sz sh nu pa sl ((nI 0)) tn ts tg hI (q_gp (kd k_3)) (by first | omega | decide) k_5 hk_5) (va_cwS 2 hts gX1_lay_X1_letsThrough rfl rfl rfl (by decide +kernel) ⟨Nat.le_of_ble_eq_true rfl, Nat.le_of_ble_eq_true rfl⟩) (q_pre hK hX) rfl rfl hl.1 rfl (lv_room (Nat.le_of_ble_eq_true rfl)) dX1_lay_112 ⟨Nat.le_of_ble_eq_true rfl, Nat.le_of_ble_eq_true rfl⟩) (congrArg q_b (q_gpch _ ak_3 _ ak_5 (by omega) (by omega) c_8)) ?_
                  refine ln_b_ne (tgt := 124) hx hb dX1_lay_115 (by decide) (fun c_11 => ?_) (fun c_11 => ?_)
                  · refine lv_aload hx hb dX1_lay_124 (lv_at hl 2 rfl) ?_
                    refine qw_get (v := .ref (T0 + 3 * k_3 + 2)) (ci := 0) (C := RX0) (T := TX0) (N := 6) hx hb hts nX1_lay_0 hown hK (hX.2.2.1 k_3 hk_3).1 rfl 3 (by decide) (hts (.fieldLink RX1 96 "DockGates$Thing" "parts" "[LDockGates$Thing;") (by decide +kernel)) rfl rfl dX1_lay_126 ?_
                    refine lv_iload_n hx hb dX1_lay_129 rfl (lv_at hl 5 rfl) ?_
                    refine lv_aload hx hb dX1_lay_130 (lv_at hl 1 rfl) ?_
                    refine qw_aast (n := q_pl (kd k_3) (sz k_3)) (f := fun i => q_rf T0 (pa k_3 i)) (A := q_Ax x T0) hx hb hK (hX.2.2.1 k_3 hk_3).2.2 (hX.2.2.1 k_5 hk_5).1 hS (Or.inr (Or.inr (by omega))) (by rw [q_pl39 (by omega) (by omega)]; omega) (by rw [q_pl39 (by omega) (by omega)]; omega) dX1_lay_132 (fun H locs hO hz hq hS => ?_)
                    have hX : q_X E x T0 (n, kd, sz, sh, nu, (va_up pa k_3 (va_up (pa k_3) j_i (some k_5))), sl, (nI 0), tn, ts, tg) H := hX.par hk_3 (some k_5) hO hz hq
                    refine lv_iconst (v := nI 1) hx hb dX1_lay_133 (by decide) ?_
                    have ee : f_lay (n, kd, sz, sh, nu, pa, sl, ft, tn, ts, tg) (nI j_to) (nI j_i) (nI j_fr) = (nI 1, (n, kd, sz, sh, nu, (va_up pa k_3 (va_up (pa k_3) j_i (some k_5))), sl, (nI 0), tn, ts, tg)) := by first | (simp only [f_lay, ej_to, ej_fr, s_3, r_4, s_5, c_8, ej_i, c_11]; done) | (simp only [f_lay, ej_to, ej_fr, s_3, r_4, s_5, c_8, ej_i, c_11]; rfl) | (simp [f_lay, ej_to, ej_fr, s_3, r_4, s_5, c_8, ej_i, c_11]; done) | (simp [f_lay, ej_to, ej_fr, s_3, r_4, s_5, c_8, ej_i, c_11]; rfl) | (simp only [f_lay, ej_to, ej_fr, s_3, r_4, s_5, c_8, ej_i, c_11]; (repeat' split) <;> first | rfl | (exfalso; omega))
                    exact W.iret (v := nI 1) hx hb hr (fun t ht hW => ⟨⟨nI 1, (n, kd, sz, sh, nu, (va_up pa k_3 (va_up (pa k_3) j_i (some k_5))), sl, (nI 0), tn, ts, tg), rfl, ⟨(by rw [ee]), (by rw [ee])⟩, (by show q_X E x T0 (n, kd, sz, sh, nu, (va_up pa k_3 (va_up (pa k_3) j_i (some k_5))), sl, (nI 0), tn, ts, tg) t.heap; rw [ht]; exact hX)⟩, hS.F ht⟩) hS.2.2 dX1_lay_134
                  · refine lv_aload_n hx hb dX1_lay_118 rfl (lv_at hl 3 rfl) ?_
                    refine lv_iconst (v := nI 5) hx hb dX1_lay_119 (by decide) ?_
                    refine qc_i (r1 := nI 0) (σ1 := (n, kd, sz, sh, nu, pa, sl, nI 5, tn, ts, tg)) (va_runV (As := [.int (nI 5)]) (rest := []) ⟨hx, hb, hml, hown, hts⟩ (kX1_failed l E x T0 n kd sz sh nu pa sl ((nI 0)) tn ts tg hI (nI 5)) (cwV 1 hts gX1_lay_X1_failed rfl rfl rfl (by decide +kernel) ⟨Nat.le_of_ble_eq_true rfl, Nat.le_of_ble_eq_true rfl⟩) (q_preV hK hX hX.1 rfl) rfl rfl hl.1 rfl (lv_room (Nat.le_of_ble_eq_true rfl)) dX1_lay_120 ⟨Nat.le_of_ble_eq_true rfl, Nat.le_of_ble_eq_true rfl⟩) hS rfl rfl (fun H locs hX hS => ?_)
                    have ee : f_lay (n, kd, sz, sh, nu, pa, sl, ft, tn, ts, tg) (nI j_to) (nI j_i) (nI j_fr) = (nI 0, (n, kd, sz, sh, nu, pa, sl, nI 5, tn, ts, tg)) := by first | (simp only [f_lay, ej_to, ej_fr, s_3, r_4, s_5, c_8, ej_i, c_11]; done) | (simp only [f_lay, ej_to, ej_fr, s_3, r_4, s_5, c_8, ej_i, c_11]; rfl) | (simp [f_lay, ej_to, ej_fr, s_3, r_4, s_5, c_8, ej_i, c_11]; done) | (simp [f_lay, ej_to, ej_fr, s_3, r_4, s_5, c_8, ej_i, c_11]; rfl) | (simp only [f_lay, ej_to, ej_fr, s_3, r_4, s_5, c_8, ej_i, c_11]; (repeat' split) <;> first | rfl | (exfalso; omega))
                    exact W.iret (v := nI 0) hx hb hr (fun t ht hW => ⟨⟨nI 0, (n, kd, sz, sh, nu, pa, sl, nI 5, tn, ts, tg), rfl, ⟨(by rw [ee]), (by rw [ee])⟩, (by show q_X E x T0 (n, kd, sz, sh, nu, pa, sl, nI 5, tn, ts, tg) t.heap; rw [ht]; exact hX)⟩, hS.F ht⟩) hS.2.2 dX1_lay_123
                · have c_10 := q_ix_nlt (by omega) c_10
                  refine lv_aload_n hx hb dX1_lay_91 rfl (lv_at hl 3 rfl) ?_
                  refine lv_iconst (v := nI 3) hx hb dX1_lay_92 (by decide) ?_
                  refine qc_i (r1 := nI 0) (σ1 := (n, kd, sz, sh, nu, pa, sl, nI 3, tn, ts, tg)) (va_runV (As := [.int (nI 3)]) (rest := []) ⟨hx, hb, hml, hown, hts⟩ (kX1_failed l E x T0 n kd sz sh nu pa sl ((nI 0)) tn ts tg hI (nI 3)) (cwV 1 hts gX1_lay_X1_failed rfl rfl rfl (by decide +kernel) ⟨Nat.le_of_ble_eq_true rfl, Nat.le_of_ble_eq_true rfl⟩) (q_preV hK hX hX.1 rfl) rfl rfl hl.1 rfl (lv_room (Nat.le_of_ble_eq_true rfl)) dX1_lay_93 ⟨Nat.le_of_ble_eq_true rfl, Nat.le_of_ble_eq_true rfl⟩) hS rfl rfl (fun H locs hX hS => ?_)
                  have ee : f_lay (n, kd, sz, sh, nu, pa, sl, ft, tn, ts, tg) (nI j_to) i (nI j_fr) = (nI 0, (n, kd, sz, sh, nu, pa, sl, nI 3, tn, ts, tg)) := by first | (simp only [f_lay, ej_to, ej_fr, s_3, r_4, s_5, c_8, c_10]; done) | (simp only [f_lay, ej_to, ej_fr, s_3, r_4, s_5, c_8, c_10]; rfl) | (simp [f_lay, ej_to, ej_fr, s_3, r_4, s_5, c_8, c_10]; done) | (simp [f_lay, ej_to, ej_fr, s_3, r_4, s_5, c_8, c_10]; rfl) | (simp only [f_lay, ej_to, ej_fr, s_3, r_4, s_5, c_8, c_10]; (repeat' split) <;> first | rfl | (exfalso; omega))
                  exact W.iret (v := nI 0) hx hb hr (fun t ht hW => ⟨⟨nI 0, (n, kd, sz, sh, nu, pa, sl, nI 3, tn, ts, tg), rfl, ⟨(by rw [ee]), (by rw [ee])⟩, (by show q_X E x T0 (n, kd, sz, sh, nu, pa, sl, nI 3, tn, ts, tg) t.heap; rw [ht]; exact hX)⟩, hS.F ht⟩) hS.2.2 dX1_lay_96
            · refine lv_aload_n hx hb dX1_lay_69 rfl (lv_at hl 3 rfl) ?_
              refine lv_iload_n hx hb dX1_lay_70 rfl (lv_at hl 6 rfl) ?_
              refine lv_iload hx hb dX1_lay_71 (lv_at hl 0 rfl) ?_
              refine qc_i (r1 := nI 0) (σ1 := (n, kd, sz, sh, nu, pa, sl, nI 1, (tn + 1), nI j_fr, nI (q_gl (kd k_3)))) (va_runV (As := [.int (nI j_fr), .int (nI (q_gl (kd k_3)))]) (rest := []) ⟨hx, hb, hml, hown, hts⟩ (kX1_failedAtGate l E x T0 n kd sz sh nu pa sl ((nI 0)) tn ts tg hI (nI j_fr) (nI (q_gl (kd k_3)))) (cwV 2 hts gX1_lay_X1_failedAtGate rfl rfl rfl (by decide +kernel) ⟨Nat.le_of_ble_eq_true rfl, Nat.le_of_ble_eq_true rfl⟩) (q_preV hK hX hX.1 rfl) rfl rfl hl.1 rfl (lv_room (Nat.le_of_ble_eq_true rfl)) dX1_lay_73 ⟨Nat.le_of_ble_eq_true rfl, Nat.le_of_ble_eq_true rfl⟩) hS rfl rfl (fun H locs hX hS => ?_)
              have ee : f_lay (n, kd, sz, sh, nu, pa, sl, ft, tn, ts, tg) (nI j_to) i (nI j_fr) = (nI 0, (n, kd, sz, sh, nu, pa, sl, nI 1, (tn + 1), nI j_fr, nI (q_gl (kd k_3)))) := by first | (simp only [f_lay, ej_to, ej_fr, s_3, r_4, s_5, c_8]; done) | (simp only [f_lay, ej_to, ej_fr, s_3, r_4, s_5, c_8]; rfl) | (simp [f_lay, ej_to, ej_fr, s_3, r_4, s_5, c_8]; done) | (simp [f_lay, ej_to, ej_fr, s_3, r_4, s_5, c_8]; rfl) | (simp only [f_lay, ej_to, ej_fr, s_3, r_4, s_5, c_8]; (repeat' split) <;> first | rfl | (exfalso; omega))
              exact W.iret (v := nI 0) hx hb hr (fun t ht hW => ⟨⟨nI 0, (n, kd, sz, sh, nu, pa, sl, nI 1, (tn + 1), nI j_fr, nI (q_gl (kd k_3))), rfl, ⟨(by rw [ee]), (by rw [ee])⟩, (by show q_X E x T0 (n, kd, sz, sh, nu, pa, sl, nI 1, (tn + 1), nI j_fr, nI (q_gl (kd k_3))) t.heap; rw [ht]; exact hX)⟩, hS.F ht⟩) hS.2.2 dX1_lay_76
        · refine qc_q (r1 := none) (σ1 := (n, kd, sz, sh, nu, pa, sl, nI 1, (tn + 1), nI j_to, nI 6)) (va_runV (As := [.int (nI j_to)]) (rest := []) ⟨hx, hb, hml, hown, hts⟩ (kX1_rowOfThings_T l E x T0 n kd sz sh nu pa sl ((nI 0)) tn ts tg hI j_to hj_to k_3 hk_3 s_3 r_4) (cwV 1 hts gX1_lay_X1_rowOfThings rfl rfl rfl (by decide +kernel) ⟨Nat.le_of_ble_eq_true rfl, Nat.le_of_ble_eq_true rfl⟩) (q_preV hK hX hX.1 rfl) rfl rfl hl.1 rfl (lv_room (Nat.le_of_ble_eq_true rfl)) dX1_lay_24 ⟨Nat.le_of_ble_eq_true rfl, Nat.le_of_ble_eq_true rfl⟩) hS rfl rfl (fun H locs hX hS => ?_)
          try dsimp only [va_rf]
          refine lv_astoreN (lv' := [(4, .null), (0, .ref x), (1, .int (nI j_to)), (2, .int i), (3, .int (nI j_fr))]) hx hb dX1_lay_27 hl (by decide) rfl (fun ls hl => ?_)
          refine lv_aloadN hx hb dX1_lay_29 (lv_at hl 0 rfl) ?_
          refine lv_ifnonnullN hx hb dX1_lay_31 ?_
          refine lv_iconst (v := nI 0) hx hb dX1_lay_34 (by decide) ?_
          have ee : f_lay (n, kd, sz, sh, nu, pa, sl, ft, tn, ts, tg) (nI j_to) i (nI j_fr) = (nI 0, (n, kd, sz, sh, nu, pa, sl, nI 1, (tn + 1), nI j_to, nI 6)) := by first | (simp only [f_lay, ej_to, ej_fr, s_3, r_4]; done) | (simp only [f_lay, ej_to, ej_fr, s_3, r_4]; rfl) | (simp [f_lay, ej_to, ej_fr, s_3, r_4]; done) | (simp [f_lay, ej_to, ej_fr, s_3, r_4]; rfl) | (simp only [f_lay, ej_to, ej_fr, s_3, r_4]; (repeat' split) <;> first | rfl | (exfalso; omega))
          exact W.iret (v := nI 0) hx hb hr (fun t ht hW => ⟨⟨nI 0, (n, kd, sz, sh, nu, pa, sl, nI 1, (tn + 1), nI j_to, nI 6), rfl, ⟨(by rw [ee]), (by rw [ee])⟩, (by show q_X E x T0 (n, kd, sz, sh, nu, pa, sl, nI 1, (tn + 1), nI j_to, nI 6) t.heap; rw [ht]; exact hX)⟩, hS.F ht⟩) hS.2.2 dX1_lay_35
    · have c_2 := q_isn c_2
      refine lv_bipush (v := (-2)) hx hb dX1_lay_19 (by decide) ?_
      have ee : f_lay (n, kd, sz, sh, nu, pa, sl, ft, tn, ts, tg) (nI j_to) i fr = (((-2)), (n, kd, sz, sh, nu, pa, sl, (nI 0), tn, ts, tg)) := by first | (simp only [f_lay, ej_to, c_2]; done) | (simp only [f_lay, ej_to, c_2]; rfl) | (simp [f_lay, ej_to, c_2]; done) | (simp [f_lay, ej_to, c_2]; rfl) | (simp only [f_lay, ej_to, c_2]; (repeat' split) <;> first | rfl | (exfalso; omega))
      exact W.iret (v := ((-2))) hx hb hr (fun t ht hW => ⟨⟨((-2)), (n, kd, sz, sh, nu, pa, sl, (nI 0), tn, ts, tg), rfl, ⟨(by rw [ee]), (by rw [ee])⟩, (by show q_X E x T0 (n, kd, sz, sh, nu, pa, sl, (nI 0), tn, ts, tg) t.heap; rw [ht]; exact hX)⟩, hS.F ht⟩) hS.2.2 dX1_lay_21
set_option maxRecDepth 20000 in
theorem nX1_take_0 : ∀ w ∈ u_ws RX0 TX0 6, w ∈ wsX1_take := by decide +kernel
set_option maxRecDepth 20000 in
theorem nX1_take_1 : ∀ w ∈ u_ws RX1 TX1 6, w ∈ wsX1_take := by decide +kernel
set_option maxHeartbeats 4000000 in
set_option maxRecDepth 100000 in
theorem kX1_take (l : Launch) (E : q_E) (x T0 : Nat) (n : Nat) (kd sz : Nat → Nat) (sh : Nat → Bool) (nu : Nat → Nat → Int64) (pa : Nat → Nat → Option Nat) (sl : Nat → Option Nat) (ft tn ts tg : Int32) (hI : q_I (n, kd, sz, sh, nu, pa, sl, ft, tn, ts, tg)) (fr i to : Int32)  : Met l yX1_take wsX1_take ({ frames := 4, cells := 0, slots := 0, locals := 89 }) (q_P E (q_X E x T0 (n, kd, sz, sh, nu, pa, sl, ft, tn, ts, tg)) [.ref x, .int fr, .int i, .int to]) (q_Wi (q_X E x T0) (q_Ax x T0) ((f_take (n, kd, sz, sh, nu, pa, sl, ft, tn, ts, tg) fr i to).1) (f_take (n, kd, sz, sh, nu, pa, sl, ft, tn, ts, tg) fr i to).2) 0 0 (q_Ax x T0) := by
  refine Met.ofW (cc := cX1_take) (maxL := 5) (ret := (some .int)) (by decide) rfl ?_
  intro p e s m args below meth c s₁ B hml hv
  obtain ⟨rfl, hK, hX⟩ := hv
  have hx := B.exec
  have hb := B.bytes
  have hr := B.returns
  have hts := atoms_spec (ws := wsX1_take) B.pre
  have hown : s.vm.findClass RX1 = some m.cls := findClass_of_methodNamed B.named
  have hlocks := B.notSynchronized
  have hl := lv_entry ([.ref x, .int fr, .int i, .int to]) (n := 5) (Nat.le_of_ble_eq_true rfl)
  rw [lg_entry_eq]
  generalize (lg_sl ([.ref x, .int fr, .int i, .int to]) ++ List.replicate (5 - (lg_sl ([.ref x, .int fr, .int i, .int to])).length) Slot.unset).toArray = ls at hl ⊢
  have hl : lv_has ls 5 [(0, .ref x), (1, .int fr), (2, .int i), (3, .int to)] := hl
  have hS : va_S (q_Ax x T0) s.heap s.heap [] := va_S.rf
  refine lv_aload_n hx hb dX1_take_0 rfl (lv_at hl 0 rfl) ?_
  refine lv_iconst (v := nI 0) hx hb dX1_take_1 (by decide) ?_
  refine qw_put (ci := 1) (C := RX1) (T := TX1) (N := 6) hx hb hts nX1_take_1 tyX1 tyX1_ok nmX1 hown hK hX.1 hS (Or.inl rfl) rfl 2 (by decide) (hts (.fieldLink RX1 19 "DockGates" "latestFault" "I") (by decide +kernel)) rfl rfl rfl rfl (Nat.le_of_ble_eq_true rfl) dX1_take_2 (fun H locs hO hz hq hS => ?_)
  have hX : q_X E x T0 (n, kd, sz, sh, nu, pa, sl, (nI 0), tn, ts, tg) H := hX.obj hO hz hq
  refine lv_iload_n hx hb dX1_take_5 rfl (lv_at hl 1 rfl) ?_
  refine qc_ri (r1 := q_b ((q_ix fr 12).isSome)) (W.runS (As := [.int fr]) (rest := []) ⟨hx, hb, hml, hown, hts⟩ (kX1_isSlot l fr) (va_cwS 1 hts gX1_take_X1_isSlot rfl rfl rfl (by decide +kernel) ⟨Nat.le_of_ble_eq_true rfl, Nat.le_of_ble_eq_true rfl⟩) preEq rfl rfl hl.1 rfl (lv_room (Nat.le_of_ble_eq_true rfl)) dX1_take_6 ⟨Nat.le_of_ble_eq_true rfl, Nat.le_of_ble_eq_true rfl⟩) rfl ?_
  refine ln_b_eq (tgt := 19) hx hb dX1_take_9 (by decide) (fun c_1 => ?_) (fun c_1 => ?_)
  · have c_1 := q_isn c_1
    refine lv_bipush (v := (-2)) hx hb dX1_take_19 (by decide) ?_
    have ee : f_take (n, kd, sz, sh, nu, pa, sl, ft, tn, ts, tg) fr i to = (((-2)), (n, kd, sz, sh, nu, pa, sl, (nI 0), tn, ts, tg)) := by first | (simp only [f_take, c_1]; done) | (simp only [f_take, c_1]; rfl) | (simp [f_take, c_1]; done) | (simp [f_take, c_1]; rfl) | (simp only [f_take, c_1]; (repeat' split) <;> first | rfl | (exfalso; omega))
    exact W.iret (v := ((-2))) hx hb hr (fun t ht hW => ⟨⟨((-2)), (n, kd, sz, sh, nu, pa, sl, (nI 0), tn, ts, tg), rfl, ⟨(by rw [ee]), (by rw [ee])⟩, (by show q_X E x T0 (n, kd, sz, sh, nu, pa, sl, (nI 0), tn, ts, tg) t.heap; rw [ht]; exact hX)⟩, hS.F ht⟩) hS.2.2 dX1_take_21
  · obtain ⟨j_fr, hj_fr, rfl⟩ := q_is (by first | decide | omega) c_1
    have ej_fr := q_ix_in hj_fr (by first | decide | omega)
    refine lv_iload_n hx hb dX1_take_12 rfl (lv_at hl 3 rfl) ?_
    refine qc_ri (r1 := q_b ((q_ix to 12).isSome)) (W.runS (As := [.int to]) (rest := []) ⟨hx, hb, hml, hown, hts⟩ (kX1_isSlot l to) (va_cwS 1 hts gX1_take_X1_isSlot rfl rfl rfl (by decide +kernel) ⟨Nat.le_of_ble_eq_true rfl, Nat.le_of_ble_eq_true rfl⟩) preEq rfl rfl hl.1 rfl (lv_room (Nat.le_of_ble_eq_true rfl)) dX1_take_13 ⟨Nat.le_of_ble_eq_true rfl, Nat.le_of_ble_eq_true rfl⟩) rfl ?_
    refine ln_b_ne (tgt := 22) hx hb dX1_take_16 (by decide) (fun c_2 => ?_) (fun c_2 => ?_)
    · obtain ⟨j_to, hj_to, rfl⟩ := q_is (by first | decide | omega) c_2
      have ej_to := q_ix_in hj_to (by first | decide | omega)
      refine lv_aload_n hx hb dX1_take_22 rfl (lv_at hl 0 rfl) ?_
      refine lv_iload_n hx hb dX1_take_23 rfl (lv_at hl 1 rfl) ?_
      cases s_3 : sl j_fr with
      | none =>
        refine qc_q (r1 := none) (σ1 := (n, kd, sz, sh, nu, pa, sl, nI 2, tn, ts, tg)) (va_runV (As := [.int (nI j_fr)]) (rest := []) ⟨hx, hb, hml, hown, hts⟩ (kX1_rowOfThings_N l E x T0 n kd sz sh nu pa sl ((nI 0)) tn ts tg hI j_fr hj_fr s_3) (cwV 1 hts gX1_take_X1_rowOfThings rfl rfl rfl (by decide +kernel) ⟨Nat.le_of_ble_eq_true rfl, Nat.le_of_ble_eq_true rfl⟩) (q_preV hK hX hX.1 rfl) rfl rfl hl.1 rfl (lv_room (Nat.le_of_ble_eq_true rfl)) dX1_take_24 ⟨Nat.le_of_ble_eq_true rfl, Nat.le_of_ble_eq_true rfl⟩) hS rfl rfl (fun H locs hX hS => ?_)
        try dsimp only [va_rf]
        refine lv_astoreN (lv' := [(4, .null), (0, .ref x), (1, .int (nI j_fr)), (2, .int i), (3, .int (nI j_to))]) hx hb dX1_take_27 hl (by decide) rfl (fun ls hl => ?_)
        refine lv_aloadN hx hb dX1_take_29 (lv_at hl 0 rfl) ?_
        refine lv_ifnonnullN hx hb dX1_take_31 ?_
        refine lv_iconst (v := nI 0) hx hb dX1_take_34 (by decide) ?_
        have ee : f_take (n, kd, sz, sh, nu, pa, sl, ft, tn, ts, tg) (nI j_fr) i (nI j_to) = (nI 0, (n, kd, sz, sh, nu, pa, sl, nI 2, tn, ts, tg)) := by first | (simp only [f_take, ej_fr, ej_to, s_3]; done) | (simp only [f_take, ej_fr, ej_to, s_3]; rfl) | (simp [f_take, ej_fr, ej_to, s_3]; done) | (simp [f_take, ej_fr, ej_to, s_3]; rfl) | (simp only [f_take, ej_fr, ej_to, s_3]; (repeat' split) <;> first | rfl | (exfalso; omega))
        exact W.iret (v := nI 0) hx hb hr (fun t ht hW => ⟨⟨nI 0, (n, kd, sz, sh, nu, pa, sl, nI 2, tn, ts, tg), rfl, ⟨(by rw [ee]), (by rw [ee])⟩, (by show q_X E x T0 (n, kd, sz, sh, nu, pa, sl, nI 2, tn, ts, tg) t.heap; rw [ht]; exact hX)⟩, hS.F ht⟩) hS.2.2 dX1_take_35
      | some k_3 =>
        have hk_3 : k_3 < n := hI.2.2 _ _ s_3
        obtain ⟨ak_3, bk_3, dk_3, wk_3⟩ := hI.2.1 k_3 hk_3
        have n60 := hI.1
        try dsimp only at ak_3 bk_3 dk_3 wk_3 n60
        by_cases r_4 : 3 ≤ kd k_3 ∧ kd k_3 < 9
        · refine qc_q (r1 := some (T0 + 3 * k_3)) (σ1 := (n, kd, sz, sh, nu, pa, sl, (nI 0), tn, ts, tg)) (va_runV (As := [.int (nI j_fr)]) (rest := []) ⟨hx, hb, hml, hown, hts⟩ (kX1_rowOfThings_S l E x T0 n kd sz sh nu pa sl ((nI 0)) tn ts tg hI j_fr hj_fr k_3 hk_3 s_3 r_4) (cwV 1 hts gX1_take_X1_rowOfThings rfl rfl rfl (by decide +kernel) ⟨Nat.le_of_ble_eq_true rfl, Nat.le_of_ble_eq_true rfl⟩) (q_preV hK hX hX.1 rfl) rfl rfl hl.1 rfl (lv_room (Nat.le_of_ble_eq_true rfl)) dX1_take_24 ⟨Nat.le_of_ble_eq_true rfl, Nat.le_of_ble_eq_true rfl⟩) hS rfl rfl (fun H locs hX hS => ?_)
          try dsimp only [va_rf]
          refine lv_astore (lv' := [(4, .ref (T0 + 3 * k_3)), (0, .ref x), (1, .int (nI j_fr)), (2, .int i), (3, .int (nI j_to))]) hx hb dX1_take_27 hl (by decide) rfl (fun ls hl => ?_)
          refine lv_aload hx hb dX1_take_29 (lv_at hl 0 rfl) ?_
          refine lv_ifnonnull (tgt := 36) hx hb dX1_take_31 (by decide) ?_
          refine lv_iload_n hx hb dX1_take_36 rfl (lv_at hl 3 rfl) ?_
          refine lv_if_lt (tgt := 50) hx hb dX1_take_37 (by decide) (fun c_5 => ?_) (fun c_5 => ?_)
          · have c_5 : ∀ q, q_ix i q = none := fun q => q_ix_neg c_5
            refine lv_aload_n hx hb dX1_take_50 rfl (lv_at hl 1 rfl) ?_
            refine lv_iconst (v := nI 3) hx hb dX1_take_51 (by decide) ?_
            refine qc_i (r1 := nI 0) (σ1 := (n, kd, sz, sh, nu, pa, sl, nI 3, tn, ts, tg)) (va_runV (As := [.int (nI 3)]) (rest := []) ⟨hx, hb, hml, hown, hts⟩ (kX1_failed l E x T0 n kd sz sh nu pa sl ((nI 0)) tn ts tg hI (nI 3)) (cwV 1 hts gX1_take_X1_failed rfl rfl rfl (by decide +kernel) ⟨Nat.le_of_ble_eq_true rfl, Nat.le_of_ble_eq_true rfl⟩) (q_preV hK hX hX.1 rfl) rfl rfl hl.1 rfl (lv_room (Nat.le_of_ble_eq_true rfl)) dX1_take_52 ⟨Nat.le_of_ble_eq_true rfl, Nat.le_of_ble_eq_true rfl⟩) hS rfl rfl (fun H locs hX hS => ?_)
            have ee : f_take (n, kd, sz, sh, nu, pa, sl, ft, tn, ts, tg) (nI j_fr) i (nI j_to) = (nI 0, (n, kd, sz, sh, nu, pa, sl, nI 3, tn, ts, tg)) := by first | (simp only [f_take, ej_fr, ej_to, s_3, r_4, c_5]; done) | (simp only [f_take, ej_fr, ej_to, s_3, r_4, c_5]; rfl) | (simp [f_take, ej_fr, ej_to, s_3, r_4, c_5]; done) | (simp [f_take, ej_fr, ej_to, s_3, r_4, c_5]; rfl) | (simp only [f_take, ej_fr, ej_to, s_3, r_4, c_5]; (repeat' split) <;> first | rfl | (exfalso; omega))
            exact W.iret (v := nI 0) hx hb hr (fun t ht hW => ⟨⟨nI 0, (n, kd, sz, sh, nu, pa, sl, nI 3, tn, ts, tg), rfl, ⟨(by rw [ee]), (by rw [ee])⟩, (by show q_X E x T0 (n, kd, sz, sh, nu, pa, sl, nI 3, tn, ts, tg) t.heap; rw [ht]; exact hX)⟩, hS.F ht⟩) hS.2.2 dX1_take_55
          · refine lv_iload_n hx hb dX1_take_40 rfl (lv_at hl 3 rfl) ?_
            refine lv_aload hx hb dX1_take_41 (lv_at hl 0 rfl) ?_
            refine qw_get (v := .ref (T0 + 3 * k_3 + 2)) (ci := 0) (C := RX0) (T := TX0) (N := 6) hx hb hts nX1_take_0 hown hK (hX.2.2.1 k_3 hk_3).1 rfl 3 (by decide) (hts (.fieldLink RX1 96 "DockGates$Thing" "parts" "[LDockGates$Thing;") (by decide +kernel)) rfl rfl dX1_take_43 ?_
            refine qw_tlen (n := q_pl (kd k_3) (sz k_3)) hx hb hK (hX.2.2.1 k_3 hk_3).2.2 dX1_take_46 ?_
            rw [q_pl39 (show 3 ≤ kd k_3 by omega) (show kd k_3 < 9 by omega)]
            refine lv_icmp_lt (tgt := 56) hx hb dX1_take_47 (by decide) (fun c_6 => ?_) (fun c_6 => ?_)
            · obtain ⟨j_i, hj_i, rfl⟩ := q_ix_of2 (by omega) c_5 c_6
              have ej_i := q_ix_in hj_i (by omega)
              refine lv_aload_n hx hb dX1_take_56 rfl (lv_at hl 1 rfl) ?_
              refine qw_get (v := .ref (x + 1)) (ci := 1) (C := RX1) (T := TX1) (N := 6) hx hb hts nX1_take_1 hown hK hX.1 rfl 0 (by decide) (hts (.fieldLink RX1 11 "DockGates" "slots" "[LDockGates$Thing;") (by decide +kernel)) rfl rfl dX1_take_57 ?_
              refine lv_iload_n hx hb dX1_take_60 rfl (lv_at hl 4 rfl) ?_
              refine lv_aload hx hb dX1_take_61 (lv_at hl 0 rfl) ?_
              refine qw_get (v := .ref (T0 + 3 * k_3 + 2)) (ci := 0) (C := RX0) (T := TX0) (N := 6) hx hb hts nX1_take_0 hown hK (hX.2.2.1 k_3 hk_3).1 rfl 3 (by decide) (hts (.fieldLink RX1 96 "DockGates$Thing" "parts" "[LDockGates$Thing;") (by decide +kernel)) rfl rfl dX1_take_63 ?_
              refine lv_iload_n hx hb dX1_take_66 rfl (lv_at hl 3 rfl) ?_
              refine qx_part hx hb hK hX hI hk_3 (show j_i < q_pl (kd k_3) (sz k_3) by rw [q_pl39 (by omega) (by omega)]; omega) dX1_take_67 (fun s_7 => ?_) (fun y_7 hy_7 oy_7 s_7 => ?_)
              · try dsimp only at s_7
                refine qw_aastN (A := q_Ax x T0) hx hb hK hX.2.1 hS (Or.inr (Or.inl rfl)) hj_to (by decide) dX1_take_68 (fun H locs hO hz hq hS => ?_)
                have hX : q_X E x T0 (n, kd, sz, sh, nu, pa, (va_up sl j_to none), (nI 0), tn, ts, tg) H := hX.slot none hO hz hq
                have u_8 : va_up sl j_to none j_to = none := va_up_self _ _ _
                have hI : q_I (n, kd, sz, sh, nu, pa, (va_up sl j_to none), (nI 0), tn, ts, tg) := hI.slot _ (fun k h => by cases h)
                refine lv_aload_n hx hb dX1_take_69 rfl (lv_at hl 1 rfl) ?_
                refine qw_get (v := .ref (x + 1)) (ci := 1) (C := RX1) (T := TX1) (N := 6) hx hb hts nX1_take_1 hown hK hX.1 rfl 0 (by decide) (hts (.fieldLink RX1 11 "DockGates" "slots" "[LDockGates$Thing;") (by decide +kernel)) rfl rfl dX1_take_70 ?_
                refine lv_iload_n hx hb dX1_take_73 rfl (lv_at hl 4 rfl) ?_
                refine qx_slotN hx hb hK hX u_8 hj_to dX1_take_74 ?_
                refine qc_ri (r1 := ((-1))) (W.runS (As := [.null]) (rest := []) ⟨hx, hb, hml, hown, hts⟩ (kX1_numberOf_N l E x T0 n kd sz sh nu pa ((va_up sl j_to none)) ((nI 0)) tn ts tg hI) (va_cwS 1 hts gX1_take_X1_numberOf rfl rfl rfl (by decide +kernel) ⟨Nat.le_of_ble_eq_true rfl, Nat.le_of_ble_eq_true rfl⟩) (q_pre hK hX) rfl rfl hl.1 rfl (lv_room (Nat.le_of_ble_eq_true rfl)) dX1_take_75 ⟨Nat.le_of_ble_eq_true rfl, Nat.le_of_ble_eq_true rfl⟩) rfl ?_
                have ee : f_take (n, kd, sz, sh, nu, pa, sl, ft, tn, ts, tg) (nI j_fr) (nI j_i) (nI j_to) = (((-1)), (n, kd, sz, sh, nu, pa, (va_up sl j_to none), (nI 0), tn, ts, tg)) := by first | (simp only [f_take, ej_fr, ej_to, s_3, r_4, ej_i, s_7]; done) | (simp only [f_take, ej_fr, ej_to, s_3, r_4, ej_i, s_7]; rfl) | (simp [f_take, ej_fr, ej_to, s_3, r_4, ej_i, s_7]; done) | (simp [f_take, ej_fr, ej_to, s_3, r_4, ej_i, s_7]; rfl) | (simp only [f_take, ej_fr, ej_to, s_3, r_4, ej_i, s_7]; (repeat' split) <;> first | rfl | (exfalso; omega))
                exact W.iret (v := ((-1))) hx hb hr (fun t ht hW => ⟨⟨((-1)), (n, kd, sz, sh, nu, pa, (va_up sl j_to none), (nI 0), tn, ts, tg), rfl, ⟨(by rw [ee]), (by rw [ee])⟩, (by show q_X E x T0 (n, kd, sz, sh, nu, pa, (va_up sl j_to none), (nI 0), tn, ts, tg) t.heap; rw [ht]; exact hX)⟩, hS.F ht⟩) hS.2.2 dX1_take_78
              · try dsimp only at s_7 hy_7
                refine qw_aast (A := q_Ax x T0) hx hb hK hX.2.1 (hX.2.2.1 y_7 hy_7).1 hS (Or.inr (Or.inl rfl)) hj_to (by decide) dX1_take_68 (fun H locs hO hz hq hS => ?_)
                have hX : q_X E x T0 (n, kd, sz, sh, nu, pa, (va_up sl j_to (some y_7)), (nI 0), tn, ts, tg) H := hX.slot (some y_7) hO hz hq
                have u_9 : va_up sl j_to (some y_7) j_to = (some y_7) := va_up_self _ _ _
                have hI : q_I (n, kd, sz, sh, nu, pa, (va_up sl j_to (some y_7)), (nI 0), tn, ts, tg) := hI.slot _ (fun k h => by cases h; exact hy_7)
                refine lv_aload_n hx hb dX1_take_69 rfl (lv_at hl 1 rfl) ?_
                refine qw_get (v := .ref (x + 1)) (ci := 1) (C := RX1) (T := TX1) (N := 6) hx hb hts nX1_take_1 hown hK hX.1 rfl 0 (by decide) (hts (.fieldLink RX1 11 "DockGates" "slots" "[LDockGates$Thing;") (by decide +kernel)) rfl rfl dX1_take_70 ?_
                refine lv_iload_n hx hb dX1_take_73 rfl (lv_at hl 4 rfl) ?_
                refine qx_slotS hx hb hK hX u_9 hj_to dX1_take_74 ?_
                refine qc_ri (r1 := nI y_7) (W.runS (As := [.ref (T0 + 3 * y_7)]) (rest := []) ⟨hx, hb, hml, hown, hts⟩ (kX1_numberOf_S l E x T0 n kd sz sh nu pa ((va_up sl j_to (some y_7))) ((nI 0)) tn ts tg hI y_7 hy_7) (va_cwS 1 hts gX1_take_X1_numberOf rfl rfl rfl (by decide +kernel) ⟨Nat.le_of_ble_eq_true rfl, Nat.le_of_ble_eq_true rfl⟩) (q_pre hK hX) rfl rfl hl.1 rfl (lv_room (Nat.le_of_ble_eq_true rfl)) dX1_take_75 ⟨Nat.le_of_ble_eq_true rfl, Nat.le_of_ble_eq_true rfl⟩) rfl ?_
                have ee : f_take (n, kd, sz, sh, nu, pa, sl, ft, tn, ts, tg) (nI j_fr) (nI j_i) (nI j_to) = (nI y_7, (n, kd, sz, sh, nu, pa, (va_up sl j_to (some y_7)), (nI 0), tn, ts, tg)) := by first | (simp only [f_take, ej_fr, ej_to, s_3, r_4, ej_i, s_7]; done) | (simp only [f_take, ej_fr, ej_to, s_3, r_4, ej_i, s_7]; rfl) | (simp [f_take, ej_fr, ej_to, s_3, r_4, ej_i, s_7]; done) | (simp [f_take, ej_fr, ej_to, s_3, r_4, ej_i, s_7]; rfl) | (simp only [f_take, ej_fr, ej_to, s_3, r_4, ej_i, s_7]; (repeat' split) <;> first | rfl | (exfalso; omega))
                exact W.iret (v := nI y_7) hx hb hr (fun t ht hW => ⟨⟨nI y_7, (n, kd, sz, sh, nu, pa, (va_up sl j_to (some y_7)), (nI 0), tn, ts, tg), rfl, ⟨(by rw [ee]), (by rw [ee])⟩, (by show q_X E x T0 (n, kd, sz, sh, nu, pa, (va_up sl j_to (some y_7)), (nI 0), tn, ts, tg) t.heap; rw [ht]; exact hX)⟩, hS.F ht⟩) hS.2.2 dX1_take_78
            · have c_6 := q_ix_nlt (by omega) c_6
              refine lv_aload_n hx hb dX1_take_50 rfl (lv_at hl 1 rfl) ?_
              refine lv_iconst (v := nI 3) hx hb dX1_take_51 (by decide) ?_
              refine qc_i (r1 := nI 0) (σ1 := (n, kd, sz, sh, nu, pa, sl, nI 3, tn, ts, tg)) (va_runV (As := [.int (nI 3)]) (rest := []) ⟨hx, hb, hml, hown, hts⟩ (kX1_failed l E x T0 n kd sz sh nu pa sl ((nI 0)) tn ts tg hI (nI 3)) (cwV 1 hts gX1_take_X1_failed rfl rfl rfl (by decide +kernel) ⟨Nat.le_of_ble_eq_true rfl, Nat.le_of_ble_eq_true rfl⟩) (q_preV hK hX hX.1 rfl) rfl rfl hl.1 rfl (lv_room (Nat.le_of_ble_eq_true rfl)) dX1_take_52 ⟨Nat.le_of_ble_eq_true rfl, Nat.le_of_ble_eq_true rfl⟩) hS rfl rfl (fun H locs hX hS => ?_)
              have ee : f_take (n, kd, sz, sh, nu, pa, sl, ft, tn, ts, tg) (nI j_fr) i (nI j_to) = (nI 0, (n, kd, sz, sh, nu, pa, sl, nI 3, tn, ts, tg)) := by first | (simp only [f_take, ej_fr, ej_to, s_3, r_4, c_6]; done) | (simp only [f_take, ej_fr, ej_to, s_3, r_4, c_6]; rfl) | (simp [f_take, ej_fr, ej_to, s_3, r_4, c_6]; done) | (simp [f_take, ej_fr, ej_to, s_3, r_4, c_6]; rfl) | (simp only [f_take, ej_fr, ej_to, s_3, r_4, c_6]; (repeat' split) <;> first | rfl | (exfalso; omega))
              exact W.iret (v := nI 0) hx hb hr (fun t ht hW => ⟨⟨nI 0, (n, kd, sz, sh, nu, pa, sl, nI 3, tn, ts, tg), rfl, ⟨(by rw [ee]), (by rw [ee])⟩, (by show q_X E x T0 (n, kd, sz, sh, nu, pa, sl, nI 3, tn, ts, tg) t.heap; rw [ht]; exact hX)⟩, hS.F ht⟩) hS.2.2 dX1_take_55
        · refine qc_q (r1 := none) (σ1 := (n, kd, sz, sh, nu, pa, sl, nI 1, (tn + 1), nI j_fr, nI 6)) (va_runV (As := [.int (nI j_fr)]) (rest := []) ⟨hx, hb, hml, hown, hts⟩ (kX1_rowOfThings_T l E x T0 n kd sz sh nu pa sl ((nI 0)) tn ts tg hI j_fr hj_fr k_3 hk_3 s_3 r_4) (cwV 1 hts gX1_take_X1_rowOfThings rfl rfl rfl (by decide +kernel) ⟨Nat.le_of_ble_eq_true rfl, Nat.le_of_ble_eq_true rfl⟩) (q_preV hK hX hX.1 rfl) rfl rfl hl.1 rfl (lv_room (Nat.le_of_ble_eq_true rfl)) dX1_take_24 ⟨Nat.le_of_ble_eq_true rfl, Nat.le_of_ble_eq_true rfl⟩) hS rfl rfl (fun H locs hX hS => ?_)
          try dsimp only [va_rf]
          refine lv_astoreN (lv' := [(4, .null), (0, .ref x), (1, .int (nI j_fr)), (2, .int i), (3, .int (nI j_to))]) hx hb dX1_take_27 hl (by decide) rfl (fun ls hl => ?_)
          refine lv_aloadN hx hb dX1_take_29 (lv_at hl 0 rfl) ?_
          refine lv_ifnonnullN hx hb dX1_take_31 ?_
          refine lv_iconst (v := nI 0) hx hb dX1_take_34 (by decide) ?_
          have ee : f_take (n, kd, sz, sh, nu, pa, sl, ft, tn, ts, tg) (nI j_fr) i (nI j_to) = (nI 0, (n, kd, sz, sh, nu, pa, sl, nI 1, (tn + 1), nI j_fr, nI 6)) := by first | (simp only [f_take, ej_fr, ej_to, s_3, r_4]; done) | (simp only [f_take, ej_fr, ej_to, s_3, r_4]; rfl) | (simp [f_take, ej_fr, ej_to, s_3, r_4]; done) | (simp [f_take, ej_fr, ej_to, s_3, r_4]; rfl) | (simp only [f_take, ej_fr, ej_to, s_3, r_4]; (repeat' split) <;> first | rfl | (exfalso; omega))
          exact W.iret (v := nI 0) hx hb hr (fun t ht hW => ⟨⟨nI 0, (n, kd, sz, sh, nu, pa, sl, nI 1, (tn + 1), nI j_fr, nI 6), rfl, ⟨(by rw [ee]), (by rw [ee])⟩, (by show q_X E x T0 (n, kd, sz, sh, nu, pa, sl, nI 1, (tn + 1), nI j_fr, nI 6) t.heap; rw [ht]; exact hX)⟩, hS.F ht⟩) hS.2.2 dX1_take_35
    · have c_2 := q_isn c_2
      refine lv_bipush (v := (-2)) hx hb dX1_take_19 (by decide) ?_
      have ee : f_take (n, kd, sz, sh, nu, pa, sl, ft, tn, ts, tg) (nI j_fr) i to = (((-2)), (n, kd, sz, sh, nu, pa, sl, (nI 0), tn, ts, tg)) := by first | (simp only [f_take, ej_fr, c_2]; done) | (simp only [f_take, ej_fr, c_2]; rfl) | (simp [f_take, ej_fr, c_2]; done) | (simp [f_take, ej_fr, c_2]; rfl) | (simp only [f_take, ej_fr, c_2]; (repeat' split) <;> first | rfl | (exfalso; omega))
      exact W.iret (v := ((-2))) hx hb hr (fun t ht hW => ⟨⟨((-2)), (n, kd, sz, sh, nu, pa, sl, (nI 0), tn, ts, tg), rfl, ⟨(by rw [ee]), (by rw [ee])⟩, (by show q_X E x T0 (n, kd, sz, sh, nu, pa, sl, (nI 0), tn, ts, tg) t.heap; rw [ht]; exact hX)⟩, hS.F ht⟩) hS.2.2 dX1_take_21
set_option maxRecDepth 20000 in
theorem nX1_share_1 : ∀ w ∈ u_ws RX1 TX1 6, w ∈ wsX1_share := by decide +kernel
set_option maxHeartbeats 4000000 in
set_option maxRecDepth 100000 in
theorem kX1_share (l : Launch) (E : q_E) (x T0 : Nat) (n : Nat) (kd sz : Nat → Nat) (sh : Nat → Bool) (nu : Nat → Nat → Int64) (pa : Nat → Nat → Option Nat) (sl : Nat → Option Nat) (ft tn ts tg : Int32) (hI : q_I (n, kd, sz, sh, nu, pa, sl, ft, tn, ts, tg)) (fr to : Int32)  : Met l yX1_share wsX1_share ({ frames := 1, cells := 0, slots := 0, locals := 20 }) (q_P E (q_X E x T0 (n, kd, sz, sh, nu, pa, sl, ft, tn, ts, tg)) [.ref x, .int fr, .int to]) (q_Wi (q_X E x T0) (q_Ax x T0) ((f_share (n, kd, sz, sh, nu, pa, sl, ft, tn, ts, tg) fr to).1) (f_share (n, kd, sz, sh, nu, pa, sl, ft, tn, ts, tg) fr to).2) 0 0 (q_Ax x T0) := by
  refine Met.ofW (cc := cX1_share) (maxL := 3) (ret := (some .int)) (by decide) rfl ?_
  intro p e s m args below meth c s₁ B hml hv
  obtain ⟨rfl, hK, hX⟩ := hv
  have hx := B.exec
  have hb := B.bytes
  have hr := B.returns
  have hts := atoms_spec (ws := wsX1_share) B.pre
  have hown : s.vm.findClass RX1 = some m.cls := findClass_of_methodNamed B.named
  have hlocks := B.notSynchronized
  have hl := lv_entry ([.ref x, .int fr, .int to]) (n := 3) (Nat.le_of_ble_eq_true rfl)
  rw [lg_entry_eq]
  generalize (lg_sl ([.ref x, .int fr, .int to]) ++ List.replicate (3 - (lg_sl ([.ref x, .int fr, .int to])).length) Slot.unset).toArray = ls at hl ⊢
  have hl : lv_has ls 3 [(0, .ref x), (1, .int fr), (2, .int to)] := hl
  have hS : va_S (q_Ax x T0) s.heap s.heap [] := va_S.rf
  refine lv_aload_n hx hb dX1_share_0 rfl (lv_at hl 0 rfl) ?_
  refine lv_iconst (v := nI 0) hx hb dX1_share_1 (by decide) ?_
  refine qw_put (ci := 1) (C := RX1) (T := TX1) (N := 6) hx hb hts nX1_share_1 tyX1 tyX1_ok nmX1 hown hK hX.1 hS (Or.inl rfl) rfl 2 (by decide) (hts (.fieldLink RX1 19 "DockGates" "latestFault" "I") (by decide +kernel)) rfl rfl rfl rfl (Nat.le_of_ble_eq_true rfl) dX1_share_2 (fun H locs hO hz hq hS => ?_)
  have hX : q_X E x T0 (n, kd, sz, sh, nu, pa, sl, (nI 0), tn, ts, tg) H := hX.obj hO hz hq
  refine lv_iload_n hx hb dX1_share_5 rfl (lv_at hl 1 rfl) ?_
  refine qc_ri (r1 := q_b ((q_ix fr 12).isSome)) (W.runS (As := [.int fr]) (rest := []) ⟨hx, hb, hml, hown, hts⟩ (kX1_isSlot l fr) (va_cwS 1 hts gX1_share_X1_isSlot rfl rfl rfl (by decide +kernel) ⟨Nat.le_of_ble_eq_true rfl, Nat.le_of_ble_eq_true rfl⟩) preEq rfl rfl hl.1 rfl (lv_room (Nat.le_of_ble_eq_true rfl)) dX1_share_6 ⟨Nat.le_of_ble_eq_true rfl, Nat.le_of_ble_eq_true rfl⟩) rfl ?_
  refine ln_b_eq (tgt := 19) hx hb dX1_share_9 (by decide) (fun c_1 => ?_) (fun c_1 => ?_)
  · have c_1 := q_isn c_1
    refine lv_bipush (v := (-2)) hx hb dX1_share_19 (by decide) ?_
    have ee : f_share (n, kd, sz, sh, nu, pa, sl, ft, tn, ts, tg) fr to = (((-2)), (n, kd, sz, sh, nu, pa, sl, (nI 0), tn, ts, tg)) := by first | (simp only [f_share, c_1]; done) | (simp only [f_share, c_1]; rfl) | (simp [f_share, c_1]; done) | (simp [f_share, c_1]; rfl) | (simp only [f_share, c_1]; (repeat' split) <;> first | rfl | (exfalso; omega))
    exact W.iret (v := ((-2))) hx hb hr (fun t ht hW => ⟨⟨((-2)), (n, kd, sz, sh, nu, pa, sl, (nI 0), tn, ts, tg), rfl, ⟨(by rw [ee]), (by rw [ee])⟩, (by show q_X E x T0 (n, kd, sz, sh, nu, pa, sl, (nI 0), tn, ts, tg) t.heap; rw [ht]; exact hX)⟩, hS.F ht⟩) hS.2.2 dX1_share_21
  · obtain ⟨j_fr, hj_fr, rfl⟩ := q_is (by first | decide | omega) c_1
    have ej_fr := q_ix_in hj_fr (by first | decide | omega)
    refine lv_iload_n hx hb dX1_share_12 rfl (lv_at hl 2 rfl) ?_
    refine qc_ri (r1 := q_b ((q_ix to 12).isSome)) (W.runS (As := [.int to]) (rest := []) ⟨hx, hb, hml, hown, hts⟩ (kX1_isSlot l to) (va_cwS 1 hts gX1_share_X1_isSlot rfl rfl rfl (by decide +kernel) ⟨Nat.le_of_ble_eq_true rfl, Nat.le_of_ble_eq_true rfl⟩) preEq rfl rfl hl.1 rfl (lv_room (Nat.le_of_ble_eq_true rfl)) dX1_share_13 ⟨Nat.le_of_ble_eq_true rfl, Nat.le_of_ble_eq_true rfl⟩) rfl ?_
    refine ln_b_ne (tgt := 22) hx hb dX1_share_16 (by decide) (fun c_2 => ?_) (fun c_2 => ?_)
    · obtain ⟨j_to, hj_to, rfl⟩ := q_is (by first | decide | omega) c_2
      have ej_to := q_ix_in hj_to (by first | decide | omega)
      refine lv_aload_n hx hb dX1_share_22 rfl (lv_at hl 0 rfl) ?_
      refine qw_get (v := .ref (x + 1)) (ci := 1) (C := RX1) (T := TX1) (N := 6) hx hb hts nX1_share_1 hown hK hX.1 rfl 0 (by decide) (hts (.fieldLink RX1 11 "DockGates" "slots" "[LDockGates$Thing;") (by decide +kernel)) rfl rfl dX1_share_23 ?_
      refine lv_iload_n hx hb dX1_share_26 rfl (lv_at hl 2 rfl) ?_
      refine lv_aload_n hx hb dX1_share_27 rfl (lv_at hl 0 rfl) ?_
      refine qw_get (v := .ref (x + 1)) (ci := 1) (C := RX1) (T := TX1) (N := 6) hx hb hts nX1_share_1 hown hK hX.1 rfl 0 (by decide) (hts (.fieldLink RX1 11 "DockGates" "slots" "[LDockGates$Thing;") (by decide +kernel)) rfl rfl dX1_share_28 ?_
      refine lv_iload_n hx hb dX1_share_31 rfl (lv_at hl 1 rfl) ?_
      refine qx_slot hx hb hK hX hI hj_fr dX1_share_32 (fun s_3 => ?_) (fun k_3 hk_3 s_3 => ?_)
      · try dsimp only at s_3
        refine qw_aastN (A := q_Ax x T0) hx hb hK hX.2.1 hS (Or.inr (Or.inl rfl)) hj_to (by decide) dX1_share_33 (fun H locs hO hz hq hS => ?_)
        have hX : q_X E x T0 (n, kd, sz, sh, nu, pa, (va_up sl j_to none), (nI 0), tn, ts, tg) H := hX.slot none hO hz hq
        have u_4 : va_up sl j_to none j_to = none := va_up_self _ _ _
        have hI : q_I (n, kd, sz, sh, nu, pa, (va_up sl j_to none), (nI 0), tn, ts, tg) := hI.slot _ (fun k h => by cases h)
        refine lv_aload_n hx hb dX1_share_34 rfl (lv_at hl 0 rfl) ?_
        refine qw_get (v := .ref (x + 1)) (ci := 1) (C := RX1) (T := TX1) (N := 6) hx hb hts nX1_share_1 hown hK hX.1 rfl 0 (by decide) (hts (.fieldLink RX1 11 "DockGates" "slots" "[LDockGates$Thing;") (by decide +kernel)) rfl rfl dX1_share_35 ?_
        refine lv_iload_n hx hb dX1_share_38 rfl (lv_at hl 2 rfl) ?_
        refine qx_slotN hx hb hK hX u_4 hj_to dX1_share_39 ?_
        refine qc_ri (r1 := ((-1))) (W.runS (As := [.null]) (rest := []) ⟨hx, hb, hml, hown, hts⟩ (kX1_numberOf_N l E x T0 n kd sz sh nu pa ((va_up sl j_to none)) ((nI 0)) tn ts tg hI) (va_cwS 1 hts gX1_share_X1_numberOf rfl rfl rfl (by decide +kernel) ⟨Nat.le_of_ble_eq_true rfl, Nat.le_of_ble_eq_true rfl⟩) (q_pre hK hX) rfl rfl hl.1 rfl (lv_room (Nat.le_of_ble_eq_true rfl)) dX1_share_40 ⟨Nat.le_of_ble_eq_true rfl, Nat.le_of_ble_eq_true rfl⟩) rfl ?_
        have ee : f_share (n, kd, sz, sh, nu, pa, sl, ft, tn, ts, tg) (nI j_fr) (nI j_to) = (((-1)), (n, kd, sz, sh, nu, pa, (va_up sl j_to none), (nI 0), tn, ts, tg)) := by first | (simp only [f_share, ej_fr, ej_to, s_3]; done) | (simp only [f_share, ej_fr, ej_to, s_3]; rfl) | (simp [f_share, ej_fr, ej_to, s_3]; done) | (simp [f_share, ej_fr, ej_to, s_3]; rfl) | (simp only [f_share, ej_fr, ej_to, s_3]; (repeat' split) <;> first | rfl | (exfalso; omega))
        exact W.iret (v := ((-1))) hx hb hr (fun t ht hW => ⟨⟨((-1)), (n, kd, sz, sh, nu, pa, (va_up sl j_to none), (nI 0), tn, ts, tg), rfl, ⟨(by rw [ee]), (by rw [ee])⟩, (by show q_X E x T0 (n, kd, sz, sh, nu, pa, (va_up sl j_to none), (nI 0), tn, ts, tg) t.heap; rw [ht]; exact hX)⟩, hS.F ht⟩) hS.2.2 dX1_share_43
      · try dsimp only at s_3 hk_3
        obtain ⟨ak_3, bk_3, dk_3, wk_3⟩ := hI.2.1 k_3 hk_3
        have n60 := hI.1
        try dsimp only at ak_3 bk_3 dk_3 wk_3 n60
        refine qw_aast (A := q_Ax x T0) hx hb hK hX.2.1 (hX.2.2.1 k_3 hk_3).1 hS (Or.inr (Or.inl rfl)) hj_to (by decide) dX1_share_33 (fun H locs hO hz hq hS => ?_)
        have hX : q_X E x T0 (n, kd, sz, sh, nu, pa, (va_up sl j_to (some k_3)), (nI 0), tn, ts, tg) H := hX.slot (some k_3) hO hz hq
        have u_5 : va_up sl j_to (some k_3) j_to = (some k_3) := va_up_self _ _ _
        have hI : q_I (n, kd, sz, sh, nu, pa, (va_up sl j_to (some k_3)), (nI 0), tn, ts, tg) := hI.slot _ (fun k h => by cases h; exact hk_3)
        refine lv_aload_n hx hb dX1_share_34 rfl (lv_at hl 0 rfl) ?_
        refine qw_get (v := .ref (x + 1)) (ci := 1) (C := RX1) (T := TX1) (N := 6) hx hb hts nX1_share_1 hown hK hX.1 rfl 0 (by decide) (hts (.fieldLink RX1 11 "DockGates" "slots" "[LDockGates$Thing;") (by decide +kernel)) rfl rfl dX1_share_35 ?_
        refine lv_iload_n hx hb dX1_share_38 rfl (lv_at hl 2 rfl) ?_
        refine qx_slotS hx hb hK hX u_5 hj_to dX1_share_39 ?_
        refine qc_ri (r1 := nI k_3) (W.runS (As := [.ref (T0 + 3 * k_3)]) (rest := []) ⟨hx, hb, hml, hown, hts⟩ (kX1_numberOf_S l E x T0 n kd sz sh nu pa ((va_up sl j_to (some k_3))) ((nI 0)) tn ts tg hI k_3 hk_3) (va_cwS 1 hts gX1_share_X1_numberOf rfl rfl rfl (by decide +kernel) ⟨Nat.le_of_ble_eq_true rfl, Nat.le_of_ble_eq_true rfl⟩) (q_pre hK hX) rfl rfl hl.1 rfl (lv_room (Nat.le_of_ble_eq_true rfl)) dX1_share_40 ⟨Nat.le_of_ble_eq_true rfl, Nat.le_of_ble_eq_true rfl⟩) rfl ?_
        have ee : f_share (n, kd, sz, sh, nu, pa, sl, ft, tn, ts, tg) (nI j_fr) (nI j_to) = (nI k_3, (n, kd, sz, sh, nu, pa, (va_up sl j_to (some k_3)), (nI 0), tn, ts, tg)) := by first | (simp only [f_share, ej_fr, ej_to, s_3]; done) | (simp only [f_share, ej_fr, ej_to, s_3]; rfl) | (simp [f_share, ej_fr, ej_to, s_3]; done) | (simp [f_share, ej_fr, ej_to, s_3]; rfl) | (simp only [f_share, ej_fr, ej_to, s_3]; (repeat' split) <;> first | rfl | (exfalso; omega))
        exact W.iret (v := nI k_3) hx hb hr (fun t ht hW => ⟨⟨nI k_3, (n, kd, sz, sh, nu, pa, (va_up sl j_to (some k_3)), (nI 0), tn, ts, tg), rfl, ⟨(by rw [ee]), (by rw [ee])⟩, (by show q_X E x T0 (n, kd, sz, sh, nu, pa, (va_up sl j_to (some k_3)), (nI 0), tn, ts, tg) t.heap; rw [ht]; exact hX)⟩, hS.F ht⟩) hS.2.2 dX1_share_43
    · have c_2 := q_isn c_2
      refine lv_bipush (v := (-2)) hx hb dX1_share_19 (by decide) ?_
      have ee : f_share (n, kd, sz, sh, nu, pa, sl, ft, tn, ts, tg) (nI j_fr) to = (((-2)), (n, kd, sz, sh, nu, pa, sl, (nI 0), tn, ts, tg)) := by first | (simp only [f_share, ej_fr, c_2]; done) | (simp only [f_share, ej_fr, c_2]; rfl) | (simp [f_share, ej_fr, c_2]; done) | (simp [f_share, ej_fr, c_2]; rfl) | (simp only [f_share, ej_fr, c_2]; (repeat' split) <;> first | rfl | (exfalso; omega))
      exact W.iret (v := ((-2))) hx hb hr (fun t ht hW => ⟨⟨((-2)), (n, kd, sz, sh, nu, pa, sl, (nI 0), tn, ts, tg), rfl, ⟨(by rw [ee]), (by rw [ee])⟩, (by show q_X E x T0 (n, kd, sz, sh, nu, pa, sl, (nI 0), tn, ts, tg) t.heap; rw [ht]; exact hX)⟩, hS.F ht⟩) hS.2.2 dX1_share_21
set_option maxRecDepth 20000 in
theorem nX1_empty_1 : ∀ w ∈ u_ws RX1 TX1 6, w ∈ wsX1_empty := by decide +kernel
set_option maxHeartbeats 4000000 in
set_option maxRecDepth 100000 in
theorem kX1_empty (l : Launch) (E : q_E) (x T0 : Nat) (n : Nat) (kd sz : Nat → Nat) (sh : Nat → Bool) (nu : Nat → Nat → Int64) (pa : Nat → Nat → Option Nat) (sl : Nat → Option Nat) (ft tn ts tg : Int32) (hI : q_I (n, kd, sz, sh, nu, pa, sl, ft, tn, ts, tg)) (slot : Int32)  : Met l yX1_empty wsX1_empty ({ frames := 1, cells := 0, slots := 0, locals := 20 }) (q_P E (q_X E x T0 (n, kd, sz, sh, nu, pa, sl, ft, tn, ts, tg)) [.ref x, .int slot]) (q_Wi (q_X E x T0) (q_Ax x T0) ((f_empty (n, kd, sz, sh, nu, pa, sl, ft, tn, ts, tg) slot).1) (f_empty (n, kd, sz, sh, nu, pa, sl, ft, tn, ts, tg) slot).2) 0 0 (q_Ax x T0) := by
  refine Met.ofW (cc := cX1_empty) (maxL := 3) (ret := (some .int)) (by decide) rfl ?_
  intro p e s m args below meth c s₁ B hml hv
  obtain ⟨rfl, hK, hX⟩ := hv
  have hx := B.exec
  have hb := B.bytes
  have hr := B.returns
  have hts := atoms_spec (ws := wsX1_empty) B.pre
  have hown : s.vm.findClass RX1 = some m.cls := findClass_of_methodNamed B.named
  have hlocks := B.notSynchronized
  have hl := lv_entry ([.ref x, .int slot]) (n := 3) (Nat.le_of_ble_eq_true rfl)
  rw [lg_entry_eq]
  generalize (lg_sl ([.ref x, .int slot]) ++ List.replicate (3 - (lg_sl ([.ref x, .int slot])).length) Slot.unset).toArray = ls at hl ⊢
  have hl : lv_has ls 3 [(0, .ref x), (1, .int slot)] := hl
  have hS : va_S (q_Ax x T0) s.heap s.heap [] := va_S.rf
  refine lv_aload_n hx hb dX1_empty_0 rfl (lv_at hl 0 rfl) ?_
  refine lv_iconst (v := nI 0) hx hb dX1_empty_1 (by decide) ?_
  refine qw_put (ci := 1) (C := RX1) (T := TX1) (N := 6) hx hb hts nX1_empty_1 tyX1 tyX1_ok nmX1 hown hK hX.1 hS (Or.inl rfl) rfl 2 (by decide) (hts (.fieldLink RX1 19 "DockGates" "latestFault" "I") (by decide +kernel)) rfl rfl rfl rfl (Nat.le_of_ble_eq_true rfl) dX1_empty_2 (fun H locs hO hz hq hS => ?_)
  have hX : q_X E x T0 (n, kd, sz, sh, nu, pa, sl, (nI 0), tn, ts, tg) H := hX.obj hO hz hq
  refine lv_iload_n hx hb dX1_empty_5 rfl (lv_at hl 1 rfl) ?_
  refine qc_ri (r1 := q_b ((q_ix slot 12).isSome)) (W.runS (As := [.int slot]) (rest := []) ⟨hx, hb, hml, hown, hts⟩ (kX1_isSlot l slot) (va_cwS 1 hts gX1_empty_X1_isSlot rfl rfl rfl (by decide +kernel) ⟨Nat.le_of_ble_eq_true rfl, Nat.le_of_ble_eq_true rfl⟩) preEq rfl rfl hl.1 rfl (lv_room (Nat.le_of_ble_eq_true rfl)) dX1_empty_6 ⟨Nat.le_of_ble_eq_true rfl, Nat.le_of_ble_eq_true rfl⟩) rfl ?_
  refine ln_b_ne (tgt := 15) hx hb dX1_empty_9 (by decide) (fun c_1 => ?_) (fun c_1 => ?_)
  · obtain ⟨j_slot, hj_slot, rfl⟩ := q_is (by first | decide | omega) c_1
    have ej_slot := q_ix_in hj_slot (by first | decide | omega)
    refine lv_aload_n hx hb dX1_empty_15 rfl (lv_at hl 0 rfl) ?_
    refine qw_get (v := .ref (x + 1)) (ci := 1) (C := RX1) (T := TX1) (N := 6) hx hb hts nX1_empty_1 hown hK hX.1 rfl 0 (by decide) (hts (.fieldLink RX1 11 "DockGates" "slots" "[LDockGates$Thing;") (by decide +kernel)) rfl rfl dX1_empty_16 ?_
    refine lv_iload_n hx hb dX1_empty_19 rfl (lv_at hl 1 rfl) ?_
    refine qx_slot hx hb hK hX hI hj_slot dX1_empty_20 (fun s_2 => ?_) (fun k_2 hk_2 s_2 => ?_)
    · try dsimp only at s_2
      refine qc_ri (r1 := ((-1))) (W.runS (As := [.null]) (rest := []) ⟨hx, hb, hml, hown, hts⟩ (kX1_numberOf_N l E x T0 n kd sz sh nu pa sl ((nI 0)) tn ts tg hI) (va_cwS 1 hts gX1_empty_X1_numberOf rfl rfl rfl (by decide +kernel) ⟨Nat.le_of_ble_eq_true rfl, Nat.le_of_ble_eq_true rfl⟩) (q_pre hK hX) rfl rfl hl.1 rfl (lv_room (Nat.le_of_ble_eq_true rfl)) dX1_empty_21 ⟨Nat.le_of_ble_eq_true rfl, Nat.le_of_ble_eq_true rfl⟩) rfl ?_
      refine lv_istore_n (lv' := [(2, .int ((-1))), (0, .ref x), (1, .int (nI j_slot))]) hx hb dX1_empty_24 rfl hl (by decide) rfl (fun ls hl => ?_)
      refine lv_aload_n hx hb dX1_empty_25 rfl (lv_at hl 1 rfl) ?_
      refine qw_get (v := .ref (x + 1)) (ci := 1) (C := RX1) (T := TX1) (N := 6) hx hb hts nX1_empty_1 hown hK hX.1 rfl 0 (by decide) (hts (.fieldLink RX1 11 "DockGates" "slots" "[LDockGates$Thing;") (by decide +kernel)) rfl rfl dX1_empty_26 ?_
      refine lv_iload_n hx hb dX1_empty_29 rfl (lv_at hl 2 rfl) ?_
      refine lv_null hx hb dX1_empty_30 ?_
      refine qw_aastN (A := q_Ax x T0) hx hb hK hX.2.1 hS (Or.inr (Or.inl rfl)) hj_slot (by decide) dX1_empty_31 (fun H locs hO hz hq hS => ?_)
      have hX : q_X E x T0 (n, kd, sz, sh, nu, pa, (va_up sl j_slot none), (nI 0), tn, ts, tg) H := hX.slot none hO hz hq
      have u_3 : va_up sl j_slot none j_slot = none := va_up_self _ _ _
      have hI : q_I (n, kd, sz, sh, nu, pa, (va_up sl j_slot none), (nI 0), tn, ts, tg) := hI.slot _ (fun k h => by cases h)
      refine lv_iload_n hx hb dX1_empty_32 rfl (lv_at hl 0 rfl) ?_
      have ee : f_empty (n, kd, sz, sh, nu, pa, sl, ft, tn, ts, tg) (nI j_slot) = (((-1)), (n, kd, sz, sh, nu, pa, (va_up sl j_slot none), (nI 0), tn, ts, tg)) := by first | (simp only [f_empty, ej_slot, s_2]; done) | (simp only [f_empty, ej_slot, s_2]; rfl) | (simp [f_empty, ej_slot, s_2]; done) | (simp [f_empty, ej_slot, s_2]; rfl) | (simp only [f_empty, ej_slot, s_2]; (repeat' split) <;> first | rfl | (exfalso; omega))
      exact W.iret (v := ((-1))) hx hb hr (fun t ht hW => ⟨⟨((-1)), (n, kd, sz, sh, nu, pa, (va_up sl j_slot none), (nI 0), tn, ts, tg), rfl, ⟨(by rw [ee]), (by rw [ee])⟩, (by show q_X E x T0 (n, kd, sz, sh, nu, pa, (va_up sl j_slot none), (nI 0), tn, ts, tg) t.heap; rw [ht]; exact hX)⟩, hS.F ht⟩) hS.2.2 dX1_empty_33
    · try dsimp only at s_2 hk_2
      obtain ⟨ak_2, bk_2, dk_2, wk_2⟩ := hI.2.1 k_2 hk_2
      have n60 := hI.1
      try dsimp only at ak_2 bk_2 dk_2 wk_2 n60
      refine qc_ri (r1 := nI k_2) (W.runS (As := [.ref (T0 + 3 * k_2)]) (rest := []) ⟨hx, hb, hml, hown, hts⟩ (kX1_numberOf_S l E x T0 n kd sz sh nu pa sl ((nI 0)) tn ts tg hI k_2 hk_2) (va_cwS 1 hts gX1_empty_X1_numberOf rfl rfl rfl (by decide +kernel) ⟨Nat.le_of_ble_eq_true rfl, Nat.le_of_ble_eq_true rfl⟩) (q_pre hK hX) rfl rfl hl.1 rfl (lv_room (Nat.le_of_ble_eq_true rfl)) dX1_empty_21 ⟨Nat.le_of_ble_eq_true rfl, Nat.le_of_ble_eq_true rfl⟩) rfl ?_
      refine lv_istore_n (lv' := [(2, .int (nI k_2)), (0, .ref x), (1, .int (nI j_slot))]) hx hb dX1_empty_24 rfl hl (by decide) rfl (fun ls hl => ?_)
      refine lv_aload_n hx hb dX1_empty_25 rfl (lv_at hl 1 rfl) ?_
      refine qw_get (v := .ref (x + 1)) (ci := 1) (C := RX1) (T := TX1) (N := 6) hx hb hts nX1_empty_1 hown hK hX.1 rfl 0 (by decide) (hts (.fieldLink RX1 11 "DockGates" "slots" "[LDockGates$Thing;") (by decide +kernel)) rfl rfl dX1_empty_26 ?_
      refine lv_iload_n hx hb dX1_empty_29 rfl (lv_at hl 2 rfl) ?_
      refine lv_null hx hb dX1_empty_30 ?_
      refine qw_aastN (A := q_Ax x T0) hx hb hK hX.2.1 hS (Or.inr (Or.inl rfl)) hj_slot (by decide) dX1_empty_31 (fun H locs hO hz hq hS => ?_)
      have hX : q_X E x T0 (n, kd, sz, sh, nu, pa, (va_up sl j_slot none), (nI 0), tn, ts, tg) H := hX.slot none hO hz hq
      have u_4 : va_up sl j_slot none j_slot = none := va_up_self _ _ _
      have hI : q_I (n, kd, sz, sh, nu, pa, (va_up sl j_slot none), (nI 0), tn, ts, tg) := hI.slot _ (fun k h => by cases h)
      refine lv_iload_n hx hb dX1_empty_32 rfl (lv_at hl 0 rfl) ?_
      have ee : f_empty (n, kd, sz, sh, nu, pa, sl, ft, tn, ts, tg) (nI j_slot) = (nI k_2, (n, kd, sz, sh, nu, pa, (va_up sl j_slot none), (nI 0), tn, ts, tg)) := by first | (simp only [f_empty, ej_slot, s_2]; done) | (simp only [f_empty, ej_slot, s_2]; rfl) | (simp [f_empty, ej_slot, s_2]; done) | (simp [f_empty, ej_slot, s_2]; rfl) | (simp only [f_empty, ej_slot, s_2]; (repeat' split) <;> first | rfl | (exfalso; omega))
      exact W.iret (v := nI k_2) hx hb hr (fun t ht hW => ⟨⟨nI k_2, (n, kd, sz, sh, nu, pa, (va_up sl j_slot none), (nI 0), tn, ts, tg), rfl, ⟨(by rw [ee]), (by rw [ee])⟩, (by show q_X E x T0 (n, kd, sz, sh, nu, pa, (va_up sl j_slot none), (nI 0), tn, ts, tg) t.heap; rw [ht]; exact hX)⟩, hS.F ht⟩) hS.2.2 dX1_empty_33
  · have c_1 := q_isn c_1
    refine lv_bipush (v := (-2)) hx hb dX1_empty_12 (by decide) ?_
    have ee : f_empty (n, kd, sz, sh, nu, pa, sl, ft, tn, ts, tg) slot = (((-2)), (n, kd, sz, sh, nu, pa, sl, (nI 0), tn, ts, tg)) := by first | (simp only [f_empty, c_1]; done) | (simp only [f_empty, c_1]; rfl) | (simp [f_empty, c_1]; done) | (simp [f_empty, c_1]; rfl) | (simp only [f_empty, c_1]; (repeat' split) <;> first | rfl | (exfalso; omega))
    exact W.iret (v := ((-2))) hx hb hr (fun t ht hW => ⟨⟨((-2)), (n, kd, sz, sh, nu, pa, sl, (nI 0), tn, ts, tg), rfl, ⟨(by rw [ee]), (by rw [ee])⟩, (by show q_X E x T0 (n, kd, sz, sh, nu, pa, sl, (nI 0), tn, ts, tg) t.heap; rw [ht]; exact hX)⟩, hS.F ht⟩) hS.2.2 dX1_empty_14
set_option maxRecDepth 20000 in
theorem nX1_lid_0 : ∀ w ∈ u_ws RX0 TX0 6, w ∈ wsX1_lid := by decide +kernel
set_option maxRecDepth 20000 in
theorem nX1_lid_1 : ∀ w ∈ u_ws RX1 TX1 6, w ∈ wsX1_lid := by decide +kernel
set_option maxHeartbeats 4000000 in
set_option maxRecDepth 100000 in
theorem kX1_lid (l : Launch) (E : q_E) (x T0 : Nat) (n : Nat) (kd sz : Nat → Nat) (sh : Nat → Bool) (nu : Nat → Nat → Int64) (pa : Nat → Nat → Option Nat) (sl : Nat → Option Nat) (ft tn ts tg : Int32) (hI : q_I (n, kd, sz, sh, nu, pa, sl, ft, tn, ts, tg)) (slot : Int32) (b : Bool)  : Met l yX1_lid wsX1_lid ({ frames := 3, cells := 0, slots := 0, locals := 67 }) (q_P E (q_X E x T0 (n, kd, sz, sh, nu, pa, sl, ft, tn, ts, tg)) [.ref x, .int slot, .int (q_b b)]) (q_Wi (q_X E x T0) (q_Ax x T0) ((f_lid (n, kd, sz, sh, nu, pa, sl, ft, tn, ts, tg) slot b).1) (f_lid (n, kd, sz, sh, nu, pa, sl, ft, tn, ts, tg) slot b).2) 0 0 (q_Ax x T0) := by
  refine Met.ofW (cc := cX1_lid) (maxL := 5) (ret := (some .int)) (by decide) rfl ?_
  intro p e s m args below meth c s₁ B hml hv
  obtain ⟨rfl, hK, hX⟩ := hv
  have hx := B.exec
  have hb := B.bytes
  have hr := B.returns
  have hts := atoms_spec (ws := wsX1_lid) B.pre
  have hown : s.vm.findClass RX1 = some m.cls := findClass_of_methodNamed B.named
  have hlocks := B.notSynchronized
  have hl := lv_entry ([.ref x, .int slot, .int (q_b b)]) (n := 5) (Nat.le_of_ble_eq_true rfl)
  rw [lg_entry_eq]
  generalize (lg_sl ([.ref x, .int slot, .int (q_b b)]) ++ List.replicate (5 - (lg_sl ([.ref x, .int slot, .int (q_b b)])).length) Slot.unset).toArray = ls at hl ⊢
  have hl : lv_has ls 5 [(0, .ref x), (1, .int slot), (2, .int (q_b b))] := hl
  have hS : va_S (q_Ax x T0) s.heap s.heap [] := va_S.rf
  refine lv_aload_n hx hb dX1_lid_0 rfl (lv_at hl 0 rfl) ?_
  refine lv_iconst (v := nI 0) hx hb dX1_lid_1 (by decide) ?_
  refine qw_put (ci := 1) (C := RX1) (T := TX1) (N := 6) hx hb hts nX1_lid_1 tyX1 tyX1_ok nmX1 hown hK hX.1 hS (Or.inl rfl) rfl 2 (by decide) (hts (.fieldLink RX1 19 "DockGates" "latestFault" "I") (by decide +kernel)) rfl rfl rfl rfl (Nat.le_of_ble_eq_true rfl) dX1_lid_2 (fun H locs hO hz hq hS => ?_)
  have hX : q_X E x T0 (n, kd, sz, sh, nu, pa, sl, (nI 0), tn, ts, tg) H := hX.obj hO hz hq
  refine lv_iload_n hx hb dX1_lid_5 rfl (lv_at hl 1 rfl) ?_
  refine qc_ri (r1 := q_b ((q_ix slot 12).isSome)) (W.runS (As := [.int slot]) (rest := []) ⟨hx, hb, hml, hown, hts⟩ (kX1_isSlot l slot) (va_cwS 1 hts gX1_lid_X1_isSlot rfl rfl rfl (by decide +kernel) ⟨Nat.le_of_ble_eq_true rfl, Nat.le_of_ble_eq_true rfl⟩) preEq rfl rfl hl.1 rfl (lv_room (Nat.le_of_ble_eq_true rfl)) dX1_lid_6 ⟨Nat.le_of_ble_eq_true rfl, Nat.le_of_ble_eq_true rfl⟩) rfl ?_
  refine ln_b_ne (tgt := 15) hx hb dX1_lid_9 (by decide) (fun c_1 => ?_) (fun c_1 => ?_)
  · obtain ⟨j_slot, hj_slot, rfl⟩ := q_is (by first | decide | omega) c_1
    have ej_slot := q_ix_in hj_slot (by first | decide | omega)
    refine lv_aload_n hx hb dX1_lid_15 rfl (lv_at hl 0 rfl) ?_
    refine lv_bipush (v := nI 10) hx hb dX1_lid_16 (by decide) ?_
    refine lv_iload_n hx hb dX1_lid_18 rfl (lv_at hl 1 rfl) ?_
    cases s_2 : sl j_slot with
    | none =>
      refine qc_q (r1 := none) (σ1 := (n, kd, sz, sh, nu, pa, sl, nI 2, tn, ts, tg)) (va_runV (As := [.int (nI 10), .int (nI j_slot)]) (rest := []) ⟨hx, hb, hml, hown, hts⟩ (kX1_broughtThrough_N l E x T0 n kd sz sh nu pa sl ((nI 0)) tn ts tg hI 10 j_slot hj_slot s_2) (cwV 2 hts gX1_lid_X1_broughtThrough rfl rfl rfl (by decide +kernel) ⟨Nat.le_of_ble_eq_true rfl, Nat.le_of_ble_eq_true rfl⟩) (q_preV hK hX hX.1 rfl) rfl rfl hl.1 rfl (lv_room (Nat.le_of_ble_eq_true rfl)) dX1_lid_19 ⟨Nat.le_of_ble_eq_true rfl, Nat.le_of_ble_eq_true rfl⟩) hS rfl rfl (fun H locs hX hS => ?_)
      try dsimp only [va_rf]
      refine lv_astore_nN (lv' := [(3, .null), (0, .ref x), (1, .int (nI j_slot)), (2, .int (q_b b))]) hx hb dX1_lid_22 rfl hl (by decide) rfl (fun ls hl => ?_)
      refine lv_aload_nN hx hb dX1_lid_23 rfl (lv_at hl 0 rfl) ?_
      refine lv_ifnonnullN hx hb dX1_lid_24 ?_
      refine lv_iconst (v := nI 0) hx hb dX1_lid_27 (by decide) ?_
      have ee : f_lid (n, kd, sz, sh, nu, pa, sl, ft, tn, ts, tg) (nI j_slot) b = (nI 0, (n, kd, sz, sh, nu, pa, sl, nI 2, tn, ts, tg)) := by first | (simp only [f_lid, ej_slot, s_2, q_bn]; done) | (simp only [f_lid, ej_slot, s_2, q_bn]; rfl) | (simp [f_lid, ej_slot, s_2, q_bn]; done) | (simp [f_lid, ej_slot, s_2, q_bn]; rfl) | (simp only [f_lid, ej_slot, s_2, q_bn]; (repeat' split) <;> first | rfl | (exfalso; omega))
      exact W.iret (v := nI 0) hx hb hr (fun t ht hW => ⟨⟨nI 0, (n, kd, sz, sh, nu, pa, sl, nI 2, tn, ts, tg), rfl, ⟨(by rw [ee]), (by rw [ee])⟩, (by show q_X E x T0 (n, kd, sz, sh, nu, pa, sl, nI 2, tn, ts, tg) t.heap; rw [ht]; exact hX)⟩, hS.F ht⟩) hS.2.2 dX1_lid_28
    | some k_2 =>
      have hk_2 : k_2 < n := hI.2.2 _ _ s_2
      obtain ⟨ak_2, bk_2, dk_2, wk_2⟩ := hI.2.1 k_2 hk_2
      have n60 := hI.1
      try dsimp only at ak_2 bk_2 dk_2 wk_2 n60
      cases g_3 : q_go (kd k_2) 10 with
      | false =>
        have zg_3 := q_gofalse g_3
        refine qc_q (r1 := none) (σ1 := (n, kd, sz, sh, nu, pa, sl, nI 1, (tn + 1), nI j_slot, nI 10)) (va_runV (As := [.int (nI 10), .int (nI j_slot)]) (rest := []) ⟨hx, hb, hml, hown, hts⟩ (kX1_broughtThrough_T l E x T0 n kd sz sh nu pa sl ((nI 0)) tn ts tg hI 10 j_slot (by first | omega | decide) hj_slot k_2 hk_2 s_2 g_3) (cwV 2 hts gX1_lid_X1_broughtThrough rfl rfl rfl (by decide +kernel) ⟨Nat.le_of_ble_eq_true rfl, Nat.le_of_ble_eq_true rfl⟩) (q_preV hK hX hX.1 rfl) rfl rfl hl.1 rfl (lv_room (Nat.le_of_ble_eq_true rfl)) dX1_lid_19 ⟨Nat.le_of_ble_eq_true rfl, Nat.le_of_ble_eq_true rfl⟩) hS rfl rfl (fun H locs hX hS => ?_)
        try dsimp only [va_rf]
        refine lv_astore_nN (lv' := [(3, .null), (0, .ref x), (1, .int (nI j_slot)), (2, .int (q_b b))]) hx hb dX1_lid_22 rfl hl (by decide) rfl (fun ls hl => ?_)
        refine lv_aload_nN hx hb dX1_lid_23 rfl (lv_at hl 0 rfl) ?_
        refine lv_ifnonnullN hx hb dX1_lid_24 ?_
        refine lv_iconst (v := nI 0) hx hb dX1_lid_27 (by decide) ?_
        have ee : f_lid (n, kd, sz, sh, nu, pa, sl, ft, tn, ts, tg) (nI j_slot) b = (nI 0, (n, kd, sz, sh, nu, pa, sl, nI 1, (tn + 1), nI j_slot, nI 10)) := by first | (simp only [f_lid, ej_slot, s_2, g_3, q_bn]; done) | (simp only [f_lid, ej_slot, s_2, g_3, q_bn]; rfl) | (simp [f_lid, ej_slot, s_2, g_3, q_bn]; done) | (simp [f_lid, ej_slot, s_2, g_3, q_bn]; rfl) | (simp only [f_lid, ej_slot, s_2, g_3, q_bn]; (repeat' split) <;> first | rfl | (exfalso; omega))
        exact W.iret (v := nI 0) hx hb hr (fun t ht hW => ⟨⟨nI 0, (n, kd, sz, sh, nu, pa, sl, nI 1, (tn + 1), nI j_slot, nI 10), rfl, ⟨(by rw [ee]), (by rw [ee])⟩, (by show q_X E x T0 (n, kd, sz, sh, nu, pa, sl, nI 1, (tn + 1), nI j_slot, nI 10) t.heap; rw [ht]; exact hX)⟩, hS.F ht⟩) hS.2.2 dX1_lid_28
      | true =>
        have zg_3 := q_gofacts g_3
        refine qc_q (r1 := some (T0 + 3 * k_2)) (σ1 := (n, kd, sz, sh, nu, pa, sl, (nI 0), tn, ts, tg)) (va_runV (As := [.int (nI 10), .int (nI j_slot)]) (rest := []) ⟨hx, hb, hml, hown, hts⟩ (kX1_broughtThrough_S l E x T0 n kd sz sh nu pa sl ((nI 0)) tn ts tg hI 10 j_slot (by first | omega | decide) hj_slot k_2 hk_2 s_2 g_3) (cwV 2 hts gX1_lid_X1_broughtThrough rfl rfl rfl (by decide +kernel) ⟨Nat.le_of_ble_eq_true rfl, Nat.le_of_ble_eq_true rfl⟩) (q_preV hK hX hX.1 rfl) rfl rfl hl.1 rfl (lv_room (Nat.le_of_ble_eq_true rfl)) dX1_lid_19 ⟨Nat.le_of_ble_eq_true rfl, Nat.le_of_ble_eq_true rfl⟩) hS rfl rfl (fun H locs hX hS => ?_)
        try dsimp only [va_rf]
        refine lv_astore_n (lv' := [(3, .ref (T0 + 3 * k_2)), (0, .ref x), (1, .int (nI j_slot)), (2, .int (q_b b))]) hx hb dX1_lid_22 rfl hl (by decide) rfl (fun ls hl => ?_)
        refine lv_aload_n hx hb dX1_lid_23 rfl (lv_at hl 0 rfl) ?_
        refine lv_ifnonnull (tgt := 29) hx hb dX1_lid_24 (by decide) ?_
        refine lv_aload_n hx hb dX1_lid_29 rfl (lv_at hl 0 rfl) ?_
        refine qc_ri (r1 := nI (if sh k_2 then 1 else 0)) (W.runS (As := [.ref (T0 + 3 * k_2)]) (rest := []) ⟨hx, hb, hml, hown, hts⟩ (kX1_lidOf l E x T0 n kd sz sh nu pa sl ((nI 0)) tn ts tg hI k_2 hk_2) (va_cwS 1 hts gX1_lid_X1_lidOf rfl rfl rfl (by decide +kernel) ⟨Nat.le_of_ble_eq_true rfl, Nat.le_of_ble_eq_true rfl⟩) (q_pre hK hX) rfl rfl hl.1 rfl (lv_room (Nat.le_of_ble_eq_true rfl)) dX1_lid_30 ⟨Nat.le_of_ble_eq_true rfl, Nat.le_of_ble_eq_true rfl⟩) rfl ?_
        refine lv_istore (lv' := [(4, .int (nI (if sh k_2 then 1 else 0))), (3, .ref (T0 + 3 * k_2)), (0, .ref x), (1, .int (nI j_slot)), (2, .int (q_b b))]) hx hb dX1_lid_33 hl (by decide) rfl (fun ls hl => ?_)
        refine lv_aload_n hx hb dX1_lid_35 rfl (lv_at hl 1 rfl) ?_
        refine lv_iload_n hx hb dX1_lid_36 rfl (lv_at hl 4 rfl) ?_
        refine qw_put (ci := 0) (C := RX0) (T := TX0) (N := 6) hx hb hts nX1_lid_0 tyX0 tyX0_ok nmX0 hown hK (hX.2.2.1 k_2 hk_2).1 hS (Or.inr (Or.inr (by omega))) rfl 5 (by decide) (hts (.fieldLink RX1 109 "DockGates$Thing" "shut" "Z") (by decide +kernel)) rfl rfl (q_nbb _) (q_fbb _) (Nat.le_of_ble_eq_true rfl) dX1_lid_37 (fun H locs hO hz hq hS => ?_)
        have hX : q_X E x T0 (n, kd, sz, (va_up sh k_2 b), nu, pa, sl, (nI 0), tn, ts, tg) H := hX.lid hk_2 _ hO hz hq
        refine lv_iload hx hb dX1_lid_40 (lv_at hl 0 rfl) ?_
        have ee : f_lid (n, kd, sz, sh, nu, pa, sl, ft, tn, ts, tg) (nI j_slot) b = (nI (if sh k_2 then 1 else 0), (n, kd, sz, (va_up sh k_2 b), nu, pa, sl, (nI 0), tn, ts, tg)) := by first | (simp only [f_lid, ej_slot, s_2, g_3, q_bn]; done) | (simp only [f_lid, ej_slot, s_2, g_3, q_bn]; rfl) | (simp [f_lid, ej_slot, s_2, g_3, q_bn]; done) | (simp [f_lid, ej_slot, s_2, g_3, q_bn]; rfl) | (simp only [f_lid, ej_slot, s_2, g_3, q_bn]; (repeat' split) <;> first | rfl | (exfalso; omega))
        exact W.iret (v := nI (if sh k_2 then 1 else 0)) hx hb hr (fun t ht hW => ⟨⟨nI (if sh k_2 then 1 else 0), (n, kd, sz, (va_up sh k_2 b), nu, pa, sl, (nI 0), tn, ts, tg), rfl, ⟨(by rw [ee]), (by rw [ee])⟩, (by show q_X E x T0 (n, kd, sz, (va_up sh k_2 b), nu, pa, sl, (nI 0), tn, ts, tg) t.heap; rw [ht]; exact hX)⟩, hS.F ht⟩) hS.2.2 dX1_lid_42
  · have c_1 := q_isn c_1
    refine lv_bipush (v := (-2)) hx hb dX1_lid_12 (by decide) ?_
    have ee : f_lid (n, kd, sz, sh, nu, pa, sl, ft, tn, ts, tg) slot b = (((-2)), (n, kd, sz, sh, nu, pa, sl, (nI 0), tn, ts, tg)) := by first | (simp only [f_lid, c_1, q_bn]; done) | (simp only [f_lid, c_1, q_bn]; rfl) | (simp [f_lid, c_1, q_bn]; done) | (simp [f_lid, c_1, q_bn]; rfl) | (simp only [f_lid, c_1, q_bn]; (repeat' split) <;> first | rfl | (exfalso; omega))
    exact W.iret (v := ((-2))) hx hb hr (fun t ht hW => ⟨⟨((-2)), (n, kd, sz, sh, nu, pa, sl, (nI 0), tn, ts, tg), rfl, ⟨(by rw [ee]), (by rw [ee])⟩, (by show q_X E x T0 (n, kd, sz, sh, nu, pa, sl, (nI 0), tn, ts, tg) t.heap; rw [ht]; exact hX)⟩, hS.F ht⟩) hS.2.2 dX1_lid_14
set_option maxRecDepth 20000 in
theorem nX1_weigh_0 : ∀ w ∈ u_ws RX0 TX0 6, w ∈ wsX1_weigh := by decide +kernel
set_option maxRecDepth 20000 in
theorem nX1_weigh_1 : ∀ w ∈ u_ws RX1 TX1 6, w ∈ wsX1_weigh := by decide +kernel
set_option maxHeartbeats 4000000 in
set_option maxRecDepth 100000 in
theorem kX1_weigh (l : Launch) (E : q_E) (x T0 : Nat) (n : Nat) (kd sz : Nat → Nat) (sh : Nat → Bool) (nu : Nat → Nat → Int64) (pa : Nat → Nat → Option Nat) (sl : Nat → Option Nat) (ft tn ts tg : Int32) (hI : q_I (n, kd, sz, sh, nu, pa, sl, ft, tn, ts, tg)) (slot w : Int32)  : Met l yX1_weigh wsX1_weigh ({ frames := 3, cells := 0, slots := 0, locals := 67 }) (q_P E (q_X E x T0 (n, kd, sz, sh, nu, pa, sl, ft, tn, ts, tg)) [.ref x, .int slot, .int w]) (q_Wi (q_X E x T0) (q_Ax x T0) ((f_weigh (n, kd, sz, sh, nu, pa, sl, ft, tn, ts, tg) slot w).1) (f_weigh (n, kd, sz, sh, nu, pa, sl, ft, tn, ts, tg) slot w).2) 0 0 (q_Ax x T0) := by
  refine Met.ofW (cc := cX1_weigh) (maxL := 5) (ret := (some .int)) (by decide) rfl ?_
  intro p e s m args below meth c s₁ B hml hv
  obtain ⟨rfl, hK, hX⟩ := hv
  have hx := B.exec
  have hb := B.bytes
  have hr := B.returns
  have hts := atoms_spec (ws := wsX1_weigh) B.pre
  have hown : s.vm.findClass RX1 = some m.cls := findClass_of_methodNamed B.named
  have hlocks := B.notSynchronized
  have hl := lv_entry ([.ref x, .int slot, .int w]) (n := 5) (Nat.le_of_ble_eq_true rfl)
  rw [lg_entry_eq]
  generalize (lg_sl ([.ref x, .int slot, .int w]) ++ List.replicate (5 - (lg_sl ([.ref x, .int slot, .int w])).length) Slot.unset).toArray = ls at hl ⊢
  have hl : lv_has ls 5 [(0, .ref x), (1, .int slot), (2, .int w)] := hl
  have hS : va_S (q_Ax x T0) s.heap s.heap [] := va_S.rf
  refine lv_aload_n hx hb dX1_weigh_0 rfl (lv_at hl 0 rfl) ?_
  refine lv_iconst (v := nI 0) hx hb dX1_weigh_1 (by decide) ?_
  refine qw_put (ci := 1) (C := RX1) (T := TX1) (N := 6) hx hb hts nX1_weigh_1 tyX1 tyX1_ok nmX1 hown hK hX.1 hS (Or.inl rfl) rfl 2 (by decide) (hts (.fieldLink RX1 19 "DockGates" "latestFault" "I") (by decide +kernel)) rfl rfl rfl rfl (Nat.le_of_ble_eq_true rfl) dX1_weigh_2 (fun H locs hO hz hq hS => ?_)
  have hX : q_X E x T0 (n, kd, sz, sh, nu, pa, sl, (nI 0), tn, ts, tg) H := hX.obj hO hz hq
  refine lv_iload_n hx hb dX1_weigh_5 rfl (lv_at hl 1 rfl) ?_
  refine qc_ri (r1 := q_b ((q_ix slot 12).isSome)) (W.runS (As := [.int slot]) (rest := []) ⟨hx, hb, hml, hown, hts⟩ (kX1_isSlot l slot) (va_cwS 1 hts gX1_weigh_X1_isSlot rfl rfl rfl (by decide +kernel) ⟨Nat.le_of_ble_eq_true rfl, Nat.le_of_ble_eq_true rfl⟩) preEq rfl rfl hl.1 rfl (lv_room (Nat.le_of_ble_eq_true rfl)) dX1_weigh_6 ⟨Nat.le_of_ble_eq_true rfl, Nat.le_of_ble_eq_true rfl⟩) rfl ?_
  refine ln_b_eq (tgt := 22) hx hb dX1_weigh_9 (by decide) (fun c_1 => ?_) (fun c_1 => ?_)
  · have c_1 := q_isn c_1
    refine lv_bipush (v := (-2)) hx hb dX1_weigh_22 (by decide) ?_
    have ee : f_weigh (n, kd, sz, sh, nu, pa, sl, ft, tn, ts, tg) slot w = (((-2)), (n, kd, sz, sh, nu, pa, sl, (nI 0), tn, ts, tg)) := by first | (simp only [f_weigh, c_1]; done) | (simp only [f_weigh, c_1]; rfl) | (simp [f_weigh, c_1]; done) | (simp [f_weigh, c_1]; rfl) | (simp only [f_weigh, c_1]; (repeat' split) <;> first | rfl | (exfalso; omega))
    exact W.iret (v := ((-2))) hx hb hr (fun t ht hW => ⟨⟨((-2)), (n, kd, sz, sh, nu, pa, sl, (nI 0), tn, ts, tg), rfl, ⟨(by rw [ee]), (by rw [ee])⟩, (by show q_X E x T0 (n, kd, sz, sh, nu, pa, sl, (nI 0), tn, ts, tg) t.heap; rw [ht]; exact hX)⟩, hS.F ht⟩) hS.2.2 dX1_weigh_24
  · obtain ⟨j_slot, hj_slot, rfl⟩ := q_is (by first | decide | omega) c_1
    have ej_slot := q_ix_in hj_slot (by first | decide | omega)
    refine lv_iload_n hx hb dX1_weigh_12 rfl (lv_at hl 2 rfl) ?_
    refine lv_if_lt (tgt := 22) hx hb dX1_weigh_13 (by decide) (fun c_2 => ?_) (fun c_2 => ?_)
    · have c_2 : ∀ q, q_ix w q = none := fun q => q_ix_neg c_2
      refine lv_bipush (v := (-2)) hx hb dX1_weigh_22 (by decide) ?_
      have ee : f_weigh (n, kd, sz, sh, nu, pa, sl, ft, tn, ts, tg) (nI j_slot) w = (((-2)), (n, kd, sz, sh, nu, pa, sl, (nI 0), tn, ts, tg)) := by first | (simp only [f_weigh, ej_slot, c_2]; done) | (simp only [f_weigh, ej_slot, c_2]; rfl) | (simp [f_weigh, ej_slot, c_2]; done) | (simp [f_weigh, ej_slot, c_2]; rfl) | (simp only [f_weigh, ej_slot, c_2]; (repeat' split) <;> first | rfl | (exfalso; omega))
      exact W.iret (v := ((-2))) hx hb hr (fun t ht hW => ⟨⟨((-2)), (n, kd, sz, sh, nu, pa, sl, (nI 0), tn, ts, tg), rfl, ⟨(by rw [ee]), (by rw [ee])⟩, (by show q_X E x T0 (n, kd, sz, sh, nu, pa, sl, (nI 0), tn, ts, tg) t.heap; rw [ht]; exact hX)⟩, hS.F ht⟩) hS.2.2 dX1_weigh_24
    · refine lv_iload_n hx hb dX1_weigh_16 rfl (lv_at hl 2 rfl) ?_
      refine lv_ldc (v := 1000000) hx hb hown (hts (.constant RX1 113 (1000000)) (by decide +kernel)) dX1_weigh_17 ?_
      rw [show (1000000 : Int32) = nI 1000000 by decide]
      refine lv_icmp_le (tgt := 25) hx hb dX1_weigh_19 (by decide) (fun c_3 => ?_) (fun c_3 => ?_)
      · obtain ⟨j_w, hj_w, rfl⟩ := q_ix_of3 (by omega) c_2 c_3
        have ej_w := q_ix_in hj_w (by omega)
        refine lv_aload_n hx hb dX1_weigh_25 rfl (lv_at hl 0 rfl) ?_
        refine lv_bipush (v := nI 9) hx hb dX1_weigh_26 (by decide) ?_
        refine lv_iload_n hx hb dX1_weigh_28 rfl (lv_at hl 1 rfl) ?_
        cases s_4 : sl j_slot with
        | none =>
          refine qc_q (r1 := none) (σ1 := (n, kd, sz, sh, nu, pa, sl, nI 2, tn, ts, tg)) (va_runV (As := [.int (nI 9), .int (nI j_slot)]) (rest := []) ⟨hx, hb, hml, hown, hts⟩ (kX1_broughtThrough_N l E x T0 n kd sz sh nu pa sl ((nI 0)) tn ts tg hI 9 j_slot hj_slot s_4) (cwV 2 hts gX1_weigh_X1_broughtThrough rfl rfl rfl (by decide +kernel) ⟨Nat.le_of_ble_eq_true rfl, Nat.le_of_ble_eq_true rfl⟩) (q_preV hK hX hX.1 rfl) rfl rfl hl.1 rfl (lv_room (Nat.le_of_ble_eq_true rfl)) dX1_weigh_29 ⟨Nat.le_of_ble_eq_true rfl, Nat.le_of_ble_eq_true rfl⟩) hS rfl rfl (fun H locs hX hS => ?_)
          try dsimp only [va_rf]
          refine lv_astore_nN (lv' := [(3, .null), (0, .ref x), (1, .int (nI j_slot)), (2, .int (nI j_w))]) hx hb dX1_weigh_32 rfl hl (by decide) rfl (fun ls hl => ?_)
          refine lv_aload_nN hx hb dX1_weigh_33 rfl (lv_at hl 0 rfl) ?_
          refine lv_ifnonnullN hx hb dX1_weigh_34 ?_
          refine lv_iconst (v := nI 0) hx hb dX1_weigh_37 (by decide) ?_
          have ee : f_weigh (n, kd, sz, sh, nu, pa, sl, ft, tn, ts, tg) (nI j_slot) (nI j_w) = (nI 0, (n, kd, sz, sh, nu, pa, sl, nI 2, tn, ts, tg)) := by first | (simp only [f_weigh, ej_slot, ej_w, s_4]; done) | (simp only [f_weigh, ej_slot, ej_w, s_4]; rfl) | (simp [f_weigh, ej_slot, ej_w, s_4]; done) | (simp [f_weigh, ej_slot, ej_w, s_4]; rfl) | (simp only [f_weigh, ej_slot, ej_w, s_4]; (repeat' split) <;> first | rfl | (exfalso; omega))
          exact W.iret (v := nI 0) hx hb hr (fun t ht hW => ⟨⟨nI 0, (n, kd, sz, sh, nu, pa, sl, nI 2, tn, ts, tg), rfl, ⟨(by rw [ee]), (by rw [ee])⟩, (by show q_X E x T0 (n, kd, sz, sh, nu, pa, sl, nI 2, tn, ts, tg) t.heap; rw [ht]; exact hX)⟩, hS.F ht⟩) hS.2.2 dX1_weigh_38
        | some k_4 =>
          have hk_4 : k_4 < n := hI.2.2 _ _ s_4
          obtain ⟨ak_4, bk_4, dk_4, wk_4⟩ := hI.2.1 k_4 hk_4
          have n60 := hI.1
          try dsimp only at ak_4 bk_4 dk_4 wk_4 n60
          cases g_5 : q_go (kd k_4) 9 with
          | false =>
            have zg_5 := q_gofalse g_5
            refine qc_q (r1 := none) (σ1 := (n, kd, sz, sh, nu, pa, sl, nI 1, (tn + 1), nI j_slot, nI 9)) (va_runV (As := [.int (nI 9), .int (nI j_slot)]) (rest := []) ⟨hx, hb, hml, hown, hts⟩ (kX1_broughtThrough_T l E x T0 n kd sz sh nu pa sl ((nI 0)) tn ts tg hI 9 j_slot (by first | omega | decide) hj_slot k_4 hk_4 s_4 g_5) (cwV 2 hts gX1_weigh_X1_broughtThrough rfl rfl rfl (by decide +kernel) ⟨Nat.le_of_ble_eq_true rfl, Nat.le_of_ble_eq_true rfl⟩) (q_preV hK hX hX.1 rfl) rfl rfl hl.1 rfl (lv_room (Nat.le_of_ble_eq_true rfl)) dX1_weigh_29 ⟨Nat.le_of_ble_eq_true rfl, Nat.le_of_ble_eq_true rfl⟩) hS rfl rfl (fun H locs hX hS => ?_)
            try dsimp only [va_rf]
            refine lv_astore_nN (lv' := [(3, .null), (0, .ref x), (1, .int (nI j_slot)), (2, .int (nI j_w))]) hx hb dX1_weigh_32 rfl hl (by decide) rfl (fun ls hl => ?_)
            refine lv_aload_nN hx hb dX1_weigh_33 rfl (lv_at hl 0 rfl) ?_
            refine lv_ifnonnullN hx hb dX1_weigh_34 ?_
            refine lv_iconst (v := nI 0) hx hb dX1_weigh_37 (by decide) ?_
            have ee : f_weigh (n, kd, sz, sh, nu, pa, sl, ft, tn, ts, tg) (nI j_slot) (nI j_w) = (nI 0, (n, kd, sz, sh, nu, pa, sl, nI 1, (tn + 1), nI j_slot, nI 9)) := by first | (simp only [f_weigh, ej_slot, ej_w, s_4, g_5]; done) | (simp only [f_weigh, ej_slot, ej_w, s_4, g_5]; rfl) | (simp [f_weigh, ej_slot, ej_w, s_4, g_5]; done) | (simp [f_weigh, ej_slot, ej_w, s_4, g_5]; rfl) | (simp only [f_weigh, ej_slot, ej_w, s_4, g_5]; (repeat' split) <;> first | rfl | (exfalso; omega))
            exact W.iret (v := nI 0) hx hb hr (fun t ht hW => ⟨⟨nI 0, (n, kd, sz, sh, nu, pa, sl, nI 1, (tn + 1), nI j_slot, nI 9), rfl, ⟨(by rw [ee]), (by rw [ee])⟩, (by show q_X E x T0 (n, kd, sz, sh, nu, pa, sl, nI 1, (tn + 1), nI j_slot, nI 9) t.heap; rw [ht]; exact hX)⟩, hS.F ht⟩) hS.2.2 dX1_weigh_38
          | true =>
            have zg_5 := q_gofacts g_5
            refine qc_q (r1 := some (T0 + 3 * k_4)) (σ1 := (n, kd, sz, sh, nu, pa, sl, (nI 0), tn, ts, tg)) (va_runV (As := [.int (nI 9), .int (nI j_slot)]) (rest := []) ⟨hx, hb, hml, hown, hts⟩ (kX1_broughtThrough_S l E x T0 n kd sz sh nu pa sl ((nI 0)) tn ts tg hI 9 j_slot (by first | omega | decide) hj_slot k_4 hk_4 s_4 g_5) (cwV 2 hts gX1_weigh_X1_broughtThrough rfl rfl rfl (by decide +kernel) ⟨Nat.le_of_ble_eq_true rfl, Nat.le_of_ble_eq_true rfl⟩) (q_preV hK hX hX.1 rfl) rfl rfl hl.1 rfl (lv_room (Nat.le_of_ble_eq_true rfl)) dX1_weigh_29 ⟨Nat.le_of_ble_eq_true rfl, Nat.le_of_ble_eq_true rfl⟩) hS rfl rfl (fun H locs hX hS => ?_)
            try dsimp only [va_rf]
            refine lv_astore_n (lv' := [(3, .ref (T0 + 3 * k_4)), (0, .ref x), (1, .int (nI j_slot)), (2, .int (nI j_w))]) hx hb dX1_weigh_32 rfl hl (by decide) rfl (fun ls hl => ?_)
            refine lv_aload_n hx hb dX1_weigh_33 rfl (lv_at hl 0 rfl) ?_
            refine lv_ifnonnull (tgt := 39) hx hb dX1_weigh_34 (by decide) ?_
            refine lv_aload_n hx hb dX1_weigh_39 rfl (lv_at hl 0 rfl) ?_
            refine qw_get (v := .int (nI (q_am (kd k_4) (sz k_4)))) (ci := 0) (C := RX0) (T := TX0) (N := 6) hx hb hts nX1_weigh_0 hown hK (hX.2.2.1 k_4 hk_4).1 rfl 4 (by decide) (hts (.fieldLink RX1 114 "DockGates$Thing" "amount" "I") (by decide +kernel)) rfl rfl dX1_weigh_40 ?_
            rw [q_am9 (show 9 ≤ kd k_4 by omega)]
            refine lv_istore (lv' := [(4, .int (nI (sz k_4))), (3, .ref (T0 + 3 * k_4)), (0, .ref x), (1, .int (nI j_slot)), (2, .int (nI j_w))]) hx hb dX1_weigh_43 hl (by decide) rfl (fun ls hl => ?_)
            refine lv_aload_n hx hb dX1_weigh_45 rfl (lv_at hl 1 rfl) ?_
            refine lv_iload_n hx hb dX1_weigh_46 rfl (lv_at hl 4 rfl) ?_
            refine qw_put (ci := 0) (C := RX0) (T := TX0) (N := 6) hx hb hts nX1_weigh_0 tyX0 tyX0_ok nmX0 hown hK (hX.2.2.1 k_4 hk_4).1 hS (Or.inr (Or.inr (by omega))) rfl 4 (by decide) (hts (.fieldLink RX1 114 "DockGates$Thing" "amount" "I") (by decide +kernel)) rfl rfl rfl rfl (Nat.le_of_ble_eq_true rfl) dX1_weigh_47 (fun H locs hO hz hq hS => ?_)
            have hX : q_X E x T0 (n, kd, (va_up sz k_4 j_w), sh, nu, pa, sl, (nI 0), tn, ts, tg) H := hX.amt hk_4 (by omega) _ hO hz hq
            refine lv_iload hx hb dX1_weigh_50 (lv_at hl 0 rfl) ?_
            have ee : f_weigh (n, kd, sz, sh, nu, pa, sl, ft, tn, ts, tg) (nI j_slot) (nI j_w) = (nI (sz k_4), (n, kd, (va_up sz k_4 j_w), sh, nu, pa, sl, (nI 0), tn, ts, tg)) := by first | (simp only [f_weigh, ej_slot, ej_w, s_4, g_5]; done) | (simp only [f_weigh, ej_slot, ej_w, s_4, g_5]; rfl) | (simp [f_weigh, ej_slot, ej_w, s_4, g_5]; done) | (simp [f_weigh, ej_slot, ej_w, s_4, g_5]; rfl) | (simp only [f_weigh, ej_slot, ej_w, s_4, g_5]; (repeat' split) <;> first | rfl | (exfalso; omega))
            exact W.iret (v := nI (sz k_4)) hx hb hr (fun t ht hW => ⟨⟨nI (sz k_4), (n, kd, (va_up sz k_4 j_w), sh, nu, pa, sl, (nI 0), tn, ts, tg), rfl, ⟨(by rw [ee]), (by rw [ee])⟩, (by show q_X E x T0 (n, kd, (va_up sz k_4 j_w), sh, nu, pa, sl, (nI 0), tn, ts, tg) t.heap; rw [ht]; exact hX)⟩, hS.F ht⟩) hS.2.2 dX1_weigh_52
      · have c_3 := q_ix_nle (by omega) c_3
        refine lv_bipush (v := (-2)) hx hb dX1_weigh_22 (by decide) ?_
        have ee : f_weigh (n, kd, sz, sh, nu, pa, sl, ft, tn, ts, tg) (nI j_slot) w = (((-2)), (n, kd, sz, sh, nu, pa, sl, (nI 0), tn, ts, tg)) := by first | (simp only [f_weigh, ej_slot, c_3]; done) | (simp only [f_weigh, ej_slot, c_3]; rfl) | (simp [f_weigh, ej_slot, c_3]; done) | (simp [f_weigh, ej_slot, c_3]; rfl) | (simp only [f_weigh, ej_slot, c_3]; (repeat' split) <;> first | rfl | (exfalso; omega))
        exact W.iret (v := ((-2))) hx hb hr (fun t ht hW => ⟨⟨((-2)), (n, kd, sz, sh, nu, pa, sl, (nI 0), tn, ts, tg), rfl, ⟨(by rw [ee]), (by rw [ee])⟩, (by show q_X E x T0 (n, kd, sz, sh, nu, pa, sl, (nI 0), tn, ts, tg) t.heap; rw [ht]; exact hX)⟩, hS.F ht⟩) hS.2.2 dX1_weigh_24
set_option maxRecDepth 20000 in
theorem nX1_size_0 : ∀ w ∈ u_ws RX0 TX0 6, w ∈ wsX1_size := by decide +kernel
set_option maxRecDepth 20000 in
theorem nX1_size_1 : ∀ w ∈ u_ws RX1 TX1 6, w ∈ wsX1_size := by decide +kernel
set_option maxHeartbeats 4000000 in
set_option maxRecDepth 100000 in
theorem kX1_size (l : Launch) (E : q_E) (x T0 : Nat) (n : Nat) (kd sz : Nat → Nat) (sh : Nat → Bool) (nu : Nat → Nat → Int64) (pa : Nat → Nat → Option Nat) (sl : Nat → Option Nat) (ft tn ts tg : Int32) (hI : q_I (n, kd, sz, sh, nu, pa, sl, ft, tn, ts, tg)) (slot : Int32)  : Met l yX1_size wsX1_size ({ frames := 2, cells := 0, slots := 0, locals := 44 }) (q_P E (q_X E x T0 (n, kd, sz, sh, nu, pa, sl, ft, tn, ts, tg)) [.ref x, .int slot]) (q_Wi (q_X E x T0) (q_Ax x T0) ((f_size (n, kd, sz, sh, nu, pa, sl, ft, tn, ts, tg) slot).1) (f_size (n, kd, sz, sh, nu, pa, sl, ft, tn, ts, tg) slot).2) 0 0 (q_Ax x T0) := by
  refine Met.ofW (cc := cX1_size) (maxL := 3) (ret := (some .int)) (by decide) rfl ?_
  intro p e s m args below meth c s₁ B hml hv
  obtain ⟨rfl, hK, hX⟩ := hv
  have hx := B.exec
  have hb := B.bytes
  have hr := B.returns
  have hts := atoms_spec (ws := wsX1_size) B.pre
  have hown : s.vm.findClass RX1 = some m.cls := findClass_of_methodNamed B.named
  have hlocks := B.notSynchronized
  have hl := lv_entry ([.ref x, .int slot]) (n := 3) (Nat.le_of_ble_eq_true rfl)
  rw [lg_entry_eq]
  generalize (lg_sl ([.ref x, .int slot]) ++ List.replicate (3 - (lg_sl ([.ref x, .int slot])).length) Slot.unset).toArray = ls at hl ⊢
  have hl : lv_has ls 3 [(0, .ref x), (1, .int slot)] := hl
  have hS : va_S (q_Ax x T0) s.heap s.heap [] := va_S.rf
  refine lv_aload_n hx hb dX1_size_0 rfl (lv_at hl 0 rfl) ?_
  refine lv_iconst (v := nI 0) hx hb dX1_size_1 (by decide) ?_
  refine qw_put (ci := 1) (C := RX1) (T := TX1) (N := 6) hx hb hts nX1_size_1 tyX1 tyX1_ok nmX1 hown hK hX.1 hS (Or.inl rfl) rfl 2 (by decide) (hts (.fieldLink RX1 19 "DockGates" "latestFault" "I") (by decide +kernel)) rfl rfl rfl rfl (Nat.le_of_ble_eq_true rfl) dX1_size_2 (fun H locs hO hz hq hS => ?_)
  have hX : q_X E x T0 (n, kd, sz, sh, nu, pa, sl, (nI 0), tn, ts, tg) H := hX.obj hO hz hq
  refine lv_iload_n hx hb dX1_size_5 rfl (lv_at hl 1 rfl) ?_
  refine qc_ri (r1 := q_b ((q_ix slot 12).isSome)) (W.runS (As := [.int slot]) (rest := []) ⟨hx, hb, hml, hown, hts⟩ (kX1_isSlot l slot) (va_cwS 1 hts gX1_size_X1_isSlot rfl rfl rfl (by decide +kernel) ⟨Nat.le_of_ble_eq_true rfl, Nat.le_of_ble_eq_true rfl⟩) preEq rfl rfl hl.1 rfl (lv_room (Nat.le_of_ble_eq_true rfl)) dX1_size_6 ⟨Nat.le_of_ble_eq_true rfl, Nat.le_of_ble_eq_true rfl⟩) rfl ?_
  refine ln_b_ne (tgt := 15) hx hb dX1_size_9 (by decide) (fun c_1 => ?_) (fun c_1 => ?_)
  · obtain ⟨j_slot, hj_slot, rfl⟩ := q_is (by first | decide | omega) c_1
    have ej_slot := q_ix_in hj_slot (by first | decide | omega)
    refine lv_aload_n hx hb dX1_size_15 rfl (lv_at hl 0 rfl) ?_
    refine qw_get (v := .ref (x + 1)) (ci := 1) (C := RX1) (T := TX1) (N := 6) hx hb hts nX1_size_1 hown hK hX.1 rfl 0 (by decide) (hts (.fieldLink RX1 11 "DockGates" "slots" "[LDockGates$Thing;") (by decide +kernel)) rfl rfl dX1_size_16 ?_
    refine lv_iload_n hx hb dX1_size_19 rfl (lv_at hl 1 rfl) ?_
    refine qx_slot hx hb hK hX hI hj_slot dX1_size_20 (fun s_2 => ?_) (fun k_2 hk_2 s_2 => ?_)
    · try dsimp only at s_2
      refine lv_astore_nN (lv' := [(2, .null), (0, .ref x), (1, .int (nI j_slot))]) hx hb dX1_size_21 rfl hl (by decide) rfl (fun ls hl => ?_)
      refine lv_aload_nN hx hb dX1_size_22 rfl (lv_at hl 0 rfl) ?_
      refine lv_ifnonnullN hx hb dX1_size_23 ?_
      refine lv_aload_n hx hb dX1_size_26 rfl (lv_at hl 1 rfl) ?_
      refine lv_iconst (v := nI 2) hx hb dX1_size_27 (by decide) ?_
      refine qc_i (r1 := nI 0) (σ1 := (n, kd, sz, sh, nu, pa, sl, nI 2, tn, ts, tg)) (va_runV (As := [.int (nI 2)]) (rest := []) ⟨hx, hb, hml, hown, hts⟩ (kX1_failed l E x T0 n kd sz sh nu pa sl ((nI 0)) tn ts tg hI (nI 2)) (cwV 1 hts gX1_size_X1_failed rfl rfl rfl (by decide +kernel) ⟨Nat.le_of_ble_eq_true rfl, Nat.le_of_ble_eq_true rfl⟩) (q_preV hK hX hX.1 rfl) rfl rfl hl.1 rfl (lv_room (Nat.le_of_ble_eq_true rfl)) dX1_size_28 ⟨Nat.le_of_ble_eq_true rfl, Nat.le_of_ble_eq_true rfl⟩) hS rfl rfl (fun H locs hX hS => ?_)
      have ee : f_size (n, kd, sz, sh, nu, pa, sl, ft, tn, ts, tg) (nI j_slot) = (nI 0, (n, kd, sz, sh, nu, pa, sl, nI 2, tn, ts, tg)) := by first | (simp only [f_size, ej_slot, s_2]; done) | (simp only [f_size, ej_slot, s_2]; rfl) | (simp [f_size, ej_slot, s_2]; done) | (simp [f_size, ej_slot, s_2]; rfl) | (simp only [f_size, ej_slot, s_2]; (repeat' split) <;> first | rfl | (exfalso; omega))
      exact W.iret (v := nI 0) hx hb hr (fun t ht hW => ⟨⟨nI 0, (n, kd, sz, sh, nu, pa, sl, nI 2, tn, ts, tg), rfl, ⟨(by rw [ee]), (by rw [ee])⟩, (by show q_X E x T0 (n, kd, sz, sh, nu, pa, sl, nI 2, tn, ts, tg) t.heap; rw [ht]; exact hX)⟩, hS.F ht⟩) hS.2.2 dX1_size_31
    · try dsimp only at s_2 hk_2
      obtain ⟨ak_2, bk_2, dk_2, wk_2⟩ := hI.2.1 k_2 hk_2
      have n60 := hI.1
      try dsimp only at ak_2 bk_2 dk_2 wk_2 n60
      refine lv_astore_n (lv' := [(2, .ref (T0 + 3 * k_2)), (0, .ref x), (1, .int (nI j_slot))]) hx hb dX1_size_21 rfl hl (by decide) rfl (fun ls hl => ?_)
      refine lv_aload_n hx hb dX1_size_22 rfl (lv_at hl 0 rfl) ?_
      refine lv_ifnonnull (tgt := 32) hx hb dX1_size_23 (by decide) ?_
      refine lv_aload_n hx hb dX1_size_32 rfl (lv_at hl 0 rfl) ?_
      refine qw_get (v := .int (nI (kd k_2))) (ci := 0) (C := RX0) (T := TX0) (N := 6) hx hb hts nX1_size_0 hown hK (hX.2.2.1 k_2 hk_2).1 rfl 1 (by decide) (hts (.fieldLink RX1 79 "DockGates$Thing" "kind" "I") (by decide +kernel)) rfl rfl dX1_size_33 ?_
      refine qc_ri (r1 := q_b (decide (kd k_2 < 3))) (W.runS (As := [.int (nI (kd k_2))]) (rest := []) ⟨hx, hb, hml, hown, hts⟩ (kX1_holdsNumbers l (kd k_2) (by omega)) (va_cwS 1 hts gX1_size_X1_holdsNumbers rfl rfl rfl (by decide +kernel) ⟨Nat.le_of_ble_eq_true rfl, Nat.le_of_ble_eq_true rfl⟩) preEq rfl rfl hl.1 rfl (lv_room (Nat.le_of_ble_eq_true rfl)) dX1_size_36 ⟨Nat.le_of_ble_eq_true rfl, Nat.le_of_ble_eq_true rfl⟩) rfl ?_
      refine ln_b_eq (tgt := 48) hx hb dX1_size_39 (by decide) (fun c_3 => ?_) (fun c_3 => ?_)
      · have c_3 := of_decide_eq_false c_3
        refine lv_aload_n hx hb dX1_size_48 rfl (lv_at hl 0 rfl) ?_
        refine qw_get (v := .int (nI (kd k_2))) (ci := 0) (C := RX0) (T := TX0) (N := 6) hx hb hts nX1_size_0 hown hK (hX.2.2.1 k_2 hk_2).1 rfl 1 (by decide) (hts (.fieldLink RX1 79 "DockGates$Thing" "kind" "I") (by decide +kernel)) rfl rfl dX1_size_49 ?_
        refine qc_ri (r1 := q_b (decide (3 ≤ kd k_2 ∧ kd k_2 < 9))) (W.runS (As := [.int (nI (kd k_2))]) (rest := []) ⟨hx, hb, hml, hown, hts⟩ (kX1_holdsThings l (kd k_2) (by omega)) (va_cwS 1 hts gX1_size_X1_holdsThings rfl rfl rfl (by decide +kernel) ⟨Nat.le_of_ble_eq_true rfl, Nat.le_of_ble_eq_true rfl⟩) preEq rfl rfl hl.1 rfl (lv_room (Nat.le_of_ble_eq_true rfl)) dX1_size_52 ⟨Nat.le_of_ble_eq_true rfl, Nat.le_of_ble_eq_true rfl⟩) rfl ?_
        refine ln_b_eq (tgt := 64) hx hb dX1_size_55 (by decide) (fun c_4 => ?_) (fun c_4 => ?_)
        · have c_4 := of_decide_eq_false c_4
          refine lv_aload_n hx hb dX1_size_64 rfl (lv_at hl 1 rfl) ?_
          refine lv_iload_n hx hb dX1_size_65 rfl (lv_at hl 2 rfl) ?_
          refine lv_bipush (v := nI 8) hx hb dX1_size_66 (by decide) ?_
          refine qc_i (r1 := nI 0) (σ1 := (n, kd, sz, sh, nu, pa, sl, nI 1, (tn + 1), nI j_slot, nI 8)) (va_runV (As := [.int (nI j_slot), .int (nI 8)]) (rest := []) ⟨hx, hb, hml, hown, hts⟩ (kX1_failedAtGate l E x T0 n kd sz sh nu pa sl ((nI 0)) tn ts tg hI (nI j_slot) (nI 8)) (cwV 2 hts gX1_size_X1_failedAtGate rfl rfl rfl (by decide +kernel) ⟨Nat.le_of_ble_eq_true rfl, Nat.le_of_ble_eq_true rfl⟩) (q_preV hK hX hX.1 rfl) rfl rfl hl.1 rfl (lv_room (Nat.le_of_ble_eq_true rfl)) dX1_size_68 ⟨Nat.le_of_ble_eq_true rfl, Nat.le_of_ble_eq_true rfl⟩) hS rfl rfl (fun H locs hX hS => ?_)
          have ee : f_size (n, kd, sz, sh, nu, pa, sl, ft, tn, ts, tg) (nI j_slot) = (nI 0, (n, kd, sz, sh, nu, pa, sl, nI 1, (tn + 1), nI j_slot, nI 8)) := by first | (simp only [f_size, ej_slot, s_2, c_3, c_4]; done) | (simp only [f_size, ej_slot, s_2, c_3, c_4]; rfl) | (simp [f_size, ej_slot, s_2, c_3, c_4]; done) | (simp [f_size, ej_slot, s_2, c_3, c_4]; rfl) | (simp only [f_size, ej_slot, s_2, c_3, c_4]; (repeat' split) <;> first | rfl | (exfalso; omega))
          exact W.iret (v := nI 0) hx hb hr (fun t ht hW => ⟨⟨nI 0, (n, kd, sz, sh, nu, pa, sl, nI 1, (tn + 1), nI j_slot, nI 8), rfl, ⟨(by rw [ee]), (by rw [ee])⟩, (by show q_X E x T0 (n, kd, sz, sh, nu, pa, sl, nI 1, (tn + 1), nI j_slot, nI 8) t.heap; rw [ht]; exact hX)⟩, hS.F ht⟩) hS.2.2 dX1_size_71
        · have c_4 := of_decide_eq_true c_4
          refine lv_aload_n hx hb dX1_size_58 rfl (lv_at hl 0 rfl) ?_
          refine qw_get (v := .ref (T0 + 3 * k_2 + 2)) (ci := 0) (C := RX0) (T := TX0) (N := 6) hx hb hts nX1_size_0 hown hK (hX.2.2.1 k_2 hk_2).1 rfl 3 (by decide) (hts (.fieldLink RX1 96 "DockGates$Thing" "parts" "[LDockGates$Thing;") (by decide +kernel)) rfl rfl dX1_size_59 ?_
          refine qw_tlen (n := q_pl (kd k_2) (sz k_2)) hx hb hK (hX.2.2.1 k_2 hk_2).2.2 dX1_size_62 ?_
          rw [q_pl39 (show 3 ≤ kd k_2 by omega) (show kd k_2 < 9 by omega)]
          have ee : f_size (n, kd, sz, sh, nu, pa, sl, ft, tn, ts, tg) (nI j_slot) = (nI (sz k_2), (n, kd, sz, sh, nu, pa, sl, (nI 0), tn, ts, tg)) := by first | (simp only [f_size, ej_slot, s_2, c_3, c_4]; done) | (simp only [f_size, ej_slot, s_2, c_3, c_4]; rfl) | (simp [f_size, ej_slot, s_2, c_3, c_4]; done) | (simp [f_size, ej_slot, s_2, c_3, c_4]; rfl) | (simp only [f_size, ej_slot, s_2, c_3, c_4]; (repeat' split) <;> first | rfl | (exfalso; omega))
          exact W.iret (v := nI (sz k_2)) hx hb hr (fun t ht hW => ⟨⟨nI (sz k_2), (n, kd, sz, sh, nu, pa, sl, (nI 0), tn, ts, tg), rfl, ⟨(by rw [ee]), (by rw [ee])⟩, (by show q_X E x T0 (n, kd, sz, sh, nu, pa, sl, (nI 0), tn, ts, tg) t.heap; rw [ht]; exact hX)⟩, hS.F ht⟩) hS.2.2 dX1_size_63
      · have c_3 := of_decide_eq_true c_3
        refine lv_aload_n hx hb dX1_size_42 rfl (lv_at hl 0 rfl) ?_
        refine qw_get (v := .ref (T0 + 3 * k_2 + 1)) (ci := 0) (C := RX0) (T := TX0) (N := 6) hx hb hts nX1_size_0 hown hK (hX.2.2.1 k_2 hk_2).1 rfl 2 (by decide) (hts (.fieldLink RX1 75 "DockGates$Thing" "numbers" "[J") (by decide +kernel)) rfl rfl dX1_size_43 ?_
        refine qw_jlen (n := q_nl (kd k_2) (sz k_2)) hx hb hK (hX.2.2.1 k_2 hk_2).2.1 dX1_size_46 ?_
        rw [q_nl3 (show kd k_2 < 3 by omega)]
        have ee : f_size (n, kd, sz, sh, nu, pa, sl, ft, tn, ts, tg) (nI j_slot) = (nI (sz k_2), (n, kd, sz, sh, nu, pa, sl, (nI 0), tn, ts, tg)) := by first | (simp only [f_size, ej_slot, s_2, c_3]; done) | (simp only [f_size, ej_slot, s_2, c_3]; rfl) | (simp [f_size, ej_slot, s_2, c_3]; done) | (simp [f_size, ej_slot, s_2, c_3]; rfl) | (simp only [f_size, ej_slot, s_2, c_3]; (repeat' split) <;> first | rfl | (exfalso; omega))
        exact W.iret (v := nI (sz k_2)) hx hb hr (fun t ht hW => ⟨⟨nI (sz k_2), (n, kd, sz, sh, nu, pa, sl, (nI 0), tn, ts, tg), rfl, ⟨(by rw [ee]), (by rw [ee])⟩, (by show q_X E x T0 (n, kd, sz, sh, nu, pa, sl, (nI 0), tn, ts, tg) t.heap; rw [ht]; exact hX)⟩, hS.F ht⟩) hS.2.2 dX1_size_47
  · have c_1 := q_isn c_1
    refine lv_bipush (v := (-2)) hx hb dX1_size_12 (by decide) ?_
    have ee : f_size (n, kd, sz, sh, nu, pa, sl, ft, tn, ts, tg) slot = (((-2)), (n, kd, sz, sh, nu, pa, sl, (nI 0), tn, ts, tg)) := by first | (simp only [f_size, c_1]; done) | (simp only [f_size, c_1]; rfl) | (simp [f_size, c_1]; done) | (simp [f_size, c_1]; rfl) | (simp only [f_size, c_1]; (repeat' split) <;> first | rfl | (exfalso; omega))
    exact W.iret (v := ((-2))) hx hb hr (fun t ht hW => ⟨⟨((-2)), (n, kd, sz, sh, nu, pa, sl, (nI 0), tn, ts, tg), rfl, ⟨(by rw [ee]), (by rw [ee])⟩, (by show q_X E x T0 (n, kd, sz, sh, nu, pa, sl, (nI 0), tn, ts, tg) t.heap; rw [ht]; exact hX)⟩, hS.F ht⟩) hS.2.2 dX1_size_14
