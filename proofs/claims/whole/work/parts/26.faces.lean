/-! ===== seek, at, fault, told, count of both (written by program) ===== -/
theorem q_inout {x : Int32} {a : Nat} (ha : a < 13) (h : q_ix x 13 = none) : decide (nI a ≤ x ∧ x ≤ nI 12) = false := by
  rw [decide_eq_false_iff_not]
  intro q
  have h1 := q_in0 x (n := 12) (by decide)
  rw [h] at h1
  have h2 := of_decide_eq_false h1
  exact h2 ⟨Int32.le_trans (nI_le (Nat.zero_le a) (by omega)) q.1, q.2⟩
set_option maxRecDepth 20000 in
theorem nX1_seek_1 : ∀ w ∈ u_ws RX1 TX1 6, w ∈ wsX1_seek := by decide +kernel
set_option maxHeartbeats 4000000 in
set_option maxRecDepth 100000 in
theorem kX1_seek (l : Launch) (E : q_E) (x T0 : Nat) (n : Nat) (kd sz : Nat → Nat) (sh : Nat → Bool) (nu : Nat → Nat → Int64) (pa : Nat → Nat → Option Nat) (sl : Nat → Option Nat) (ft tn ts tg : Int32) (hI : q_I (n, kd, sz, sh, nu, pa, sl, ft, tn, ts, tg)) (slot first last : Int32)  : Met l yX1_seek wsX1_seek ({ frames := 1, cells := 0, slots := 0, locals := 22 }) (q_P E (q_X E x T0 (n, kd, sz, sh, nu, pa, sl, ft, tn, ts, tg)) [.ref x, .int slot, .int first, .int last]) (q_Wi (q_X E x T0) (q_Ax x T0) ((f_seek (n, kd, sz, sh, nu, pa, sl, ft, tn, ts, tg) slot first last).1) (f_seek (n, kd, sz, sh, nu, pa, sl, ft, tn, ts, tg) slot first last).2) 0 0 (q_Ax x T0) := by
  refine Met.ofW (cc := cX1_seek) (maxL := 5) (ret := (some .int)) (by decide) rfl ?_
  intro p e s m args below meth c s₁ B hml hv
  obtain ⟨rfl, hK, hX⟩ := hv
  have hx := B.exec
  have hb := B.bytes
  have hr := B.returns
  have hts := atoms_spec (ws := wsX1_seek) B.pre
  have hown : s.vm.findClass RX1 = some m.cls := findClass_of_methodNamed B.named
  have hlocks := B.notSynchronized
  have hl := lv_entry ([.ref x, .int slot, .int first, .int last]) (n := 5) (Nat.le_of_ble_eq_true rfl)
  rw [lg_entry_eq]
  generalize (lg_sl ([.ref x, .int slot, .int first, .int last]) ++ List.replicate (5 - (lg_sl ([.ref x, .int slot, .int first, .int last])).length) Slot.unset).toArray = ls at hl ⊢
  have hl : lv_has ls 5 [(0, .ref x), (1, .int slot), (2, .int first), (3, .int last)] := hl
  have hS : va_S (q_Ax x T0) s.heap s.heap [] := va_S.rf
  refine lv_aload_n hx hb dX1_seek_0 rfl (lv_at hl 0 rfl) ?_
  refine lv_iconst (v := nI 0) hx hb dX1_seek_1 (by decide) ?_
  refine qw_put (ci := 1) (C := RX1) (T := TX1) (N := 6) hx hb hts nX1_seek_1 tyX1 tyX1_ok nmX1 hown hK hX.1 hS (Or.inl rfl) rfl 2 (by decide) (hts (.fieldLink RX1 19 "DockGates" "latestFault" "I") (by decide +kernel)) rfl rfl rfl rfl (Nat.le_of_ble_eq_true rfl) dX1_seek_2 (fun H locs hO hz hq hS => ?_)
  have hX : q_X E x T0 (n, kd, sz, sh, nu, pa, sl, (nI 0), tn, ts, tg) H := hX.obj hO hz hq
  refine lv_iload_n hx hb dX1_seek_5 rfl (lv_at hl 1 rfl) ?_
  refine qc_ri (r1 := q_b ((q_ix slot 12).isSome)) (W.runS (As := [.int slot]) (rest := []) ⟨hx, hb, hml, hown, hts⟩ (kX1_isSlot l slot) (va_cwS 1 hts gX1_seek_X1_isSlot rfl rfl rfl (by decide +kernel) ⟨Nat.le_of_ble_eq_true rfl, Nat.le_of_ble_eq_true rfl⟩) preEq rfl rfl hl.1 rfl (lv_room (Nat.le_of_ble_eq_true rfl)) dX1_seek_6 ⟨Nat.le_of_ble_eq_true rfl, Nat.le_of_ble_eq_true rfl⟩) rfl ?_
  refine ln_b_eq (tgt := 31) hx hb dX1_seek_9 (by decide) (fun c_1 => ?_) (fun c_1 => ?_)
  · have c_1 := q_isn c_1
    refine lv_bipush (v := (-2)) hx hb dX1_seek_31 (by decide) ?_
    have ee : f_seek (n, kd, sz, sh, nu, pa, sl, ft, tn, ts, tg) slot first last = (((-2)), (n, kd, sz, sh, nu, pa, sl, (nI 0), tn, ts, tg)) := by first | (simp only [f_seek, c_1]; done) | (simp only [f_seek, c_1]; rfl) | (simp only [f_seek, c_1]; rw [if_pos (by omega)]; rfl)
    exact W.iret (v := ((-2))) hx hb hr (fun t ht hW => ⟨⟨((-2)), (n, kd, sz, sh, nu, pa, sl, (nI 0), tn, ts, tg), rfl, ⟨(by rw [ee]), (by rw [ee])⟩, (by show q_X E x T0 (n, kd, sz, sh, nu, pa, sl, (nI 0), tn, ts, tg) t.heap; rw [ht]; exact hX)⟩, hS.F ht⟩) hS.2.2 dX1_seek_33
  · obtain ⟨j_slot, hj_slot, rfl⟩ := q_is (by first | decide | omega) c_1
    have ej_slot := q_ix_in hj_slot (by first | decide | omega)
    refine lv_iload_n hx hb dX1_seek_12 rfl (lv_at hl 2 rfl) ?_
    refine qc_ri (r1 := q_b ((q_ix first 13).isSome)) (W.runS (As := [.int first]) (rest := []) ⟨hx, hb, hml, hown, hts⟩ (kX1_isGate l first) (va_cwS 1 hts gX1_seek_X1_isGate rfl rfl rfl (by decide +kernel) ⟨Nat.le_of_ble_eq_true rfl, Nat.le_of_ble_eq_true rfl⟩) preEq rfl rfl hl.1 rfl (lv_room (Nat.le_of_ble_eq_true rfl)) dX1_seek_13 ⟨Nat.le_of_ble_eq_true rfl, Nat.le_of_ble_eq_true rfl⟩) rfl ?_
    refine ln_b_eq (tgt := 31) hx hb dX1_seek_16 (by decide) (fun c_2 => ?_) (fun c_2 => ?_)
    · have c_2 := q_isn c_2
      refine lv_bipush (v := (-2)) hx hb dX1_seek_31 (by decide) ?_
      have ee : f_seek (n, kd, sz, sh, nu, pa, sl, ft, tn, ts, tg) (nI j_slot) first last = (((-2)), (n, kd, sz, sh, nu, pa, sl, (nI 0), tn, ts, tg)) := by first | (simp only [f_seek, ej_slot, c_2]; done) | (simp only [f_seek, ej_slot, c_2]; rfl) | (simp only [f_seek, ej_slot, c_2]; rw [if_pos (by omega)]; rfl)
      exact W.iret (v := ((-2))) hx hb hr (fun t ht hW => ⟨⟨((-2)), (n, kd, sz, sh, nu, pa, sl, (nI 0), tn, ts, tg), rfl, ⟨(by rw [ee]), (by rw [ee])⟩, (by show q_X E x T0 (n, kd, sz, sh, nu, pa, sl, (nI 0), tn, ts, tg) t.heap; rw [ht]; exact hX)⟩, hS.F ht⟩) hS.2.2 dX1_seek_33
    · obtain ⟨j_first, hj_first, rfl⟩ := q_is (by first | decide | omega) c_2
      have ej_first := q_ix_in hj_first (by first | decide | omega)
      refine lv_iload_n hx hb dX1_seek_19 rfl (lv_at hl 3 rfl) ?_
      refine qc_ri (r1 := q_b ((q_ix last 13).isSome)) (W.runS (As := [.int last]) (rest := []) ⟨hx, hb, hml, hown, hts⟩ (kX1_isGate l last) (va_cwS 1 hts gX1_seek_X1_isGate rfl rfl rfl (by decide +kernel) ⟨Nat.le_of_ble_eq_true rfl, Nat.le_of_ble_eq_true rfl⟩) preEq rfl rfl hl.1 rfl (lv_room (Nat.le_of_ble_eq_true rfl)) dX1_seek_20 ⟨Nat.le_of_ble_eq_true rfl, Nat.le_of_ble_eq_true rfl⟩) rfl ?_
      refine ln_b_eq (tgt := 31) hx hb dX1_seek_23 (by decide) (fun c_3 => ?_) (fun c_3 => ?_)
      · have c_3 := q_isn c_3
        refine lv_bipush (v := (-2)) hx hb dX1_seek_31 (by decide) ?_
        have ee : f_seek (n, kd, sz, sh, nu, pa, sl, ft, tn, ts, tg) (nI j_slot) (nI j_first) last = (((-2)), (n, kd, sz, sh, nu, pa, sl, (nI 0), tn, ts, tg)) := by first | (simp only [f_seek, ej_slot, ej_first, c_3]; done) | (simp only [f_seek, ej_slot, ej_first, c_3]; rfl) | (simp only [f_seek, ej_slot, ej_first, c_3]; rw [if_pos (by omega)]; rfl)
        exact W.iret (v := ((-2))) hx hb hr (fun t ht hW => ⟨⟨((-2)), (n, kd, sz, sh, nu, pa, sl, (nI 0), tn, ts, tg), rfl, ⟨(by rw [ee]), (by rw [ee])⟩, (by show q_X E x T0 (n, kd, sz, sh, nu, pa, sl, (nI 0), tn, ts, tg) t.heap; rw [ht]; exact hX)⟩, hS.F ht⟩) hS.2.2 dX1_seek_33
      · obtain ⟨j_last, hj_last, rfl⟩ := q_is (by first | decide | omega) c_3
        have ej_last := q_ix_in hj_last (by first | decide | omega)
        refine lv_iload_n hx hb dX1_seek_26 rfl (lv_at hl 3 rfl) ?_
        refine lv_iload_n hx hb dX1_seek_27 rfl (lv_at hl 2 rfl) ?_
        refine ln_cmp_ge (tgt := 34) hx hb (by omega) (by omega) dX1_seek_28 (by decide) (fun c_4 => ?_) (fun c_4 => ?_)
        · refine lv_iload_n hx hb dX1_seek_34 rfl (lv_at hl 2 rfl) ?_
          refine lv_istore (lv' := [(4, .int (nI j_first)), (0, .ref x), (1, .int (nI j_slot)), (2, .int (nI j_first)), (3, .int (nI j_last))]) hx hb dX1_seek_35 hl (by decide) rfl (fun ls hl => ?_)
          obtain ⟨i, ei⟩ : ∃ i : Nat, i = j_first := ⟨_, rfl⟩
          obtain ⟨un, eun⟩ : ∃ q, q = tn := ⟨_, rfl⟩
          obtain ⟨us, eus⟩ : ∃ q, q = ts := ⟨_, rfl⟩
          obtain ⟨ug, eug⟩ : ∃ q, q = tg := ⟨_, rfl⟩
          refine qw_name (P := fun H locs => q_X E x T0 (n, kd, sz, sh, nu, pa, sl, (nI 0), un, us, ug) H ∧ va_S (q_Ax x T0) s.heap H locs) (by subst ei; subst eun; subst eus; subst eug; exact ⟨hX, hS⟩) (fun H locs hMS => ?_)
          clear hX hS
          obtain ⟨hX, hS⟩ := hMS
          have hl : lv_has ls 5 [(0, .ref x), (1, .int (nI j_slot)), (2, .int (nI j_first)), (3, .int (nI j_last)), (4, .int (nI i))] := by subst ei; exact lv_sub hl [1, 2, 3, 4, 0] rfl
          generalize els : ls = lz at hl ⊢
          clear els
          obtain ⟨d, hd⟩ : ∃ d, i + d = j_last + 1 := ⟨j_last + 1 - i, by omega⟩
          have hin : q_sk (q_fit kd (sl j_slot)) (nI j_slot) (j_last + 1 - j_first) j_first (tn, ts, tg) = q_sk (q_fit kd (sl j_slot)) (nI j_slot) d i (un, us, ug) := by rw [show j_last + 1 - j_first = d by omega, ei, eun, eus, eug]
          clear ei eun eus eug
          induction d generalizing i un us ug H locs lz with
          | zero =>
            refine lv_iload hx hb dX1_seek_37 (lv_at hl 4 rfl) ?_
            refine lv_iload_n hx hb dX1_seek_39 rfl (lv_at hl 3 rfl) ?_
            refine ln_cmp_gt (tgt := 73) hx hb (by omega) (by omega) dX1_seek_40 (by decide) (fun _ => ?_) (fun c_5 => absurd c_5 (by omega))
            refine lv_iconst (v := (-1)) hx hb dX1_seek_73 (by decide) ?_
            have e2 : q_sk (q_fit kd (sl j_slot)) (nI j_slot) (j_last + 1 - j_first) j_first (tn, ts, tg) = (-1, (un, us, ug)) := by rw [hin]; rfl
            have ee : f_seek (n, kd, sz, sh, nu, pa, sl, ft, tn, ts, tg) (nI j_slot) (nI j_first) (nI j_last) = (((-1)), (n, kd, sz, sh, nu, pa, sl, (nI 0), un, us, ug)) := by simp only [f_seek, ej_slot, ej_first, ej_last]; rw [if_neg (by omega), e2]; rfl
            exact W.iret (v := ((-1))) hx hb hr (fun t ht hW => ⟨⟨((-1)), (n, kd, sz, sh, nu, pa, sl, (nI 0), un, us, ug), rfl, ⟨(by rw [ee]), (by rw [ee])⟩, (by show q_X E x T0 (n, kd, sz, sh, nu, pa, sl, (nI 0), un, us, ug) t.heap; rw [ht]; exact hX)⟩, hS.F ht⟩) hS.2.2 dX1_seek_74
          | succ d ih =>
            refine lv_iload hx hb dX1_seek_37 (lv_at hl 4 rfl) ?_
            refine lv_iload_n hx hb dX1_seek_39 rfl (lv_at hl 3 rfl) ?_
            refine ln_cmp_gt (tgt := 73) hx hb (by omega) (by omega) dX1_seek_40 (by decide) (fun c_6 => absurd c_6 (by omega)) (fun _ => ?_)
            refine lv_iload hx hb dX1_seek_43 (lv_at hl 4 rfl) ?_
            refine lv_aload_n hx hb dX1_seek_45 rfl (lv_at hl 0 rfl) ?_
            refine qw_get (v := .ref (x + 1)) (ci := 1) (C := RX1) (T := TX1) (N := 6) hx hb hts nX1_seek_1 hown hK hX.1 rfl 0 (by decide) (hts (.fieldLink RX1 11 "DockGates" "slots" "[LDockGates$Thing;") (by decide +kernel)) rfl rfl dX1_seek_46 ?_
            refine lv_iload_n hx hb dX1_seek_49 rfl (lv_at hl 1 rfl) ?_
            refine qx_slot hx hb hK hX hI hj_slot dX1_seek_50 (fun s_7 => ?_) (fun k_7 hk_7 s_7 => ?_)
            · try dsimp only at s_7
              refine qc_ri (r1 := q_b false) (W.runS (As := [.int (nI i), .null]) (rest := []) ⟨hx, hb, hml, hown, hts⟩ (kX1_letsThrough_N l E x T0 n kd sz sh nu pa sl ((nI 0)) un us ug hI i) (va_cwS 2 hts gX1_seek_X1_letsThrough rfl rfl rfl (by decide +kernel) ⟨Nat.le_of_ble_eq_true rfl, Nat.le_of_ble_eq_true rfl⟩) (q_pre hK hX) rfl rfl hl.1 rfl (lv_room (Nat.le_of_ble_eq_true rfl)) dX1_seek_51 ⟨Nat.le_of_ble_eq_true rfl, Nat.le_of_ble_eq_true rfl⟩) rfl ?_
              refine ln_b_eq (tgt := 60) hx hb dX1_seek_54 (by decide) (fun _ => ?_) (fun c_8 => absurd c_8 (by decide))
              refine lv_aload_n hx hb dX1_seek_60 rfl (lv_at hl 0 rfl) ?_
              refine lv_iload_n hx hb dX1_seek_61 rfl (lv_at hl 1 rfl) ?_
              refine lv_iload hx hb dX1_seek_62 (lv_at hl 4 rfl) ?_
              refine qc_v (σ1 := (n, kd, sz, sh, nu, pa, sl, (nI 0), (un + 1), nI j_slot, nI i)) (va_runV (As := [.int (nI j_slot), .int (nI i)]) (rest := []) ⟨hx, hb, hml, hown, hts⟩ (kX1_turnBack l E x T0 n kd sz sh nu pa sl ((nI 0)) un us ug hI (nI j_slot) (nI i)) (cwV 2 hts gX1_seek_X1_turnBack rfl rfl rfl (by decide +kernel) ⟨Nat.le_of_ble_eq_true rfl, Nat.le_of_ble_eq_true rfl⟩) (q_preV hK hX hX.1 rfl) rfl rfl hl.1 rfl (lv_room (Nat.le_of_ble_eq_true rfl)) dX1_seek_64 ⟨Nat.le_of_ble_eq_true rfl, Nat.le_of_ble_eq_true rfl⟩) hS rfl (fun H locs hX hS => ?_)
              refine lv_iinc (v := nI (i + 1)) (lv' := [(4, .int (nI (i + 1))), (0, .ref x), (1, .int (nI j_slot)), (2, .int (nI j_first)), (3, .int (nI j_last))]) hx hb dX1_seek_67 hl (k := 4) rfl (nI_1 _) (by decide) rfl (fun ls hl => ?_)
              refine lv_goto (tgt := 37) hx hb dX1_seek_70 (by decide) ?_
              exact ih (i + 1) (un + 1) (nI j_slot) (nI i) H locs (by exact hX) hS ls (lv_sub hl [1, 2, 3, 4, 0] rfl)  (by omega) (by rw [hin]; show q_sk (q_fit kd (sl j_slot)) (nI j_slot) (d + 1) i (un, us, ug) = _; simp only [q_sk]; rw [if_neg (by simp [q_fit, s_7])])
            · try dsimp only at s_7 hk_7
              obtain ⟨ak_7, bk_7, dk_7, wk_7⟩ := hI.2.1 k_7 hk_7
              have n60 := hI.1
              try dsimp only at ak_7 bk_7 dk_7 wk_7 n60
              refine qc_ri (r1 := q_b (q_go (kd k_7) i)) (W.runS (As := [.int (nI i), .ref (T0 + 3 * k_7)]) (rest := []) ⟨hx, hb, hml, hown, hts⟩ (kX1_letsThrough_S l E x T0 n kd sz sh nu pa sl ((nI 0)) un us ug hI i (by first | omega | decide) k_7 hk_7) (va_cwS 2 hts gX1_seek_X1_letsThrough rfl rfl rfl (by decide +kernel) ⟨Nat.le_of_ble_eq_true rfl, Nat.le_of_ble_eq_true rfl⟩) (q_pre hK hX) rfl rfl hl.1 rfl (lv_room (Nat.le_of_ble_eq_true rfl)) dX1_seek_51 ⟨Nat.le_of_ble_eq_true rfl, Nat.le_of_ble_eq_true rfl⟩) rfl ?_
              refine ln_b_eq (tgt := 60) hx hb dX1_seek_54 (by decide) (fun c_9 => ?_) (fun c_9 => ?_)
              · refine lv_aload_n hx hb dX1_seek_60 rfl (lv_at hl 0 rfl) ?_
                refine lv_iload_n hx hb dX1_seek_61 rfl (lv_at hl 1 rfl) ?_
                refine lv_iload hx hb dX1_seek_62 (lv_at hl 4 rfl) ?_
                refine qc_v (σ1 := (n, kd, sz, sh, nu, pa, sl, (nI 0), (un + 1), nI j_slot, nI i)) (va_runV (As := [.int (nI j_slot), .int (nI i)]) (rest := []) ⟨hx, hb, hml, hown, hts⟩ (kX1_turnBack l E x T0 n kd sz sh nu pa sl ((nI 0)) un us ug hI (nI j_slot) (nI i)) (cwV 2 hts gX1_seek_X1_turnBack rfl rfl rfl (by decide +kernel) ⟨Nat.le_of_ble_eq_true rfl, Nat.le_of_ble_eq_true rfl⟩) (q_preV hK hX hX.1 rfl) rfl rfl hl.1 rfl (lv_room (Nat.le_of_ble_eq_true rfl)) dX1_seek_64 ⟨Nat.le_of_ble_eq_true rfl, Nat.le_of_ble_eq_true rfl⟩) hS rfl (fun H locs hX hS => ?_)
                refine lv_iinc (v := nI (i + 1)) (lv' := [(4, .int (nI (i + 1))), (0, .ref x), (1, .int (nI j_slot)), (2, .int (nI j_first)), (3, .int (nI j_last))]) hx hb dX1_seek_67 hl (k := 4) rfl (nI_1 _) (by decide) rfl (fun ls hl => ?_)
                refine lv_goto (tgt := 37) hx hb dX1_seek_70 (by decide) ?_
                exact ih (i + 1) (un + 1) (nI j_slot) (nI i) H locs (by exact hX) hS ls (lv_sub hl [1, 2, 3, 4, 0] rfl)  (by omega) (by rw [hin]; show q_sk (q_fit kd (sl j_slot)) (nI j_slot) (d + 1) i (un, us, ug) = _; simp only [q_sk]; rw [if_neg (by simp [q_fit, s_7, c_9])])
              · refine lv_iload hx hb dX1_seek_57 (lv_at hl 4 rfl) ?_
                have e2 : q_sk (q_fit kd (sl j_slot)) (nI j_slot) (j_last + 1 - j_first) j_first (tn, ts, tg) = (nI i, (un, us, ug)) := by rw [hin]; simp only [q_sk]; rw [if_pos (by simp [q_fit, s_7, c_9])]
                have ee : f_seek (n, kd, sz, sh, nu, pa, sl, ft, tn, ts, tg) (nI j_slot) (nI j_first) (nI j_last) = (nI i, (n, kd, sz, sh, nu, pa, sl, (nI 0), un, us, ug)) := by simp only [f_seek, ej_slot, ej_first, ej_last]; rw [if_neg (by omega), e2]; rfl
                exact W.iret (v := nI i) hx hb hr (fun t ht hW => ⟨⟨nI i, (n, kd, sz, sh, nu, pa, sl, (nI 0), un, us, ug), rfl, ⟨(by rw [ee]), (by rw [ee])⟩, (by show q_X E x T0 (n, kd, sz, sh, nu, pa, sl, (nI 0), un, us, ug) t.heap; rw [ht]; exact hX)⟩, hS.F ht⟩) hS.2.2 dX1_seek_59
        · refine lv_bipush (v := (-2)) hx hb dX1_seek_31 (by decide) ?_
          have ee : f_seek (n, kd, sz, sh, nu, pa, sl, ft, tn, ts, tg) (nI j_slot) (nI j_first) (nI j_last) = (((-2)), (n, kd, sz, sh, nu, pa, sl, (nI 0), tn, ts, tg)) := by first | (simp only [f_seek, ej_slot, ej_first, ej_last, c_4]; done) | (simp only [f_seek, ej_slot, ej_first, ej_last, c_4]; rfl) | (simp only [f_seek, ej_slot, ej_first, ej_last, c_4]; rw [if_pos (by omega)]; rfl)
          exact W.iret (v := ((-2))) hx hb hr (fun t ht hW => ⟨⟨((-2)), (n, kd, sz, sh, nu, pa, sl, (nI 0), tn, ts, tg), rfl, ⟨(by rw [ee]), (by rw [ee])⟩, (by show q_X E x T0 (n, kd, sz, sh, nu, pa, sl, (nI 0), tn, ts, tg) t.heap; rw [ht]; exact hX)⟩, hS.F ht⟩) hS.2.2 dX1_seek_33
set_option maxRecDepth 20000 in
theorem nX2_seek_2 : ∀ w ∈ u_ws RX2 TX2 10, w ∈ wsX2_seek := by decide +kernel
set_option maxHeartbeats 4000000 in
set_option maxRecDepth 100000 in
theorem kX2_seek (l : Launch) (E : q_E) (mm S : Nat) (n : Nat) (kd sz : Nat → Nat) (sh : Nat → Bool) (nu : Nat → Nat → Int64) (pa : Nat → Nat → Option Nat) (sl : Nat → Option Nat) (ft tn ts tg : Int32) (hI : q_I (n, kd, sz, sh, nu, pa, sl, ft, tn, ts, tg)) (slot first last : Int32)  : Met l yX2_seek wsX2_seek ({ frames := 2, cells := 0, slots := 0, locals := 43 }) (q_P E (q_M E mm S (n, kd, sz, sh, nu, pa, sl, ft, tn, ts, tg)) [.ref mm, .int slot, .int first, .int last]) (q_Wi (q_M E mm S) (q_Am mm) ((f_seek (n, kd, sz, sh, nu, pa, sl, ft, tn, ts, tg) slot first last).1) (f_seek (n, kd, sz, sh, nu, pa, sl, ft, tn, ts, tg) slot first last).2) 0 0 (q_Am mm) := by
  refine Met.ofW (cc := cX2_seek) (maxL := 5) (ret := (some .int)) (by decide) rfl ?_
  intro p e s m args below meth c s₁ B hml hv
  obtain ⟨rfl, hK, hM⟩ := hv
  have hx := B.exec
  have hb := B.bytes
  have hr := B.returns
  have hts := atoms_spec (ws := wsX2_seek) B.pre
  have hown : s.vm.findClass RX2 = some m.cls := findClass_of_methodNamed B.named
  have hlocks := B.notSynchronized
  have hl := lv_entry ([.ref mm, .int slot, .int first, .int last]) (n := 5) (Nat.le_of_ble_eq_true rfl)
  rw [lg_entry_eq]
  generalize (lg_sl ([.ref mm, .int slot, .int first, .int last]) ++ List.replicate (5 - (lg_sl ([.ref mm, .int slot, .int first, .int last])).length) Slot.unset).toArray = ls at hl ⊢
  have hl : lv_has ls 5 [(0, .ref mm), (1, .int slot), (2, .int first), (3, .int last)] := hl
  have hS : va_S (q_Am mm) s.heap s.heap [] := va_S.rf
  refine lv_iload_n hx hb dX2_seek_0 rfl (lv_at hl 1 rfl) ?_
  refine qc_ri (r1 := q_b ((q_ix slot 12).isSome)) (W.runS (As := [.int slot]) (rest := []) ⟨hx, hb, hml, hown, hts⟩ (kX2_isSlot l slot) (va_cwS 1 hts gX2_seek_X2_isSlot rfl rfl rfl (by decide +kernel) ⟨Nat.le_of_ble_eq_true rfl, Nat.le_of_ble_eq_true rfl⟩) preEq rfl rfl hl.1 rfl (lv_room (Nat.le_of_ble_eq_true rfl)) dX2_seek_1 ⟨Nat.le_of_ble_eq_true rfl, Nat.le_of_ble_eq_true rfl⟩) rfl ?_
  refine ln_b_eq (tgt := 27) hx hb dX2_seek_4 (by decide) (fun c_1 => ?_) (fun c_1 => ?_)
  · have c_1 := q_isn c_1
    refine lv_aload_n hx hb dX2_seek_27 rfl (lv_at hl 0 rfl) ?_
    refine qc_i (r1 := ((-2))) (σ1 := (n, kd, sz, sh, nu, pa, sl, nI 0, tn, ts, tg)) (va_runV (As := []) (rest := []) ⟨hx, hb, hml, hown, hts⟩ (kX2_bad l E mm S n kd sz sh nu pa sl ft tn ts tg hI) (cwV 0 hts gX2_seek_X2_bad rfl rfl rfl (by decide +kernel) ⟨Nat.le_of_ble_eq_true rfl, Nat.le_of_ble_eq_true rfl⟩) (q_preV hK hM hM.1 rfl) rfl rfl hl.1 rfl (lv_room (Nat.le_of_ble_eq_true rfl)) dX2_seek_28 ⟨Nat.le_of_ble_eq_true rfl, Nat.le_of_ble_eq_true rfl⟩) hS rfl rfl (fun H locs hM hS => ?_)
    have ee : f_seek (n, kd, sz, sh, nu, pa, sl, ft, tn, ts, tg) slot first last = (((-2)), (n, kd, sz, sh, nu, pa, sl, nI 0, tn, ts, tg)) := by first | (simp only [f_seek, c_1]; done) | (simp only [f_seek, c_1]; rfl) | (simp only [f_seek, c_1]; rw [if_pos (by omega)]; rfl)
    exact W.iret (v := ((-2))) hx hb hr (fun tt ht hW => ⟨⟨((-2)), (n, kd, sz, sh, nu, pa, sl, nI 0, tn, ts, tg), rfl, ⟨(by rw [ee]), (by rw [ee])⟩, (by show q_M E mm S (n, kd, sz, sh, nu, pa, sl, nI 0, tn, ts, tg) tt.heap; rw [ht]; exact hM)⟩, hS.F ht⟩) hS.2.2 dX2_seek_31
  · obtain ⟨j_slot, hj_slot, rfl⟩ := q_is (by first | decide | omega) c_1
    have ej_slot := q_ix_in hj_slot (by first | decide | omega)
    refine lv_iload_n hx hb dX2_seek_7 rfl (lv_at hl 2 rfl) ?_
    refine lv_iconst (v := nI 0) hx hb dX2_seek_8 (by decide) ?_
    refine lv_bipush (v := nI 12) hx hb dX2_seek_9 (by decide) ?_
    refine qc_ri (r1 := q_b ((q_ix first 13).isSome)) (W.runS (As := [.int first, .int (nI 0), .int (nI 12)]) (rest := []) ⟨hx, hb, hml, hown, hts⟩ (kX2_isIn l first (nI 0) (nI 12)) (va_cwS 3 hts gX2_seek_X2_isIn rfl rfl rfl (by decide +kernel) ⟨Nat.le_of_ble_eq_true rfl, Nat.le_of_ble_eq_true rfl⟩) preEq rfl rfl hl.1 rfl (lv_room (Nat.le_of_ble_eq_true rfl)) dX2_seek_11 ⟨Nat.le_of_ble_eq_true rfl, Nat.le_of_ble_eq_true rfl⟩) (congrArg q_b (q_in0 _ (by decide))) ?_
    refine ln_b_eq (tgt := 27) hx hb dX2_seek_14 (by decide) (fun c_2 => ?_) (fun c_2 => ?_)
    · have c_2 := q_isn c_2
      refine lv_aload_n hx hb dX2_seek_27 rfl (lv_at hl 0 rfl) ?_
      refine qc_i (r1 := ((-2))) (σ1 := (n, kd, sz, sh, nu, pa, sl, nI 0, tn, ts, tg)) (va_runV (As := []) (rest := []) ⟨hx, hb, hml, hown, hts⟩ (kX2_bad l E mm S n kd sz sh nu pa sl ft tn ts tg hI) (cwV 0 hts gX2_seek_X2_bad rfl rfl rfl (by decide +kernel) ⟨Nat.le_of_ble_eq_true rfl, Nat.le_of_ble_eq_true rfl⟩) (q_preV hK hM hM.1 rfl) rfl rfl hl.1 rfl (lv_room (Nat.le_of_ble_eq_true rfl)) dX2_seek_28 ⟨Nat.le_of_ble_eq_true rfl, Nat.le_of_ble_eq_true rfl⟩) hS rfl rfl (fun H locs hM hS => ?_)
      have ee : f_seek (n, kd, sz, sh, nu, pa, sl, ft, tn, ts, tg) (nI j_slot) first last = (((-2)), (n, kd, sz, sh, nu, pa, sl, nI 0, tn, ts, tg)) := by first | (simp only [f_seek, ej_slot, c_2]; done) | (simp only [f_seek, ej_slot, c_2]; rfl) | (simp only [f_seek, ej_slot, c_2]; rw [if_pos (by omega)]; rfl)
      exact W.iret (v := ((-2))) hx hb hr (fun tt ht hW => ⟨⟨((-2)), (n, kd, sz, sh, nu, pa, sl, nI 0, tn, ts, tg), rfl, ⟨(by rw [ee]), (by rw [ee])⟩, (by show q_M E mm S (n, kd, sz, sh, nu, pa, sl, nI 0, tn, ts, tg) tt.heap; rw [ht]; exact hM)⟩, hS.F ht⟩) hS.2.2 dX2_seek_31
    · obtain ⟨j_first, hj_first, rfl⟩ := q_is (by first | decide | omega) c_2
      have ej_first := q_ix_in hj_first (by first | decide | omega)
      refine lv_iload_n hx hb dX2_seek_17 rfl (lv_at hl 3 rfl) ?_
      refine lv_iload_n hx hb dX2_seek_18 rfl (lv_at hl 2 rfl) ?_
      refine lv_bipush (v := nI 12) hx hb dX2_seek_19 (by decide) ?_
      rcases q_ix_or last (show 13 < 2 ^ 31 by decide) with ⟨j_last, hj_last, rfl⟩ | x_3
      · have ej_last := q_ix_in hj_last (by decide)
        refine qc_ri (r1 := q_b (decide (j_first ≤ j_last ∧ j_last ≤ 12))) (W.runS (As := [.int (nI j_last), .int (nI j_first), .int (nI 12)]) (rest := []) ⟨hx, hb, hml, hown, hts⟩ (kX2_isIn l (nI j_last) (nI j_first) (nI 12)) (va_cwS 3 hts gX2_seek_X2_isIn rfl rfl rfl (by decide +kernel) ⟨Nat.le_of_ble_eq_true rfl, Nat.le_of_ble_eq_true rfl⟩) preEq rfl rfl hl.1 rfl (lv_room (Nat.le_of_ble_eq_true rfl)) dX2_seek_21 ⟨Nat.le_of_ble_eq_true rfl, Nat.le_of_ble_eq_true rfl⟩) (by rw [q_inN (by omega) (by omega) (by omega)]) ?_
        refine ln_b_ne (tgt := 32) hx hb dX2_seek_24 (by decide) (fun c_4 => ?_) (fun c_4 => ?_)
        · have c_4 := of_decide_eq_true c_4
          refine lv_aload_n hx hb dX2_seek_32 rfl (lv_at hl 0 rfl) ?_
          refine lv_iconst (v := nI 0) hx hb dX2_seek_33 (by decide) ?_
          refine qw_put (ci := 2) (C := RX2) (T := TX2) (N := 10) hx hb hts nX2_seek_2 tyX2 tyX2_ok nmX2 hown hK hM.1 hS ⟨by omega, by omega⟩ rfl 6 (by decide) (hts (.fieldLink RX2 42 "DockGatesModel" "fault" "I") (by decide +kernel)) rfl rfl rfl rfl (Nat.le_of_ble_eq_true rfl) dX2_seek_34 (fun H locs hO hz hq hS => ?_)
          have hM : q_M E mm S (n, kd, sz, sh, nu, pa, sl, (nI 0), tn, ts, tg) H := hM.obj hO hz hq
          refine lv_iload_n hx hb dX2_seek_37 rfl (lv_at hl 2 rfl) ?_
          refine lv_istore (lv' := [(4, .int (nI j_first)), (0, .ref mm), (1, .int (nI j_slot)), (2, .int (nI j_first)), (3, .int (nI j_last))]) hx hb dX2_seek_38 hl (by decide) rfl (fun ls hl => ?_)
          obtain ⟨i, ei⟩ : ∃ i : Nat, i = j_first := ⟨_, rfl⟩
          obtain ⟨un, eun⟩ : ∃ q, q = tn := ⟨_, rfl⟩
          obtain ⟨us, eus⟩ : ∃ q, q = ts := ⟨_, rfl⟩
          obtain ⟨ug, eug⟩ : ∃ q, q = tg := ⟨_, rfl⟩
          refine qw_name (P := fun H locs => q_M E mm S (n, kd, sz, sh, nu, pa, sl, (nI 0), un, us, ug) H ∧ va_S (q_Am mm) s.heap H locs) (by subst ei; subst eun; subst eus; subst eug; exact ⟨hM, hS⟩) (fun H locs hMS => ?_)
          clear hM hS
          obtain ⟨hM, hS⟩ := hMS
          have hl : lv_has ls 5 [(0, .ref mm), (1, .int (nI j_slot)), (2, .int (nI j_first)), (3, .int (nI j_last)), (4, .int (nI i))] := by subst ei; exact lv_sub hl [1, 2, 3, 4, 0] rfl
          generalize els : ls = lz at hl ⊢
          clear els
          obtain ⟨d, hd⟩ : ∃ d, i + d = j_last + 1 := ⟨j_last + 1 - i, by omega⟩
          have hin : q_sk (q_fit kd (sl j_slot)) (nI j_slot) (j_last + 1 - j_first) j_first (tn, ts, tg) = q_sk (q_fit kd (sl j_slot)) (nI j_slot) d i (un, us, ug) := by rw [show j_last + 1 - j_first = d by omega, ei, eun, eus, eug]
          clear ei eun eus eug
          induction d generalizing i un us ug H locs lz with
          | zero =>
            refine lv_iload hx hb dX2_seek_40 (lv_at hl 4 rfl) ?_
            refine lv_iload_n hx hb dX2_seek_42 rfl (lv_at hl 3 rfl) ?_
            refine ln_cmp_gt (tgt := 72) hx hb (by omega) (by omega) dX2_seek_43 (by decide) (fun _ => ?_) (fun c_5 => absurd c_5 (by omega))
            refine lv_iconst (v := (-1)) hx hb dX2_seek_72 (by decide) ?_
            have e2 : q_sk (q_fit kd (sl j_slot)) (nI j_slot) (j_last + 1 - j_first) j_first (tn, ts, tg) = (-1, (un, us, ug)) := by rw [hin]; rfl
            have ee : f_seek (n, kd, sz, sh, nu, pa, sl, ft, tn, ts, tg) (nI j_slot) (nI j_first) (nI j_last) = (((-1)), (n, kd, sz, sh, nu, pa, sl, (nI 0), un, us, ug)) := by simp only [f_seek, ej_slot, ej_first, ej_last]; rw [if_neg (by omega), e2]; rfl
            exact W.iret (v := ((-1))) hx hb hr (fun tt ht hW => ⟨⟨((-1)), (n, kd, sz, sh, nu, pa, sl, (nI 0), un, us, ug), rfl, ⟨(by rw [ee]), (by rw [ee])⟩, (by show q_M E mm S (n, kd, sz, sh, nu, pa, sl, (nI 0), un, us, ug) tt.heap; rw [ht]; exact hM)⟩, hS.F ht⟩) hS.2.2 dX2_seek_73
          | succ d ih =>
            refine lv_iload hx hb dX2_seek_40 (lv_at hl 4 rfl) ?_
            refine lv_iload_n hx hb dX2_seek_42 rfl (lv_at hl 3 rfl) ?_
            refine ln_cmp_gt (tgt := 72) hx hb (by omega) (by omega) dX2_seek_43 (by decide) (fun c_6 => absurd c_6 (by omega)) (fun _ => ?_)
            refine lv_aload_n hx hb dX2_seek_46 rfl (lv_at hl 0 rfl) ?_
            refine lv_iload_n hx hb dX2_seek_47 rfl (lv_at hl 1 rfl) ?_
            refine lv_iload hx hb dX2_seek_48 (lv_at hl 4 rfl) ?_
            cases s_7 : sl j_slot with
            | none =>
              refine qc_ri (r1 := q_b false) (W.runV (As := [.int (nI j_slot), .int (nI i)]) (rest := []) ⟨hx, hb, hml, hown, hts⟩ (kX2_fitsAt l E mm S n kd sz sh nu pa sl ((nI 0)) un us ug hI j_slot i hj_slot (by first | omega | decide)) (cwV 2 hts gX2_seek_X2_fitsAt rfl rfl rfl (by decide +kernel) ⟨Nat.le_of_ble_eq_true rfl, Nat.le_of_ble_eq_true rfl⟩) (q_preV hK hM hM.1 rfl) rfl rfl hl.1 rfl (lv_room (Nat.le_of_ble_eq_true rfl)) dX2_seek_50 ⟨Nat.le_of_ble_eq_true rfl, Nat.le_of_ble_eq_true rfl⟩) (by rw [s_7]; rfl) ?_
              refine ln_b_eq (tgt := 59) hx hb dX2_seek_53 (by decide) (fun _ => ?_) (fun c_8 => absurd c_8 (by decide))
              refine lv_aload_n hx hb dX2_seek_59 rfl (lv_at hl 0 rfl) ?_
              refine lv_iload_n hx hb dX2_seek_60 rfl (lv_at hl 1 rfl) ?_
              refine lv_iload hx hb dX2_seek_61 (lv_at hl 4 rfl) ?_
              refine qc_v (σ1 := (n, kd, sz, sh, nu, pa, sl, (nI 0), (un + 1), nI j_slot, nI i)) (va_runV (As := [.int (nI j_slot), .int (nI i)]) (rest := []) ⟨hx, hb, hml, hown, hts⟩ (kX2_turn l E mm S n kd sz sh nu pa sl ((nI 0)) un us ug hI (nI j_slot) (nI i)) (cwV 2 hts gX2_seek_X2_turn rfl rfl rfl (by decide +kernel) ⟨Nat.le_of_ble_eq_true rfl, Nat.le_of_ble_eq_true rfl⟩) (q_preV hK hM hM.1 rfl) rfl rfl hl.1 rfl (lv_room (Nat.le_of_ble_eq_true rfl)) dX2_seek_63 ⟨Nat.le_of_ble_eq_true rfl, Nat.le_of_ble_eq_true rfl⟩) hS rfl (fun H locs hM hS => ?_)
              refine lv_iinc (v := nI (i + 1)) (lv' := [(4, .int (nI (i + 1))), (0, .ref mm), (1, .int (nI j_slot)), (2, .int (nI j_first)), (3, .int (nI j_last))]) hx hb dX2_seek_66 hl (k := 4) rfl (nI_1 _) (by decide) rfl (fun ls hl => ?_)
              refine lv_goto (tgt := 40) hx hb dX2_seek_69 (by decide) ?_
              exact ih (i + 1) (un + 1) (nI j_slot) (nI i) H locs (by exact hM) hS ls (lv_sub hl [1, 2, 3, 4, 0] rfl)  (by omega) (by rw [hin]; show q_sk (q_fit kd (sl j_slot)) (nI j_slot) (d + 1) i (un, us, ug) = _; simp only [q_sk]; rw [if_neg (by simp [q_fit, s_7])])
            | some k_7 =>
              have hk_7 : k_7 < n := hI.2.2 _ _ s_7
              obtain ⟨ak_7, bk_7, dk_7, wk_7⟩ := hI.2.1 k_7 hk_7
              have n60 := hI.1
              try dsimp only at ak_7 bk_7 dk_7 wk_7 n60
              refine qc_ri (r1 := q_b (q_go (kd k_7) i)) (W.runV (As := [.int (nI j_slot), .int (nI i)]) (rest := []) ⟨hx, hb, hml, hown, hts⟩ (kX2_fitsAt l E mm S n kd sz sh nu pa sl ((nI 0)) un us ug hI j_slot i hj_slot (by first | omega | decide)) (cwV 2 hts gX2_seek_X2_fitsAt rfl rfl rfl (by decide +kernel) ⟨Nat.le_of_ble_eq_true rfl, Nat.le_of_ble_eq_true rfl⟩) (q_preV hK hM hM.1 rfl) rfl rfl hl.1 rfl (lv_room (Nat.le_of_ble_eq_true rfl)) dX2_seek_50 ⟨Nat.le_of_ble_eq_true rfl, Nat.le_of_ble_eq_true rfl⟩) (by rw [s_7]; rfl) ?_
              refine ln_b_eq (tgt := 59) hx hb dX2_seek_53 (by decide) (fun c_9 => ?_) (fun c_9 => ?_)
              · refine lv_aload_n hx hb dX2_seek_59 rfl (lv_at hl 0 rfl) ?_
                refine lv_iload_n hx hb dX2_seek_60 rfl (lv_at hl 1 rfl) ?_
                refine lv_iload hx hb dX2_seek_61 (lv_at hl 4 rfl) ?_
                refine qc_v (σ1 := (n, kd, sz, sh, nu, pa, sl, (nI 0), (un + 1), nI j_slot, nI i)) (va_runV (As := [.int (nI j_slot), .int (nI i)]) (rest := []) ⟨hx, hb, hml, hown, hts⟩ (kX2_turn l E mm S n kd sz sh nu pa sl ((nI 0)) un us ug hI (nI j_slot) (nI i)) (cwV 2 hts gX2_seek_X2_turn rfl rfl rfl (by decide +kernel) ⟨Nat.le_of_ble_eq_true rfl, Nat.le_of_ble_eq_true rfl⟩) (q_preV hK hM hM.1 rfl) rfl rfl hl.1 rfl (lv_room (Nat.le_of_ble_eq_true rfl)) dX2_seek_63 ⟨Nat.le_of_ble_eq_true rfl, Nat.le_of_ble_eq_true rfl⟩) hS rfl (fun H locs hM hS => ?_)
                refine lv_iinc (v := nI (i + 1)) (lv' := [(4, .int (nI (i + 1))), (0, .ref mm), (1, .int (nI j_slot)), (2, .int (nI j_first)), (3, .int (nI j_last))]) hx hb dX2_seek_66 hl (k := 4) rfl (nI_1 _) (by decide) rfl (fun ls hl => ?_)
                refine lv_goto (tgt := 40) hx hb dX2_seek_69 (by decide) ?_
                exact ih (i + 1) (un + 1) (nI j_slot) (nI i) H locs (by exact hM) hS ls (lv_sub hl [1, 2, 3, 4, 0] rfl)  (by omega) (by rw [hin]; show q_sk (q_fit kd (sl j_slot)) (nI j_slot) (d + 1) i (un, us, ug) = _; simp only [q_sk]; rw [if_neg (by simp [q_fit, s_7, c_9])])
              · refine lv_iload hx hb dX2_seek_56 (lv_at hl 4 rfl) ?_
                have e2 : q_sk (q_fit kd (sl j_slot)) (nI j_slot) (j_last + 1 - j_first) j_first (tn, ts, tg) = (nI i, (un, us, ug)) := by rw [hin]; simp only [q_sk]; rw [if_pos (by simp [q_fit, s_7, c_9])]
                have ee : f_seek (n, kd, sz, sh, nu, pa, sl, ft, tn, ts, tg) (nI j_slot) (nI j_first) (nI j_last) = (nI i, (n, kd, sz, sh, nu, pa, sl, (nI 0), un, us, ug)) := by simp only [f_seek, ej_slot, ej_first, ej_last]; rw [if_neg (by omega), e2]; rfl
                exact W.iret (v := nI i) hx hb hr (fun tt ht hW => ⟨⟨nI i, (n, kd, sz, sh, nu, pa, sl, (nI 0), un, us, ug), rfl, ⟨(by rw [ee]), (by rw [ee])⟩, (by show q_M E mm S (n, kd, sz, sh, nu, pa, sl, (nI 0), un, us, ug) tt.heap; rw [ht]; exact hM)⟩, hS.F ht⟩) hS.2.2 dX2_seek_58
        · have c_4 := of_decide_eq_false c_4
          refine lv_aload_n hx hb dX2_seek_27 rfl (lv_at hl 0 rfl) ?_
          refine qc_i (r1 := ((-2))) (σ1 := (n, kd, sz, sh, nu, pa, sl, nI 0, tn, ts, tg)) (va_runV (As := []) (rest := []) ⟨hx, hb, hml, hown, hts⟩ (kX2_bad l E mm S n kd sz sh nu pa sl ft tn ts tg hI) (cwV 0 hts gX2_seek_X2_bad rfl rfl rfl (by decide +kernel) ⟨Nat.le_of_ble_eq_true rfl, Nat.le_of_ble_eq_true rfl⟩) (q_preV hK hM hM.1 rfl) rfl rfl hl.1 rfl (lv_room (Nat.le_of_ble_eq_true rfl)) dX2_seek_28 ⟨Nat.le_of_ble_eq_true rfl, Nat.le_of_ble_eq_true rfl⟩) hS rfl rfl (fun H locs hM hS => ?_)
          have ee : f_seek (n, kd, sz, sh, nu, pa, sl, ft, tn, ts, tg) (nI j_slot) (nI j_first) (nI j_last) = (((-2)), (n, kd, sz, sh, nu, pa, sl, nI 0, tn, ts, tg)) := by first | (simp only [f_seek, ej_slot, ej_first, ej_last, c_4]; done) | (simp only [f_seek, ej_slot, ej_first, ej_last, c_4]; rfl) | (simp only [f_seek, ej_slot, ej_first, ej_last, c_4]; rw [if_pos (by omega)]; rfl)
          exact W.iret (v := ((-2))) hx hb hr (fun tt ht hW => ⟨⟨((-2)), (n, kd, sz, sh, nu, pa, sl, nI 0, tn, ts, tg), rfl, ⟨(by rw [ee]), (by rw [ee])⟩, (by show q_M E mm S (n, kd, sz, sh, nu, pa, sl, nI 0, tn, ts, tg) tt.heap; rw [ht]; exact hM)⟩, hS.F ht⟩) hS.2.2 dX2_seek_31
      · refine qc_ri (r1 := q_b false) (W.runS (As := [.int last, .int (nI j_first), .int (nI 12)]) (rest := []) ⟨hx, hb, hml, hown, hts⟩ (kX2_isIn l last (nI j_first) (nI 12)) (va_cwS 3 hts gX2_seek_X2_isIn rfl rfl rfl (by decide +kernel) ⟨Nat.le_of_ble_eq_true rfl, Nat.le_of_ble_eq_true rfl⟩) preEq rfl rfl hl.1 rfl (lv_room (Nat.le_of_ble_eq_true rfl)) dX2_seek_21 ⟨Nat.le_of_ble_eq_true rfl, Nat.le_of_ble_eq_true rfl⟩) (congrArg q_b (q_inout (by omega) x_3)) ?_
        refine ln_b_ne (tgt := 32) hx hb dX2_seek_24 (by decide) (fun c_10 => absurd c_10 (by decide)) (fun _ => ?_)
        refine lv_aload_n hx hb dX2_seek_27 rfl (lv_at hl 0 rfl) ?_
        refine qc_i (r1 := ((-2))) (σ1 := (n, kd, sz, sh, nu, pa, sl, nI 0, tn, ts, tg)) (va_runV (As := []) (rest := []) ⟨hx, hb, hml, hown, hts⟩ (kX2_bad l E mm S n kd sz sh nu pa sl ft tn ts tg hI) (cwV 0 hts gX2_seek_X2_bad rfl rfl rfl (by decide +kernel) ⟨Nat.le_of_ble_eq_true rfl, Nat.le_of_ble_eq_true rfl⟩) (q_preV hK hM hM.1 rfl) rfl rfl hl.1 rfl (lv_room (Nat.le_of_ble_eq_true rfl)) dX2_seek_28 ⟨Nat.le_of_ble_eq_true rfl, Nat.le_of_ble_eq_true rfl⟩) hS rfl rfl (fun H locs hM hS => ?_)
        have ee : f_seek (n, kd, sz, sh, nu, pa, sl, ft, tn, ts, tg) (nI j_slot) (nI j_first) last = (((-2)), (n, kd, sz, sh, nu, pa, sl, nI 0, tn, ts, tg)) := by first | (simp only [f_seek, ej_slot, ej_first, x_3]; done) | (simp only [f_seek, ej_slot, ej_first, x_3]; rfl) | (simp only [f_seek, ej_slot, ej_first, x_3]; rw [if_pos (by omega)]; rfl)
        exact W.iret (v := ((-2))) hx hb hr (fun tt ht hW => ⟨⟨((-2)), (n, kd, sz, sh, nu, pa, sl, nI 0, tn, ts, tg), rfl, ⟨(by rw [ee]), (by rw [ee])⟩, (by show q_M E mm S (n, kd, sz, sh, nu, pa, sl, nI 0, tn, ts, tg) tt.heap; rw [ht]; exact hM)⟩, hS.F ht⟩) hS.2.2 dX2_seek_31
set_option maxRecDepth 20000 in
theorem nX1_at_1 : ∀ w ∈ u_ws RX1 TX1 6, w ∈ wsX1_at := by decide +kernel
set_option maxHeartbeats 4000000 in
set_option maxRecDepth 100000 in
theorem kX1_at (l : Launch) (E : q_E) (x T0 : Nat) (n : Nat) (kd sz : Nat → Nat) (sh : Nat → Bool) (nu : Nat → Nat → Int64) (pa : Nat → Nat → Option Nat) (sl : Nat → Option Nat) (ft tn ts tg : Int32) (hI : q_I (n, kd, sz, sh, nu, pa, sl, ft, tn, ts, tg)) (slot : Int32)  : Met l yX1_at wsX1_at ({ frames := 1, cells := 0, slots := 0, locals := 20 }) (q_P E (q_X E x T0 (n, kd, sz, sh, nu, pa, sl, ft, tn, ts, tg)) [.ref x, .int slot]) (vp_Si (fun rr => rr = f_at (n, kd, sz, sh, nu, pa, sl, ft, tn, ts, tg) slot)) 0 0 (fun _ => False) := by
  refine Met.ofW (cc := cX1_at) (maxL := 2) (ret := (some .int)) (by decide) rfl ?_
  intro p e s m args below meth c s₁ B hml hv
  obtain ⟨rfl, hK, hX⟩ := hv
  have hx := B.exec
  have hb := B.bytes
  have hr := B.returns
  have hts := atoms_spec (ws := wsX1_at) B.pre
  have hown : s.vm.findClass RX1 = some m.cls := findClass_of_methodNamed B.named
  have hlocks := B.notSynchronized
  have hl := lv_entry ([.ref x, .int slot]) (n := 2) (Nat.le_of_ble_eq_true rfl)
  rw [lg_entry_eq]
  generalize (lg_sl ([.ref x, .int slot]) ++ List.replicate (2 - (lg_sl ([.ref x, .int slot])).length) Slot.unset).toArray = ls at hl ⊢
  have hl : lv_has ls 2 [(0, .ref x), (1, .int slot)] := hl
  refine lv_iload_n hx hb dX1_at_0 rfl (lv_at hl 1 rfl) ?_
  refine qc_ri (r1 := q_b ((q_ix slot 12).isSome)) (W.runS (As := [.int slot]) (rest := []) ⟨hx, hb, hml, hown, hts⟩ (kX1_isSlot l slot) (va_cwS 1 hts gX1_at_X1_isSlot rfl rfl rfl (by decide +kernel) ⟨Nat.le_of_ble_eq_true rfl, Nat.le_of_ble_eq_true rfl⟩) preEq rfl rfl hl.1 rfl (lv_room (Nat.le_of_ble_eq_true rfl)) dX1_at_1 ⟨Nat.le_of_ble_eq_true rfl, Nat.le_of_ble_eq_true rfl⟩) rfl ?_
  refine ln_b_eq (tgt := 19) hx hb dX1_at_4 (by decide) (fun c_1 => ?_) (fun c_1 => ?_)
  · have c_1 := q_isn c_1
    refine lv_bipush (v := (-2)) hx hb dX1_at_19 (by decide) ?_
    exact W.iret (v := ((-2))) hx hb hr (fun t ht hW => ⟨_, rfl, (by first | (simp only [f_at, c_1]; done) | (simp only [f_at, c_1]; rfl)), ht⟩) (fun _ h => absurd h List.not_mem_nil) dX1_at_21
  · obtain ⟨j_slot, hj_slot, rfl⟩ := q_is (by first | decide | omega) c_1
    have ej_slot := q_ix_in hj_slot (by first | decide | omega)
    refine lv_aload_n hx hb dX1_at_7 rfl (lv_at hl 0 rfl) ?_
    refine qw_get (v := .ref (x + 1)) (ci := 1) (C := RX1) (T := TX1) (N := 6) hx hb hts nX1_at_1 hown hK hX.1 rfl 0 (by decide) (hts (.fieldLink RX1 11 "DockGates" "slots" "[LDockGates$Thing;") (by decide +kernel)) rfl rfl dX1_at_8 ?_
    refine lv_iload_n hx hb dX1_at_11 rfl (lv_at hl 1 rfl) ?_
    refine qx_slot hx hb hK hX hI hj_slot dX1_at_12 (fun s_2 => ?_) (fun k_2 hk_2 s_2 => ?_)
    · try dsimp only at s_2
      refine qc_ri (r1 := ((-1))) (W.runS (As := [.null]) (rest := []) ⟨hx, hb, hml, hown, hts⟩ (kX1_numberOf_N l E x T0 n kd sz sh nu pa sl ft tn ts tg hI) (va_cwS 1 hts gX1_at_X1_numberOf rfl rfl rfl (by decide +kernel) ⟨Nat.le_of_ble_eq_true rfl, Nat.le_of_ble_eq_true rfl⟩) (q_pre hK hX) rfl rfl hl.1 rfl (lv_room (Nat.le_of_ble_eq_true rfl)) dX1_at_13 ⟨Nat.le_of_ble_eq_true rfl, Nat.le_of_ble_eq_true rfl⟩) rfl ?_
      refine lv_goto (tgt := 21) hx hb dX1_at_16 (by decide) ?_
      exact W.iret (v := ((-1))) hx hb hr (fun t ht hW => ⟨_, rfl, (by first | (simp only [f_at, ej_slot, s_2]; done) | (simp only [f_at, ej_slot, s_2]; rfl)), ht⟩) (fun _ h => absurd h List.not_mem_nil) dX1_at_21
    · try dsimp only at s_2 hk_2
      obtain ⟨ak_2, bk_2, dk_2, wk_2⟩ := hI.2.1 k_2 hk_2
      have n60 := hI.1
      try dsimp only at ak_2 bk_2 dk_2 wk_2 n60
      refine qc_ri (r1 := nI k_2) (W.runS (As := [.ref (T0 + 3 * k_2)]) (rest := []) ⟨hx, hb, hml, hown, hts⟩ (kX1_numberOf_S l E x T0 n kd sz sh nu pa sl ft tn ts tg hI k_2 hk_2) (va_cwS 1 hts gX1_at_X1_numberOf rfl rfl rfl (by decide +kernel) ⟨Nat.le_of_ble_eq_true rfl, Nat.le_of_ble_eq_true rfl⟩) (q_pre hK hX) rfl rfl hl.1 rfl (lv_room (Nat.le_of_ble_eq_true rfl)) dX1_at_13 ⟨Nat.le_of_ble_eq_true rfl, Nat.le_of_ble_eq_true rfl⟩) rfl ?_
      refine lv_goto (tgt := 21) hx hb dX1_at_16 (by decide) ?_
      exact W.iret (v := nI k_2) hx hb hr (fun t ht hW => ⟨_, rfl, (by first | (simp only [f_at, ej_slot, s_2]; done) | (simp only [f_at, ej_slot, s_2]; rfl)), ht⟩) (fun _ h => absurd h List.not_mem_nil) dX1_at_21
set_option maxRecDepth 20000 in
theorem nX2_at_2 : ∀ w ∈ u_ws RX2 TX2 10, w ∈ wsX2_at := by decide +kernel
set_option maxHeartbeats 4000000 in
set_option maxRecDepth 100000 in
theorem kX2_at (l : Launch) (E : q_E) (mm S : Nat) (n : Nat) (kd sz : Nat → Nat) (sh : Nat → Bool) (nu : Nat → Nat → Int64) (pa : Nat → Nat → Option Nat) (sl : Nat → Option Nat) (ft tn ts tg : Int32) (hI : q_I (n, kd, sz, sh, nu, pa, sl, ft, tn, ts, tg)) (slot : Int32)  : Met l yX2_at wsX2_at ({ frames := 2, cells := 0, slots := 0, locals := 42 }) (q_P E (q_M E mm S (n, kd, sz, sh, nu, pa, sl, ft, tn, ts, tg)) [.ref mm, .int slot]) (vp_Si (fun rr => rr = f_at (n, kd, sz, sh, nu, pa, sl, ft, tn, ts, tg) slot)) 0 0 (fun _ => False) := by
  refine Met.ofW (cc := cX2_at) (maxL := 2) (ret := (some .int)) (by decide) rfl ?_
  intro p e s m args below meth c s₁ B hml hv
  obtain ⟨rfl, hK, hM⟩ := hv
  have hx := B.exec
  have hb := B.bytes
  have hr := B.returns
  have hts := atoms_spec (ws := wsX2_at) B.pre
  have hown : s.vm.findClass RX2 = some m.cls := findClass_of_methodNamed B.named
  have hlocks := B.notSynchronized
  have hl := lv_entry ([.ref mm, .int slot]) (n := 2) (Nat.le_of_ble_eq_true rfl)
  rw [lg_entry_eq]
  generalize (lg_sl ([.ref mm, .int slot]) ++ List.replicate (2 - (lg_sl ([.ref mm, .int slot])).length) Slot.unset).toArray = ls at hl ⊢
  have hl : lv_has ls 2 [(0, .ref mm), (1, .int slot)] := hl
  refine lv_iload_n hx hb dX2_at_0 rfl (lv_at hl 1 rfl) ?_
  refine qc_ri (r1 := q_b ((q_ix slot 12).isSome)) (W.runS (As := [.int slot]) (rest := []) ⟨hx, hb, hml, hown, hts⟩ (kX2_isSlot l slot) (va_cwS 1 hts gX2_at_X2_isSlot rfl rfl rfl (by decide +kernel) ⟨Nat.le_of_ble_eq_true rfl, Nat.le_of_ble_eq_true rfl⟩) preEq rfl rfl hl.1 rfl (lv_room (Nat.le_of_ble_eq_true rfl)) dX2_at_1 ⟨Nat.le_of_ble_eq_true rfl, Nat.le_of_ble_eq_true rfl⟩) rfl ?_
  refine ln_b_eq (tgt := 16) hx hb dX2_at_4 (by decide) (fun c_1 => ?_) (fun c_1 => ?_)
  · have c_1 := q_isn c_1
    refine lv_bipush (v := (-2)) hx hb dX2_at_16 (by decide) ?_
    exact W.iret (v := ((-2))) hx hb hr (fun tt ht hW => ⟨_, rfl, (by first | (simp only [f_at, c_1]; done) | (simp only [f_at, c_1]; rfl)), ht⟩) (fun _ h => absurd h List.not_mem_nil) dX2_at_18
  · obtain ⟨j_slot, hj_slot, rfl⟩ := q_is (by first | decide | omega) c_1
    have ej_slot := q_ix_in hj_slot (by first | decide | omega)
    refine lv_aload_n hx hb dX2_at_7 rfl (lv_at hl 0 rfl) ?_
    refine qw_get (v := .ref (mm + 5)) (ci := 2) (C := RX2) (T := TX2) (N := 10) hx hb hts nX2_at_2 hown hK hM.1 rfl 5 (by decide) (hts (.fieldLink RX2 24 "DockGatesModel" "slots" "[I") (by decide +kernel)) rfl rfl dX2_at_8 ?_
    refine lv_iload_n hx hb dX2_at_11 rfl (lv_at hl 1 rfl) ?_
    refine qm_slot hx hb hK hM hI hj_slot dX2_at_12 (fun s_2 => ?_) (fun k_2 hk_2 s_2 => ?_)
    · try dsimp only at s_2
      refine lv_goto (tgt := 18) hx hb dX2_at_13 (by decide) ?_
      exact W.iret (v := ((-1))) hx hb hr (fun tt ht hW => ⟨_, rfl, (by first | (simp only [f_at, ej_slot, s_2]; done) | (simp only [f_at, ej_slot, s_2]; rfl)), ht⟩) (fun _ h => absurd h List.not_mem_nil) dX2_at_18
    · try dsimp only at s_2 hk_2
      obtain ⟨ak_2, bk_2, dk_2, wk_2⟩ := hI.2.1 k_2 hk_2
      have n60 := hI.1
      try dsimp only at ak_2 bk_2 dk_2 wk_2 n60
      refine lv_goto (tgt := 18) hx hb dX2_at_13 (by decide) ?_
      exact W.iret (v := nI k_2) hx hb hr (fun tt ht hW => ⟨_, rfl, (by first | (simp only [f_at, ej_slot, s_2]; done) | (simp only [f_at, ej_slot, s_2]; rfl)), ht⟩) (fun _ h => absurd h List.not_mem_nil) dX2_at_18
set_option maxRecDepth 20000 in
theorem nX1_fault_1 : ∀ w ∈ u_ws RX1 TX1 6, w ∈ wsX1_fault := by decide +kernel
set_option maxHeartbeats 4000000 in
set_option maxRecDepth 100000 in
theorem kX1_fault (l : Launch) (E : q_E) (x T0 : Nat) (n : Nat) (kd sz : Nat → Nat) (sh : Nat → Bool) (nu : Nat → Nat → Int64) (pa : Nat → Nat → Option Nat) (sl : Nat → Option Nat) (ft tn ts tg : Int32) (hI : q_I (n, kd, sz, sh, nu, pa, sl, ft, tn, ts, tg))   : Met l yX1_fault wsX1_fault ({ frames := 0, cells := 0, slots := 0, locals := 0 }) (q_P E (q_X E x T0 (n, kd, sz, sh, nu, pa, sl, ft, tn, ts, tg)) [.ref x]) (vp_Si (fun rr => rr = ft)) 0 0 (fun _ => False) := by
  refine Met.ofW (cc := cX1_fault) (maxL := 1) (ret := (some .int)) (by decide) rfl ?_
  intro p e s m args below meth c s₁ B hml hv
  obtain ⟨rfl, hK, hX⟩ := hv
  have hx := B.exec
  have hb := B.bytes
  have hr := B.returns
  have hts := atoms_spec (ws := wsX1_fault) B.pre
  have hown : s.vm.findClass RX1 = some m.cls := findClass_of_methodNamed B.named
  have hlocks := B.notSynchronized
  have hl := lv_entry ([.ref x]) (n := 1) (Nat.le_of_ble_eq_true rfl)
  rw [lg_entry_eq]
  generalize (lg_sl ([.ref x]) ++ List.replicate (1 - (lg_sl ([.ref x])).length) Slot.unset).toArray = ls at hl ⊢
  have hl : lv_has ls 1 [(0, .ref x)] := hl
  refine lv_aload_n hx hb dX1_fault_0 rfl (lv_at hl 0 rfl) ?_
  refine qw_get (v := .int ft) (ci := 1) (C := RX1) (T := TX1) (N := 6) hx hb hts nX1_fault_1 hown hK hX.1 rfl 2 (by decide) (hts (.fieldLink RX1 19 "DockGates" "latestFault" "I") (by decide +kernel)) rfl rfl dX1_fault_1 ?_
  exact W.iret (v := ft) hx hb hr (fun t ht hW => ⟨_, rfl, rfl, ht⟩) (fun _ h => absurd h List.not_mem_nil) dX1_fault_4
set_option maxRecDepth 20000 in
theorem nX2_fault_2 : ∀ w ∈ u_ws RX2 TX2 10, w ∈ wsX2_fault := by decide +kernel
set_option maxHeartbeats 4000000 in
set_option maxRecDepth 100000 in
theorem kX2_fault (l : Launch) (E : q_E) (mm S : Nat) (n : Nat) (kd sz : Nat → Nat) (sh : Nat → Bool) (nu : Nat → Nat → Int64) (pa : Nat → Nat → Option Nat) (sl : Nat → Option Nat) (ft tn ts tg : Int32) (hI : q_I (n, kd, sz, sh, nu, pa, sl, ft, tn, ts, tg))   : Met l yX2_fault wsX2_fault ({ frames := 0, cells := 0, slots := 0, locals := 0 }) (q_P E (q_M E mm S (n, kd, sz, sh, nu, pa, sl, ft, tn, ts, tg)) [.ref mm]) (vp_Si (fun rr => rr = ft)) 0 0 (fun _ => False) := by
  refine Met.ofW (cc := cX2_fault) (maxL := 1) (ret := (some .int)) (by decide) rfl ?_
  intro p e s m args below meth c s₁ B hml hv
  obtain ⟨rfl, hK, hM⟩ := hv
  have hx := B.exec
  have hb := B.bytes
  have hr := B.returns
  have hts := atoms_spec (ws := wsX2_fault) B.pre
  have hown : s.vm.findClass RX2 = some m.cls := findClass_of_methodNamed B.named
  have hlocks := B.notSynchronized
  have hl := lv_entry ([.ref mm]) (n := 1) (Nat.le_of_ble_eq_true rfl)
  rw [lg_entry_eq]
  generalize (lg_sl ([.ref mm]) ++ List.replicate (1 - (lg_sl ([.ref mm])).length) Slot.unset).toArray = ls at hl ⊢
  have hl : lv_has ls 1 [(0, .ref mm)] := hl
  refine lv_aload_n hx hb dX2_fault_0 rfl (lv_at hl 0 rfl) ?_
  refine qw_get (v := .int ft) (ci := 2) (C := RX2) (T := TX2) (N := 10) hx hb hts nX2_fault_2 hown hK hM.1 rfl 6 (by decide) (hts (.fieldLink RX2 42 "DockGatesModel" "fault" "I") (by decide +kernel)) rfl rfl dX2_fault_1 ?_
  exact W.iret (v := ft) hx hb hr (fun tt ht hW => ⟨_, rfl, rfl, ht⟩) (fun _ h => absurd h List.not_mem_nil) dX2_fault_4
set_option maxRecDepth 20000 in
theorem nX1_count_1 : ∀ w ∈ u_ws RX1 TX1 6, w ∈ wsX1_count := by decide +kernel
set_option maxHeartbeats 4000000 in
set_option maxRecDepth 100000 in
theorem kX1_count (l : Launch) (E : q_E) (x T0 : Nat) (n : Nat) (kd sz : Nat → Nat) (sh : Nat → Bool) (nu : Nat → Nat → Int64) (pa : Nat → Nat → Option Nat) (sl : Nat → Option Nat) (ft tn ts tg : Int32) (hI : q_I (n, kd, sz, sh, nu, pa, sl, ft, tn, ts, tg))   : Met l yX1_count wsX1_count ({ frames := 0, cells := 0, slots := 0, locals := 0 }) (q_P E (q_X E x T0 (n, kd, sz, sh, nu, pa, sl, ft, tn, ts, tg)) [.ref x]) (vp_Si (fun rr => rr = nI n)) 0 0 (fun _ => False) := by
  refine Met.ofW (cc := cX1_count) (maxL := 1) (ret := (some .int)) (by decide) rfl ?_
  intro p e s m args below meth c s₁ B hml hv
  obtain ⟨rfl, hK, hX⟩ := hv
  have hx := B.exec
  have hb := B.bytes
  have hr := B.returns
  have hts := atoms_spec (ws := wsX1_count) B.pre
  have hown : s.vm.findClass RX1 = some m.cls := findClass_of_methodNamed B.named
  have hlocks := B.notSynchronized
  have hl := lv_entry ([.ref x]) (n := 1) (Nat.le_of_ble_eq_true rfl)
  rw [lg_entry_eq]
  generalize (lg_sl ([.ref x]) ++ List.replicate (1 - (lg_sl ([.ref x])).length) Slot.unset).toArray = ls at hl ⊢
  have hl : lv_has ls 1 [(0, .ref x)] := hl
  refine lv_aload_n hx hb dX1_count_0 rfl (lv_at hl 0 rfl) ?_
  refine qw_get (v := .int (nI n)) (ci := 1) (C := RX1) (T := TX1) (N := 6) hx hb hts nX1_count_1 hown hK hX.1 rfl 1 (by decide) (hts (.fieldLink RX1 15 "DockGates" "made" "I") (by decide +kernel)) rfl rfl dX1_count_1 ?_
  exact W.iret (v := nI n) hx hb hr (fun t ht hW => ⟨_, rfl, rfl, ht⟩) (fun _ h => absurd h List.not_mem_nil) dX1_count_4
set_option maxRecDepth 20000 in
theorem nX2_count_2 : ∀ w ∈ u_ws RX2 TX2 10, w ∈ wsX2_count := by decide +kernel
set_option maxHeartbeats 4000000 in
set_option maxRecDepth 100000 in
theorem kX2_count (l : Launch) (E : q_E) (mm S : Nat) (n : Nat) (kd sz : Nat → Nat) (sh : Nat → Bool) (nu : Nat → Nat → Int64) (pa : Nat → Nat → Option Nat) (sl : Nat → Option Nat) (ft tn ts tg : Int32) (hI : q_I (n, kd, sz, sh, nu, pa, sl, ft, tn, ts, tg))   : Met l yX2_count wsX2_count ({ frames := 0, cells := 0, slots := 0, locals := 0 }) (q_P E (q_M E mm S (n, kd, sz, sh, nu, pa, sl, ft, tn, ts, tg)) [.ref mm]) (vp_Si (fun rr => rr = nI n)) 0 0 (fun _ => False) := by
  refine Met.ofW (cc := cX2_count) (maxL := 1) (ret := (some .int)) (by decide) rfl ?_
  intro p e s m args below meth c s₁ B hml hv
  obtain ⟨rfl, hK, hM⟩ := hv
  have hx := B.exec
  have hb := B.bytes
  have hr := B.returns
  have hts := atoms_spec (ws := wsX2_count) B.pre
  have hown : s.vm.findClass RX2 = some m.cls := findClass_of_methodNamed B.named
  have hlocks := B.notSynchronized
  have hl := lv_entry ([.ref mm]) (n := 1) (Nat.le_of_ble_eq_true rfl)
  rw [lg_entry_eq]
  generalize (lg_sl ([.ref mm]) ++ List.replicate (1 - (lg_sl ([.ref mm])).length) Slot.unset).toArray = ls at hl ⊢
  have hl : lv_has ls 1 [(0, .ref mm)] := hl
  refine lv_aload_n hx hb dX2_count_0 rfl (lv_at hl 0 rfl) ?_
  refine qw_get (v := .int (nI n)) (ci := 2) (C := RX2) (T := TX2) (N := 10) hx hb hts nX2_count_2 hown hK hM.1 rfl 0 (by decide) (hts (.fieldLink RX2 61 "DockGatesModel" "things" "I") (by decide +kernel)) rfl rfl dX2_count_1 ?_
  exact W.iret (v := nI n) hx hb hr (fun tt ht hW => ⟨_, rfl, rfl, ht⟩) (fun _ h => absurd h List.not_mem_nil) dX2_count_4
set_option maxRecDepth 20000 in
theorem nX1_told_1 : ∀ w ∈ u_ws RX1 TX1 6, w ∈ wsX1_told := by decide +kernel
set_option maxHeartbeats 4000000 in
set_option maxRecDepth 100000 in
theorem kX1_told (l : Launch) (E : q_E) (x T0 : Nat) (n : Nat) (kd sz : Nat → Nat) (sh : Nat → Bool) (nu : Nat → Nat → Int64) (pa : Nat → Nat → Option Nat) (sl : Nat → Option Nat) (ft tn ts tg : Int32) (hI : q_I (n, kd, sz, sh, nu, pa, sl, ft, tn, ts, tg)) (a : Int32)  : Met l yX1_told wsX1_told ({ frames := 0, cells := 0, slots := 0, locals := 0 }) (q_P E (q_X E x T0 (n, kd, sz, sh, nu, pa, sl, ft, tn, ts, tg)) [.ref x, .int a]) (vp_Si (fun rr => rr = f_told (n, kd, sz, sh, nu, pa, sl, ft, tn, ts, tg) a)) 0 0 (fun _ => False) := by
  refine Met.ofW (cc := cX1_told) (maxL := 2) (ret := (some .int)) (by decide) rfl ?_
  intro p e s m args below meth c s₁ B hml hv
  obtain ⟨rfl, hK, hX⟩ := hv
  have hx := B.exec
  have hb := B.bytes
  have hr := B.returns
  have hts := atoms_spec (ws := wsX1_told) B.pre
  have hown : s.vm.findClass RX1 = some m.cls := findClass_of_methodNamed B.named
  have hlocks := B.notSynchronized
  have hl := lv_entry ([.ref x, .int a]) (n := 2) (Nat.le_of_ble_eq_true rfl)
  rw [lg_entry_eq]
  generalize (lg_sl ([.ref x, .int a]) ++ List.replicate (2 - (lg_sl ([.ref x, .int a])).length) Slot.unset).toArray = ls at hl ⊢
  have hl : lv_has ls 2 [(0, .ref x), (1, .int a)] := hl
  rcases q_ix_or a (show 3 < 2 ^ 31 by decide) with ⟨j_a, hj_a, rfl⟩ | ha
  · have ej_a := q_ix_in hj_a (by decide)
    refine lv_iload_n hx hb dX1_told_0 rfl (lv_at hl 1 rfl) ?_
    have c_1 : j_a = 0 ∨ j_a = 1 ∨ j_a = 2 ∨ (¬ j_a = 0 ∧ ¬ j_a = 1 ∧ ¬ j_a = 2) := by omega
    rcases c_1 with c_1 | c_1 | c_1 | c_1
    · refine q_tIn (v := 0) (tgt := 28) (off := 27) hx hb c_1 dX1_told_1 (by decide) (by decide) (by decide) (by decide) ?_
      refine lv_aload_n hx hb dX1_told_28 rfl (lv_at hl 0 rfl) ?_
      refine qw_get (v := .int tn) (ci := 1) (C := RX1) (T := TX1) (N := 6) hx hb hts nX1_told_1 hown hK hX.1 rfl 3 (by decide) (hts (.fieldLink RX1 22 "DockGates" "turns" "I") (by decide +kernel)) rfl rfl dX1_told_29 ?_
      exact W.iret (v := tn) hx hb hr (fun t ht hW => ⟨_, rfl, (by simp only [f_told, ej_a]; first | (simp [c_1]; done) | (rw [if_neg (by omega), if_neg (by omega)]) | (rw [if_neg (by omega), if_pos (by omega)]) | rw [if_pos (by omega)]), ht⟩) (fun _ h => absurd h List.not_mem_nil) dX1_told_32
    · refine q_tIn (v := 1) (tgt := 33) (off := 32) hx hb c_1 dX1_told_1 (by decide) (by decide) (by decide) (by decide) ?_
      refine lv_aload_n hx hb dX1_told_33 rfl (lv_at hl 0 rfl) ?_
      refine qw_get (v := .int ts) (ci := 1) (C := RX1) (T := TX1) (N := 6) hx hb hts nX1_told_1 hown hK hX.1 rfl 4 (by decide) (hts (.fieldLink RX1 25 "DockGates" "turnedSlot" "I") (by decide +kernel)) rfl rfl dX1_told_34 ?_
      exact W.iret (v := ts) hx hb hr (fun t ht hW => ⟨_, rfl, (by simp only [f_told, ej_a]; first | (simp [c_1]; done) | (rw [if_neg (by omega), if_neg (by omega)]) | (rw [if_neg (by omega), if_pos (by omega)]) | rw [if_pos (by omega)]), ht⟩) (fun _ h => absurd h List.not_mem_nil) dX1_told_37
    · refine q_tIn (v := 2) (tgt := 38) (off := 37) hx hb c_1 dX1_told_1 (by decide) (by decide) (by decide) (by decide) ?_
      refine lv_aload_n hx hb dX1_told_38 rfl (lv_at hl 0 rfl) ?_
      refine qw_get (v := .int tg) (ci := 1) (C := RX1) (T := TX1) (N := 6) hx hb hts nX1_told_1 hown hK hX.1 rfl 5 (by decide) (hts (.fieldLink RX1 28 "DockGates" "turnedGate" "I") (by decide +kernel)) rfl rfl dX1_told_39 ?_
      exact W.iret (v := tg) hx hb hr (fun t ht hW => ⟨_, rfl, (by simp only [f_told, ej_a]; first | (simp [c_1]; done) | (rw [if_neg (by omega), if_neg (by omega)]) | (rw [if_neg (by omega), if_pos (by omega)]) | rw [if_pos (by omega)]), ht⟩) (fun _ h => absurd h List.not_mem_nil) dX1_told_42
    · obtain ⟨c_1_0, c_1_1, c_1_2⟩ := c_1
      refine q_tOut (tgt := 43) hx hb (by omega) dX1_told_1 (by omega) (by decide) ?_
      exfalso; omega
  · refine lv_iload_n hx hb dX1_told_0 rfl (lv_at hl 1 rfl) ?_
    refine lv_tableOut (tgt := 43) hx hb dX1_told_1 (q_ix_out (n := 3) (by decide) ha) (by decide) ?_
    refine lv_bipush (v := (-2)) hx hb dX1_told_43 (by decide) ?_
    exact W.iret (v := ((-2))) hx hb hr (fun t ht hW => ⟨_, rfl, (by simp only [f_told, ha]), ht⟩) (fun _ h => absurd h List.not_mem_nil) dX1_told_45
set_option maxRecDepth 20000 in
theorem nX2_told_2 : ∀ w ∈ u_ws RX2 TX2 10, w ∈ wsX2_told := by decide +kernel
set_option maxHeartbeats 4000000 in
set_option maxRecDepth 100000 in
theorem kX2_told (l : Launch) (E : q_E) (mm S : Nat) (n : Nat) (kd sz : Nat → Nat) (sh : Nat → Bool) (nu : Nat → Nat → Int64) (pa : Nat → Nat → Option Nat) (sl : Nat → Option Nat) (ft tn ts tg : Int32) (hI : q_I (n, kd, sz, sh, nu, pa, sl, ft, tn, ts, tg)) (a : Int32)  : Met l yX2_told wsX2_told ({ frames := 0, cells := 0, slots := 0, locals := 0 }) (q_P E (q_M E mm S (n, kd, sz, sh, nu, pa, sl, ft, tn, ts, tg)) [.ref mm, .int a]) (vp_Si (fun rr => rr = f_told (n, kd, sz, sh, nu, pa, sl, ft, tn, ts, tg) a)) 0 0 (fun _ => False) := by
  refine Met.ofW (cc := cX2_told) (maxL := 2) (ret := (some .int)) (by decide) rfl ?_
  intro p e s m args below meth c s₁ B hml hv
  obtain ⟨rfl, hK, hM⟩ := hv
  have hx := B.exec
  have hb := B.bytes
  have hr := B.returns
  have hts := atoms_spec (ws := wsX2_told) B.pre
  have hown : s.vm.findClass RX2 = some m.cls := findClass_of_methodNamed B.named
  have hlocks := B.notSynchronized
  have hl := lv_entry ([.ref mm, .int a]) (n := 2) (Nat.le_of_ble_eq_true rfl)
  rw [lg_entry_eq]
  generalize (lg_sl ([.ref mm, .int a]) ++ List.replicate (2 - (lg_sl ([.ref mm, .int a])).length) Slot.unset).toArray = ls at hl ⊢
  have hl : lv_has ls 2 [(0, .ref mm), (1, .int a)] := hl
  rcases q_ix_or a (show 3 < 2 ^ 31 by decide) with ⟨j_a, hj_a, rfl⟩ | ha
  · have ej_a := q_ix_in hj_a (by decide)
    refine lv_iload_n hx hb dX2_told_0 rfl (lv_at hl 1 rfl) ?_
    refine ln_if_ne (tgt := 11) hx hb (by omega) dX2_told_1 (by decide) (fun c_1 => ?_) (fun c_1 => ?_)
    · refine lv_iload_n hx hb dX2_told_11 rfl (lv_at hl 1 rfl) ?_
      refine lv_iconst (v := nI 1) hx hb dX2_told_12 (by decide) ?_
      refine ln_cmp_ne (tgt := 23) hx hb (by omega) (by omega) dX2_told_13 (by decide) (fun c_2 => ?_) (fun c_2 => ?_)
      · refine lv_iload_n hx hb dX2_told_23 rfl (lv_at hl 1 rfl) ?_
        refine lv_iconst (v := nI 2) hx hb dX2_told_24 (by decide) ?_
        refine ln_cmp_ne (tgt := 35) hx hb (by omega) (by omega) dX2_told_25 (by decide) (fun c_3 => ?_) (fun c_3 => ?_)
        · exfalso; omega
        · refine lv_aload_n hx hb dX2_told_28 rfl (lv_at hl 0 rfl) ?_
          refine qw_get (v := .int tg) (ci := 2) (C := RX2) (T := TX2) (N := 10) hx hb hts nX2_told_2 hown hK hM.1 rfl 9 (by decide) (hts (.fieldLink RX2 31 "DockGatesModel" "turnedGate" "I") (by decide +kernel)) rfl rfl dX2_told_29 ?_
          refine lv_goto (tgt := 37) hx hb dX2_told_32 (by decide) ?_
          exact W.iret (v := tg) hx hb hr (fun tt ht hW => ⟨_, rfl, (by simp only [f_told, ej_a]; first | (simp [c_1, c_2, c_3]; done) | (rw [if_neg (by omega), if_neg (by omega)]) | (rw [if_neg (by omega), if_pos (by omega)]) | rw [if_pos (by omega)]), ht⟩) (fun _ h => absurd h List.not_mem_nil) dX2_told_37
      · refine lv_aload_n hx hb dX2_told_16 rfl (lv_at hl 0 rfl) ?_
        refine qw_get (v := .int ts) (ci := 2) (C := RX2) (T := TX2) (N := 10) hx hb hts nX2_told_2 hown hK hM.1 rfl 8 (by decide) (hts (.fieldLink RX2 27 "DockGatesModel" "turnedSlot" "I") (by decide +kernel)) rfl rfl dX2_told_17 ?_
        refine lv_goto (tgt := 37) hx hb dX2_told_20 (by decide) ?_
        exact W.iret (v := ts) hx hb hr (fun tt ht hW => ⟨_, rfl, (by simp only [f_told, ej_a]; first | (simp [c_1, c_2]; done) | (rw [if_neg (by omega), if_neg (by omega)]) | (rw [if_neg (by omega), if_pos (by omega)]) | rw [if_pos (by omega)]), ht⟩) (fun _ h => absurd h List.not_mem_nil) dX2_told_37
    · refine lv_aload_n hx hb dX2_told_4 rfl (lv_at hl 0 rfl) ?_
      refine qw_get (v := .int tn) (ci := 2) (C := RX2) (T := TX2) (N := 10) hx hb hts nX2_told_2 hown hK hM.1 rfl 7 (by decide) (hts (.fieldLink RX2 45 "DockGatesModel" "turned" "I") (by decide +kernel)) rfl rfl dX2_told_5 ?_
      refine lv_goto (tgt := 37) hx hb dX2_told_8 (by decide) ?_
      exact W.iret (v := tn) hx hb hr (fun tt ht hW => ⟨_, rfl, (by simp only [f_told, ej_a]; first | (simp [c_1]; done) | (rw [if_neg (by omega), if_neg (by omega)]) | (rw [if_neg (by omega), if_pos (by omega)]) | rw [if_pos (by omega)]), ht⟩) (fun _ h => absurd h List.not_mem_nil) dX2_told_37
  · refine lv_iload_n hx hb dX2_told_0 rfl (lv_at hl 1 rfl) ?_
    refine lv_if_ne (tgt := 11) hx hb dX2_told_1 (by decide) (fun c_4 => ?_) (fun c_4 => ?_)
    · refine lv_iload_n hx hb dX2_told_11 rfl (lv_at hl 1 rfl) ?_
      refine lv_iconst (v := nI 1) hx hb dX2_told_12 (by decide) ?_
      refine lv_icmp_ne (tgt := 23) hx hb dX2_told_13 (by decide) (fun c_5 => ?_) (fun c_5 => ?_)
      · refine lv_iload_n hx hb dX2_told_23 rfl (lv_at hl 1 rfl) ?_
        refine lv_iconst (v := nI 2) hx hb dX2_told_24 (by decide) ?_
        refine lv_icmp_ne (tgt := 35) hx hb dX2_told_25 (by decide) (fun c_6 => ?_) (fun c_6 => ?_)
        · refine lv_bipush (v := (-2)) hx hb dX2_told_35 (by decide) ?_
          exact W.iret (v := ((-2))) hx hb hr (fun tt ht hW => ⟨_, rfl, (by simp only [f_told, ha]), ht⟩) (fun _ h => absurd h List.not_mem_nil) dX2_told_37
        · exfalso; rw [c_6] at ha; revert ha; decide
      · exfalso; rw [c_5] at ha; revert ha; decide
    · exfalso; rw [c_4] at ha; revert ha; decide
