/-! ===== the reference: its public methods (written by program) ===== -/
set_option maxRecDepth 20000 in
theorem nX2_isNumberAt_2 : ∀ w ∈ u_ws RX2 TX2 10, w ∈ wsX2_isNumberAt := by decide +kernel
set_option maxHeartbeats 4000000 in
set_option maxRecDepth 100000 in
theorem kX2_isNumberAt_N (l : Launch) (E : q_E) (mm S : Nat) (n : Nat) (kd sz : Nat → Nat) (sh : Nat → Bool) (nu : Nat → Nat → Int64) (pa : Nat → Nat → Option Nat) (sl : Nat → Option Nat) (tn ts tg : Int32) (hI : q_I (n, kd, sz, sh, nu, pa, sl, nI 0, tn, ts, tg)) (j : Nat) (hj : j < 12) (i : Int32) (hs : sl j = none)  : Met l yX2_isNumberAt wsX2_isNumberAt ({ frames := 2, cells := 0, slots := 0, locals := 44 }) (q_P E (q_M E mm S (n, kd, sz, sh, nu, pa, sl, nI 0, tn, ts, tg)) [.ref mm, .int (nI j), .int i]) (q_Wi (q_M E mm S) (q_Am mm) (nI 0) (n, kd, sz, sh, nu, pa, sl, nI 2, tn, ts, tg)) 0 0 (q_Am mm) := by
  refine Met.ofW (cc := cX2_isNumberAt) (maxL := 4) (ret := (some .boolean)) (by decide) rfl ?_
  intro p e s m args below meth c s₁ B hml hv
  obtain ⟨rfl, hK, hM⟩ := hv
  have hx := B.exec
  have hb := B.bytes
  have hr := B.returns
  have hts := atoms_spec (ws := wsX2_isNumberAt) B.pre
  have hown : s.vm.findClass RX2 = some m.cls := findClass_of_methodNamed B.named
  have hlocks := B.notSynchronized
  have hl := lv_entry ([.ref mm, .int (nI j), .int i]) (n := 4) (Nat.le_of_ble_eq_true rfl)
  rw [lg_entry_eq]
  generalize (lg_sl ([.ref mm, .int (nI j), .int i]) ++ List.replicate (4 - (lg_sl ([.ref mm, .int (nI j), .int i])).length) Slot.unset).toArray = ls at hl ⊢
  have hl : lv_has ls 4 [(0, .ref mm), (1, .int (nI j)), (2, .int i)] := hl
  have hS : va_S (q_Am mm) s.heap s.heap [] := va_S.rf
  refine lv_aload_n hx hb dX2_isNumberAt_0 rfl (lv_at hl 0 rfl) ?_
  refine qw_get (v := .ref (mm + 5)) (ci := 2) (C := RX2) (T := TX2) (N := 10) hx hb hts nX2_isNumberAt_2 hown hK hM.1 rfl 5 (by decide) (hts (.fieldLink RX2 24 "DockGatesModel" "slots" "[I") (by decide +kernel)) rfl rfl dX2_isNumberAt_1 ?_
  refine lv_iload_n hx hb dX2_isNumberAt_4 rfl (lv_at hl 1 rfl) ?_
  refine qm_slotN hx hb hK hM hs hj dX2_isNumberAt_5 ?_
  refine lv_istore_n (lv' := [(3, .int ((-1))), (0, .ref mm), (1, .int (nI j)), (2, .int i)]) hx hb dX2_isNumberAt_6 rfl hl (by decide) rfl (fun ls hl => ?_)
  refine lv_iload_n hx hb dX2_isNumberAt_7 rfl (lv_at hl 0 rfl) ?_
  refine lv_iconst (v := (-1)) hx hb dX2_isNumberAt_8 (by decide) ?_
  refine lv_icmp_ne (tgt := 21) hx hb dX2_isNumberAt_9 (by decide) (fun c_1 => absurd rfl c_1) (fun _ => ?_)
  refine lv_aload_n hx hb dX2_isNumberAt_12 rfl (lv_at hl 1 rfl) ?_
  refine lv_iconst (v := nI 2) hx hb dX2_isNumberAt_13 (by decide) ?_
  refine qc_i (r1 := nI 0) (σ1 := (n, kd, sz, sh, nu, pa, sl, nI 2, tn, ts, tg)) (va_runV (As := [.int (nI 2)]) (rest := []) ⟨hx, hb, hml, hown, hts⟩ (kX2_fails l E mm S n kd sz sh nu pa sl (nI 0) tn ts tg hI (nI 2)) (cwV 1 hts gX2_isNumberAt_X2_fails rfl rfl rfl (by decide +kernel) ⟨Nat.le_of_ble_eq_true rfl, Nat.le_of_ble_eq_true rfl⟩) (q_preV hK hM hM.1 rfl) rfl rfl hl.1 rfl (lv_room (Nat.le_of_ble_eq_true rfl)) dX2_isNumberAt_14 ⟨Nat.le_of_ble_eq_true rfl, Nat.le_of_ble_eq_true rfl⟩) hS rfl rfl (fun H locs hM hS => ?_)
  refine lv_pop hx hb dX2_isNumberAt_17 rfl ?_
  refine lv_goto (tgt := 63) hx hb dX2_isNumberAt_18 (by decide) ?_
  refine lv_aload_n hx hb dX2_isNumberAt_63 rfl (lv_at hl 1 rfl) ?_
  refine qw_get (v := .int (nI 2)) (ci := 2) (C := RX2) (T := TX2) (N := 10) hx hb hts nX2_isNumberAt_2 hown hK hM.1 rfl 6 (by decide) (hts (.fieldLink RX2 42 "DockGatesModel" "fault" "I") (by decide +kernel)) rfl rfl dX2_isNumberAt_64 ?_
  refine ln_if_ne (tgt := 74) hx hb (by omega) dX2_isNumberAt_67 (by decide) (fun _ => ?_) (fun c_2 => absurd c_2 (by omega))
  refine lv_iconst (v := nI 0) hx hb dX2_isNumberAt_74 (by decide) ?_
  exact W.zret (v := nI 0) hx hb hr rfl (fun tt ht hW => ⟨⟨nI 0, (n, kd, sz, sh, nu, pa, sl, nI 2, tn, ts, tg), rfl, ⟨rfl, rfl⟩, (by show q_M E mm S (n, kd, sz, sh, nu, pa, sl, nI 2, tn, ts, tg) tt.heap; rw [ht]; exact hM)⟩, hS.F ht⟩) hS.2.2 dX2_isNumberAt_75
set_option maxHeartbeats 4000000 in
set_option maxRecDepth 100000 in
theorem kX2_isNumberAt_T (l : Launch) (E : q_E) (mm S : Nat) (n : Nat) (kd sz : Nat → Nat) (sh : Nat → Bool) (nu : Nat → Nat → Int64) (pa : Nat → Nat → Option Nat) (sl : Nat → Option Nat) (tn ts tg : Int32) (hI : q_I (n, kd, sz, sh, nu, pa, sl, nI 0, tn, ts, tg)) (j : Nat) (hj : j < 12) (k : Nat) (hk : k < n) (hs : sl j = some k) (i : Int32) (hc : ¬ kd k < 3)  : Met l yX2_isNumberAt wsX2_isNumberAt ({ frames := 2, cells := 0, slots := 0, locals := 44 }) (q_P E (q_M E mm S (n, kd, sz, sh, nu, pa, sl, nI 0, tn, ts, tg)) [.ref mm, .int (nI j), .int i]) (q_Wi (q_M E mm S) (q_Am mm) (nI 0) (n, kd, sz, sh, nu, pa, sl, nI 1, tn + 1, nI j, nI 2)) 0 0 (q_Am mm) := by
  refine Met.ofW (cc := cX2_isNumberAt) (maxL := 4) (ret := (some .boolean)) (by decide) rfl ?_
  intro p e s m args below meth c s₁ B hml hv
  obtain ⟨rfl, hK, hM⟩ := hv
  have hx := B.exec
  have hb := B.bytes
  have hr := B.returns
  have hts := atoms_spec (ws := wsX2_isNumberAt) B.pre
  have hown : s.vm.findClass RX2 = some m.cls := findClass_of_methodNamed B.named
  have hlocks := B.notSynchronized
  have hl := lv_entry ([.ref mm, .int (nI j), .int i]) (n := 4) (Nat.le_of_ble_eq_true rfl)
  rw [lg_entry_eq]
  generalize (lg_sl ([.ref mm, .int (nI j), .int i]) ++ List.replicate (4 - (lg_sl ([.ref mm, .int (nI j), .int i])).length) Slot.unset).toArray = ls at hl ⊢
  have hl : lv_has ls 4 [(0, .ref mm), (1, .int (nI j)), (2, .int i)] := hl
  have hS : va_S (q_Am mm) s.heap s.heap [] := va_S.rf
  obtain ⟨ak, bk, dk, wk⟩ := hI.2.1 k hk
  have n60 := hI.1
  try dsimp only at ak bk dk wk n60
  refine lv_aload_n hx hb dX2_isNumberAt_0 rfl (lv_at hl 0 rfl) ?_
  refine qw_get (v := .ref (mm + 5)) (ci := 2) (C := RX2) (T := TX2) (N := 10) hx hb hts nX2_isNumberAt_2 hown hK hM.1 rfl 5 (by decide) (hts (.fieldLink RX2 24 "DockGatesModel" "slots" "[I") (by decide +kernel)) rfl rfl dX2_isNumberAt_1 ?_
  refine lv_iload_n hx hb dX2_isNumberAt_4 rfl (lv_at hl 1 rfl) ?_
  refine qm_slotS hx hb hK hM hs hj dX2_isNumberAt_5 ?_
  refine lv_istore_n (lv' := [(3, .int (nI k)), (0, .ref mm), (1, .int (nI j)), (2, .int i)]) hx hb dX2_isNumberAt_6 rfl hl (by decide) rfl (fun ls hl => ?_)
  refine lv_iload_n hx hb dX2_isNumberAt_7 rfl (lv_at hl 0 rfl) ?_
  refine lv_iconst (v := (-1)) hx hb dX2_isNumberAt_8 (by decide) ?_
  refine lv_icmp_ne (tgt := 21) hx hb dX2_isNumberAt_9 (by decide) (fun _ => ?_) (fun c_1 => absurd c_1 (q_nm1 (by omega)))
  refine lv_aload_n hx hb dX2_isNumberAt_21 rfl (lv_at hl 1 rfl) ?_
  refine qw_get (v := .ref (mm + 1)) (ci := 2) (C := RX2) (T := TX2) (N := 10) hx hb hts nX2_isNumberAt_2 hown hK hM.1 rfl 1 (by decide) (hts (.fieldLink RX2 7 "DockGatesModel" "kind" "[I") (by decide +kernel)) rfl rfl dX2_isNumberAt_22 ?_
  refine lv_iload_n hx hb dX2_isNumberAt_25 rfl (lv_at hl 0 rfl) ?_
  refine qw_iald (f := fun q => nI (kd q)) hx hb hK hM.2.1 (by omega) (by decide) dX2_isNumberAt_26 ?_
  refine lv_iconst (v := nI 2) hx hb dX2_isNumberAt_27 (by decide) ?_
  refine ln_cmp_le (tgt := 41) hx hb (by omega) (by omega) dX2_isNumberAt_28 (by decide) (fun c_2 => absurd c_2 (by omega)) (fun _ => ?_)
  refine lv_aload_n hx hb dX2_isNumberAt_31 rfl (lv_at hl 1 rfl) ?_
  refine lv_iload_n hx hb dX2_isNumberAt_32 rfl (lv_at hl 2 rfl) ?_
  refine lv_iconst (v := nI 2) hx hb dX2_isNumberAt_33 (by decide) ?_
  refine qc_i (r1 := nI 0) (σ1 := (n, kd, sz, sh, nu, pa, sl, nI 1, (tn + 1), nI j, nI 2)) (va_runV (As := [.int (nI j), .int (nI 2)]) (rest := []) ⟨hx, hb, hml, hown, hts⟩ (kX2_turns l E mm S n kd sz sh nu pa sl (nI 0) tn ts tg hI (nI j) (nI 2)) (cwV 2 hts gX2_isNumberAt_X2_turns rfl rfl rfl (by decide +kernel) ⟨Nat.le_of_ble_eq_true rfl, Nat.le_of_ble_eq_true rfl⟩) (q_preV hK hM hM.1 rfl) rfl rfl hl.1 rfl (lv_room (Nat.le_of_ble_eq_true rfl)) dX2_isNumberAt_34 ⟨Nat.le_of_ble_eq_true rfl, Nat.le_of_ble_eq_true rfl⟩) hS rfl rfl (fun H locs hM hS => ?_)
  refine lv_pop hx hb dX2_isNumberAt_37 rfl ?_
  refine lv_goto (tgt := 63) hx hb dX2_isNumberAt_38 (by decide) ?_
  refine lv_aload_n hx hb dX2_isNumberAt_63 rfl (lv_at hl 1 rfl) ?_
  refine qw_get (v := .int (nI 1)) (ci := 2) (C := RX2) (T := TX2) (N := 10) hx hb hts nX2_isNumberAt_2 hown hK hM.1 rfl 6 (by decide) (hts (.fieldLink RX2 42 "DockGatesModel" "fault" "I") (by decide +kernel)) rfl rfl dX2_isNumberAt_64 ?_
  refine ln_if_ne (tgt := 74) hx hb (by omega) dX2_isNumberAt_67 (by decide) (fun _ => ?_) (fun c_3 => absurd c_3 (by omega))
  refine lv_iconst (v := nI 0) hx hb dX2_isNumberAt_74 (by decide) ?_
  exact W.zret (v := nI 0) hx hb hr rfl (fun tt ht hW => ⟨⟨nI 0, (n, kd, sz, sh, nu, pa, sl, nI 1, (tn + 1), nI j, nI 2), rfl, ⟨rfl, rfl⟩, (by show q_M E mm S (n, kd, sz, sh, nu, pa, sl, nI 1, (tn + 1), nI j, nI 2) tt.heap; rw [ht]; exact hM)⟩, hS.F ht⟩) hS.2.2 dX2_isNumberAt_75
set_option maxHeartbeats 4000000 in
set_option maxRecDepth 100000 in
theorem kX2_isNumberAt_O (l : Launch) (E : q_E) (mm S : Nat) (n : Nat) (kd sz : Nat → Nat) (sh : Nat → Bool) (nu : Nat → Nat → Int64) (pa : Nat → Nat → Option Nat) (sl : Nat → Option Nat) (tn ts tg : Int32) (hI : q_I (n, kd, sz, sh, nu, pa, sl, nI 0, tn, ts, tg)) (j : Nat) (hj : j < 12) (k : Nat) (hk : k < n) (hs : sl j = some k) (i : Int32) (hc : kd k < 3) (hi : q_ix i (sz k) = none)  : Met l yX2_isNumberAt wsX2_isNumberAt ({ frames := 2, cells := 0, slots := 0, locals := 44 }) (q_P E (q_M E mm S (n, kd, sz, sh, nu, pa, sl, nI 0, tn, ts, tg)) [.ref mm, .int (nI j), .int i]) (q_Wi (q_M E mm S) (q_Am mm) (nI 0) (n, kd, sz, sh, nu, pa, sl, nI 3, tn, ts, tg)) 0 0 (q_Am mm) := by
  refine Met.ofW (cc := cX2_isNumberAt) (maxL := 4) (ret := (some .boolean)) (by decide) rfl ?_
  intro p e s m args below meth c s₁ B hml hv
  obtain ⟨rfl, hK, hM⟩ := hv
  have hx := B.exec
  have hb := B.bytes
  have hr := B.returns
  have hts := atoms_spec (ws := wsX2_isNumberAt) B.pre
  have hown : s.vm.findClass RX2 = some m.cls := findClass_of_methodNamed B.named
  have hlocks := B.notSynchronized
  have hl := lv_entry ([.ref mm, .int (nI j), .int i]) (n := 4) (Nat.le_of_ble_eq_true rfl)
  rw [lg_entry_eq]
  generalize (lg_sl ([.ref mm, .int (nI j), .int i]) ++ List.replicate (4 - (lg_sl ([.ref mm, .int (nI j), .int i])).length) Slot.unset).toArray = ls at hl ⊢
  have hl : lv_has ls 4 [(0, .ref mm), (1, .int (nI j)), (2, .int i)] := hl
  have hS : va_S (q_Am mm) s.heap s.heap [] := va_S.rf
  obtain ⟨ak, bk, dk, wk⟩ := hI.2.1 k hk
  have n60 := hI.1
  try dsimp only at ak bk dk wk n60
  refine lv_aload_n hx hb dX2_isNumberAt_0 rfl (lv_at hl 0 rfl) ?_
  refine qw_get (v := .ref (mm + 5)) (ci := 2) (C := RX2) (T := TX2) (N := 10) hx hb hts nX2_isNumberAt_2 hown hK hM.1 rfl 5 (by decide) (hts (.fieldLink RX2 24 "DockGatesModel" "slots" "[I") (by decide +kernel)) rfl rfl dX2_isNumberAt_1 ?_
  refine lv_iload_n hx hb dX2_isNumberAt_4 rfl (lv_at hl 1 rfl) ?_
  refine qm_slotS hx hb hK hM hs hj dX2_isNumberAt_5 ?_
  refine lv_istore_n (lv' := [(3, .int (nI k)), (0, .ref mm), (1, .int (nI j)), (2, .int i)]) hx hb dX2_isNumberAt_6 rfl hl (by decide) rfl (fun ls hl => ?_)
  refine lv_iload_n hx hb dX2_isNumberAt_7 rfl (lv_at hl 0 rfl) ?_
  refine lv_iconst (v := (-1)) hx hb dX2_isNumberAt_8 (by decide) ?_
  refine lv_icmp_ne (tgt := 21) hx hb dX2_isNumberAt_9 (by decide) (fun _ => ?_) (fun c_1 => absurd c_1 (q_nm1 (by omega)))
  refine lv_aload_n hx hb dX2_isNumberAt_21 rfl (lv_at hl 1 rfl) ?_
  refine qw_get (v := .ref (mm + 1)) (ci := 2) (C := RX2) (T := TX2) (N := 10) hx hb hts nX2_isNumberAt_2 hown hK hM.1 rfl 1 (by decide) (hts (.fieldLink RX2 7 "DockGatesModel" "kind" "[I") (by decide +kernel)) rfl rfl dX2_isNumberAt_22 ?_
  refine lv_iload_n hx hb dX2_isNumberAt_25 rfl (lv_at hl 0 rfl) ?_
  refine qw_iald (f := fun q => nI (kd q)) hx hb hK hM.2.1 (by omega) (by decide) dX2_isNumberAt_26 ?_
  refine lv_iconst (v := nI 2) hx hb dX2_isNumberAt_27 (by decide) ?_
  refine ln_cmp_le (tgt := 41) hx hb (by omega) (by omega) dX2_isNumberAt_28 (by decide) (fun _ => ?_) (fun c_2 => absurd c_2 (by omega))
  refine lv_iload_n hx hb dX2_isNumberAt_41 rfl (lv_at hl 3 rfl) ?_
  refine lv_iconst (v := nI 0) hx hb dX2_isNumberAt_42 (by decide) ?_
  refine lv_aload_n hx hb dX2_isNumberAt_43 rfl (lv_at hl 1 rfl) ?_
  refine qw_get (v := .ref (mm + 2)) (ci := 2) (C := RX2) (T := TX2) (N := 10) hx hb hts nX2_isNumberAt_2 hown hK hM.1 rfl 2 (by decide) (hts (.fieldLink RX2 13 "DockGatesModel" "size" "[I") (by decide +kernel)) rfl rfl dX2_isNumberAt_44 ?_
  refine lv_iload_n hx hb dX2_isNumberAt_47 rfl (lv_at hl 0 rfl) ?_
  refine qw_iald (f := fun q => nI (sz q)) hx hb hK hM.2.2.1 (by omega) (by decide) dX2_isNumberAt_48 ?_
  refine lv_iconst (v := nI 1) hx hb dX2_isNumberAt_49 (by decide) ?_
  refine lv_isub hx hb dX2_isNumberAt_50 ?_
  refine qc_ri (r1 := q_b false) (W.runS (As := [.int i, .int (nI 0), .int (nI (sz k) - nI 1)]) (rest := []) ⟨hx, hb, hml, hown, hts⟩ (kX2_isIn l i (nI 0) ((nI (sz k) - nI 1))) (va_cwS 3 hts gX2_isNumberAt_X2_isIn rfl rfl rfl (by decide +kernel) ⟨Nat.le_of_ble_eq_true rfl, Nat.le_of_ble_eq_true rfl⟩) preEq rfl rfl hl.1 rfl (lv_room (Nat.le_of_ble_eq_true rfl)) dX2_isNumberAt_51 ⟨Nat.le_of_ble_eq_true rfl, Nat.le_of_ble_eq_true rfl⟩) (by rw [q_in1 _ (by omega), hi]; rfl) ?_
  refine ln_b_ne (tgt := 63) hx hb dX2_isNumberAt_54 (by decide) (fun c_3 => absurd c_3 (by decide)) (fun _ => ?_)
  refine lv_aload_n hx hb dX2_isNumberAt_57 rfl (lv_at hl 1 rfl) ?_
  refine lv_iconst (v := nI 3) hx hb dX2_isNumberAt_58 (by decide) ?_
  refine qc_i (r1 := nI 0) (σ1 := (n, kd, sz, sh, nu, pa, sl, nI 3, tn, ts, tg)) (va_runV (As := [.int (nI 3)]) (rest := []) ⟨hx, hb, hml, hown, hts⟩ (kX2_fails l E mm S n kd sz sh nu pa sl (nI 0) tn ts tg hI (nI 3)) (cwV 1 hts gX2_isNumberAt_X2_fails rfl rfl rfl (by decide +kernel) ⟨Nat.le_of_ble_eq_true rfl, Nat.le_of_ble_eq_true rfl⟩) (q_preV hK hM hM.1 rfl) rfl rfl hl.1 rfl (lv_room (Nat.le_of_ble_eq_true rfl)) dX2_isNumberAt_59 ⟨Nat.le_of_ble_eq_true rfl, Nat.le_of_ble_eq_true rfl⟩) hS rfl rfl (fun H locs hM hS => ?_)
  refine lv_pop hx hb dX2_isNumberAt_62 rfl ?_
  refine lv_aload_n hx hb dX2_isNumberAt_63 rfl (lv_at hl 1 rfl) ?_
  refine qw_get (v := .int (nI 3)) (ci := 2) (C := RX2) (T := TX2) (N := 10) hx hb hts nX2_isNumberAt_2 hown hK hM.1 rfl 6 (by decide) (hts (.fieldLink RX2 42 "DockGatesModel" "fault" "I") (by decide +kernel)) rfl rfl dX2_isNumberAt_64 ?_
  refine ln_if_ne (tgt := 74) hx hb (by omega) dX2_isNumberAt_67 (by decide) (fun _ => ?_) (fun c_4 => absurd c_4 (by omega))
  refine lv_iconst (v := nI 0) hx hb dX2_isNumberAt_74 (by decide) ?_
  exact W.zret (v := nI 0) hx hb hr rfl (fun tt ht hW => ⟨⟨nI 0, (n, kd, sz, sh, nu, pa, sl, nI 3, tn, ts, tg), rfl, ⟨rfl, rfl⟩, (by show q_M E mm S (n, kd, sz, sh, nu, pa, sl, nI 3, tn, ts, tg) tt.heap; rw [ht]; exact hM)⟩, hS.F ht⟩) hS.2.2 dX2_isNumberAt_75
set_option maxHeartbeats 4000000 in
set_option maxRecDepth 100000 in
theorem kX2_isNumberAt_S (l : Launch) (E : q_E) (mm S : Nat) (n : Nat) (kd sz : Nat → Nat) (sh : Nat → Bool) (nu : Nat → Nat → Int64) (pa : Nat → Nat → Option Nat) (sl : Nat → Option Nat) (tn ts tg : Int32) (hI : q_I (n, kd, sz, sh, nu, pa, sl, nI 0, tn, ts, tg)) (j : Nat) (hj : j < 12) (k : Nat) (hk : k < n) (hs : sl j = some k) (z : Nat) (hc : kd k < 3) (hz : z < sz k)  : Met l yX2_isNumberAt wsX2_isNumberAt ({ frames := 2, cells := 0, slots := 0, locals := 44 }) (q_P E (q_M E mm S (n, kd, sz, sh, nu, pa, sl, nI 0, tn, ts, tg)) [.ref mm, .int (nI j), .int (nI z)]) (q_Wi (q_M E mm S) (q_Am mm) (nI 1) (n, kd, sz, sh, nu, pa, sl, nI 0, tn, ts, tg)) 0 0 (q_Am mm) := by
  refine Met.ofW (cc := cX2_isNumberAt) (maxL := 4) (ret := (some .boolean)) (by decide) rfl ?_
  intro p e s m args below meth c s₁ B hml hv
  obtain ⟨rfl, hK, hM⟩ := hv
  have hx := B.exec
  have hb := B.bytes
  have hr := B.returns
  have hts := atoms_spec (ws := wsX2_isNumberAt) B.pre
  have hown : s.vm.findClass RX2 = some m.cls := findClass_of_methodNamed B.named
  have hlocks := B.notSynchronized
  have hl := lv_entry ([.ref mm, .int (nI j), .int (nI z)]) (n := 4) (Nat.le_of_ble_eq_true rfl)
  rw [lg_entry_eq]
  generalize (lg_sl ([.ref mm, .int (nI j), .int (nI z)]) ++ List.replicate (4 - (lg_sl ([.ref mm, .int (nI j), .int (nI z)])).length) Slot.unset).toArray = ls at hl ⊢
  have hl : lv_has ls 4 [(0, .ref mm), (1, .int (nI j)), (2, .int (nI z))] := hl
  have hS : va_S (q_Am mm) s.heap s.heap [] := va_S.rf
  obtain ⟨ak, bk, dk, wk⟩ := hI.2.1 k hk
  have n60 := hI.1
  try dsimp only at ak bk dk wk n60
  refine lv_aload_n hx hb dX2_isNumberAt_0 rfl (lv_at hl 0 rfl) ?_
  refine qw_get (v := .ref (mm + 5)) (ci := 2) (C := RX2) (T := TX2) (N := 10) hx hb hts nX2_isNumberAt_2 hown hK hM.1 rfl 5 (by decide) (hts (.fieldLink RX2 24 "DockGatesModel" "slots" "[I") (by decide +kernel)) rfl rfl dX2_isNumberAt_1 ?_
  refine lv_iload_n hx hb dX2_isNumberAt_4 rfl (lv_at hl 1 rfl) ?_
  refine qm_slotS hx hb hK hM hs hj dX2_isNumberAt_5 ?_
  refine lv_istore_n (lv' := [(3, .int (nI k)), (0, .ref mm), (1, .int (nI j)), (2, .int (nI z))]) hx hb dX2_isNumberAt_6 rfl hl (by decide) rfl (fun ls hl => ?_)
  refine lv_iload_n hx hb dX2_isNumberAt_7 rfl (lv_at hl 0 rfl) ?_
  refine lv_iconst (v := (-1)) hx hb dX2_isNumberAt_8 (by decide) ?_
  refine lv_icmp_ne (tgt := 21) hx hb dX2_isNumberAt_9 (by decide) (fun _ => ?_) (fun c_1 => absurd c_1 (q_nm1 (by omega)))
  refine lv_aload_n hx hb dX2_isNumberAt_21 rfl (lv_at hl 1 rfl) ?_
  refine qw_get (v := .ref (mm + 1)) (ci := 2) (C := RX2) (T := TX2) (N := 10) hx hb hts nX2_isNumberAt_2 hown hK hM.1 rfl 1 (by decide) (hts (.fieldLink RX2 7 "DockGatesModel" "kind" "[I") (by decide +kernel)) rfl rfl dX2_isNumberAt_22 ?_
  refine lv_iload_n hx hb dX2_isNumberAt_25 rfl (lv_at hl 0 rfl) ?_
  refine qw_iald (f := fun q => nI (kd q)) hx hb hK hM.2.1 (by omega) (by decide) dX2_isNumberAt_26 ?_
  refine lv_iconst (v := nI 2) hx hb dX2_isNumberAt_27 (by decide) ?_
  refine ln_cmp_le (tgt := 41) hx hb (by omega) (by omega) dX2_isNumberAt_28 (by decide) (fun _ => ?_) (fun c_2 => absurd c_2 (by omega))
  refine lv_iload_n hx hb dX2_isNumberAt_41 rfl (lv_at hl 3 rfl) ?_
  refine lv_iconst (v := nI 0) hx hb dX2_isNumberAt_42 (by decide) ?_
  refine lv_aload_n hx hb dX2_isNumberAt_43 rfl (lv_at hl 1 rfl) ?_
  refine qw_get (v := .ref (mm + 2)) (ci := 2) (C := RX2) (T := TX2) (N := 10) hx hb hts nX2_isNumberAt_2 hown hK hM.1 rfl 2 (by decide) (hts (.fieldLink RX2 13 "DockGatesModel" "size" "[I") (by decide +kernel)) rfl rfl dX2_isNumberAt_44 ?_
  refine lv_iload_n hx hb dX2_isNumberAt_47 rfl (lv_at hl 0 rfl) ?_
  refine qw_iald (f := fun q => nI (sz q)) hx hb hK hM.2.2.1 (by omega) (by decide) dX2_isNumberAt_48 ?_
  refine lv_iconst (v := nI 1) hx hb dX2_isNumberAt_49 (by decide) ?_
  refine lv_isub hx hb dX2_isNumberAt_50 ?_
  refine qc_ri (r1 := q_b true) (W.runS (As := [.int (nI z), .int (nI 0), .int (nI (sz k) - nI 1)]) (rest := []) ⟨hx, hb, hml, hown, hts⟩ (kX2_isIn l (nI z) (nI 0) ((nI (sz k) - nI 1))) (va_cwS 3 hts gX2_isNumberAt_X2_isIn rfl rfl rfl (by decide +kernel) ⟨Nat.le_of_ble_eq_true rfl, Nat.le_of_ble_eq_true rfl⟩) preEq rfl rfl hl.1 rfl (lv_room (Nat.le_of_ble_eq_true rfl)) dX2_isNumberAt_51 ⟨Nat.le_of_ble_eq_true rfl, Nat.le_of_ble_eq_true rfl⟩) (by rw [q_in1 _ (by omega), q_ix_in hz (by omega)]; rfl) ?_
  refine ln_b_ne (tgt := 63) hx hb dX2_isNumberAt_54 (by decide) (fun _ => ?_) (fun c_3 => absurd c_3 (by decide))
  refine lv_aload_n hx hb dX2_isNumberAt_63 rfl (lv_at hl 1 rfl) ?_
  refine qw_get (v := .int (nI 0)) (ci := 2) (C := RX2) (T := TX2) (N := 10) hx hb hts nX2_isNumberAt_2 hown hK hM.1 rfl 6 (by decide) (hts (.fieldLink RX2 42 "DockGatesModel" "fault" "I") (by decide +kernel)) rfl rfl dX2_isNumberAt_64 ?_
  refine ln_if_ne (tgt := 74) hx hb (by omega) dX2_isNumberAt_67 (by decide) (fun c_4 => absurd c_4 (by omega)) (fun _ => ?_)
  refine lv_iconst (v := nI 1) hx hb dX2_isNumberAt_70 (by decide) ?_
  refine lv_goto (tgt := 75) hx hb dX2_isNumberAt_71 (by decide) ?_
  exact W.zret (v := nI 1) hx hb hr rfl (fun tt ht hW => ⟨⟨nI 1, (n, kd, sz, sh, nu, pa, sl, nI 0, tn, ts, tg), rfl, ⟨rfl, rfl⟩, (by show q_M E mm S (n, kd, sz, sh, nu, pa, sl, nI 0, tn, ts, tg) tt.heap; rw [ht]; exact hM)⟩, hS.F ht⟩) hS.2.2 dX2_isNumberAt_75
set_option maxRecDepth 20000 in
theorem nX2_isLetThrough_2 : ∀ w ∈ u_ws RX2 TX2 10, w ∈ wsX2_isLetThrough := by decide +kernel
set_option maxHeartbeats 4000000 in
set_option maxRecDepth 100000 in
theorem kX2_isLetThrough_N (l : Launch) (E : q_E) (mm S : Nat) (n : Nat) (kd sz : Nat → Nat) (sh : Nat → Bool) (nu : Nat → Nat → Int64) (pa : Nat → Nat → Option Nat) (sl : Nat → Option Nat) (tn ts tg : Int32) (hI : q_I (n, kd, sz, sh, nu, pa, sl, nI 0, tn, ts, tg)) (j : Nat) (hj : j < 12) (g : Nat) (hg : g < 13) (hs : sl j = none)  : Met l yX2_isLetThrough wsX2_isLetThrough ({ frames := 2, cells := 0, slots := 0, locals := 44 }) (q_P E (q_M E mm S (n, kd, sz, sh, nu, pa, sl, nI 0, tn, ts, tg)) [.ref mm, .int (nI j), .int (nI g)]) (q_Wi (q_M E mm S) (q_Am mm) (nI 0) (n, kd, sz, sh, nu, pa, sl, nI 2, tn, ts, tg)) 0 0 (q_Am mm) := by
  refine Met.ofW (cc := cX2_isLetThrough) (maxL := 3) (ret := (some .boolean)) (by decide) rfl ?_
  intro p e s m args below meth c s₁ B hml hv
  obtain ⟨rfl, hK, hM⟩ := hv
  have hx := B.exec
  have hb := B.bytes
  have hr := B.returns
  have hts := atoms_spec (ws := wsX2_isLetThrough) B.pre
  have hown : s.vm.findClass RX2 = some m.cls := findClass_of_methodNamed B.named
  have hlocks := B.notSynchronized
  have hl := lv_entry ([.ref mm, .int (nI j), .int (nI g)]) (n := 3) (Nat.le_of_ble_eq_true rfl)
  rw [lg_entry_eq]
  generalize (lg_sl ([.ref mm, .int (nI j), .int (nI g)]) ++ List.replicate (3 - (lg_sl ([.ref mm, .int (nI j), .int (nI g)])).length) Slot.unset).toArray = ls at hl ⊢
  have hl : lv_has ls 3 [(0, .ref mm), (1, .int (nI j)), (2, .int (nI g))] := hl
  have hS : va_S (q_Am mm) s.heap s.heap [] := va_S.rf
  refine lv_aload_n hx hb dX2_isLetThrough_0 rfl (lv_at hl 0 rfl) ?_
  refine qw_get (v := .ref (mm + 5)) (ci := 2) (C := RX2) (T := TX2) (N := 10) hx hb hts nX2_isLetThrough_2 hown hK hM.1 rfl 5 (by decide) (hts (.fieldLink RX2 24 "DockGatesModel" "slots" "[I") (by decide +kernel)) rfl rfl dX2_isLetThrough_1 ?_
  refine lv_iload_n hx hb dX2_isLetThrough_4 rfl (lv_at hl 1 rfl) ?_
  refine qm_slotN hx hb hK hM hs hj dX2_isLetThrough_5 ?_
  refine lv_iconst (v := (-1)) hx hb dX2_isLetThrough_6 (by decide) ?_
  refine lv_icmp_ne (tgt := 19) hx hb dX2_isLetThrough_7 (by decide) (fun c_1 => absurd rfl c_1) (fun _ => ?_)
  refine lv_aload_n hx hb dX2_isLetThrough_10 rfl (lv_at hl 0 rfl) ?_
  refine lv_iconst (v := nI 2) hx hb dX2_isLetThrough_11 (by decide) ?_
  refine qc_i (r1 := nI 0) (σ1 := (n, kd, sz, sh, nu, pa, sl, nI 2, tn, ts, tg)) (va_runV (As := [.int (nI 2)]) (rest := []) ⟨hx, hb, hml, hown, hts⟩ (kX2_fails l E mm S n kd sz sh nu pa sl (nI 0) tn ts tg hI (nI 2)) (cwV 1 hts gX2_isLetThrough_X2_fails rfl rfl rfl (by decide +kernel) ⟨Nat.le_of_ble_eq_true rfl, Nat.le_of_ble_eq_true rfl⟩) (q_preV hK hM hM.1 rfl) rfl rfl hl.1 rfl (lv_room (Nat.le_of_ble_eq_true rfl)) dX2_isLetThrough_12 ⟨Nat.le_of_ble_eq_true rfl, Nat.le_of_ble_eq_true rfl⟩) hS rfl rfl (fun H locs hM hS => ?_)
  refine lv_pop hx hb dX2_isLetThrough_15 rfl ?_
  refine lv_goto (tgt := 35) hx hb dX2_isLetThrough_16 (by decide) ?_
  refine lv_aload_n hx hb dX2_isLetThrough_35 rfl (lv_at hl 0 rfl) ?_
  refine qw_get (v := .int (nI 2)) (ci := 2) (C := RX2) (T := TX2) (N := 10) hx hb hts nX2_isLetThrough_2 hown hK hM.1 rfl 6 (by decide) (hts (.fieldLink RX2 42 "DockGatesModel" "fault" "I") (by decide +kernel)) rfl rfl dX2_isLetThrough_36 ?_
  refine ln_if_ne (tgt := 46) hx hb (by omega) dX2_isLetThrough_39 (by decide) (fun _ => ?_) (fun c_2 => absurd c_2 (by omega))
  refine lv_iconst (v := nI 0) hx hb dX2_isLetThrough_46 (by decide) ?_
  exact W.zret (v := nI 0) hx hb hr rfl (fun tt ht hW => ⟨⟨nI 0, (n, kd, sz, sh, nu, pa, sl, nI 2, tn, ts, tg), rfl, ⟨rfl, rfl⟩, (by show q_M E mm S (n, kd, sz, sh, nu, pa, sl, nI 2, tn, ts, tg) tt.heap; rw [ht]; exact hM)⟩, hS.F ht⟩) hS.2.2 dX2_isLetThrough_47
set_option maxHeartbeats 4000000 in
set_option maxRecDepth 100000 in
theorem kX2_isLetThrough_S (l : Launch) (E : q_E) (mm S : Nat) (n : Nat) (kd sz : Nat → Nat) (sh : Nat → Bool) (nu : Nat → Nat → Int64) (pa : Nat → Nat → Option Nat) (sl : Nat → Option Nat) (tn ts tg : Int32) (hI : q_I (n, kd, sz, sh, nu, pa, sl, nI 0, tn, ts, tg)) (j : Nat) (hj : j < 12) (k : Nat) (hk : k < n) (hs : sl j = some k) (g : Nat) (hg : g < 13) (hgo : q_go (kd k) g = true)  : Met l yX2_isLetThrough wsX2_isLetThrough ({ frames := 2, cells := 0, slots := 0, locals := 44 }) (q_P E (q_M E mm S (n, kd, sz, sh, nu, pa, sl, nI 0, tn, ts, tg)) [.ref mm, .int (nI j), .int (nI g)]) (q_Wi (q_M E mm S) (q_Am mm) (nI 1) (n, kd, sz, sh, nu, pa, sl, nI 0, tn, ts, tg)) 0 0 (q_Am mm) := by
  refine Met.ofW (cc := cX2_isLetThrough) (maxL := 3) (ret := (some .boolean)) (by decide) rfl ?_
  intro p e s m args below meth c s₁ B hml hv
  obtain ⟨rfl, hK, hM⟩ := hv
  have hx := B.exec
  have hb := B.bytes
  have hr := B.returns
  have hts := atoms_spec (ws := wsX2_isLetThrough) B.pre
  have hown : s.vm.findClass RX2 = some m.cls := findClass_of_methodNamed B.named
  have hlocks := B.notSynchronized
  have hl := lv_entry ([.ref mm, .int (nI j), .int (nI g)]) (n := 3) (Nat.le_of_ble_eq_true rfl)
  rw [lg_entry_eq]
  generalize (lg_sl ([.ref mm, .int (nI j), .int (nI g)]) ++ List.replicate (3 - (lg_sl ([.ref mm, .int (nI j), .int (nI g)])).length) Slot.unset).toArray = ls at hl ⊢
  have hl : lv_has ls 3 [(0, .ref mm), (1, .int (nI j)), (2, .int (nI g))] := hl
  have hS : va_S (q_Am mm) s.heap s.heap [] := va_S.rf
  obtain ⟨ak, bk, dk, wk⟩ := hI.2.1 k hk
  have n60 := hI.1
  try dsimp only at ak bk dk wk n60
  refine lv_aload_n hx hb dX2_isLetThrough_0 rfl (lv_at hl 0 rfl) ?_
  refine qw_get (v := .ref (mm + 5)) (ci := 2) (C := RX2) (T := TX2) (N := 10) hx hb hts nX2_isLetThrough_2 hown hK hM.1 rfl 5 (by decide) (hts (.fieldLink RX2 24 "DockGatesModel" "slots" "[I") (by decide +kernel)) rfl rfl dX2_isLetThrough_1 ?_
  refine lv_iload_n hx hb dX2_isLetThrough_4 rfl (lv_at hl 1 rfl) ?_
  refine qm_slotS hx hb hK hM hs hj dX2_isLetThrough_5 ?_
  refine lv_iconst (v := (-1)) hx hb dX2_isLetThrough_6 (by decide) ?_
  refine lv_icmp_ne (tgt := 19) hx hb dX2_isLetThrough_7 (by decide) (fun _ => ?_) (fun c_1 => absurd c_1 (q_nm1 (by omega)))
  refine lv_aload_n hx hb dX2_isLetThrough_19 rfl (lv_at hl 0 rfl) ?_
  refine lv_iload_n hx hb dX2_isLetThrough_20 rfl (lv_at hl 1 rfl) ?_
  refine lv_iload_n hx hb dX2_isLetThrough_21 rfl (lv_at hl 2 rfl) ?_
  refine qc_ri (r1 := q_b true) (W.runV (As := [.int (nI j), .int (nI g)]) (rest := []) ⟨hx, hb, hml, hown, hts⟩ (kX2_fitsAt l E mm S n kd sz sh nu pa sl (nI 0) tn ts tg hI j g hj (by first | omega | decide)) (cwV 2 hts gX2_isLetThrough_X2_fitsAt rfl rfl rfl (by decide +kernel) ⟨Nat.le_of_ble_eq_true rfl, Nat.le_of_ble_eq_true rfl⟩) (q_preV hK hM hM.1 rfl) rfl rfl hl.1 rfl (lv_room (Nat.le_of_ble_eq_true rfl)) dX2_isLetThrough_22 ⟨Nat.le_of_ble_eq_true rfl, Nat.le_of_ble_eq_true rfl⟩) (by rw [hs]; show q_b (q_go (kd k) g) = _; rw [hgo]) ?_
  refine ln_b_ne (tgt := 35) hx hb dX2_isLetThrough_25 (by decide) (fun _ => ?_) (fun c_2 => absurd c_2 (by decide))
  refine lv_aload_n hx hb dX2_isLetThrough_35 rfl (lv_at hl 0 rfl) ?_
  refine qw_get (v := .int (nI 0)) (ci := 2) (C := RX2) (T := TX2) (N := 10) hx hb hts nX2_isLetThrough_2 hown hK hM.1 rfl 6 (by decide) (hts (.fieldLink RX2 42 "DockGatesModel" "fault" "I") (by decide +kernel)) rfl rfl dX2_isLetThrough_36 ?_
  refine ln_if_ne (tgt := 46) hx hb (by omega) dX2_isLetThrough_39 (by decide) (fun c_3 => absurd c_3 (by omega)) (fun _ => ?_)
  refine lv_iconst (v := nI 1) hx hb dX2_isLetThrough_42 (by decide) ?_
  refine lv_goto (tgt := 47) hx hb dX2_isLetThrough_43 (by decide) ?_
  exact W.zret (v := nI 1) hx hb hr rfl (fun tt ht hW => ⟨⟨nI 1, (n, kd, sz, sh, nu, pa, sl, nI 0, tn, ts, tg), rfl, ⟨rfl, rfl⟩, (by show q_M E mm S (n, kd, sz, sh, nu, pa, sl, nI 0, tn, ts, tg) tt.heap; rw [ht]; exact hM)⟩, hS.F ht⟩) hS.2.2 dX2_isLetThrough_47
set_option maxHeartbeats 4000000 in
set_option maxRecDepth 100000 in
theorem kX2_isLetThrough_T (l : Launch) (E : q_E) (mm S : Nat) (n : Nat) (kd sz : Nat → Nat) (sh : Nat → Bool) (nu : Nat → Nat → Int64) (pa : Nat → Nat → Option Nat) (sl : Nat → Option Nat) (tn ts tg : Int32) (hI : q_I (n, kd, sz, sh, nu, pa, sl, nI 0, tn, ts, tg)) (j : Nat) (hj : j < 12) (k : Nat) (hk : k < n) (hs : sl j = some k) (g : Nat) (hg : g < 13) (hgo : q_go (kd k) g = false)  : Met l yX2_isLetThrough wsX2_isLetThrough ({ frames := 2, cells := 0, slots := 0, locals := 44 }) (q_P E (q_M E mm S (n, kd, sz, sh, nu, pa, sl, nI 0, tn, ts, tg)) [.ref mm, .int (nI j), .int (nI g)]) (q_Wi (q_M E mm S) (q_Am mm) (nI 0) (n, kd, sz, sh, nu, pa, sl, nI 1, tn + 1, nI j, nI g)) 0 0 (q_Am mm) := by
  refine Met.ofW (cc := cX2_isLetThrough) (maxL := 3) (ret := (some .boolean)) (by decide) rfl ?_
  intro p e s m args below meth c s₁ B hml hv
  obtain ⟨rfl, hK, hM⟩ := hv
  have hx := B.exec
  have hb := B.bytes
  have hr := B.returns
  have hts := atoms_spec (ws := wsX2_isLetThrough) B.pre
  have hown : s.vm.findClass RX2 = some m.cls := findClass_of_methodNamed B.named
  have hlocks := B.notSynchronized
  have hl := lv_entry ([.ref mm, .int (nI j), .int (nI g)]) (n := 3) (Nat.le_of_ble_eq_true rfl)
  rw [lg_entry_eq]
  generalize (lg_sl ([.ref mm, .int (nI j), .int (nI g)]) ++ List.replicate (3 - (lg_sl ([.ref mm, .int (nI j), .int (nI g)])).length) Slot.unset).toArray = ls at hl ⊢
  have hl : lv_has ls 3 [(0, .ref mm), (1, .int (nI j)), (2, .int (nI g))] := hl
  have hS : va_S (q_Am mm) s.heap s.heap [] := va_S.rf
  obtain ⟨ak, bk, dk, wk⟩ := hI.2.1 k hk
  have n60 := hI.1
  try dsimp only at ak bk dk wk n60
  refine lv_aload_n hx hb dX2_isLetThrough_0 rfl (lv_at hl 0 rfl) ?_
  refine qw_get (v := .ref (mm + 5)) (ci := 2) (C := RX2) (T := TX2) (N := 10) hx hb hts nX2_isLetThrough_2 hown hK hM.1 rfl 5 (by decide) (hts (.fieldLink RX2 24 "DockGatesModel" "slots" "[I") (by decide +kernel)) rfl rfl dX2_isLetThrough_1 ?_
  refine lv_iload_n hx hb dX2_isLetThrough_4 rfl (lv_at hl 1 rfl) ?_
  refine qm_slotS hx hb hK hM hs hj dX2_isLetThrough_5 ?_
  refine lv_iconst (v := (-1)) hx hb dX2_isLetThrough_6 (by decide) ?_
  refine lv_icmp_ne (tgt := 19) hx hb dX2_isLetThrough_7 (by decide) (fun _ => ?_) (fun c_1 => absurd c_1 (q_nm1 (by omega)))
  refine lv_aload_n hx hb dX2_isLetThrough_19 rfl (lv_at hl 0 rfl) ?_
  refine lv_iload_n hx hb dX2_isLetThrough_20 rfl (lv_at hl 1 rfl) ?_
  refine lv_iload_n hx hb dX2_isLetThrough_21 rfl (lv_at hl 2 rfl) ?_
  refine qc_ri (r1 := q_b false) (W.runV (As := [.int (nI j), .int (nI g)]) (rest := []) ⟨hx, hb, hml, hown, hts⟩ (kX2_fitsAt l E mm S n kd sz sh nu pa sl (nI 0) tn ts tg hI j g hj (by first | omega | decide)) (cwV 2 hts gX2_isLetThrough_X2_fitsAt rfl rfl rfl (by decide +kernel) ⟨Nat.le_of_ble_eq_true rfl, Nat.le_of_ble_eq_true rfl⟩) (q_preV hK hM hM.1 rfl) rfl rfl hl.1 rfl (lv_room (Nat.le_of_ble_eq_true rfl)) dX2_isLetThrough_22 ⟨Nat.le_of_ble_eq_true rfl, Nat.le_of_ble_eq_true rfl⟩) (by rw [hs]; show q_b (q_go (kd k) g) = _; rw [hgo]) ?_
  refine ln_b_ne (tgt := 35) hx hb dX2_isLetThrough_25 (by decide) (fun c_2 => absurd c_2 (by decide)) (fun _ => ?_)
  refine lv_aload_n hx hb dX2_isLetThrough_28 rfl (lv_at hl 0 rfl) ?_
  refine lv_iload_n hx hb dX2_isLetThrough_29 rfl (lv_at hl 1 rfl) ?_
  refine lv_iload_n hx hb dX2_isLetThrough_30 rfl (lv_at hl 2 rfl) ?_
  refine qc_i (r1 := nI 0) (σ1 := (n, kd, sz, sh, nu, pa, sl, nI 1, (tn + 1), nI j, nI g)) (va_runV (As := [.int (nI j), .int (nI g)]) (rest := []) ⟨hx, hb, hml, hown, hts⟩ (kX2_turns l E mm S n kd sz sh nu pa sl (nI 0) tn ts tg hI (nI j) (nI g)) (cwV 2 hts gX2_isLetThrough_X2_turns rfl rfl rfl (by decide +kernel) ⟨Nat.le_of_ble_eq_true rfl, Nat.le_of_ble_eq_true rfl⟩) (q_preV hK hM hM.1 rfl) rfl rfl hl.1 rfl (lv_room (Nat.le_of_ble_eq_true rfl)) dX2_isLetThrough_31 ⟨Nat.le_of_ble_eq_true rfl, Nat.le_of_ble_eq_true rfl⟩) hS rfl rfl (fun H locs hM hS => ?_)
  refine lv_pop hx hb dX2_isLetThrough_34 rfl ?_
  refine lv_aload_n hx hb dX2_isLetThrough_35 rfl (lv_at hl 0 rfl) ?_
  refine qw_get (v := .int (nI 1)) (ci := 2) (C := RX2) (T := TX2) (N := 10) hx hb hts nX2_isLetThrough_2 hown hK hM.1 rfl 6 (by decide) (hts (.fieldLink RX2 42 "DockGatesModel" "fault" "I") (by decide +kernel)) rfl rfl dX2_isLetThrough_36 ?_
  refine ln_if_ne (tgt := 46) hx hb (by omega) dX2_isLetThrough_39 (by decide) (fun _ => ?_) (fun c_3 => absurd c_3 (by omega))
  refine lv_iconst (v := nI 0) hx hb dX2_isLetThrough_46 (by decide) ?_
  exact W.zret (v := nI 0) hx hb hr rfl (fun tt ht hW => ⟨⟨nI 0, (n, kd, sz, sh, nu, pa, sl, nI 1, (tn + 1), nI j, nI g), rfl, ⟨rfl, rfl⟩, (by show q_M E mm S (n, kd, sz, sh, nu, pa, sl, nI 1, (tn + 1), nI j, nI g) tt.heap; rw [ht]; exact hM)⟩, hS.F ht⟩) hS.2.2 dX2_isLetThrough_47
set_option maxRecDepth 20000 in
theorem nX2_fits_2 : ∀ w ∈ u_ws RX2 TX2 10, w ∈ wsX2_fits := by decide +kernel
set_option maxHeartbeats 4000000 in
set_option maxRecDepth 100000 in
theorem kX2_fits (l : Launch) (E : q_E) (mm S : Nat) (n : Nat) (kd sz : Nat → Nat) (sh : Nat → Bool) (nu : Nat → Nat → Int64) (pa : Nat → Nat → Option Nat) (sl : Nat → Option Nat) (ft tn ts tg : Int32) (hI : q_I (n, kd, sz, sh, nu, pa, sl, ft, tn, ts, tg)) (slot gate : Int32)  : Met l yX2_fits wsX2_fits ({ frames := 2, cells := 0, slots := 0, locals := 43 }) (q_P E (q_M E mm S (n, kd, sz, sh, nu, pa, sl, ft, tn, ts, tg)) [.ref mm, .int slot, .int gate]) (q_Wi (q_M E mm S) (q_Am mm) ((f_fits (n, kd, sz, sh, nu, pa, sl, ft, tn, ts, tg) slot gate).1) (f_fits (n, kd, sz, sh, nu, pa, sl, ft, tn, ts, tg) slot gate).2) 0 0 (q_Am mm) := by
  refine Met.ofW (cc := cX2_fits) (maxL := 3) (ret := (some .int)) (by decide) rfl ?_
  intro p e s m args below meth c s₁ B hml hv
  obtain ⟨rfl, hK, hM⟩ := hv
  have hx := B.exec
  have hb := B.bytes
  have hr := B.returns
  have hts := atoms_spec (ws := wsX2_fits) B.pre
  have hown : s.vm.findClass RX2 = some m.cls := findClass_of_methodNamed B.named
  have hlocks := B.notSynchronized
  have hl := lv_entry ([.ref mm, .int slot, .int gate]) (n := 3) (Nat.le_of_ble_eq_true rfl)
  rw [lg_entry_eq]
  generalize (lg_sl ([.ref mm, .int slot, .int gate]) ++ List.replicate (3 - (lg_sl ([.ref mm, .int slot, .int gate])).length) Slot.unset).toArray = ls at hl ⊢
  have hl : lv_has ls 3 [(0, .ref mm), (1, .int slot), (2, .int gate)] := hl
  have hS : va_S (q_Am mm) s.heap s.heap [] := va_S.rf
  refine lv_aload_n hx hb dX2_fits_0 rfl (lv_at hl 0 rfl) ?_
  refine lv_iconst (v := nI 0) hx hb dX2_fits_1 (by decide) ?_
  refine qw_put (ci := 2) (C := RX2) (T := TX2) (N := 10) hx hb hts nX2_fits_2 tyX2 tyX2_ok nmX2 hown hK hM.1 hS ⟨by omega, by omega⟩ rfl 6 (by decide) (hts (.fieldLink RX2 42 "DockGatesModel" "fault" "I") (by decide +kernel)) rfl rfl rfl rfl (Nat.le_of_ble_eq_true rfl) dX2_fits_2 (fun H locs hO hz hq hS => ?_)
  have hM : q_M E mm S (n, kd, sz, sh, nu, pa, sl, (nI 0), tn, ts, tg) H := hM.obj hO hz hq
  refine lv_iload_n hx hb dX2_fits_5 rfl (lv_at hl 1 rfl) ?_
  refine qc_ri (r1 := q_b ((q_ix slot 12).isSome)) (W.runS (As := [.int slot]) (rest := []) ⟨hx, hb, hml, hown, hts⟩ (kX2_isSlot l slot) (va_cwS 1 hts gX2_fits_X2_isSlot rfl rfl rfl (by decide +kernel) ⟨Nat.le_of_ble_eq_true rfl, Nat.le_of_ble_eq_true rfl⟩) preEq rfl rfl hl.1 rfl (lv_room (Nat.le_of_ble_eq_true rfl)) dX2_fits_6 ⟨Nat.le_of_ble_eq_true rfl, Nat.le_of_ble_eq_true rfl⟩) rfl ?_
  refine ln_b_eq (tgt := 22) hx hb dX2_fits_9 (by decide) (fun c_1 => ?_) (fun c_1 => ?_)
  · have c_1 := q_isn c_1
    refine lv_bipush (v := (-2)) hx hb dX2_fits_22 (by decide) ?_
    refine lv_goto (tgt := 41) hx hb dX2_fits_24 (by decide) ?_
    have ee : f_fits (n, kd, sz, sh, nu, pa, sl, ft, tn, ts, tg) slot gate = (((-2)), (n, kd, sz, sh, nu, pa, sl, (nI 0), tn, ts, tg)) := by first | (simp only [f_fits, c_1]; done) | (simp only [f_fits, c_1]; rfl) | (simp [f_fits, c_1]; done) | (simp [f_fits, c_1]; rfl) | (simp only [f_fits, c_1]; (repeat' split) <;> first | rfl | (exfalso; omega))
    exact W.iret (v := ((-2))) hx hb hr (fun tt ht hW => ⟨⟨((-2)), (n, kd, sz, sh, nu, pa, sl, (nI 0), tn, ts, tg), rfl, ⟨(by rw [ee]), (by rw [ee])⟩, (by show q_M E mm S (n, kd, sz, sh, nu, pa, sl, (nI 0), tn, ts, tg) tt.heap; rw [ht]; exact hM)⟩, hS.F ht⟩) hS.2.2 dX2_fits_41
  · obtain ⟨j_slot, hj_slot, rfl⟩ := q_is (by first | decide | omega) c_1
    have ej_slot := q_ix_in hj_slot (by first | decide | omega)
    refine lv_iload_n hx hb dX2_fits_12 rfl (lv_at hl 2 rfl) ?_
    refine lv_iconst (v := nI 0) hx hb dX2_fits_13 (by decide) ?_
    refine lv_bipush (v := nI 12) hx hb dX2_fits_14 (by decide) ?_
    refine qc_ri (r1 := q_b ((q_ix gate 13).isSome)) (W.runS (As := [.int gate, .int (nI 0), .int (nI 12)]) (rest := []) ⟨hx, hb, hml, hown, hts⟩ (kX2_isIn l gate (nI 0) (nI 12)) (va_cwS 3 hts gX2_fits_X2_isIn rfl rfl rfl (by decide +kernel) ⟨Nat.le_of_ble_eq_true rfl, Nat.le_of_ble_eq_true rfl⟩) preEq rfl rfl hl.1 rfl (lv_room (Nat.le_of_ble_eq_true rfl)) dX2_fits_16 ⟨Nat.le_of_ble_eq_true rfl, Nat.le_of_ble_eq_true rfl⟩) (congrArg q_b (q_in0 _ (by decide))) ?_
    refine ln_b_ne (tgt := 27) hx hb dX2_fits_19 (by decide) (fun c_2 => ?_) (fun c_2 => ?_)
    · obtain ⟨j_gate, hj_gate, rfl⟩ := q_is (by first | decide | omega) c_2
      have ej_gate := q_ix_in hj_gate (by first | decide | omega)
      refine lv_aload_n hx hb dX2_fits_27 rfl (lv_at hl 0 rfl) ?_
      refine lv_iload_n hx hb dX2_fits_28 rfl (lv_at hl 1 rfl) ?_
      refine lv_iload_n hx hb dX2_fits_29 rfl (lv_at hl 2 rfl) ?_
      cases s_3 : sl j_slot with
      | none =>
        refine qc_ri (r1 := q_b false) (W.runV (As := [.int (nI j_slot), .int (nI j_gate)]) (rest := []) ⟨hx, hb, hml, hown, hts⟩ (kX2_fitsAt l E mm S n kd sz sh nu pa sl ((nI 0)) tn ts tg hI j_slot j_gate hj_slot (by first | omega | decide)) (cwV 2 hts gX2_fits_X2_fitsAt rfl rfl rfl (by decide +kernel) ⟨Nat.le_of_ble_eq_true rfl, Nat.le_of_ble_eq_true rfl⟩) (q_preV hK hM hM.1 rfl) rfl rfl hl.1 rfl (lv_room (Nat.le_of_ble_eq_true rfl)) dX2_fits_30 ⟨Nat.le_of_ble_eq_true rfl, Nat.le_of_ble_eq_true rfl⟩) (by rw [s_3]; rfl) ?_
        refine ln_b_eq (tgt := 40) hx hb dX2_fits_33 (by decide) (fun _ => ?_) (fun c_4 => absurd c_4 (by decide))
        refine lv_iconst (v := nI 0) hx hb dX2_fits_40 (by decide) ?_
        have ee : f_fits (n, kd, sz, sh, nu, pa, sl, ft, tn, ts, tg) (nI j_slot) (nI j_gate) = (nI 0, (n, kd, sz, sh, nu, pa, sl, (nI 0), tn, ts, tg)) := by first | (simp only [f_fits, ej_slot, ej_gate, s_3]; done) | (simp only [f_fits, ej_slot, ej_gate, s_3]; rfl) | (simp [f_fits, ej_slot, ej_gate, s_3]; done) | (simp [f_fits, ej_slot, ej_gate, s_3]; rfl) | (simp only [f_fits, ej_slot, ej_gate, s_3]; (repeat' split) <;> first | rfl | (exfalso; omega))
        exact W.iret (v := nI 0) hx hb hr (fun tt ht hW => ⟨⟨nI 0, (n, kd, sz, sh, nu, pa, sl, (nI 0), tn, ts, tg), rfl, ⟨(by rw [ee]), (by rw [ee])⟩, (by show q_M E mm S (n, kd, sz, sh, nu, pa, sl, (nI 0), tn, ts, tg) tt.heap; rw [ht]; exact hM)⟩, hS.F ht⟩) hS.2.2 dX2_fits_41
      | some k_3 =>
        have hk_3 : k_3 < n := hI.2.2 _ _ s_3
        obtain ⟨ak_3, bk_3, dk_3, wk_3⟩ := hI.2.1 k_3 hk_3
        have n60 := hI.1
        try dsimp only at ak_3 bk_3 dk_3 wk_3 n60
        refine qc_ri (r1 := q_b (q_go (kd k_3) j_gate)) (W.runV (As := [.int (nI j_slot), .int (nI j_gate)]) (rest := []) ⟨hx, hb, hml, hown, hts⟩ (kX2_fitsAt l E mm S n kd sz sh nu pa sl ((nI 0)) tn ts tg hI j_slot j_gate hj_slot (by first | omega | decide)) (cwV 2 hts gX2_fits_X2_fitsAt rfl rfl rfl (by decide +kernel) ⟨Nat.le_of_ble_eq_true rfl, Nat.le_of_ble_eq_true rfl⟩) (q_preV hK hM hM.1 rfl) rfl rfl hl.1 rfl (lv_room (Nat.le_of_ble_eq_true rfl)) dX2_fits_30 ⟨Nat.le_of_ble_eq_true rfl, Nat.le_of_ble_eq_true rfl⟩) (by rw [s_3]; rfl) ?_
        refine ln_b_eq (tgt := 40) hx hb dX2_fits_33 (by decide) (fun c_5 => ?_) (fun c_5 => ?_)
        · refine lv_iconst (v := nI 0) hx hb dX2_fits_40 (by decide) ?_
          have ee : f_fits (n, kd, sz, sh, nu, pa, sl, ft, tn, ts, tg) (nI j_slot) (nI j_gate) = (nI 0, (n, kd, sz, sh, nu, pa, sl, (nI 0), tn, ts, tg)) := by first | (simp only [f_fits, ej_slot, ej_gate, s_3, c_5]; done) | (simp only [f_fits, ej_slot, ej_gate, s_3, c_5]; rfl) | (simp [f_fits, ej_slot, ej_gate, s_3, c_5]; done) | (simp [f_fits, ej_slot, ej_gate, s_3, c_5]; rfl) | (simp only [f_fits, ej_slot, ej_gate, s_3, c_5]; (repeat' split) <;> first | rfl | (exfalso; omega))
          exact W.iret (v := nI 0) hx hb hr (fun tt ht hW => ⟨⟨nI 0, (n, kd, sz, sh, nu, pa, sl, (nI 0), tn, ts, tg), rfl, ⟨(by rw [ee]), (by rw [ee])⟩, (by show q_M E mm S (n, kd, sz, sh, nu, pa, sl, (nI 0), tn, ts, tg) tt.heap; rw [ht]; exact hM)⟩, hS.F ht⟩) hS.2.2 dX2_fits_41
        · refine lv_iconst (v := nI 1) hx hb dX2_fits_36 (by decide) ?_
          refine lv_goto (tgt := 41) hx hb dX2_fits_37 (by decide) ?_
          have ee : f_fits (n, kd, sz, sh, nu, pa, sl, ft, tn, ts, tg) (nI j_slot) (nI j_gate) = (nI 1, (n, kd, sz, sh, nu, pa, sl, (nI 0), tn, ts, tg)) := by first | (simp only [f_fits, ej_slot, ej_gate, s_3, c_5]; done) | (simp only [f_fits, ej_slot, ej_gate, s_3, c_5]; rfl) | (simp [f_fits, ej_slot, ej_gate, s_3, c_5]; done) | (simp [f_fits, ej_slot, ej_gate, s_3, c_5]; rfl) | (simp only [f_fits, ej_slot, ej_gate, s_3, c_5]; (repeat' split) <;> first | rfl | (exfalso; omega))
          exact W.iret (v := nI 1) hx hb hr (fun tt ht hW => ⟨⟨nI 1, (n, kd, sz, sh, nu, pa, sl, (nI 0), tn, ts, tg), rfl, ⟨(by rw [ee]), (by rw [ee])⟩, (by show q_M E mm S (n, kd, sz, sh, nu, pa, sl, (nI 0), tn, ts, tg) tt.heap; rw [ht]; exact hM)⟩, hS.F ht⟩) hS.2.2 dX2_fits_41
    · have c_2 := q_isn c_2
      refine lv_bipush (v := (-2)) hx hb dX2_fits_22 (by decide) ?_
      refine lv_goto (tgt := 41) hx hb dX2_fits_24 (by decide) ?_
      have ee : f_fits (n, kd, sz, sh, nu, pa, sl, ft, tn, ts, tg) (nI j_slot) gate = (((-2)), (n, kd, sz, sh, nu, pa, sl, (nI 0), tn, ts, tg)) := by first | (simp only [f_fits, ej_slot, c_2]; done) | (simp only [f_fits, ej_slot, c_2]; rfl) | (simp [f_fits, ej_slot, c_2]; done) | (simp [f_fits, ej_slot, c_2]; rfl) | (simp only [f_fits, ej_slot, c_2]; (repeat' split) <;> first | rfl | (exfalso; omega))
      exact W.iret (v := ((-2))) hx hb hr (fun tt ht hW => ⟨⟨((-2)), (n, kd, sz, sh, nu, pa, sl, (nI 0), tn, ts, tg), rfl, ⟨(by rw [ee]), (by rw [ee])⟩, (by show q_M E mm S (n, kd, sz, sh, nu, pa, sl, (nI 0), tn, ts, tg) tt.heap; rw [ht]; exact hM)⟩, hS.F ht⟩) hS.2.2 dX2_fits_41
set_option maxRecDepth 20000 in
theorem nX2_pass_2 : ∀ w ∈ u_ws RX2 TX2 10, w ∈ wsX2_pass := by decide +kernel
set_option maxHeartbeats 4000000 in
set_option maxRecDepth 100000 in
theorem kX2_pass (l : Launch) (E : q_E) (mm S : Nat) (n : Nat) (kd sz : Nat → Nat) (sh : Nat → Bool) (nu : Nat → Nat → Int64) (pa : Nat → Nat → Option Nat) (sl : Nat → Option Nat) (ft tn ts tg : Int32) (hI : q_I (n, kd, sz, sh, nu, pa, sl, ft, tn, ts, tg)) (slot gate : Int32)  : Met l yX2_pass wsX2_pass ({ frames := 4, cells := 0, slots := 0, locals := 93 }) (q_P E (q_M E mm S (n, kd, sz, sh, nu, pa, sl, ft, tn, ts, tg)) [.ref mm, .int slot, .int gate]) (q_Wl (q_M E mm S) (q_Am mm) ((f_pass (n, kd, sz, sh, nu, pa, sl, ft, tn, ts, tg) slot gate).1) (f_pass (n, kd, sz, sh, nu, pa, sl, ft, tn, ts, tg) slot gate).2) 0 0 (q_Am mm) := by
  refine Met.ofW (cc := cX2_pass) (maxL := 5) (ret := (some .long)) (by decide) rfl ?_
  intro p e s m args below meth c s₁ B hml hv
  obtain ⟨rfl, hK, hM⟩ := hv
  have hx := B.exec
  have hb := B.bytes
  have hr := B.returns
  have hts := atoms_spec (ws := wsX2_pass) B.pre
  have hown : s.vm.findClass RX2 = some m.cls := findClass_of_methodNamed B.named
  have hlocks := B.notSynchronized
  have hl := lv_entry ([.ref mm, .int slot, .int gate]) (n := 5) (Nat.le_of_ble_eq_true rfl)
  rw [lg_entry_eq]
  generalize (lg_sl ([.ref mm, .int slot, .int gate]) ++ List.replicate (5 - (lg_sl ([.ref mm, .int slot, .int gate])).length) Slot.unset).toArray = ls at hl ⊢
  have hl : lv_has ls 5 [(0, .ref mm), (1, .int slot), (2, .int gate)] := hl
  have hS : va_S (q_Am mm) s.heap s.heap [] := va_S.rf
  refine lv_aload_n hx hb dX2_pass_0 rfl (lv_at hl 0 rfl) ?_
  refine lv_iconst (v := nI 0) hx hb dX2_pass_1 (by decide) ?_
  refine qw_put (ci := 2) (C := RX2) (T := TX2) (N := 10) hx hb hts nX2_pass_2 tyX2 tyX2_ok nmX2 hown hK hM.1 hS ⟨by omega, by omega⟩ rfl 6 (by decide) (hts (.fieldLink RX2 42 "DockGatesModel" "fault" "I") (by decide +kernel)) rfl rfl rfl rfl (Nat.le_of_ble_eq_true rfl) dX2_pass_2 (fun H locs hO hz hq hS => ?_)
  have hM : q_M E mm S (n, kd, sz, sh, nu, pa, sl, (nI 0), tn, ts, tg) H := hM.obj hO hz hq
  refine lv_iload_n hx hb dX2_pass_5 rfl (lv_at hl 1 rfl) ?_
  refine qc_ri (r1 := q_b ((q_ix slot 12).isSome)) (W.runS (As := [.int slot]) (rest := []) ⟨hx, hb, hml, hown, hts⟩ (kX2_isSlot l slot) (va_cwS 1 hts gX2_pass_X2_isSlot rfl rfl rfl (by decide +kernel) ⟨Nat.le_of_ble_eq_true rfl, Nat.le_of_ble_eq_true rfl⟩) preEq rfl rfl hl.1 rfl (lv_room (Nat.le_of_ble_eq_true rfl)) dX2_pass_6 ⟨Nat.le_of_ble_eq_true rfl, Nat.le_of_ble_eq_true rfl⟩) rfl ?_
  refine ln_b_eq (tgt := 22) hx hb dX2_pass_9 (by decide) (fun c_1 => ?_) (fun c_1 => ?_)
  · have c_1 := q_isn c_1
    refine lv_aload_n hx hb dX2_pass_22 rfl (lv_at hl 0 rfl) ?_
    refine lv_bipush (v := (-2)) hx hb dX2_pass_23 (by decide) ?_
    refine qc_i (r1 := nI 0) (σ1 := (n, kd, sz, sh, nu, pa, sl, ((-2)), tn, ts, tg)) (va_runV (As := [.int ((-2))]) (rest := []) ⟨hx, hb, hml, hown, hts⟩ (kX2_fails l E mm S n kd sz sh nu pa sl ((nI 0)) tn ts tg hI (((-2)))) (cwV 1 hts gX2_pass_X2_fails rfl rfl rfl (by decide +kernel) ⟨Nat.le_of_ble_eq_true rfl, Nat.le_of_ble_eq_true rfl⟩) (q_preV hK hM hM.1 rfl) rfl rfl hl.1 rfl (lv_room (Nat.le_of_ble_eq_true rfl)) dX2_pass_25 ⟨Nat.le_of_ble_eq_true rfl, Nat.le_of_ble_eq_true rfl⟩) hS rfl rfl (fun H locs hM hS => ?_)
    refine lv_i2l (v := lN 0) hx hb dX2_pass_28 (nI_l (by first | omega | (simp; omega))) ?_
    have ee : f_pass (n, kd, sz, sh, nu, pa, sl, ft, tn, ts, tg) slot gate = (lN 0, (n, kd, sz, sh, nu, pa, sl, ((-2)), tn, ts, tg)) := by first | (simp only [f_pass, c_1]; done) | (simp only [f_pass, c_1]; rfl) | (simp [f_pass, c_1]; done) | (simp [f_pass, c_1]; rfl) | (simp only [f_pass, c_1]; (repeat' split) <;> first | rfl | (exfalso; omega))
    exact W.lret (v := lN 0) hx hb hr (fun tt ht hW => ⟨⟨lN 0, (n, kd, sz, sh, nu, pa, sl, ((-2)), tn, ts, tg), rfl, ⟨(by rw [ee]), (by rw [ee])⟩, (by show q_M E mm S (n, kd, sz, sh, nu, pa, sl, ((-2)), tn, ts, tg) tt.heap; rw [ht]; exact hM)⟩, hS.F ht⟩) hS.2.2 dX2_pass_29
  · obtain ⟨j_slot, hj_slot, rfl⟩ := q_is (by first | decide | omega) c_1
    have ej_slot := q_ix_in hj_slot (by first | decide | omega)
    refine lv_iload_n hx hb dX2_pass_12 rfl (lv_at hl 2 rfl) ?_
    refine lv_iconst (v := nI 0) hx hb dX2_pass_13 (by decide) ?_
    refine lv_bipush (v := nI 12) hx hb dX2_pass_14 (by decide) ?_
    refine qc_ri (r1 := q_b ((q_ix gate 13).isSome)) (W.runS (As := [.int gate, .int (nI 0), .int (nI 12)]) (rest := []) ⟨hx, hb, hml, hown, hts⟩ (kX2_isIn l gate (nI 0) (nI 12)) (va_cwS 3 hts gX2_pass_X2_isIn rfl rfl rfl (by decide +kernel) ⟨Nat.le_of_ble_eq_true rfl, Nat.le_of_ble_eq_true rfl⟩) preEq rfl rfl hl.1 rfl (lv_room (Nat.le_of_ble_eq_true rfl)) dX2_pass_16 ⟨Nat.le_of_ble_eq_true rfl, Nat.le_of_ble_eq_true rfl⟩) (congrArg q_b (q_in0 _ (by decide))) ?_
    refine ln_b_ne (tgt := 30) hx hb dX2_pass_19 (by decide) (fun c_2 => ?_) (fun c_2 => ?_)
    · obtain ⟨j_gate, hj_gate, rfl⟩ := q_is (by first | decide | omega) c_2
      have ej_gate := q_ix_in hj_gate (by first | decide | omega)
      refine lv_aload_n hx hb dX2_pass_30 rfl (lv_at hl 0 rfl) ?_
      refine qw_get (v := .ref (mm + 5)) (ci := 2) (C := RX2) (T := TX2) (N := 10) hx hb hts nX2_pass_2 hown hK hM.1 rfl 5 (by decide) (hts (.fieldLink RX2 24 "DockGatesModel" "slots" "[I") (by decide +kernel)) rfl rfl dX2_pass_31 ?_
      refine lv_iload_n hx hb dX2_pass_34 rfl (lv_at hl 1 rfl) ?_
      refine qm_slot hx hb hK hM hI hj_slot dX2_pass_35 (fun s_3 => ?_) (fun k_3 hk_3 s_3 => ?_)
      · try dsimp only at s_3
        refine lv_iconst (v := (-1)) hx hb dX2_pass_36 (by decide) ?_
        refine lv_icmp_ne (tgt := 47) hx hb dX2_pass_37 (by decide) (fun c_4 => absurd rfl c_4) (fun _ => ?_)
        refine lv_aload_n hx hb dX2_pass_40 rfl (lv_at hl 0 rfl) ?_
        refine lv_iconst (v := nI 2) hx hb dX2_pass_41 (by decide) ?_
        refine qc_i (r1 := nI 0) (σ1 := (n, kd, sz, sh, nu, pa, sl, nI 2, tn, ts, tg)) (va_runV (As := [.int (nI 2)]) (rest := []) ⟨hx, hb, hml, hown, hts⟩ (kX2_fails l E mm S n kd sz sh nu pa sl ((nI 0)) tn ts tg hI (nI 2)) (cwV 1 hts gX2_pass_X2_fails rfl rfl rfl (by decide +kernel) ⟨Nat.le_of_ble_eq_true rfl, Nat.le_of_ble_eq_true rfl⟩) (q_preV hK hM hM.1 rfl) rfl rfl hl.1 rfl (lv_room (Nat.le_of_ble_eq_true rfl)) dX2_pass_42 ⟨Nat.le_of_ble_eq_true rfl, Nat.le_of_ble_eq_true rfl⟩) hS rfl rfl (fun H locs hM hS => ?_)
        refine lv_i2l (v := lN 0) hx hb dX2_pass_45 (nI_l (by first | omega | (simp; omega))) ?_
        have ee : f_pass (n, kd, sz, sh, nu, pa, sl, ft, tn, ts, tg) (nI j_slot) (nI j_gate) = (lN 0, (n, kd, sz, sh, nu, pa, sl, nI 2, tn, ts, tg)) := by first | (simp only [f_pass, ej_slot, ej_gate, s_3]; done) | (simp only [f_pass, ej_slot, ej_gate, s_3]; rfl) | (simp [f_pass, ej_slot, ej_gate, s_3]; done) | (simp [f_pass, ej_slot, ej_gate, s_3]; rfl) | (simp only [f_pass, ej_slot, ej_gate, s_3]; (repeat' split) <;> first | rfl | (exfalso; omega))
        exact W.lret (v := lN 0) hx hb hr (fun tt ht hW => ⟨⟨lN 0, (n, kd, sz, sh, nu, pa, sl, nI 2, tn, ts, tg), rfl, ⟨(by rw [ee]), (by rw [ee])⟩, (by show q_M E mm S (n, kd, sz, sh, nu, pa, sl, nI 2, tn, ts, tg) tt.heap; rw [ht]; exact hM)⟩, hS.F ht⟩) hS.2.2 dX2_pass_46
      · try dsimp only at s_3 hk_3
        obtain ⟨ak_3, bk_3, dk_3, wk_3⟩ := hI.2.1 k_3 hk_3
        have n60 := hI.1
        try dsimp only at ak_3 bk_3 dk_3 wk_3 n60
        refine lv_iconst (v := (-1)) hx hb dX2_pass_36 (by decide) ?_
        refine lv_icmp_ne (tgt := 47) hx hb dX2_pass_37 (by decide) (fun _ => ?_) (fun c_5 => absurd c_5 (q_nm1 (by omega)))
        refine lv_aload_n hx hb dX2_pass_47 rfl (lv_at hl 0 rfl) ?_
        refine lv_iload_n hx hb dX2_pass_48 rfl (lv_at hl 1 rfl) ?_
        refine lv_iload_n hx hb dX2_pass_49 rfl (lv_at hl 2 rfl) ?_
        refine qc_ri (r1 := q_b (q_go (kd k_3) j_gate)) (W.runV (As := [.int (nI j_slot), .int (nI j_gate)]) (rest := []) ⟨hx, hb, hml, hown, hts⟩ (kX2_fitsAt l E mm S n kd sz sh nu pa sl ((nI 0)) tn ts tg hI j_slot j_gate hj_slot (by first | omega | decide)) (cwV 2 hts gX2_pass_X2_fitsAt rfl rfl rfl (by decide +kernel) ⟨Nat.le_of_ble_eq_true rfl, Nat.le_of_ble_eq_true rfl⟩) (q_preV hK hM hM.1 rfl) rfl rfl hl.1 rfl (lv_room (Nat.le_of_ble_eq_true rfl)) dX2_pass_50 ⟨Nat.le_of_ble_eq_true rfl, Nat.le_of_ble_eq_true rfl⟩) (by rw [s_3]; rfl) ?_
        refine ln_b_ne (tgt := 64) hx hb dX2_pass_53 (by decide) (fun c_6 => ?_) (fun c_6 => ?_)
        · refine lv_aload_n hx hb dX2_pass_64 rfl (lv_at hl 0 rfl) ?_
          refine lv_aload_n hx hb dX2_pass_65 rfl (lv_at hl 0 rfl) ?_
          refine qw_get (v := .ref (mm + 5)) (ci := 2) (C := RX2) (T := TX2) (N := 10) hx hb hts nX2_pass_2 hown hK hM.1 rfl 5 (by decide) (hts (.fieldLink RX2 24 "DockGatesModel" "slots" "[I") (by decide +kernel)) rfl rfl dX2_pass_66 ?_
          refine lv_iload_n hx hb dX2_pass_69 rfl (lv_at hl 1 rfl) ?_
          refine qm_slotS hx hb hK hM s_3 hj_slot dX2_pass_70 ?_
          refine lv_iload_n hx hb dX2_pass_71 rfl (lv_at hl 2 rfl) ?_
          cases z_7 : q_ho2 kd sz pa k_3 with
          | false =>
            refine qc_l (r1 := q_val kd sz sh nu pa k_3 j_gate) (σ1 := (n, kd, sz, sh, nu, pa, sl, (nI 0), tn, ts, tg)) (va_runV (As := [.int (nI k_3), .int (nI j_gate)]) (rest := []) ⟨hx, hb, hml, hown, hts⟩ (kX2_toldBy l E mm S n kd sz sh nu pa sl ((nI 0)) tn ts tg hI k_3 j_gate hk_3 (by omega) c_6) (cwV 2 hts gX2_pass_X2_toldBy rfl rfl rfl (by decide +kernel) ⟨Nat.le_of_ble_eq_true rfl, Nat.le_of_ble_eq_true rfl⟩) (q_preV hK hM hM.1 rfl) rfl rfl hl.1 rfl (lv_room (Nat.le_of_ble_eq_true rfl)) dX2_pass_72 ⟨Nat.le_of_ble_eq_true rfl, Nat.le_of_ble_eq_true rfl⟩) hS rfl (by rw [z_7]; rfl) (fun H locs hM hS => ?_)
            refine lv_lstore_n (lv' := [(3, .long (q_val kd sz sh nu pa k_3 j_gate)), (0, .ref mm), (1, .int (nI j_slot)), (2, .int (nI j_gate))]) hx hb dX2_pass_75 rfl hl (by decide) rfl (fun ls hl => ?_)
            refine lv_aload_n hx hb dX2_pass_76 rfl (lv_at hl 1 rfl) ?_
            refine qw_get (v := .int (nI 0)) (ci := 2) (C := RX2) (T := TX2) (N := 10) hx hb hts nX2_pass_2 hown hK hM.1 rfl 6 (by decide) (hts (.fieldLink RX2 42 "DockGatesModel" "fault" "I") (by decide +kernel)) rfl rfl dX2_pass_77 ?_
            refine ln_if_ne (tgt := 87) hx hb (by omega) dX2_pass_80 (by decide) (fun c_8 => absurd c_8 (by omega)) (fun _ => ?_)
            refine lv_lload_n hx hb dX2_pass_83 rfl (lv_at hl 0 rfl) ?_
            refine lv_goto (tgt := 88) hx hb dX2_pass_84 (by decide) ?_
            have ee : f_pass (n, kd, sz, sh, nu, pa, sl, ft, tn, ts, tg) (nI j_slot) (nI j_gate) = (q_val kd sz sh nu pa k_3 j_gate, (n, kd, sz, sh, nu, pa, sl, (nI 0), tn, ts, tg)) := by first | (simp only [f_pass, ej_slot, ej_gate, s_3, c_6, z_7]; done) | (simp only [f_pass, ej_slot, ej_gate, s_3, c_6, z_7]; rfl) | (simp [f_pass, ej_slot, ej_gate, s_3, c_6, z_7]; done) | (simp [f_pass, ej_slot, ej_gate, s_3, c_6, z_7]; rfl) | (simp only [f_pass, ej_slot, ej_gate, s_3, c_6, z_7]; (repeat' split) <;> first | rfl | (exfalso; omega))
            exact W.lret (v := q_val kd sz sh nu pa k_3 j_gate) hx hb hr (fun tt ht hW => ⟨⟨q_val kd sz sh nu pa k_3 j_gate, (n, kd, sz, sh, nu, pa, sl, (nI 0), tn, ts, tg), rfl, ⟨(by rw [ee]), (by rw [ee])⟩, (by show q_M E mm S (n, kd, sz, sh, nu, pa, sl, (nI 0), tn, ts, tg) tt.heap; rw [ht]; exact hM)⟩, hS.F ht⟩) hS.2.2 dX2_pass_88
          | true =>
            refine qc_l (r1 := q_val kd sz sh nu pa k_3 j_gate) (σ1 := (n, kd, sz, sh, nu, pa, sl, nI 4, tn, ts, tg)) (va_runV (As := [.int (nI k_3), .int (nI j_gate)]) (rest := []) ⟨hx, hb, hml, hown, hts⟩ (kX2_toldBy l E mm S n kd sz sh nu pa sl ((nI 0)) tn ts tg hI k_3 j_gate hk_3 (by omega) c_6) (cwV 2 hts gX2_pass_X2_toldBy rfl rfl rfl (by decide +kernel) ⟨Nat.le_of_ble_eq_true rfl, Nat.le_of_ble_eq_true rfl⟩) (q_preV hK hM hM.1 rfl) rfl rfl hl.1 rfl (lv_room (Nat.le_of_ble_eq_true rfl)) dX2_pass_72 ⟨Nat.le_of_ble_eq_true rfl, Nat.le_of_ble_eq_true rfl⟩) hS rfl (by rw [z_7]; rfl) (fun H locs hM hS => ?_)
            refine lv_lstore_n (lv' := [(3, .long (q_val kd sz sh nu pa k_3 j_gate)), (0, .ref mm), (1, .int (nI j_slot)), (2, .int (nI j_gate))]) hx hb dX2_pass_75 rfl hl (by decide) rfl (fun ls hl => ?_)
            refine lv_aload_n hx hb dX2_pass_76 rfl (lv_at hl 1 rfl) ?_
            refine qw_get (v := .int (nI 4)) (ci := 2) (C := RX2) (T := TX2) (N := 10) hx hb hts nX2_pass_2 hown hK hM.1 rfl 6 (by decide) (hts (.fieldLink RX2 42 "DockGatesModel" "fault" "I") (by decide +kernel)) rfl rfl dX2_pass_77 ?_
            refine ln_if_ne (tgt := 87) hx hb (by omega) dX2_pass_80 (by decide) (fun _ => ?_) (fun c_9 => absurd c_9 (by omega))
            refine lv_lconst (v := 0) hx hb dX2_pass_87 (by decide) ?_
            have ee : f_pass (n, kd, sz, sh, nu, pa, sl, ft, tn, ts, tg) (nI j_slot) (nI j_gate) = (0, (n, kd, sz, sh, nu, pa, sl, nI 4, tn, ts, tg)) := by first | (simp only [f_pass, ej_slot, ej_gate, s_3, c_6, z_7]; done) | (simp only [f_pass, ej_slot, ej_gate, s_3, c_6, z_7]; rfl) | (simp [f_pass, ej_slot, ej_gate, s_3, c_6, z_7]; done) | (simp [f_pass, ej_slot, ej_gate, s_3, c_6, z_7]; rfl) | (simp only [f_pass, ej_slot, ej_gate, s_3, c_6, z_7]; (repeat' split) <;> first | rfl | (exfalso; omega))
            exact W.lret (v := 0) hx hb hr (fun tt ht hW => ⟨⟨0, (n, kd, sz, sh, nu, pa, sl, nI 4, tn, ts, tg), rfl, ⟨(by rw [ee]), (by rw [ee])⟩, (by show q_M E mm S (n, kd, sz, sh, nu, pa, sl, nI 4, tn, ts, tg) tt.heap; rw [ht]; exact hM)⟩, hS.F ht⟩) hS.2.2 dX2_pass_88
        · refine lv_aload_n hx hb dX2_pass_56 rfl (lv_at hl 0 rfl) ?_
          refine lv_iload_n hx hb dX2_pass_57 rfl (lv_at hl 1 rfl) ?_
          refine lv_iload_n hx hb dX2_pass_58 rfl (lv_at hl 2 rfl) ?_
          refine qc_i (r1 := nI 0) (σ1 := (n, kd, sz, sh, nu, pa, sl, nI 1, (tn + 1), nI j_slot, nI j_gate)) (va_runV (As := [.int (nI j_slot), .int (nI j_gate)]) (rest := []) ⟨hx, hb, hml, hown, hts⟩ (kX2_turns l E mm S n kd sz sh nu pa sl ((nI 0)) tn ts tg hI (nI j_slot) (nI j_gate)) (cwV 2 hts gX2_pass_X2_turns rfl rfl rfl (by decide +kernel) ⟨Nat.le_of_ble_eq_true rfl, Nat.le_of_ble_eq_true rfl⟩) (q_preV hK hM hM.1 rfl) rfl rfl hl.1 rfl (lv_room (Nat.le_of_ble_eq_true rfl)) dX2_pass_59 ⟨Nat.le_of_ble_eq_true rfl, Nat.le_of_ble_eq_true rfl⟩) hS rfl rfl (fun H locs hM hS => ?_)
          refine lv_i2l (v := lN 0) hx hb dX2_pass_62 (nI_l (by first | omega | (simp; omega))) ?_
          have ee : f_pass (n, kd, sz, sh, nu, pa, sl, ft, tn, ts, tg) (nI j_slot) (nI j_gate) = (lN 0, (n, kd, sz, sh, nu, pa, sl, nI 1, (tn + 1), nI j_slot, nI j_gate)) := by first | (simp only [f_pass, ej_slot, ej_gate, s_3, c_6]; done) | (simp only [f_pass, ej_slot, ej_gate, s_3, c_6]; rfl) | (simp [f_pass, ej_slot, ej_gate, s_3, c_6]; done) | (simp [f_pass, ej_slot, ej_gate, s_3, c_6]; rfl) | (simp only [f_pass, ej_slot, ej_gate, s_3, c_6]; (repeat' split) <;> first | rfl | (exfalso; omega))
          exact W.lret (v := lN 0) hx hb hr (fun tt ht hW => ⟨⟨lN 0, (n, kd, sz, sh, nu, pa, sl, nI 1, (tn + 1), nI j_slot, nI j_gate), rfl, ⟨(by rw [ee]), (by rw [ee])⟩, (by show q_M E mm S (n, kd, sz, sh, nu, pa, sl, nI 1, (tn + 1), nI j_slot, nI j_gate) tt.heap; rw [ht]; exact hM)⟩, hS.F ht⟩) hS.2.2 dX2_pass_63
    · have c_2 := q_isn c_2
      refine lv_aload_n hx hb dX2_pass_22 rfl (lv_at hl 0 rfl) ?_
      refine lv_bipush (v := (-2)) hx hb dX2_pass_23 (by decide) ?_
      refine qc_i (r1 := nI 0) (σ1 := (n, kd, sz, sh, nu, pa, sl, ((-2)), tn, ts, tg)) (va_runV (As := [.int ((-2))]) (rest := []) ⟨hx, hb, hml, hown, hts⟩ (kX2_fails l E mm S n kd sz sh nu pa sl ((nI 0)) tn ts tg hI (((-2)))) (cwV 1 hts gX2_pass_X2_fails rfl rfl rfl (by decide +kernel) ⟨Nat.le_of_ble_eq_true rfl, Nat.le_of_ble_eq_true rfl⟩) (q_preV hK hM hM.1 rfl) rfl rfl hl.1 rfl (lv_room (Nat.le_of_ble_eq_true rfl)) dX2_pass_25 ⟨Nat.le_of_ble_eq_true rfl, Nat.le_of_ble_eq_true rfl⟩) hS rfl rfl (fun H locs hM hS => ?_)
      refine lv_i2l (v := lN 0) hx hb dX2_pass_28 (nI_l (by first | omega | (simp; omega))) ?_
      have ee : f_pass (n, kd, sz, sh, nu, pa, sl, ft, tn, ts, tg) (nI j_slot) gate = (lN 0, (n, kd, sz, sh, nu, pa, sl, ((-2)), tn, ts, tg)) := by first | (simp only [f_pass, ej_slot, c_2]; done) | (simp only [f_pass, ej_slot, c_2]; rfl) | (simp [f_pass, ej_slot, c_2]; done) | (simp [f_pass, ej_slot, c_2]; rfl) | (simp only [f_pass, ej_slot, c_2]; (repeat' split) <;> first | rfl | (exfalso; omega))
      exact W.lret (v := lN 0) hx hb hr (fun tt ht hW => ⟨⟨lN 0, (n, kd, sz, sh, nu, pa, sl, ((-2)), tn, ts, tg), rfl, ⟨(by rw [ee]), (by rw [ee])⟩, (by show q_M E mm S (n, kd, sz, sh, nu, pa, sl, ((-2)), tn, ts, tg) tt.heap; rw [ht]; exact hM)⟩, hS.F ht⟩) hS.2.2 dX2_pass_29
set_option maxRecDepth 20000 in
theorem nX2_put_2 : ∀ w ∈ u_ws RX2 TX2 10, w ∈ wsX2_put := by decide +kernel
set_option maxHeartbeats 4000000 in
set_option maxRecDepth 100000 in
theorem kX2_put (l : Launch) (E : q_E) (mm S : Nat) (n : Nat) (kd sz : Nat → Nat) (sh : Nat → Bool) (nu : Nat → Nat → Int64) (pa : Nat → Nat → Option Nat) (sl : Nat → Option Nat) (ft tn ts tg : Int32) (hI : q_I (n, kd, sz, sh, nu, pa, sl, ft, tn, ts, tg)) (slot i : Int32) (v : Int64)  : Met l yX2_put wsX2_put ({ frames := 3, cells := 0, slots := 0, locals := 67 }) (q_P E (q_M E mm S (n, kd, sz, sh, nu, pa, sl, ft, tn, ts, tg)) [.ref mm, .int slot, .int i, .long v]) (q_Wi (q_M E mm S) (q_Am mm) ((f_put (n, kd, sz, sh, nu, pa, sl, ft, tn, ts, tg) slot i v).1) (f_put (n, kd, sz, sh, nu, pa, sl, ft, tn, ts, tg) slot i v).2) 0 0 (q_Am mm) := by
  refine Met.ofW (cc := cX2_put) (maxL := 6) (ret := (some .int)) (by decide) rfl ?_
  intro p e s m args below meth c s₁ B hml hv
  obtain ⟨rfl, hK, hM⟩ := hv
  have hx := B.exec
  have hb := B.bytes
  have hr := B.returns
  have hts := atoms_spec (ws := wsX2_put) B.pre
  have hown : s.vm.findClass RX2 = some m.cls := findClass_of_methodNamed B.named
  have hlocks := B.notSynchronized
  have hl := lv_entry ([.ref mm, .int slot, .int i, .long v]) (n := 6) (Nat.le_of_ble_eq_true rfl)
  rw [lg_entry_eq]
  generalize (lg_sl ([.ref mm, .int slot, .int i, .long v]) ++ List.replicate (6 - (lg_sl ([.ref mm, .int slot, .int i, .long v])).length) Slot.unset).toArray = ls at hl ⊢
  have hl : lv_has ls 6 [(0, .ref mm), (1, .int slot), (2, .int i), (3, .long v)] := hl
  have hS : va_S (q_Am mm) s.heap s.heap [] := va_S.rf
  refine lv_aload_n hx hb dX2_put_0 rfl (lv_at hl 0 rfl) ?_
  refine lv_iconst (v := nI 0) hx hb dX2_put_1 (by decide) ?_
  refine qw_put (ci := 2) (C := RX2) (T := TX2) (N := 10) hx hb hts nX2_put_2 tyX2 tyX2_ok nmX2 hown hK hM.1 hS ⟨by omega, by omega⟩ rfl 6 (by decide) (hts (.fieldLink RX2 42 "DockGatesModel" "fault" "I") (by decide +kernel)) rfl rfl rfl rfl (Nat.le_of_ble_eq_true rfl) dX2_put_2 (fun H locs hO hz hq hS => ?_)
  have hM : q_M E mm S (n, kd, sz, sh, nu, pa, sl, (nI 0), tn, ts, tg) H := hM.obj hO hz hq
  refine lv_iload_n hx hb dX2_put_5 rfl (lv_at hl 1 rfl) ?_
  refine qc_ri (r1 := q_b ((q_ix slot 12).isSome)) (W.runS (As := [.int slot]) (rest := []) ⟨hx, hb, hml, hown, hts⟩ (kX2_isSlot l slot) (va_cwS 1 hts gX2_put_X2_isSlot rfl rfl rfl (by decide +kernel) ⟨Nat.le_of_ble_eq_true rfl, Nat.le_of_ble_eq_true rfl⟩) preEq rfl rfl hl.1 rfl (lv_room (Nat.le_of_ble_eq_true rfl)) dX2_put_6 ⟨Nat.le_of_ble_eq_true rfl, Nat.le_of_ble_eq_true rfl⟩) rfl ?_
  refine ln_b_ne (tgt := 15) hx hb dX2_put_9 (by decide) (fun c_1 => ?_) (fun c_1 => ?_)
  · obtain ⟨j_slot, hj_slot, rfl⟩ := q_is (by first | decide | omega) c_1
    have ej_slot := q_ix_in hj_slot (by first | decide | omega)
    refine lv_aload_n hx hb dX2_put_15 rfl (lv_at hl 0 rfl) ?_
    refine lv_iload_n hx hb dX2_put_16 rfl (lv_at hl 1 rfl) ?_
    refine lv_iload_n hx hb dX2_put_17 rfl (lv_at hl 2 rfl) ?_
    cases s_2 : sl j_slot with
    | none =>
      refine qc_i (r1 := nI 0) (σ1 := (n, kd, sz, sh, nu, pa, sl, nI 2, tn, ts, tg)) (va_runV (As := [.int (nI j_slot), .int i]) (rest := []) ⟨hx, hb, hml, hown, hts⟩ (kX2_isNumberAt_N l E mm S n kd sz sh nu pa sl tn ts tg hI j_slot hj_slot i s_2) (cwV 2 hts gX2_put_X2_isNumberAt rfl rfl rfl (by decide +kernel) ⟨Nat.le_of_ble_eq_true rfl, Nat.le_of_ble_eq_true rfl⟩) (q_preV hK hM hM.1 rfl) rfl rfl hl.1 rfl (lv_room (Nat.le_of_ble_eq_true rfl)) dX2_put_18 ⟨Nat.le_of_ble_eq_true rfl, Nat.le_of_ble_eq_true rfl⟩) hS rfl rfl (fun H locs hM hS => ?_)
      refine ln_if_ne (tgt := 26) hx hb (by omega) dX2_put_21 (by decide) (fun c_3 => absurd c_3 (by omega)) (fun _ => ?_)
      refine lv_iconst (v := nI 0) hx hb dX2_put_24 (by decide) ?_
      have ee : f_put (n, kd, sz, sh, nu, pa, sl, ft, tn, ts, tg) (nI j_slot) i v = (nI 0, (n, kd, sz, sh, nu, pa, sl, nI 2, tn, ts, tg)) := by first | (simp only [f_put, ej_slot, s_2, q_nr]; done) | (simp only [f_put, ej_slot, s_2, q_nr]; rfl) | (simp [f_put, ej_slot, s_2, q_nr]; done) | (simp [f_put, ej_slot, s_2, q_nr]; rfl) | (simp only [f_put, ej_slot, s_2, q_nr]; (repeat' split) <;> first | rfl | (exfalso; omega))
      exact W.iret (v := nI 0) hx hb hr (fun tt ht hW => ⟨⟨nI 0, (n, kd, sz, sh, nu, pa, sl, nI 2, tn, ts, tg), rfl, ⟨(by rw [ee]), (by rw [ee])⟩, (by show q_M E mm S (n, kd, sz, sh, nu, pa, sl, nI 2, tn, ts, tg) tt.heap; rw [ht]; exact hM)⟩, hS.F ht⟩) hS.2.2 dX2_put_25
    | some k_2 =>
      have hk_2 : k_2 < n := hI.2.2 _ _ s_2
      obtain ⟨ak_2, bk_2, dk_2, wk_2⟩ := hI.2.1 k_2 hk_2
      have n60 := hI.1
      try dsimp only at ak_2 bk_2 dk_2 wk_2 n60
      by_cases r_4 : kd k_2 < 3
      · rcases q_ix_or i (show sz k_2 < 2 ^ 31 by omega) with ⟨j_i, hj_i, rfl⟩ | x_5
        · have ej_i := q_ix_in hj_i (by omega)
          refine qc_i (r1 := nI 1) (σ1 := (n, kd, sz, sh, nu, pa, sl, (nI 0), tn, ts, tg)) (va_runV (As := [.int (nI j_slot), .int (nI j_i)]) (rest := []) ⟨hx, hb, hml, hown, hts⟩ (kX2_isNumberAt_S l E mm S n kd sz sh nu pa sl tn ts tg hI j_slot hj_slot k_2 hk_2 s_2 j_i r_4 hj_i) (cwV 2 hts gX2_put_X2_isNumberAt rfl rfl rfl (by decide +kernel) ⟨Nat.le_of_ble_eq_true rfl, Nat.le_of_ble_eq_true rfl⟩) (q_preV hK hM hM.1 rfl) rfl rfl hl.1 rfl (lv_room (Nat.le_of_ble_eq_true rfl)) dX2_put_18 ⟨Nat.le_of_ble_eq_true rfl, Nat.le_of_ble_eq_true rfl⟩) hS rfl rfl (fun H locs hM hS => ?_)
          refine ln_if_ne (tgt := 26) hx hb (by omega) dX2_put_21 (by decide) (fun _ => ?_) (fun c_6 => absurd c_6 (by omega))
          refine lv_aload_n hx hb dX2_put_26 rfl (lv_at hl 0 rfl) ?_
          refine qw_get (v := .ref (mm + 1)) (ci := 2) (C := RX2) (T := TX2) (N := 10) hx hb hts nX2_put_2 hown hK hM.1 rfl 1 (by decide) (hts (.fieldLink RX2 7 "DockGatesModel" "kind" "[I") (by decide +kernel)) rfl rfl dX2_put_27 ?_
          refine lv_aload_n hx hb dX2_put_30 rfl (lv_at hl 0 rfl) ?_
          refine qw_get (v := .ref (mm + 5)) (ci := 2) (C := RX2) (T := TX2) (N := 10) hx hb hts nX2_put_2 hown hK hM.1 rfl 5 (by decide) (hts (.fieldLink RX2 24 "DockGatesModel" "slots" "[I") (by decide +kernel)) rfl rfl dX2_put_31 ?_
          refine lv_iload_n hx hb dX2_put_34 rfl (lv_at hl 1 rfl) ?_
          refine qm_slotS hx hb hK hM s_2 hj_slot dX2_put_35 ?_
          refine qw_iald (f := fun q => nI (kd q)) hx hb hK hM.2.1 (by omega) (by decide) dX2_put_36 ?_
          refine lv_istore (lv' := [(5, .int (nI (kd k_2))), (0, .ref mm), (1, .int (nI j_slot)), (2, .int (nI j_i)), (3, .long v)]) hx hb dX2_put_37 hl (by decide) rfl (fun ls hl => ?_)
          refine lv_aload_n hx hb dX2_put_39 rfl (lv_at hl 1 rfl) ?_
          refine qw_get (v := .ref (mm + 4)) (ci := 2) (C := RX2) (T := TX2) (N := 10) hx hb hts nX2_put_2 hown hK hM.1 rfl 4 (by decide) (hts (.fieldLink RX2 20 "DockGatesModel" "cell" "[J") (by decide +kernel)) rfl rfl dX2_put_40 ?_
          refine lv_bipush (v := nI 8) hx hb dX2_put_43 (by decide) ?_
          refine lv_aload_n hx hb dX2_put_45 rfl (lv_at hl 1 rfl) ?_
          refine qw_get (v := .ref (mm + 5)) (ci := 2) (C := RX2) (T := TX2) (N := 10) hx hb hts nX2_put_2 hown hK hM.1 rfl 5 (by decide) (hts (.fieldLink RX2 24 "DockGatesModel" "slots" "[I") (by decide +kernel)) rfl rfl dX2_put_46 ?_
          refine lv_iload_n hx hb dX2_put_49 rfl (lv_at hl 2 rfl) ?_
          refine qm_slotS hx hb hK hM s_2 hj_slot dX2_put_50 ?_
          refine ln_mul hx hb dX2_put_51 ?_
          refine lv_iload_n hx hb dX2_put_52 rfl (lv_at hl 3 rfl) ?_
          refine ln_add hx hb dX2_put_53 ?_
          refine lv_iload hx hb dX2_put_54 (lv_at hl 0 rfl) ?_
          refine ln_if_ne (tgt := 65) hx hb (by omega) dX2_put_56 (by decide) (fun c_7 => ?_) (fun c_7 => ?_)
          · refine lv_iload hx hb dX2_put_65 (lv_at hl 0 rfl) ?_
            refine lv_iconst (v := nI 1) hx hb dX2_put_67 (by decide) ?_
            refine ln_cmp_ne (tgt := 78) hx hb (by omega) (by omega) dX2_put_68 (by decide) (fun c_8 => ?_) (fun c_8 => ?_)
            · refine lv_lload_n hx hb dX2_put_78 rfl (lv_at hl 4 rfl) ?_
              refine qw_last (i := 8 * k_2 + j_i) (A := q_Am mm) hx hb hK hM.2.2.2.2.1 hS ⟨by omega, by omega⟩ (by omega) (by decide) dX2_put_79 (fun H locs hO hz hq hS => ?_)
              have hM : q_M E mm S (n, kd, sz, sh, (va_up nu k_2 (va_up (nu k_2) j_i v)), pa, sl, (nI 0), tn, ts, tg) H := hM.num (by omega) (show ¬ (3 ≤ kd k_2 ∧ kd k_2 < 9) by omega) _ hO hz hq
              refine lv_iconst (v := nI 1) hx hb dX2_put_80 (by decide) ?_
              have ee : f_put (n, kd, sz, sh, nu, pa, sl, ft, tn, ts, tg) (nI j_slot) (nI j_i) v = (nI 1, (n, kd, sz, sh, (va_up nu k_2 (va_up (nu k_2) j_i v)), pa, sl, (nI 0), tn, ts, tg)) := by first | (simp only [f_put, ej_slot, s_2, r_4, ej_i, c_7, c_8, q_nr]; done) | (simp only [f_put, ej_slot, s_2, r_4, ej_i, c_7, c_8, q_nr]; rfl) | (simp [f_put, ej_slot, s_2, r_4, ej_i, c_7, c_8, q_nr]; done) | (simp [f_put, ej_slot, s_2, r_4, ej_i, c_7, c_8, q_nr]; rfl) | (simp only [f_put, ej_slot, s_2, r_4, ej_i, c_7, c_8, q_nr]; (repeat' split) <;> first | rfl | (exfalso; omega))
              exact W.iret (v := nI 1) hx hb hr (fun tt ht hW => ⟨⟨nI 1, (n, kd, sz, sh, (va_up nu k_2 (va_up (nu k_2) j_i v)), pa, sl, (nI 0), tn, ts, tg), rfl, ⟨(by rw [ee]), (by rw [ee])⟩, (by show q_M E mm S (n, kd, sz, sh, (va_up nu k_2 (va_up (nu k_2) j_i v)), pa, sl, (nI 0), tn, ts, tg) tt.heap; rw [ht]; exact hM)⟩, hS.F ht⟩) hS.2.2 dX2_put_81
            · refine lv_lload_n hx hb dX2_put_71 rfl (lv_at hl 4 rfl) ?_
              refine lv_l2i hx hb dX2_put_72 rfl ?_
              refine lv_i2b hx hb dX2_put_73 rfl ?_
              refine lv_i2l hx hb dX2_put_74 rfl ?_
              refine lv_goto (tgt := 79) hx hb dX2_put_75 (by decide) ?_
              refine qw_last (i := 8 * k_2 + j_i) (A := q_Am mm) hx hb hK hM.2.2.2.2.1 hS ⟨by omega, by omega⟩ (by omega) (by decide) dX2_put_79 (fun H locs hO hz hq hS => ?_)
              have hM : q_M E mm S (n, kd, sz, sh, (va_up nu k_2 (va_up (nu k_2) j_i (Int32.toInt64 ((Int8.toInt32 (Int32.toInt8 ((Int64.toInt32 v)))))))), pa, sl, (nI 0), tn, ts, tg) H := hM.num (by omega) (show ¬ (3 ≤ kd k_2 ∧ kd k_2 < 9) by omega) _ hO hz hq
              refine lv_iconst (v := nI 1) hx hb dX2_put_80 (by decide) ?_
              have ee : f_put (n, kd, sz, sh, nu, pa, sl, ft, tn, ts, tg) (nI j_slot) (nI j_i) v = (nI 1, (n, kd, sz, sh, (va_up nu k_2 (va_up (nu k_2) j_i (Int32.toInt64 ((Int8.toInt32 (Int32.toInt8 ((Int64.toInt32 v)))))))), pa, sl, (nI 0), tn, ts, tg)) := by first | (simp only [f_put, ej_slot, s_2, r_4, ej_i, c_7, c_8, q_nr]; done) | (simp only [f_put, ej_slot, s_2, r_4, ej_i, c_7, c_8, q_nr]; rfl) | (simp [f_put, ej_slot, s_2, r_4, ej_i, c_7, c_8, q_nr]; done) | (simp [f_put, ej_slot, s_2, r_4, ej_i, c_7, c_8, q_nr]; rfl) | (simp only [f_put, ej_slot, s_2, r_4, ej_i, c_7, c_8, q_nr]; (repeat' split) <;> first | rfl | (exfalso; omega))
              exact W.iret (v := nI 1) hx hb hr (fun tt ht hW => ⟨⟨nI 1, (n, kd, sz, sh, (va_up nu k_2 (va_up (nu k_2) j_i (Int32.toInt64 ((Int8.toInt32 (Int32.toInt8 ((Int64.toInt32 v)))))))), pa, sl, (nI 0), tn, ts, tg), rfl, ⟨(by rw [ee]), (by rw [ee])⟩, (by show q_M E mm S (n, kd, sz, sh, (va_up nu k_2 (va_up (nu k_2) j_i (Int32.toInt64 ((Int8.toInt32 (Int32.toInt8 ((Int64.toInt32 v)))))))), pa, sl, (nI 0), tn, ts, tg) tt.heap; rw [ht]; exact hM)⟩, hS.F ht⟩) hS.2.2 dX2_put_81
          · refine lv_lload_n hx hb dX2_put_59 rfl (lv_at hl 4 rfl) ?_
            refine lv_l2i hx hb dX2_put_60 rfl ?_
            refine lv_i2l hx hb dX2_put_61 rfl ?_
            refine lv_goto (tgt := 79) hx hb dX2_put_62 (by decide) ?_
            refine qw_last (i := 8 * k_2 + j_i) (A := q_Am mm) hx hb hK hM.2.2.2.2.1 hS ⟨by omega, by omega⟩ (by omega) (by decide) dX2_put_79 (fun H locs hO hz hq hS => ?_)
            have hM : q_M E mm S (n, kd, sz, sh, (va_up nu k_2 (va_up (nu k_2) j_i (Int32.toInt64 ((Int64.toInt32 v))))), pa, sl, (nI 0), tn, ts, tg) H := hM.num (by omega) (show ¬ (3 ≤ kd k_2 ∧ kd k_2 < 9) by omega) _ hO hz hq
            refine lv_iconst (v := nI 1) hx hb dX2_put_80 (by decide) ?_
            have ee : f_put (n, kd, sz, sh, nu, pa, sl, ft, tn, ts, tg) (nI j_slot) (nI j_i) v = (nI 1, (n, kd, sz, sh, (va_up nu k_2 (va_up (nu k_2) j_i (Int32.toInt64 ((Int64.toInt32 v))))), pa, sl, (nI 0), tn, ts, tg)) := by first | (simp only [f_put, ej_slot, s_2, r_4, ej_i, c_7, q_nr]; done) | (simp only [f_put, ej_slot, s_2, r_4, ej_i, c_7, q_nr]; rfl) | (simp [f_put, ej_slot, s_2, r_4, ej_i, c_7, q_nr]; done) | (simp [f_put, ej_slot, s_2, r_4, ej_i, c_7, q_nr]; rfl) | (simp only [f_put, ej_slot, s_2, r_4, ej_i, c_7, q_nr]; (repeat' split) <;> first | rfl | (exfalso; omega))
            exact W.iret (v := nI 1) hx hb hr (fun tt ht hW => ⟨⟨nI 1, (n, kd, sz, sh, (va_up nu k_2 (va_up (nu k_2) j_i (Int32.toInt64 ((Int64.toInt32 v))))), pa, sl, (nI 0), tn, ts, tg), rfl, ⟨(by rw [ee]), (by rw [ee])⟩, (by show q_M E mm S (n, kd, sz, sh, (va_up nu k_2 (va_up (nu k_2) j_i (Int32.toInt64 ((Int64.toInt32 v))))), pa, sl, (nI 0), tn, ts, tg) tt.heap; rw [ht]; exact hM)⟩, hS.F ht⟩) hS.2.2 dX2_put_81
        · refine qc_i (r1 := nI 0) (σ1 := (n, kd, sz, sh, nu, pa, sl, nI 3, tn, ts, tg)) (va_runV (As := [.int (nI j_slot), .int i]) (rest := []) ⟨hx, hb, hml, hown, hts⟩ (kX2_isNumberAt_O l E mm S n kd sz sh nu pa sl tn ts tg hI j_slot hj_slot k_2 hk_2 s_2 i r_4 x_5) (cwV 2 hts gX2_put_X2_isNumberAt rfl rfl rfl (by decide +kernel) ⟨Nat.le_of_ble_eq_true rfl, Nat.le_of_ble_eq_true rfl⟩) (q_preV hK hM hM.1 rfl) rfl rfl hl.1 rfl (lv_room (Nat.le_of_ble_eq_true rfl)) dX2_put_18 ⟨Nat.le_of_ble_eq_true rfl, Nat.le_of_ble_eq_true rfl⟩) hS rfl rfl (fun H locs hM hS => ?_)
          refine ln_if_ne (tgt := 26) hx hb (by omega) dX2_put_21 (by decide) (fun c_9 => absurd c_9 (by omega)) (fun _ => ?_)
          refine lv_iconst (v := nI 0) hx hb dX2_put_24 (by decide) ?_
          have ee : f_put (n, kd, sz, sh, nu, pa, sl, ft, tn, ts, tg) (nI j_slot) i v = (nI 0, (n, kd, sz, sh, nu, pa, sl, nI 3, tn, ts, tg)) := by first | (simp only [f_put, ej_slot, s_2, r_4, x_5, q_nr]; done) | (simp only [f_put, ej_slot, s_2, r_4, x_5, q_nr]; rfl) | (simp [f_put, ej_slot, s_2, r_4, x_5, q_nr]; done) | (simp [f_put, ej_slot, s_2, r_4, x_5, q_nr]; rfl) | (simp only [f_put, ej_slot, s_2, r_4, x_5, q_nr]; (repeat' split) <;> first | rfl | (exfalso; omega))
          exact W.iret (v := nI 0) hx hb hr (fun tt ht hW => ⟨⟨nI 0, (n, kd, sz, sh, nu, pa, sl, nI 3, tn, ts, tg), rfl, ⟨(by rw [ee]), (by rw [ee])⟩, (by show q_M E mm S (n, kd, sz, sh, nu, pa, sl, nI 3, tn, ts, tg) tt.heap; rw [ht]; exact hM)⟩, hS.F ht⟩) hS.2.2 dX2_put_25
      · refine qc_i (r1 := nI 0) (σ1 := (n, kd, sz, sh, nu, pa, sl, nI 1, (tn + 1), nI j_slot, nI 2)) (va_runV (As := [.int (nI j_slot), .int i]) (rest := []) ⟨hx, hb, hml, hown, hts⟩ (kX2_isNumberAt_T l E mm S n kd sz sh nu pa sl tn ts tg hI j_slot hj_slot k_2 hk_2 s_2 i r_4) (cwV 2 hts gX2_put_X2_isNumberAt rfl rfl rfl (by decide +kernel) ⟨Nat.le_of_ble_eq_true rfl, Nat.le_of_ble_eq_true rfl⟩) (q_preV hK hM hM.1 rfl) rfl rfl hl.1 rfl (lv_room (Nat.le_of_ble_eq_true rfl)) dX2_put_18 ⟨Nat.le_of_ble_eq_true rfl, Nat.le_of_ble_eq_true rfl⟩) hS rfl rfl (fun H locs hM hS => ?_)
        refine ln_if_ne (tgt := 26) hx hb (by omega) dX2_put_21 (by decide) (fun c_10 => absurd c_10 (by omega)) (fun _ => ?_)
        refine lv_iconst (v := nI 0) hx hb dX2_put_24 (by decide) ?_
        have ee : f_put (n, kd, sz, sh, nu, pa, sl, ft, tn, ts, tg) (nI j_slot) i v = (nI 0, (n, kd, sz, sh, nu, pa, sl, nI 1, (tn + 1), nI j_slot, nI 2)) := by first | (simp only [f_put, ej_slot, s_2, r_4, q_nr]; done) | (simp only [f_put, ej_slot, s_2, r_4, q_nr]; rfl) | (simp [f_put, ej_slot, s_2, r_4, q_nr]; done) | (simp [f_put, ej_slot, s_2, r_4, q_nr]; rfl) | (simp only [f_put, ej_slot, s_2, r_4, q_nr]; (repeat' split) <;> first | rfl | (exfalso; omega))
        exact W.iret (v := nI 0) hx hb hr (fun tt ht hW => ⟨⟨nI 0, (n, kd, sz, sh, nu, pa, sl, nI 1, (tn + 1), nI j_slot, nI 2), rfl, ⟨(by rw [ee]), (by rw [ee])⟩, (by show q_M E mm S (n, kd, sz, sh, nu, pa, sl, nI 1, (tn + 1), nI j_slot, nI 2) tt.heap; rw [ht]; exact hM)⟩, hS.F ht⟩) hS.2.2 dX2_put_25
  · have c_1 := q_isn c_1
    refine lv_bipush (v := (-2)) hx hb dX2_put_12 (by decide) ?_
    have ee : f_put (n, kd, sz, sh, nu, pa, sl, ft, tn, ts, tg) slot i v = (((-2)), (n, kd, sz, sh, nu, pa, sl, (nI 0), tn, ts, tg)) := by first | (simp only [f_put, c_1, q_nr]; done) | (simp only [f_put, c_1, q_nr]; rfl) | (simp [f_put, c_1, q_nr]; done) | (simp [f_put, c_1, q_nr]; rfl) | (simp only [f_put, c_1, q_nr]; (repeat' split) <;> first | rfl | (exfalso; omega))
    exact W.iret (v := ((-2))) hx hb hr (fun tt ht hW => ⟨⟨((-2)), (n, kd, sz, sh, nu, pa, sl, (nI 0), tn, ts, tg), rfl, ⟨(by rw [ee]), (by rw [ee])⟩, (by show q_M E mm S (n, kd, sz, sh, nu, pa, sl, (nI 0), tn, ts, tg) tt.heap; rw [ht]; exact hM)⟩, hS.F ht⟩) hS.2.2 dX2_put_14
set_option maxRecDepth 20000 in
theorem nX2_get_2 : ∀ w ∈ u_ws RX2 TX2 10, w ∈ wsX2_get := by decide +kernel
set_option maxHeartbeats 4000000 in
set_option maxRecDepth 100000 in
theorem kX2_get (l : Launch) (E : q_E) (mm S : Nat) (n : Nat) (kd sz : Nat → Nat) (sh : Nat → Bool) (nu : Nat → Nat → Int64) (pa : Nat → Nat → Option Nat) (sl : Nat → Option Nat) (ft tn ts tg : Int32) (hI : q_I (n, kd, sz, sh, nu, pa, sl, ft, tn, ts, tg)) (slot i : Int32)  : Met l yX2_get wsX2_get ({ frames := 3, cells := 0, slots := 0, locals := 67 }) (q_P E (q_M E mm S (n, kd, sz, sh, nu, pa, sl, ft, tn, ts, tg)) [.ref mm, .int slot, .int i]) (q_Wl (q_M E mm S) (q_Am mm) ((f_get (n, kd, sz, sh, nu, pa, sl, ft, tn, ts, tg) slot i).1) (f_get (n, kd, sz, sh, nu, pa, sl, ft, tn, ts, tg) slot i).2) 0 0 (q_Am mm) := by
  refine Met.ofW (cc := cX2_get) (maxL := 3) (ret := (some .long)) (by decide) rfl ?_
  intro p e s m args below meth c s₁ B hml hv
  obtain ⟨rfl, hK, hM⟩ := hv
  have hx := B.exec
  have hb := B.bytes
  have hr := B.returns
  have hts := atoms_spec (ws := wsX2_get) B.pre
  have hown : s.vm.findClass RX2 = some m.cls := findClass_of_methodNamed B.named
  have hlocks := B.notSynchronized
  have hl := lv_entry ([.ref mm, .int slot, .int i]) (n := 3) (Nat.le_of_ble_eq_true rfl)
  rw [lg_entry_eq]
  generalize (lg_sl ([.ref mm, .int slot, .int i]) ++ List.replicate (3 - (lg_sl ([.ref mm, .int slot, .int i])).length) Slot.unset).toArray = ls at hl ⊢
  have hl : lv_has ls 3 [(0, .ref mm), (1, .int slot), (2, .int i)] := hl
  have hS : va_S (q_Am mm) s.heap s.heap [] := va_S.rf
  refine lv_aload_n hx hb dX2_get_0 rfl (lv_at hl 0 rfl) ?_
  refine lv_iconst (v := nI 0) hx hb dX2_get_1 (by decide) ?_
  refine qw_put (ci := 2) (C := RX2) (T := TX2) (N := 10) hx hb hts nX2_get_2 tyX2 tyX2_ok nmX2 hown hK hM.1 hS ⟨by omega, by omega⟩ rfl 6 (by decide) (hts (.fieldLink RX2 42 "DockGatesModel" "fault" "I") (by decide +kernel)) rfl rfl rfl rfl (Nat.le_of_ble_eq_true rfl) dX2_get_2 (fun H locs hO hz hq hS => ?_)
  have hM : q_M E mm S (n, kd, sz, sh, nu, pa, sl, (nI 0), tn, ts, tg) H := hM.obj hO hz hq
  refine lv_iload_n hx hb dX2_get_5 rfl (lv_at hl 1 rfl) ?_
  refine qc_ri (r1 := q_b ((q_ix slot 12).isSome)) (W.runS (As := [.int slot]) (rest := []) ⟨hx, hb, hml, hown, hts⟩ (kX2_isSlot l slot) (va_cwS 1 hts gX2_get_X2_isSlot rfl rfl rfl (by decide +kernel) ⟨Nat.le_of_ble_eq_true rfl, Nat.le_of_ble_eq_true rfl⟩) preEq rfl rfl hl.1 rfl (lv_room (Nat.le_of_ble_eq_true rfl)) dX2_get_6 ⟨Nat.le_of_ble_eq_true rfl, Nat.le_of_ble_eq_true rfl⟩) rfl ?_
  refine ln_b_ne (tgt := 20) hx hb dX2_get_9 (by decide) (fun c_1 => ?_) (fun c_1 => ?_)
  · obtain ⟨j_slot, hj_slot, rfl⟩ := q_is (by first | decide | omega) c_1
    have ej_slot := q_ix_in hj_slot (by first | decide | omega)
    refine lv_aload_n hx hb dX2_get_20 rfl (lv_at hl 0 rfl) ?_
    refine lv_iload_n hx hb dX2_get_21 rfl (lv_at hl 1 rfl) ?_
    refine lv_iload_n hx hb dX2_get_22 rfl (lv_at hl 2 rfl) ?_
    cases s_2 : sl j_slot with
    | none =>
      refine qc_i (r1 := nI 0) (σ1 := (n, kd, sz, sh, nu, pa, sl, nI 2, tn, ts, tg)) (va_runV (As := [.int (nI j_slot), .int i]) (rest := []) ⟨hx, hb, hml, hown, hts⟩ (kX2_isNumberAt_N l E mm S n kd sz sh nu pa sl tn ts tg hI j_slot hj_slot i s_2) (cwV 2 hts gX2_get_X2_isNumberAt rfl rfl rfl (by decide +kernel) ⟨Nat.le_of_ble_eq_true rfl, Nat.le_of_ble_eq_true rfl⟩) (q_preV hK hM hM.1 rfl) rfl rfl hl.1 rfl (lv_room (Nat.le_of_ble_eq_true rfl)) dX2_get_23 ⟨Nat.le_of_ble_eq_true rfl, Nat.le_of_ble_eq_true rfl⟩) hS rfl rfl (fun H locs hM hS => ?_)
      refine ln_if_eq (tgt := 48) hx hb (by omega) dX2_get_26 (by decide) (fun _ => ?_) (fun c_3 => absurd c_3 (by omega))
      refine lv_lconst (v := 0) hx hb dX2_get_48 (by decide) ?_
      have ee : f_get (n, kd, sz, sh, nu, pa, sl, ft, tn, ts, tg) (nI j_slot) i = (0, (n, kd, sz, sh, nu, pa, sl, nI 2, tn, ts, tg)) := by first | (simp only [f_get, ej_slot, s_2]; done) | (simp only [f_get, ej_slot, s_2]; rfl) | (simp [f_get, ej_slot, s_2]; done) | (simp [f_get, ej_slot, s_2]; rfl) | (simp only [f_get, ej_slot, s_2]; (repeat' split) <;> first | rfl | (exfalso; omega))
      exact W.lret (v := 0) hx hb hr (fun tt ht hW => ⟨⟨0, (n, kd, sz, sh, nu, pa, sl, nI 2, tn, ts, tg), rfl, ⟨(by rw [ee]), (by rw [ee])⟩, (by show q_M E mm S (n, kd, sz, sh, nu, pa, sl, nI 2, tn, ts, tg) tt.heap; rw [ht]; exact hM)⟩, hS.F ht⟩) hS.2.2 dX2_get_49
    | some k_2 =>
      have hk_2 : k_2 < n := hI.2.2 _ _ s_2
      obtain ⟨ak_2, bk_2, dk_2, wk_2⟩ := hI.2.1 k_2 hk_2
      have n60 := hI.1
      try dsimp only at ak_2 bk_2 dk_2 wk_2 n60
      by_cases r_4 : kd k_2 < 3
      · rcases q_ix_or i (show sz k_2 < 2 ^ 31 by omega) with ⟨j_i, hj_i, rfl⟩ | x_5
        · have ej_i := q_ix_in hj_i (by omega)
          refine qc_i (r1 := nI 1) (σ1 := (n, kd, sz, sh, nu, pa, sl, (nI 0), tn, ts, tg)) (va_runV (As := [.int (nI j_slot), .int (nI j_i)]) (rest := []) ⟨hx, hb, hml, hown, hts⟩ (kX2_isNumberAt_S l E mm S n kd sz sh nu pa sl tn ts tg hI j_slot hj_slot k_2 hk_2 s_2 j_i r_4 hj_i) (cwV 2 hts gX2_get_X2_isNumberAt rfl rfl rfl (by decide +kernel) ⟨Nat.le_of_ble_eq_true rfl, Nat.le_of_ble_eq_true rfl⟩) (q_preV hK hM hM.1 rfl) rfl rfl hl.1 rfl (lv_room (Nat.le_of_ble_eq_true rfl)) dX2_get_23 ⟨Nat.le_of_ble_eq_true rfl, Nat.le_of_ble_eq_true rfl⟩) hS rfl rfl (fun H locs hM hS => ?_)
          refine ln_if_eq (tgt := 48) hx hb (by omega) dX2_get_26 (by decide) (fun c_6 => absurd c_6 (by omega)) (fun _ => ?_)
          refine lv_aload_n hx hb dX2_get_29 rfl (lv_at hl 0 rfl) ?_
          refine qw_get (v := .ref (mm + 4)) (ci := 2) (C := RX2) (T := TX2) (N := 10) hx hb hts nX2_get_2 hown hK hM.1 rfl 4 (by decide) (hts (.fieldLink RX2 20 "DockGatesModel" "cell" "[J") (by decide +kernel)) rfl rfl dX2_get_30 ?_
          refine lv_bipush (v := nI 8) hx hb dX2_get_33 (by decide) ?_
          refine lv_aload_n hx hb dX2_get_35 rfl (lv_at hl 0 rfl) ?_
          refine qw_get (v := .ref (mm + 5)) (ci := 2) (C := RX2) (T := TX2) (N := 10) hx hb hts nX2_get_2 hown hK hM.1 rfl 5 (by decide) (hts (.fieldLink RX2 24 "DockGatesModel" "slots" "[I") (by decide +kernel)) rfl rfl dX2_get_36 ?_
          refine lv_iload_n hx hb dX2_get_39 rfl (lv_at hl 1 rfl) ?_
          refine qm_slotS hx hb hK hM s_2 hj_slot dX2_get_40 ?_
          refine ln_mul hx hb dX2_get_41 ?_
          refine lv_iload_n hx hb dX2_get_42 rfl (lv_at hl 2 rfl) ?_
          refine ln_add hx hb dX2_get_43 ?_
          refine qm_num (k := k_2) (i := j_i) hx hb hK hM (by omega) (by omega) (show ¬ (3 ≤ kd k_2 ∧ kd k_2 < 9) by omega) dX2_get_44 ?_
          refine lv_goto (tgt := 49) hx hb dX2_get_45 (by decide) ?_
          have ee : f_get (n, kd, sz, sh, nu, pa, sl, ft, tn, ts, tg) (nI j_slot) (nI j_i) = (nu k_2 j_i, (n, kd, sz, sh, nu, pa, sl, (nI 0), tn, ts, tg)) := by first | (simp only [f_get, ej_slot, s_2, r_4, ej_i]; done) | (simp only [f_get, ej_slot, s_2, r_4, ej_i]; rfl) | (simp [f_get, ej_slot, s_2, r_4, ej_i]; done) | (simp [f_get, ej_slot, s_2, r_4, ej_i]; rfl) | (simp only [f_get, ej_slot, s_2, r_4, ej_i]; (repeat' split) <;> first | rfl | (exfalso; omega))
          exact W.lret (v := nu k_2 j_i) hx hb hr (fun tt ht hW => ⟨⟨nu k_2 j_i, (n, kd, sz, sh, nu, pa, sl, (nI 0), tn, ts, tg), rfl, ⟨(by rw [ee]), (by rw [ee])⟩, (by show q_M E mm S (n, kd, sz, sh, nu, pa, sl, (nI 0), tn, ts, tg) tt.heap; rw [ht]; exact hM)⟩, hS.F ht⟩) hS.2.2 dX2_get_49
        · refine qc_i (r1 := nI 0) (σ1 := (n, kd, sz, sh, nu, pa, sl, nI 3, tn, ts, tg)) (va_runV (As := [.int (nI j_slot), .int i]) (rest := []) ⟨hx, hb, hml, hown, hts⟩ (kX2_isNumberAt_O l E mm S n kd sz sh nu pa sl tn ts tg hI j_slot hj_slot k_2 hk_2 s_2 i r_4 x_5) (cwV 2 hts gX2_get_X2_isNumberAt rfl rfl rfl (by decide +kernel) ⟨Nat.le_of_ble_eq_true rfl, Nat.le_of_ble_eq_true rfl⟩) (q_preV hK hM hM.1 rfl) rfl rfl hl.1 rfl (lv_room (Nat.le_of_ble_eq_true rfl)) dX2_get_23 ⟨Nat.le_of_ble_eq_true rfl, Nat.le_of_ble_eq_true rfl⟩) hS rfl rfl (fun H locs hM hS => ?_)
          refine ln_if_eq (tgt := 48) hx hb (by omega) dX2_get_26 (by decide) (fun _ => ?_) (fun c_7 => absurd c_7 (by omega))
          refine lv_lconst (v := 0) hx hb dX2_get_48 (by decide) ?_
          have ee : f_get (n, kd, sz, sh, nu, pa, sl, ft, tn, ts, tg) (nI j_slot) i = (0, (n, kd, sz, sh, nu, pa, sl, nI 3, tn, ts, tg)) := by first | (simp only [f_get, ej_slot, s_2, r_4, x_5]; done) | (simp only [f_get, ej_slot, s_2, r_4, x_5]; rfl) | (simp [f_get, ej_slot, s_2, r_4, x_5]; done) | (simp [f_get, ej_slot, s_2, r_4, x_5]; rfl) | (simp only [f_get, ej_slot, s_2, r_4, x_5]; (repeat' split) <;> first | rfl | (exfalso; omega))
          exact W.lret (v := 0) hx hb hr (fun tt ht hW => ⟨⟨0, (n, kd, sz, sh, nu, pa, sl, nI 3, tn, ts, tg), rfl, ⟨(by rw [ee]), (by rw [ee])⟩, (by show q_M E mm S (n, kd, sz, sh, nu, pa, sl, nI 3, tn, ts, tg) tt.heap; rw [ht]; exact hM)⟩, hS.F ht⟩) hS.2.2 dX2_get_49
      · refine qc_i (r1 := nI 0) (σ1 := (n, kd, sz, sh, nu, pa, sl, nI 1, (tn + 1), nI j_slot, nI 2)) (va_runV (As := [.int (nI j_slot), .int i]) (rest := []) ⟨hx, hb, hml, hown, hts⟩ (kX2_isNumberAt_T l E mm S n kd sz sh nu pa sl tn ts tg hI j_slot hj_slot k_2 hk_2 s_2 i r_4) (cwV 2 hts gX2_get_X2_isNumberAt rfl rfl rfl (by decide +kernel) ⟨Nat.le_of_ble_eq_true rfl, Nat.le_of_ble_eq_true rfl⟩) (q_preV hK hM hM.1 rfl) rfl rfl hl.1 rfl (lv_room (Nat.le_of_ble_eq_true rfl)) dX2_get_23 ⟨Nat.le_of_ble_eq_true rfl, Nat.le_of_ble_eq_true rfl⟩) hS rfl rfl (fun H locs hM hS => ?_)
        refine ln_if_eq (tgt := 48) hx hb (by omega) dX2_get_26 (by decide) (fun _ => ?_) (fun c_8 => absurd c_8 (by omega))
        refine lv_lconst (v := 0) hx hb dX2_get_48 (by decide) ?_
        have ee : f_get (n, kd, sz, sh, nu, pa, sl, ft, tn, ts, tg) (nI j_slot) i = (0, (n, kd, sz, sh, nu, pa, sl, nI 1, (tn + 1), nI j_slot, nI 2)) := by first | (simp only [f_get, ej_slot, s_2, r_4]; done) | (simp only [f_get, ej_slot, s_2, r_4]; rfl) | (simp [f_get, ej_slot, s_2, r_4]; done) | (simp [f_get, ej_slot, s_2, r_4]; rfl) | (simp only [f_get, ej_slot, s_2, r_4]; (repeat' split) <;> first | rfl | (exfalso; omega))
        exact W.lret (v := 0) hx hb hr (fun tt ht hW => ⟨⟨0, (n, kd, sz, sh, nu, pa, sl, nI 1, (tn + 1), nI j_slot, nI 2), rfl, ⟨(by rw [ee]), (by rw [ee])⟩, (by show q_M E mm S (n, kd, sz, sh, nu, pa, sl, nI 1, (tn + 1), nI j_slot, nI 2) tt.heap; rw [ht]; exact hM)⟩, hS.F ht⟩) hS.2.2 dX2_get_49
  · have c_1 := q_isn c_1
    refine lv_aload_n hx hb dX2_get_12 rfl (lv_at hl 0 rfl) ?_
    refine lv_bipush (v := (-2)) hx hb dX2_get_13 (by decide) ?_
    refine qc_i (r1 := nI 0) (σ1 := (n, kd, sz, sh, nu, pa, sl, ((-2)), tn, ts, tg)) (va_runV (As := [.int ((-2))]) (rest := []) ⟨hx, hb, hml, hown, hts⟩ (kX2_fails l E mm S n kd sz sh nu pa sl ((nI 0)) tn ts tg hI (((-2)))) (cwV 1 hts gX2_get_X2_fails rfl rfl rfl (by decide +kernel) ⟨Nat.le_of_ble_eq_true rfl, Nat.le_of_ble_eq_true rfl⟩) (q_preV hK hM hM.1 rfl) rfl rfl hl.1 rfl (lv_room (Nat.le_of_ble_eq_true rfl)) dX2_get_15 ⟨Nat.le_of_ble_eq_true rfl, Nat.le_of_ble_eq_true rfl⟩) hS rfl rfl (fun H locs hM hS => ?_)
    refine lv_i2l (v := lN 0) hx hb dX2_get_18 (nI_l (by first | omega | (simp; omega))) ?_
    have ee : f_get (n, kd, sz, sh, nu, pa, sl, ft, tn, ts, tg) slot i = (lN 0, (n, kd, sz, sh, nu, pa, sl, ((-2)), tn, ts, tg)) := by first | (simp only [f_get, c_1]; done) | (simp only [f_get, c_1]; rfl) | (simp [f_get, c_1]; done) | (simp [f_get, c_1]; rfl) | (simp only [f_get, c_1]; (repeat' split) <;> first | rfl | (exfalso; omega))
    exact W.lret (v := lN 0) hx hb hr (fun tt ht hW => ⟨⟨lN 0, (n, kd, sz, sh, nu, pa, sl, ((-2)), tn, ts, tg), rfl, ⟨(by rw [ee]), (by rw [ee])⟩, (by show q_M E mm S (n, kd, sz, sh, nu, pa, sl, ((-2)), tn, ts, tg) tt.heap; rw [ht]; exact hM)⟩, hS.F ht⟩) hS.2.2 dX2_get_19
set_option maxRecDepth 20000 in
theorem nX2_lay_2 : ∀ w ∈ u_ws RX2 TX2 10, w ∈ wsX2_lay := by decide +kernel
set_option maxHeartbeats 4000000 in
set_option maxRecDepth 100000 in
theorem kX2_lay (l : Launch) (E : q_E) (mm S : Nat) (n : Nat) (kd sz : Nat → Nat) (sh : Nat → Bool) (nu : Nat → Nat → Int64) (pa : Nat → Nat → Option Nat) (sl : Nat → Option Nat) (ft tn ts tg : Int32) (hI : q_I (n, kd, sz, sh, nu, pa, sl, ft, tn, ts, tg)) (to i fr : Int32)  : Met l yX2_lay wsX2_lay ({ frames := 2, cells := 0, slots := 0, locals := 44 }) (q_P E (q_M E mm S (n, kd, sz, sh, nu, pa, sl, ft, tn, ts, tg)) [.ref mm, .int to, .int i, .int fr]) (q_Wi (q_M E mm S) (q_Am mm) ((f_lay (n, kd, sz, sh, nu, pa, sl, ft, tn, ts, tg) to i fr).1) (f_lay (n, kd, sz, sh, nu, pa, sl, ft, tn, ts, tg) to i fr).2) 0 0 (q_Am mm) := by
  refine Met.ofW (cc := cX2_lay) (maxL := 7) (ret := (some .int)) (by decide) rfl ?_
  intro p e s m args below meth c s₁ B hml hv
  obtain ⟨rfl, hK, hM⟩ := hv
  have hx := B.exec
  have hb := B.bytes
  have hr := B.returns
  have hts := atoms_spec (ws := wsX2_lay) B.pre
  have hown : s.vm.findClass RX2 = some m.cls := findClass_of_methodNamed B.named
  have hlocks := B.notSynchronized
  have hl := lv_entry ([.ref mm, .int to, .int i, .int fr]) (n := 7) (Nat.le_of_ble_eq_true rfl)
  rw [lg_entry_eq]
  generalize (lg_sl ([.ref mm, .int to, .int i, .int fr]) ++ List.replicate (7 - (lg_sl ([.ref mm, .int to, .int i, .int fr])).length) Slot.unset).toArray = ls at hl ⊢
  have hl : lv_has ls 7 [(0, .ref mm), (1, .int to), (2, .int i), (3, .int fr)] := hl
  have hS : va_S (q_Am mm) s.heap s.heap [] := va_S.rf
  refine lv_aload_n hx hb dX2_lay_0 rfl (lv_at hl 0 rfl) ?_
  refine lv_iconst (v := nI 0) hx hb dX2_lay_1 (by decide) ?_
  refine qw_put (ci := 2) (C := RX2) (T := TX2) (N := 10) hx hb hts nX2_lay_2 tyX2 tyX2_ok nmX2 hown hK hM.1 hS ⟨by omega, by omega⟩ rfl 6 (by decide) (hts (.fieldLink RX2 42 "DockGatesModel" "fault" "I") (by decide +kernel)) rfl rfl rfl rfl (Nat.le_of_ble_eq_true rfl) dX2_lay_2 (fun H locs hO hz hq hS => ?_)
  have hM : q_M E mm S (n, kd, sz, sh, nu, pa, sl, (nI 0), tn, ts, tg) H := hM.obj hO hz hq
  refine lv_iload_n hx hb dX2_lay_5 rfl (lv_at hl 1 rfl) ?_
  refine qc_ri (r1 := q_b ((q_ix to 12).isSome)) (W.runS (As := [.int to]) (rest := []) ⟨hx, hb, hml, hown, hts⟩ (kX2_isSlot l to) (va_cwS 1 hts gX2_lay_X2_isSlot rfl rfl rfl (by decide +kernel) ⟨Nat.le_of_ble_eq_true rfl, Nat.le_of_ble_eq_true rfl⟩) preEq rfl rfl hl.1 rfl (lv_room (Nat.le_of_ble_eq_true rfl)) dX2_lay_6 ⟨Nat.le_of_ble_eq_true rfl, Nat.le_of_ble_eq_true rfl⟩) rfl ?_
  refine ln_b_eq (tgt := 19) hx hb dX2_lay_9 (by decide) (fun c_1 => ?_) (fun c_1 => ?_)
  · have c_1 := q_isn c_1
    refine lv_bipush (v := (-2)) hx hb dX2_lay_19 (by decide) ?_
    have ee : f_lay (n, kd, sz, sh, nu, pa, sl, ft, tn, ts, tg) to i fr = (((-2)), (n, kd, sz, sh, nu, pa, sl, (nI 0), tn, ts, tg)) := by first | (simp only [f_lay, c_1]; done) | (simp only [f_lay, c_1]; rfl) | (simp [f_lay, c_1]; done) | (simp [f_lay, c_1]; rfl) | (simp only [f_lay, c_1]; (repeat' split) <;> first | rfl | (exfalso; omega))
    exact W.iret (v := ((-2))) hx hb hr (fun tt ht hW => ⟨⟨((-2)), (n, kd, sz, sh, nu, pa, sl, (nI 0), tn, ts, tg), rfl, ⟨(by rw [ee]), (by rw [ee])⟩, (by show q_M E mm S (n, kd, sz, sh, nu, pa, sl, (nI 0), tn, ts, tg) tt.heap; rw [ht]; exact hM)⟩, hS.F ht⟩) hS.2.2 dX2_lay_21
  · obtain ⟨j_to, hj_to, rfl⟩ := q_is (by first | decide | omega) c_1
    have ej_to := q_ix_in hj_to (by first | decide | omega)
    refine lv_iload_n hx hb dX2_lay_12 rfl (lv_at hl 3 rfl) ?_
    refine qc_ri (r1 := q_b ((q_ix fr 12).isSome)) (W.runS (As := [.int fr]) (rest := []) ⟨hx, hb, hml, hown, hts⟩ (kX2_isSlot l fr) (va_cwS 1 hts gX2_lay_X2_isSlot rfl rfl rfl (by decide +kernel) ⟨Nat.le_of_ble_eq_true rfl, Nat.le_of_ble_eq_true rfl⟩) preEq rfl rfl hl.1 rfl (lv_room (Nat.le_of_ble_eq_true rfl)) dX2_lay_13 ⟨Nat.le_of_ble_eq_true rfl, Nat.le_of_ble_eq_true rfl⟩) rfl ?_
    refine ln_b_ne (tgt := 22) hx hb dX2_lay_16 (by decide) (fun c_2 => ?_) (fun c_2 => ?_)
    · obtain ⟨j_fr, hj_fr, rfl⟩ := q_is (by first | decide | omega) c_2
      have ej_fr := q_ix_in hj_fr (by first | decide | omega)
      refine lv_aload_n hx hb dX2_lay_22 rfl (lv_at hl 0 rfl) ?_
      refine qw_get (v := .ref (mm + 5)) (ci := 2) (C := RX2) (T := TX2) (N := 10) hx hb hts nX2_lay_2 hown hK hM.1 rfl 5 (by decide) (hts (.fieldLink RX2 24 "DockGatesModel" "slots" "[I") (by decide +kernel)) rfl rfl dX2_lay_23 ?_
      refine lv_iload_n hx hb dX2_lay_26 rfl (lv_at hl 1 rfl) ?_
      refine qm_slot hx hb hK hM hI hj_to dX2_lay_27 (fun s_3 => ?_) (fun k_3 hk_3 s_3 => ?_)
      · try dsimp only at s_3
        refine lv_istore (lv' := [(4, .int ((-1))), (0, .ref mm), (1, .int (nI j_to)), (2, .int i), (3, .int (nI j_fr))]) hx hb dX2_lay_28 hl (by decide) rfl (fun ls hl => ?_)
        refine lv_aload_n hx hb dX2_lay_30 rfl (lv_at hl 1 rfl) ?_
        refine qw_get (v := .ref (mm + 5)) (ci := 2) (C := RX2) (T := TX2) (N := 10) hx hb hts nX2_lay_2 hown hK hM.1 rfl 5 (by decide) (hts (.fieldLink RX2 24 "DockGatesModel" "slots" "[I") (by decide +kernel)) rfl rfl dX2_lay_31 ?_
        refine lv_iload_n hx hb dX2_lay_34 rfl (lv_at hl 4 rfl) ?_
        refine qm_slot hx hb hK hM hI hj_fr dX2_lay_35 (fun s_4 => ?_) (fun k_4 hk_4 s_4 => ?_)
        · try dsimp only at s_4
          refine lv_istore (lv' := [(5, .int ((-1))), (4, .int ((-1))), (0, .ref mm), (1, .int (nI j_to)), (2, .int i), (3, .int (nI j_fr))]) hx hb dX2_lay_36 hl (by decide) rfl (fun ls hl => ?_)
          refine lv_iload hx hb dX2_lay_38 (lv_at hl 1 rfl) ?_
          refine lv_iconst (v := (-1)) hx hb dX2_lay_40 (by decide) ?_
          refine lv_icmp_ne (tgt := 50) hx hb dX2_lay_41 (by decide) (fun c_5 => absurd rfl c_5) (fun _ => ?_)
          refine lv_aload_n hx hb dX2_lay_44 rfl (lv_at hl 2 rfl) ?_
          refine lv_iconst (v := nI 2) hx hb dX2_lay_45 (by decide) ?_
          refine qc_i (r1 := nI 0) (σ1 := (n, kd, sz, sh, nu, pa, sl, nI 2, tn, ts, tg)) (va_runV (As := [.int (nI 2)]) (rest := []) ⟨hx, hb, hml, hown, hts⟩ (kX2_fails l E mm S n kd sz sh nu pa sl ((nI 0)) tn ts tg hI (nI 2)) (cwV 1 hts gX2_lay_X2_fails rfl rfl rfl (by decide +kernel) ⟨Nat.le_of_ble_eq_true rfl, Nat.le_of_ble_eq_true rfl⟩) (q_preV hK hM hM.1 rfl) rfl rfl hl.1 rfl (lv_room (Nat.le_of_ble_eq_true rfl)) dX2_lay_46 ⟨Nat.le_of_ble_eq_true rfl, Nat.le_of_ble_eq_true rfl⟩) hS rfl rfl (fun H locs hM hS => ?_)
          have ee : f_lay (n, kd, sz, sh, nu, pa, sl, ft, tn, ts, tg) (nI j_to) i (nI j_fr) = (nI 0, (n, kd, sz, sh, nu, pa, sl, nI 2, tn, ts, tg)) := by first | (simp only [f_lay, ej_to, ej_fr, s_3, s_4]; done) | (simp only [f_lay, ej_to, ej_fr, s_3, s_4]; rfl) | (simp [f_lay, ej_to, ej_fr, s_3, s_4]; done) | (simp [f_lay, ej_to, ej_fr, s_3, s_4]; rfl) | (simp only [f_lay, ej_to, ej_fr, s_3, s_4]; (repeat' split) <;> first | rfl | (exfalso; omega))
          exact W.iret (v := nI 0) hx hb hr (fun tt ht hW => ⟨⟨nI 0, (n, kd, sz, sh, nu, pa, sl, nI 2, tn, ts, tg), rfl, ⟨(by rw [ee]), (by rw [ee])⟩, (by show q_M E mm S (n, kd, sz, sh, nu, pa, sl, nI 2, tn, ts, tg) tt.heap; rw [ht]; exact hM)⟩, hS.F ht⟩) hS.2.2 dX2_lay_49
        · try dsimp only at s_4 hk_4
          obtain ⟨ak_4, bk_4, dk_4, wk_4⟩ := hI.2.1 k_4 hk_4
          have n60 := hI.1
          try dsimp only at ak_4 bk_4 dk_4 wk_4 n60
          refine lv_istore (lv' := [(5, .int (nI k_4)), (4, .int ((-1))), (0, .ref mm), (1, .int (nI j_to)), (2, .int i), (3, .int (nI j_fr))]) hx hb dX2_lay_36 hl (by decide) rfl (fun ls hl => ?_)
          refine lv_iload hx hb dX2_lay_38 (lv_at hl 1 rfl) ?_
          refine lv_iconst (v := (-1)) hx hb dX2_lay_40 (by decide) ?_
          refine lv_icmp_ne (tgt := 50) hx hb dX2_lay_41 (by decide) (fun c_6 => absurd rfl c_6) (fun _ => ?_)
          refine lv_aload_n hx hb dX2_lay_44 rfl (lv_at hl 2 rfl) ?_
          refine lv_iconst (v := nI 2) hx hb dX2_lay_45 (by decide) ?_
          refine qc_i (r1 := nI 0) (σ1 := (n, kd, sz, sh, nu, pa, sl, nI 2, tn, ts, tg)) (va_runV (As := [.int (nI 2)]) (rest := []) ⟨hx, hb, hml, hown, hts⟩ (kX2_fails l E mm S n kd sz sh nu pa sl ((nI 0)) tn ts tg hI (nI 2)) (cwV 1 hts gX2_lay_X2_fails rfl rfl rfl (by decide +kernel) ⟨Nat.le_of_ble_eq_true rfl, Nat.le_of_ble_eq_true rfl⟩) (q_preV hK hM hM.1 rfl) rfl rfl hl.1 rfl (lv_room (Nat.le_of_ble_eq_true rfl)) dX2_lay_46 ⟨Nat.le_of_ble_eq_true rfl, Nat.le_of_ble_eq_true rfl⟩) hS rfl rfl (fun H locs hM hS => ?_)
          have ee : f_lay (n, kd, sz, sh, nu, pa, sl, ft, tn, ts, tg) (nI j_to) i (nI j_fr) = (nI 0, (n, kd, sz, sh, nu, pa, sl, nI 2, tn, ts, tg)) := by first | (simp only [f_lay, ej_to, ej_fr, s_3, s_4]; done) | (simp only [f_lay, ej_to, ej_fr, s_3, s_4]; rfl) | (simp [f_lay, ej_to, ej_fr, s_3, s_4]; done) | (simp [f_lay, ej_to, ej_fr, s_3, s_4]; rfl) | (simp only [f_lay, ej_to, ej_fr, s_3, s_4]; (repeat' split) <;> first | rfl | (exfalso; omega))
          exact W.iret (v := nI 0) hx hb hr (fun tt ht hW => ⟨⟨nI 0, (n, kd, sz, sh, nu, pa, sl, nI 2, tn, ts, tg), rfl, ⟨(by rw [ee]), (by rw [ee])⟩, (by show q_M E mm S (n, kd, sz, sh, nu, pa, sl, nI 2, tn, ts, tg) tt.heap; rw [ht]; exact hM)⟩, hS.F ht⟩) hS.2.2 dX2_lay_49
      · try dsimp only at s_3 hk_3
        obtain ⟨ak_3, bk_3, dk_3, wk_3⟩ := hI.2.1 k_3 hk_3
        have n60 := hI.1
        try dsimp only at ak_3 bk_3 dk_3 wk_3 n60
        refine lv_istore (lv' := [(4, .int (nI k_3)), (0, .ref mm), (1, .int (nI j_to)), (2, .int i), (3, .int (nI j_fr))]) hx hb dX2_lay_28 hl (by decide) rfl (fun ls hl => ?_)
        refine lv_aload_n hx hb dX2_lay_30 rfl (lv_at hl 1 rfl) ?_
        refine qw_get (v := .ref (mm + 5)) (ci := 2) (C := RX2) (T := TX2) (N := 10) hx hb hts nX2_lay_2 hown hK hM.1 rfl 5 (by decide) (hts (.fieldLink RX2 24 "DockGatesModel" "slots" "[I") (by decide +kernel)) rfl rfl dX2_lay_31 ?_
        refine lv_iload_n hx hb dX2_lay_34 rfl (lv_at hl 4 rfl) ?_
        refine qm_slot hx hb hK hM hI hj_fr dX2_lay_35 (fun s_7 => ?_) (fun k_7 hk_7 s_7 => ?_)
        · try dsimp only at s_7
          refine lv_istore (lv' := [(5, .int ((-1))), (4, .int (nI k_3)), (0, .ref mm), (1, .int (nI j_to)), (2, .int i), (3, .int (nI j_fr))]) hx hb dX2_lay_36 hl (by decide) rfl (fun ls hl => ?_)
          refine lv_iload hx hb dX2_lay_38 (lv_at hl 1 rfl) ?_
          refine lv_iconst (v := (-1)) hx hb dX2_lay_40 (by decide) ?_
          refine lv_icmp_ne (tgt := 50) hx hb dX2_lay_41 (by decide) (fun _ => ?_) (fun c_8 => absurd c_8 (q_nm1 (by omega)))
          refine lv_aload_n hx hb dX2_lay_50 rfl (lv_at hl 2 rfl) ?_
          refine qw_get (v := .ref (mm + 1)) (ci := 2) (C := RX2) (T := TX2) (N := 10) hx hb hts nX2_lay_2 hown hK hM.1 rfl 1 (by decide) (hts (.fieldLink RX2 7 "DockGatesModel" "kind" "[I") (by decide +kernel)) rfl rfl dX2_lay_51 ?_
          refine lv_iload hx hb dX2_lay_54 (lv_at hl 1 rfl) ?_
          refine qw_iald (f := fun q => nI (kd q)) hx hb hK hM.2.1 (by omega) (by decide) dX2_lay_56 ?_
          refine qc_ri (r1 := q_b (decide (3 ≤ kd k_3 ∧ kd k_3 < 9))) (W.runS (As := [.int (nI (kd k_3))]) (rest := []) ⟨hx, hb, hml, hown, hts⟩ (kX2_holdsThings l (kd k_3) (by omega)) (va_cwS 1 hts gX2_lay_X2_holdsThings rfl rfl rfl (by decide +kernel) ⟨Nat.le_of_ble_eq_true rfl, Nat.le_of_ble_eq_true rfl⟩) preEq rfl rfl hl.1 rfl (lv_room (Nat.le_of_ble_eq_true rfl)) dX2_lay_57 ⟨Nat.le_of_ble_eq_true rfl, Nat.le_of_ble_eq_true rfl⟩) rfl ?_
          refine ln_b_ne (tgt := 71) hx hb dX2_lay_60 (by decide) (fun c_9 => ?_) (fun c_9 => ?_)
          · have c_9 := of_decide_eq_true c_9
            refine lv_aload_n hx hb dX2_lay_71 rfl (lv_at hl 2 rfl) ?_
            refine qw_get (v := .ref (mm + 1)) (ci := 2) (C := RX2) (T := TX2) (N := 10) hx hb hts nX2_lay_2 hown hK hM.1 rfl 1 (by decide) (hts (.fieldLink RX2 7 "DockGatesModel" "kind" "[I") (by decide +kernel)) rfl rfl dX2_lay_72 ?_
            refine lv_iload hx hb dX2_lay_75 (lv_at hl 1 rfl) ?_
            refine qw_iald (f := fun q => nI (kd q)) hx hb hK hM.2.1 (by omega) (by decide) dX2_lay_77 ?_
            refine lv_iconst (v := nI 3) hx hb dX2_lay_78 (by decide) ?_
            refine ln_cmp_ne (tgt := 86) hx hb (by omega) (by omega) dX2_lay_79 (by decide) (fun c_10 => ?_) (fun c_10 => ?_)
            · refine lv_aload_n hx hb dX2_lay_86 rfl (lv_at hl 2 rfl) ?_
              refine qw_get (v := .ref (mm + 1)) (ci := 2) (C := RX2) (T := TX2) (N := 10) hx hb hts nX2_lay_2 hown hK hM.1 rfl 1 (by decide) (hts (.fieldLink RX2 7 "DockGatesModel" "kind" "[I") (by decide +kernel)) rfl rfl dX2_lay_87 ?_
              refine lv_iload hx hb dX2_lay_90 (lv_at hl 1 rfl) ?_
              refine qw_iald (f := fun q => nI (kd q)) hx hb hK hM.2.1 (by omega) (by decide) dX2_lay_92 ?_
              refine lv_bipush (v := nI 7) hx hb dX2_lay_93 (by decide) ?_
              refine ln_cmp_eq (tgt := 110) hx hb (by omega) (by omega) dX2_lay_95 (by decide) (fun c_11 => ?_) (fun c_11 => ?_)
              · refine lv_iconst (v := nI 4) hx hb dX2_lay_110 (by decide) ?_
                refine lv_goto (tgt := 116) hx hb dX2_lay_111 (by decide) ?_
                have hgl : q_gl (kd k_3) = 4 := by unfold q_gl; first | (rw [if_pos (by omega)]; done) | (rw [if_neg (by omega), if_pos (by omega)]; done) | (rw [if_neg (by omega), if_neg (by omega)]; done)
                refine lv_istore (lv' := [(6, .int (nI 4)), (5, .int ((-1))), (4, .int (nI k_3)), (0, .ref mm), (1, .int (nI j_to)), (2, .int i), (3, .int (nI j_fr))]) hx hb dX2_lay_116 hl (by decide) rfl (fun ls hl => ?_)
                refine lv_iload hx hb dX2_lay_118 (lv_at hl 1 rfl) ?_
                refine lv_iconst (v := (-1)) hx hb dX2_lay_120 (by decide) ?_
                refine lv_icmp_eq (tgt := 147) hx hb dX2_lay_121 (by decide) (fun _ => ?_) (fun c_12 => absurd rfl c_12)
                refine lv_iload_n hx hb dX2_lay_147 rfl (lv_at hl 5 rfl) ?_
                refine lv_iconst (v := nI 0) hx hb dX2_lay_148 (by decide) ?_
                refine lv_aload_n hx hb dX2_lay_149 rfl (lv_at hl 3 rfl) ?_
                refine qw_get (v := .ref (mm + 2)) (ci := 2) (C := RX2) (T := TX2) (N := 10) hx hb hts nX2_lay_2 hown hK hM.1 rfl 2 (by decide) (hts (.fieldLink RX2 13 "DockGatesModel" "size" "[I") (by decide +kernel)) rfl rfl dX2_lay_150 ?_
                refine lv_iload hx hb dX2_lay_153 (lv_at hl 2 rfl) ?_
                refine qw_iald (f := fun q => nI (sz q)) hx hb hK hM.2.2.1 (by omega) (by decide) dX2_lay_155 ?_
                refine lv_iconst (v := nI 1) hx hb dX2_lay_156 (by decide) ?_
                refine lv_isub hx hb dX2_lay_157 ?_
                refine qc_ri (r1 := q_b ((q_ix i (sz k_3)).isSome)) (W.runS (As := [.int i, .int (nI 0), .int (nI (sz k_3) - nI 1)]) (rest := []) ⟨hx, hb, hml, hown, hts⟩ (kX2_isIn l i (nI 0) ((nI (sz k_3) - nI 1))) (va_cwS 3 hts gX2_lay_X2_isIn rfl rfl rfl (by decide +kernel) ⟨Nat.le_of_ble_eq_true rfl, Nat.le_of_ble_eq_true rfl⟩) preEq rfl rfl hl.1 rfl (lv_room (Nat.le_of_ble_eq_true rfl)) dX2_lay_158 ⟨Nat.le_of_ble_eq_true rfl, Nat.le_of_ble_eq_true rfl⟩) (congrArg q_b (q_in1 _ (by omega))) ?_
                refine ln_b_ne (tgt := 170) hx hb dX2_lay_161 (by decide) (fun c_13 => ?_) (fun c_13 => ?_)
                · obtain ⟨j_i, hj_i, rfl⟩ := q_is (by first | decide | omega) c_13
                  have ej_i := q_ix_in hj_i (by first | decide | omega)
                  refine lv_iload hx hb dX2_lay_170 (lv_at hl 1 rfl) ?_
                  refine lv_iconst (v := (-1)) hx hb dX2_lay_172 (by decide) ?_
                  refine lv_icmp_eq (tgt := 202) hx hb dX2_lay_173 (by decide) (fun _ => ?_) (fun c_14 => absurd rfl c_14)
                  refine lv_aload_n hx hb dX2_lay_202 rfl (lv_at hl 3 rfl) ?_
                  refine qw_get (v := .ref (mm + 4)) (ci := 2) (C := RX2) (T := TX2) (N := 10) hx hb hts nX2_lay_2 hown hK hM.1 rfl 4 (by decide) (hts (.fieldLink RX2 20 "DockGatesModel" "cell" "[J") (by decide +kernel)) rfl rfl dX2_lay_203 ?_
                  refine lv_bipush (v := nI 8) hx hb dX2_lay_206 (by decide) ?_
                  refine lv_iload hx hb dX2_lay_208 (lv_at hl 2 rfl) ?_
                  refine ln_mul hx hb dX2_lay_210 ?_
                  refine lv_iload_n hx hb dX2_lay_211 rfl (lv_at hl 5 rfl) ?_
                  refine ln_add hx hb dX2_lay_212 ?_
                  refine lv_iload hx hb dX2_lay_213 (lv_at hl 1 rfl) ?_
                  refine lv_i2l (v := (-1)) hx hb dX2_lay_215 (by decide) ?_
                  refine qw_last (i := 8 * k_3 + j_i) (A := q_Am mm) hx hb hK hM.2.2.2.2.1 hS ⟨by omega, by omega⟩ (by omega) (by decide) dX2_lay_216 (fun H locs hO hz hq hS => ?_)
                  have hM : q_M E mm S (n, kd, sz, sh, nu, (va_up pa k_3 (va_up (pa k_3) j_i none)), sl, (nI 0), tn, ts, tg) H := hM.par (by omega) (show 3 ≤ kd k_3 ∧ kd k_3 < 9 by omega) none hO hz hq
                  refine lv_iconst (v := nI 1) hx hb dX2_lay_217 (by decide) ?_
                  have ee : f_lay (n, kd, sz, sh, nu, pa, sl, ft, tn, ts, tg) (nI j_to) (nI j_i) (nI j_fr) = (nI 1, (n, kd, sz, sh, nu, (va_up pa k_3 (va_up (pa k_3) j_i none)), sl, (nI 0), tn, ts, tg)) := by first | (simp only [f_lay, ej_to, ej_fr, s_3, s_7, c_9, hgl, ej_i]; done) | (simp only [f_lay, ej_to, ej_fr, s_3, s_7, c_9, hgl, ej_i]; rfl) | (simp [f_lay, ej_to, ej_fr, s_3, s_7, c_9, hgl, ej_i]; done) | (simp [f_lay, ej_to, ej_fr, s_3, s_7, c_9, hgl, ej_i]; rfl) | (simp only [f_lay, ej_to, ej_fr, s_3, s_7, c_9, hgl, ej_i]; (repeat' split) <;> first | rfl | (exfalso; omega))
                  exact W.iret (v := nI 1) hx hb hr (fun tt ht hW => ⟨⟨nI 1, (n, kd, sz, sh, nu, (va_up pa k_3 (va_up (pa k_3) j_i none)), sl, (nI 0), tn, ts, tg), rfl, ⟨(by rw [ee]), (by rw [ee])⟩, (by show q_M E mm S (n, kd, sz, sh, nu, (va_up pa k_3 (va_up (pa k_3) j_i none)), sl, (nI 0), tn, ts, tg) tt.heap; rw [ht]; exact hM)⟩, hS.F ht⟩) hS.2.2 dX2_lay_218
                · have c_13 := q_isn c_13
                  refine lv_aload_n hx hb dX2_lay_164 rfl (lv_at hl 3 rfl) ?_
                  refine lv_iconst (v := nI 3) hx hb dX2_lay_165 (by decide) ?_
                  refine qc_i (r1 := nI 0) (σ1 := (n, kd, sz, sh, nu, pa, sl, nI 3, tn, ts, tg)) (va_runV (As := [.int (nI 3)]) (rest := []) ⟨hx, hb, hml, hown, hts⟩ (kX2_fails l E mm S n kd sz sh nu pa sl ((nI 0)) tn ts tg hI (nI 3)) (cwV 1 hts gX2_lay_X2_fails rfl rfl rfl (by decide +kernel) ⟨Nat.le_of_ble_eq_true rfl, Nat.le_of_ble_eq_true rfl⟩) (q_preV hK hM hM.1 rfl) rfl rfl hl.1 rfl (lv_room (Nat.le_of_ble_eq_true rfl)) dX2_lay_166 ⟨Nat.le_of_ble_eq_true rfl, Nat.le_of_ble_eq_true rfl⟩) hS rfl rfl (fun H locs hM hS => ?_)
                  have ee : f_lay (n, kd, sz, sh, nu, pa, sl, ft, tn, ts, tg) (nI j_to) i (nI j_fr) = (nI 0, (n, kd, sz, sh, nu, pa, sl, nI 3, tn, ts, tg)) := by first | (simp only [f_lay, ej_to, ej_fr, s_3, s_7, c_9, hgl, c_13]; done) | (simp only [f_lay, ej_to, ej_fr, s_3, s_7, c_9, hgl, c_13]; rfl) | (simp [f_lay, ej_to, ej_fr, s_3, s_7, c_9, hgl, c_13]; done) | (simp [f_lay, ej_to, ej_fr, s_3, s_7, c_9, hgl, c_13]; rfl) | (simp only [f_lay, ej_to, ej_fr, s_3, s_7, c_9, hgl, c_13]; (repeat' split) <;> first | rfl | (exfalso; omega))
                  exact W.iret (v := nI 0) hx hb hr (fun tt ht hW => ⟨⟨nI 0, (n, kd, sz, sh, nu, pa, sl, nI 3, tn, ts, tg), rfl, ⟨(by rw [ee]), (by rw [ee])⟩, (by show q_M E mm S (n, kd, sz, sh, nu, pa, sl, nI 3, tn, ts, tg) tt.heap; rw [ht]; exact hM)⟩, hS.F ht⟩) hS.2.2 dX2_lay_169
              · refine lv_aload_n hx hb dX2_lay_98 rfl (lv_at hl 2 rfl) ?_
                refine qw_get (v := .ref (mm + 1)) (ci := 2) (C := RX2) (T := TX2) (N := 10) hx hb hts nX2_lay_2 hown hK hM.1 rfl 1 (by decide) (hts (.fieldLink RX2 7 "DockGatesModel" "kind" "[I") (by decide +kernel)) rfl rfl dX2_lay_99 ?_
                refine lv_iload hx hb dX2_lay_102 (lv_at hl 1 rfl) ?_
                refine qw_iald (f := fun q => nI (kd q)) hx hb hK hM.2.1 (by omega) (by decide) dX2_lay_104 ?_
                refine lv_bipush (v := nI 8) hx hb dX2_lay_105 (by decide) ?_
                refine ln_cmp_ne (tgt := 114) hx hb (by omega) (by omega) dX2_lay_107 (by decide) (fun c_15 => ?_) (fun c_15 => ?_)
                · refine lv_bipush (v := nI 12) hx hb dX2_lay_114 (by decide) ?_
                  have hgl : q_gl (kd k_3) = 12 := by unfold q_gl; first | (rw [if_pos (by omega)]; done) | (rw [if_neg (by omega), if_pos (by omega)]; done) | (rw [if_neg (by omega), if_neg (by omega)]; done)
                  refine lv_istore (lv' := [(6, .int (nI 12)), (5, .int ((-1))), (4, .int (nI k_3)), (0, .ref mm), (1, .int (nI j_to)), (2, .int i), (3, .int (nI j_fr))]) hx hb dX2_lay_116 hl (by decide) rfl (fun ls hl => ?_)
                  refine lv_iload hx hb dX2_lay_118 (lv_at hl 1 rfl) ?_
                  refine lv_iconst (v := (-1)) hx hb dX2_lay_120 (by decide) ?_
                  refine lv_icmp_eq (tgt := 147) hx hb dX2_lay_121 (by decide) (fun _ => ?_) (fun c_16 => absurd rfl c_16)
                  refine lv_iload_n hx hb dX2_lay_147 rfl (lv_at hl 5 rfl) ?_
                  refine lv_iconst (v := nI 0) hx hb dX2_lay_148 (by decide) ?_
                  refine lv_aload_n hx hb dX2_lay_149 rfl (lv_at hl 3 rfl) ?_
                  refine qw_get (v := .ref (mm + 2)) (ci := 2) (C := RX2) (T := TX2) (N := 10) hx hb hts nX2_lay_2 hown hK hM.1 rfl 2 (by decide) (hts (.fieldLink RX2 13 "DockGatesModel" "size" "[I") (by decide +kernel)) rfl rfl dX2_lay_150 ?_
                  refine lv_iload hx hb dX2_lay_153 (lv_at hl 2 rfl) ?_
                  refine qw_iald (f := fun q => nI (sz q)) hx hb hK hM.2.2.1 (by omega) (by decide) dX2_lay_155 ?_
                  refine lv_iconst (v := nI 1) hx hb dX2_lay_156 (by decide) ?_
                  refine lv_isub hx hb dX2_lay_157 ?_
                  refine qc_ri (r1 := q_b ((q_ix i (sz k_3)).isSome)) (W.runS (As := [.int i, .int (nI 0), .int (nI (sz k_3) - nI 1)]) (rest := []) ⟨hx, hb, hml, hown, hts⟩ (kX2_isIn l i (nI 0) ((nI (sz k_3) - nI 1))) (va_cwS 3 hts gX2_lay_X2_isIn rfl rfl rfl (by decide +kernel) ⟨Nat.le_of_ble_eq_true rfl, Nat.le_of_ble_eq_true rfl⟩) preEq rfl rfl hl.1 rfl (lv_room (Nat.le_of_ble_eq_true rfl)) dX2_lay_158 ⟨Nat.le_of_ble_eq_true rfl, Nat.le_of_ble_eq_true rfl⟩) (congrArg q_b (q_in1 _ (by omega))) ?_
                  refine ln_b_ne (tgt := 170) hx hb dX2_lay_161 (by decide) (fun c_17 => ?_) (fun c_17 => ?_)
                  · obtain ⟨j_i, hj_i, rfl⟩ := q_is (by first | decide | omega) c_17
                    have ej_i := q_ix_in hj_i (by first | decide | omega)
                    refine lv_iload hx hb dX2_lay_170 (lv_at hl 1 rfl) ?_
                    refine lv_iconst (v := (-1)) hx hb dX2_lay_172 (by decide) ?_
                    refine lv_icmp_eq (tgt := 202) hx hb dX2_lay_173 (by decide) (fun _ => ?_) (fun c_18 => absurd rfl c_18)
                    refine lv_aload_n hx hb dX2_lay_202 rfl (lv_at hl 3 rfl) ?_
                    refine qw_get (v := .ref (mm + 4)) (ci := 2) (C := RX2) (T := TX2) (N := 10) hx hb hts nX2_lay_2 hown hK hM.1 rfl 4 (by decide) (hts (.fieldLink RX2 20 "DockGatesModel" "cell" "[J") (by decide +kernel)) rfl rfl dX2_lay_203 ?_
                    refine lv_bipush (v := nI 8) hx hb dX2_lay_206 (by decide) ?_
                    refine lv_iload hx hb dX2_lay_208 (lv_at hl 2 rfl) ?_
                    refine ln_mul hx hb dX2_lay_210 ?_
                    refine lv_iload_n hx hb dX2_lay_211 rfl (lv_at hl 5 rfl) ?_
                    refine ln_add hx hb dX2_lay_212 ?_
                    refine lv_iload hx hb dX2_lay_213 (lv_at hl 1 rfl) ?_
                    refine lv_i2l (v := (-1)) hx hb dX2_lay_215 (by decide) ?_
                    refine qw_last (i := 8 * k_3 + j_i) (A := q_Am mm) hx hb hK hM.2.2.2.2.1 hS ⟨by omega, by omega⟩ (by omega) (by decide) dX2_lay_216 (fun H locs hO hz hq hS => ?_)
                    have hM : q_M E mm S (n, kd, sz, sh, nu, (va_up pa k_3 (va_up (pa k_3) j_i none)), sl, (nI 0), tn, ts, tg) H := hM.par (by omega) (show 3 ≤ kd k_3 ∧ kd k_3 < 9 by omega) none hO hz hq
                    refine lv_iconst (v := nI 1) hx hb dX2_lay_217 (by decide) ?_
                    have ee : f_lay (n, kd, sz, sh, nu, pa, sl, ft, tn, ts, tg) (nI j_to) (nI j_i) (nI j_fr) = (nI 1, (n, kd, sz, sh, nu, (va_up pa k_3 (va_up (pa k_3) j_i none)), sl, (nI 0), tn, ts, tg)) := by first | (simp only [f_lay, ej_to, ej_fr, s_3, s_7, c_9, hgl, ej_i]; done) | (simp only [f_lay, ej_to, ej_fr, s_3, s_7, c_9, hgl, ej_i]; rfl) | (simp [f_lay, ej_to, ej_fr, s_3, s_7, c_9, hgl, ej_i]; done) | (simp [f_lay, ej_to, ej_fr, s_3, s_7, c_9, hgl, ej_i]; rfl) | (simp only [f_lay, ej_to, ej_fr, s_3, s_7, c_9, hgl, ej_i]; (repeat' split) <;> first | rfl | (exfalso; omega))
                    exact W.iret (v := nI 1) hx hb hr (fun tt ht hW => ⟨⟨nI 1, (n, kd, sz, sh, nu, (va_up pa k_3 (va_up (pa k_3) j_i none)), sl, (nI 0), tn, ts, tg), rfl, ⟨(by rw [ee]), (by rw [ee])⟩, (by show q_M E mm S (n, kd, sz, sh, nu, (va_up pa k_3 (va_up (pa k_3) j_i none)), sl, (nI 0), tn, ts, tg) tt.heap; rw [ht]; exact hM)⟩, hS.F ht⟩) hS.2.2 dX2_lay_218
                  · have c_17 := q_isn c_17
                    refine lv_aload_n hx hb dX2_lay_164 rfl (lv_at hl 3 rfl) ?_
                    refine lv_iconst (v := nI 3) hx hb dX2_lay_165 (by decide) ?_
                    refine qc_i (r1 := nI 0) (σ1 := (n, kd, sz, sh, nu, pa, sl, nI 3, tn, ts, tg)) (va_runV (As := [.int (nI 3)]) (rest := []) ⟨hx, hb, hml, hown, hts⟩ (kX2_fails l E mm S n kd sz sh nu pa sl ((nI 0)) tn ts tg hI (nI 3)) (cwV 1 hts gX2_lay_X2_fails rfl rfl rfl (by decide +kernel) ⟨Nat.le_of_ble_eq_true rfl, Nat.le_of_ble_eq_true rfl⟩) (q_preV hK hM hM.1 rfl) rfl rfl hl.1 rfl (lv_room (Nat.le_of_ble_eq_true rfl)) dX2_lay_166 ⟨Nat.le_of_ble_eq_true rfl, Nat.le_of_ble_eq_true rfl⟩) hS rfl rfl (fun H locs hM hS => ?_)
                    have ee : f_lay (n, kd, sz, sh, nu, pa, sl, ft, tn, ts, tg) (nI j_to) i (nI j_fr) = (nI 0, (n, kd, sz, sh, nu, pa, sl, nI 3, tn, ts, tg)) := by first | (simp only [f_lay, ej_to, ej_fr, s_3, s_7, c_9, hgl, c_17]; done) | (simp only [f_lay, ej_to, ej_fr, s_3, s_7, c_9, hgl, c_17]; rfl) | (simp [f_lay, ej_to, ej_fr, s_3, s_7, c_9, hgl, c_17]; done) | (simp [f_lay, ej_to, ej_fr, s_3, s_7, c_9, hgl, c_17]; rfl) | (simp only [f_lay, ej_to, ej_fr, s_3, s_7, c_9, hgl, c_17]; (repeat' split) <;> first | rfl | (exfalso; omega))
                    exact W.iret (v := nI 0) hx hb hr (fun tt ht hW => ⟨⟨nI 0, (n, kd, sz, sh, nu, pa, sl, nI 3, tn, ts, tg), rfl, ⟨(by rw [ee]), (by rw [ee])⟩, (by show q_M E mm S (n, kd, sz, sh, nu, pa, sl, nI 3, tn, ts, tg) tt.heap; rw [ht]; exact hM)⟩, hS.F ht⟩) hS.2.2 dX2_lay_169
                · refine lv_iconst (v := nI 4) hx hb dX2_lay_110 (by decide) ?_
                  refine lv_goto (tgt := 116) hx hb dX2_lay_111 (by decide) ?_
                  have hgl : q_gl (kd k_3) = 4 := by unfold q_gl; first | (rw [if_pos (by omega)]; done) | (rw [if_neg (by omega), if_pos (by omega)]; done) | (rw [if_neg (by omega), if_neg (by omega)]; done)
                  refine lv_istore (lv' := [(6, .int (nI 4)), (5, .int ((-1))), (4, .int (nI k_3)), (0, .ref mm), (1, .int (nI j_to)), (2, .int i), (3, .int (nI j_fr))]) hx hb dX2_lay_116 hl (by decide) rfl (fun ls hl => ?_)
                  refine lv_iload hx hb dX2_lay_118 (lv_at hl 1 rfl) ?_
                  refine lv_iconst (v := (-1)) hx hb dX2_lay_120 (by decide) ?_
                  refine lv_icmp_eq (tgt := 147) hx hb dX2_lay_121 (by decide) (fun _ => ?_) (fun c_19 => absurd rfl c_19)
                  refine lv_iload_n hx hb dX2_lay_147 rfl (lv_at hl 5 rfl) ?_
                  refine lv_iconst (v := nI 0) hx hb dX2_lay_148 (by decide) ?_
                  refine lv_aload_n hx hb dX2_lay_149 rfl (lv_at hl 3 rfl) ?_
                  refine qw_get (v := .ref (mm + 2)) (ci := 2) (C := RX2) (T := TX2) (N := 10) hx hb hts nX2_lay_2 hown hK hM.1 rfl 2 (by decide) (hts (.fieldLink RX2 13 "DockGatesModel" "size" "[I") (by decide +kernel)) rfl rfl dX2_lay_150 ?_
                  refine lv_iload hx hb dX2_lay_153 (lv_at hl 2 rfl) ?_
                  refine qw_iald (f := fun q => nI (sz q)) hx hb hK hM.2.2.1 (by omega) (by decide) dX2_lay_155 ?_
                  refine lv_iconst (v := nI 1) hx hb dX2_lay_156 (by decide) ?_
                  refine lv_isub hx hb dX2_lay_157 ?_
                  refine qc_ri (r1 := q_b ((q_ix i (sz k_3)).isSome)) (W.runS (As := [.int i, .int (nI 0), .int (nI (sz k_3) - nI 1)]) (rest := []) ⟨hx, hb, hml, hown, hts⟩ (kX2_isIn l i (nI 0) ((nI (sz k_3) - nI 1))) (va_cwS 3 hts gX2_lay_X2_isIn rfl rfl rfl (by decide +kernel) ⟨Nat.le_of_ble_eq_true rfl, Nat.le_of_ble_eq_true rfl⟩) preEq rfl rfl hl.1 rfl (lv_room (Nat.le_of_ble_eq_true rfl)) dX2_lay_158 ⟨Nat.le_of_ble_eq_true rfl, Nat.le_of_ble_eq_true rfl⟩) (congrArg q_b (q_in1 _ (by omega))) ?_
                  refine ln_b_ne (tgt := 170) hx hb dX2_lay_161 (by decide) (fun c_20 => ?_) (fun c_20 => ?_)
                  · obtain ⟨j_i, hj_i, rfl⟩ := q_is (by first | decide | omega) c_20
                    have ej_i := q_ix_in hj_i (by first | decide | omega)
                    refine lv_iload hx hb dX2_lay_170 (lv_at hl 1 rfl) ?_
                    refine lv_iconst (v := (-1)) hx hb dX2_lay_172 (by decide) ?_
                    refine lv_icmp_eq (tgt := 202) hx hb dX2_lay_173 (by decide) (fun _ => ?_) (fun c_21 => absurd rfl c_21)
                    refine lv_aload_n hx hb dX2_lay_202 rfl (lv_at hl 3 rfl) ?_
                    refine qw_get (v := .ref (mm + 4)) (ci := 2) (C := RX2) (T := TX2) (N := 10) hx hb hts nX2_lay_2 hown hK hM.1 rfl 4 (by decide) (hts (.fieldLink RX2 20 "DockGatesModel" "cell" "[J") (by decide +kernel)) rfl rfl dX2_lay_203 ?_
                    refine lv_bipush (v := nI 8) hx hb dX2_lay_206 (by decide) ?_
                    refine lv_iload hx hb dX2_lay_208 (lv_at hl 2 rfl) ?_
                    refine ln_mul hx hb dX2_lay_210 ?_
                    refine lv_iload_n hx hb dX2_lay_211 rfl (lv_at hl 5 rfl) ?_
                    refine ln_add hx hb dX2_lay_212 ?_
                    refine lv_iload hx hb dX2_lay_213 (lv_at hl 1 rfl) ?_
                    refine lv_i2l (v := (-1)) hx hb dX2_lay_215 (by decide) ?_
                    refine qw_last (i := 8 * k_3 + j_i) (A := q_Am mm) hx hb hK hM.2.2.2.2.1 hS ⟨by omega, by omega⟩ (by omega) (by decide) dX2_lay_216 (fun H locs hO hz hq hS => ?_)
                    have hM : q_M E mm S (n, kd, sz, sh, nu, (va_up pa k_3 (va_up (pa k_3) j_i none)), sl, (nI 0), tn, ts, tg) H := hM.par (by omega) (show 3 ≤ kd k_3 ∧ kd k_3 < 9 by omega) none hO hz hq
                    refine lv_iconst (v := nI 1) hx hb dX2_lay_217 (by decide) ?_
                    have ee : f_lay (n, kd, sz, sh, nu, pa, sl, ft, tn, ts, tg) (nI j_to) (nI j_i) (nI j_fr) = (nI 1, (n, kd, sz, sh, nu, (va_up pa k_3 (va_up (pa k_3) j_i none)), sl, (nI 0), tn, ts, tg)) := by first | (simp only [f_lay, ej_to, ej_fr, s_3, s_7, c_9, hgl, ej_i]; done) | (simp only [f_lay, ej_to, ej_fr, s_3, s_7, c_9, hgl, ej_i]; rfl) | (simp [f_lay, ej_to, ej_fr, s_3, s_7, c_9, hgl, ej_i]; done) | (simp [f_lay, ej_to, ej_fr, s_3, s_7, c_9, hgl, ej_i]; rfl) | (simp only [f_lay, ej_to, ej_fr, s_3, s_7, c_9, hgl, ej_i]; (repeat' split) <;> first | rfl | (exfalso; omega))
                    exact W.iret (v := nI 1) hx hb hr (fun tt ht hW => ⟨⟨nI 1, (n, kd, sz, sh, nu, (va_up pa k_3 (va_up (pa k_3) j_i none)), sl, (nI 0), tn, ts, tg), rfl, ⟨(by rw [ee]), (by rw [ee])⟩, (by show q_M E mm S (n, kd, sz, sh, nu, (va_up pa k_3 (va_up (pa k_3) j_i none)), sl, (nI 0), tn, ts, tg) tt.heap; rw [ht]; exact hM)⟩, hS.F ht⟩) hS.2.2 dX2_lay_218
                  · have c_20 := q_isn c_20
                    refine lv_aload_n hx hb dX2_lay_164 rfl (lv_at hl 3 rfl) ?_
                    refine lv_iconst (v := nI 3) hx hb dX2_lay_165 (by decide) ?_
                    refine qc_i (r1 := nI 0) (σ1 := (n, kd, sz, sh, nu, pa, sl, nI 3, tn, ts, tg)) (va_runV (As := [.int (nI 3)]) (rest := []) ⟨hx, hb, hml, hown, hts⟩ (kX2_fails l E mm S n kd sz sh nu pa sl ((nI 0)) tn ts tg hI (nI 3)) (cwV 1 hts gX2_lay_X2_fails rfl rfl rfl (by decide +kernel) ⟨Nat.le_of_ble_eq_true rfl, Nat.le_of_ble_eq_true rfl⟩) (q_preV hK hM hM.1 rfl) rfl rfl hl.1 rfl (lv_room (Nat.le_of_ble_eq_true rfl)) dX2_lay_166 ⟨Nat.le_of_ble_eq_true rfl, Nat.le_of_ble_eq_true rfl⟩) hS rfl rfl (fun H locs hM hS => ?_)
                    have ee : f_lay (n, kd, sz, sh, nu, pa, sl, ft, tn, ts, tg) (nI j_to) i (nI j_fr) = (nI 0, (n, kd, sz, sh, nu, pa, sl, nI 3, tn, ts, tg)) := by first | (simp only [f_lay, ej_to, ej_fr, s_3, s_7, c_9, hgl, c_20]; done) | (simp only [f_lay, ej_to, ej_fr, s_3, s_7, c_9, hgl, c_20]; rfl) | (simp [f_lay, ej_to, ej_fr, s_3, s_7, c_9, hgl, c_20]; done) | (simp [f_lay, ej_to, ej_fr, s_3, s_7, c_9, hgl, c_20]; rfl) | (simp only [f_lay, ej_to, ej_fr, s_3, s_7, c_9, hgl, c_20]; (repeat' split) <;> first | rfl | (exfalso; omega))
                    exact W.iret (v := nI 0) hx hb hr (fun tt ht hW => ⟨⟨nI 0, (n, kd, sz, sh, nu, pa, sl, nI 3, tn, ts, tg), rfl, ⟨(by rw [ee]), (by rw [ee])⟩, (by show q_M E mm S (n, kd, sz, sh, nu, pa, sl, nI 3, tn, ts, tg) tt.heap; rw [ht]; exact hM)⟩, hS.F ht⟩) hS.2.2 dX2_lay_169
            · refine lv_iconst (v := nI 0) hx hb dX2_lay_82 (by decide) ?_
              refine lv_goto (tgt := 116) hx hb dX2_lay_83 (by decide) ?_
              have hgl : q_gl (kd k_3) = 0 := by unfold q_gl; first | (rw [if_pos (by omega)]; done) | (rw [if_neg (by omega), if_pos (by omega)]; done) | (rw [if_neg (by omega), if_neg (by omega)]; done)
              refine lv_istore (lv' := [(6, .int (nI 0)), (5, .int ((-1))), (4, .int (nI k_3)), (0, .ref mm), (1, .int (nI j_to)), (2, .int i), (3, .int (nI j_fr))]) hx hb dX2_lay_116 hl (by decide) rfl (fun ls hl => ?_)
              refine lv_iload hx hb dX2_lay_118 (lv_at hl 1 rfl) ?_
              refine lv_iconst (v := (-1)) hx hb dX2_lay_120 (by decide) ?_
              refine lv_icmp_eq (tgt := 147) hx hb dX2_lay_121 (by decide) (fun _ => ?_) (fun c_22 => absurd rfl c_22)
              refine lv_iload_n hx hb dX2_lay_147 rfl (lv_at hl 5 rfl) ?_
              refine lv_iconst (v := nI 0) hx hb dX2_lay_148 (by decide) ?_
              refine lv_aload_n hx hb dX2_lay_149 rfl (lv_at hl 3 rfl) ?_
              refine qw_get (v := .ref (mm + 2)) (ci := 2) (C := RX2) (T := TX2) (N := 10) hx hb hts nX2_lay_2 hown hK hM.1 rfl 2 (by decide) (hts (.fieldLink RX2 13 "DockGatesModel" "size" "[I") (by decide +kernel)) rfl rfl dX2_lay_150 ?_
              refine lv_iload hx hb dX2_lay_153 (lv_at hl 2 rfl) ?_
              refine qw_iald (f := fun q => nI (sz q)) hx hb hK hM.2.2.1 (by omega) (by decide) dX2_lay_155 ?_
              refine lv_iconst (v := nI 1) hx hb dX2_lay_156 (by decide) ?_
              refine lv_isub hx hb dX2_lay_157 ?_
              refine qc_ri (r1 := q_b ((q_ix i (sz k_3)).isSome)) (W.runS (As := [.int i, .int (nI 0), .int (nI (sz k_3) - nI 1)]) (rest := []) ⟨hx, hb, hml, hown, hts⟩ (kX2_isIn l i (nI 0) ((nI (sz k_3) - nI 1))) (va_cwS 3 hts gX2_lay_X2_isIn rfl rfl rfl (by decide +kernel) ⟨Nat.le_of_ble_eq_true rfl, Nat.le_of_ble_eq_true rfl⟩) preEq rfl rfl hl.1 rfl (lv_room (Nat.le_of_ble_eq_true rfl)) dX2_lay_158 ⟨Nat.le_of_ble_eq_true rfl, Nat.le_of_ble_eq_true rfl⟩) (congrArg q_b (q_in1 _ (by omega))) ?_
              refine ln_b_ne (tgt := 170) hx hb dX2_lay_161 (by decide) (fun c_23 => ?_) (fun c_23 => ?_)
              · obtain ⟨j_i, hj_i, rfl⟩ := q_is (by first | decide | omega) c_23
                have ej_i := q_ix_in hj_i (by first | decide | omega)
                refine lv_iload hx hb dX2_lay_170 (lv_at hl 1 rfl) ?_
                refine lv_iconst (v := (-1)) hx hb dX2_lay_172 (by decide) ?_
                refine lv_icmp_eq (tgt := 202) hx hb dX2_lay_173 (by decide) (fun _ => ?_) (fun c_24 => absurd rfl c_24)
                refine lv_aload_n hx hb dX2_lay_202 rfl (lv_at hl 3 rfl) ?_
                refine qw_get (v := .ref (mm + 4)) (ci := 2) (C := RX2) (T := TX2) (N := 10) hx hb hts nX2_lay_2 hown hK hM.1 rfl 4 (by decide) (hts (.fieldLink RX2 20 "DockGatesModel" "cell" "[J") (by decide +kernel)) rfl rfl dX2_lay_203 ?_
                refine lv_bipush (v := nI 8) hx hb dX2_lay_206 (by decide) ?_
                refine lv_iload hx hb dX2_lay_208 (lv_at hl 2 rfl) ?_
                refine ln_mul hx hb dX2_lay_210 ?_
                refine lv_iload_n hx hb dX2_lay_211 rfl (lv_at hl 5 rfl) ?_
                refine ln_add hx hb dX2_lay_212 ?_
                refine lv_iload hx hb dX2_lay_213 (lv_at hl 1 rfl) ?_
                refine lv_i2l (v := (-1)) hx hb dX2_lay_215 (by decide) ?_
                refine qw_last (i := 8 * k_3 + j_i) (A := q_Am mm) hx hb hK hM.2.2.2.2.1 hS ⟨by omega, by omega⟩ (by omega) (by decide) dX2_lay_216 (fun H locs hO hz hq hS => ?_)
                have hM : q_M E mm S (n, kd, sz, sh, nu, (va_up pa k_3 (va_up (pa k_3) j_i none)), sl, (nI 0), tn, ts, tg) H := hM.par (by omega) (show 3 ≤ kd k_3 ∧ kd k_3 < 9 by omega) none hO hz hq
                refine lv_iconst (v := nI 1) hx hb dX2_lay_217 (by decide) ?_
                have ee : f_lay (n, kd, sz, sh, nu, pa, sl, ft, tn, ts, tg) (nI j_to) (nI j_i) (nI j_fr) = (nI 1, (n, kd, sz, sh, nu, (va_up pa k_3 (va_up (pa k_3) j_i none)), sl, (nI 0), tn, ts, tg)) := by first | (simp only [f_lay, ej_to, ej_fr, s_3, s_7, c_9, hgl, ej_i]; done) | (simp only [f_lay, ej_to, ej_fr, s_3, s_7, c_9, hgl, ej_i]; rfl) | (simp [f_lay, ej_to, ej_fr, s_3, s_7, c_9, hgl, ej_i]; done) | (simp [f_lay, ej_to, ej_fr, s_3, s_7, c_9, hgl, ej_i]; rfl) | (simp only [f_lay, ej_to, ej_fr, s_3, s_7, c_9, hgl, ej_i]; (repeat' split) <;> first | rfl | (exfalso; omega))
                exact W.iret (v := nI 1) hx hb hr (fun tt ht hW => ⟨⟨nI 1, (n, kd, sz, sh, nu, (va_up pa k_3 (va_up (pa k_3) j_i none)), sl, (nI 0), tn, ts, tg), rfl, ⟨(by rw [ee]), (by rw [ee])⟩, (by show q_M E mm S (n, kd, sz, sh, nu, (va_up pa k_3 (va_up (pa k_3) j_i none)), sl, (nI 0), tn, ts, tg) tt.heap; rw [ht]; exact hM)⟩, hS.F ht⟩) hS.2.2 dX2_lay_218
              · have c_23 := q_isn c_23
                refine lv_aload_n hx hb dX2_lay_164 rfl (lv_at hl 3 rfl) ?_
                refine lv_iconst (v := nI 3) hx hb dX2_lay_165 (by decide) ?_
                refine qc_i (r1 := nI 0) (σ1 := (n, kd, sz, sh, nu, pa, sl, nI 3, tn, ts, tg)) (va_runV (As := [.int (nI 3)]) (rest := []) ⟨hx, hb, hml, hown, hts⟩ (kX2_fails l E mm S n kd sz sh nu pa sl ((nI 0)) tn ts tg hI (nI 3)) (cwV 1 hts gX2_lay_X2_fails rfl rfl rfl (by decide +kernel) ⟨Nat.le_of_ble_eq_true rfl, Nat.le_of_ble_eq_true rfl⟩) (q_preV hK hM hM.1 rfl) rfl rfl hl.1 rfl (lv_room (Nat.le_of_ble_eq_true rfl)) dX2_lay_166 ⟨Nat.le_of_ble_eq_true rfl, Nat.le_of_ble_eq_true rfl⟩) hS rfl rfl (fun H locs hM hS => ?_)
                have ee : f_lay (n, kd, sz, sh, nu, pa, sl, ft, tn, ts, tg) (nI j_to) i (nI j_fr) = (nI 0, (n, kd, sz, sh, nu, pa, sl, nI 3, tn, ts, tg)) := by first | (simp only [f_lay, ej_to, ej_fr, s_3, s_7, c_9, hgl, c_23]; done) | (simp only [f_lay, ej_to, ej_fr, s_3, s_7, c_9, hgl, c_23]; rfl) | (simp [f_lay, ej_to, ej_fr, s_3, s_7, c_9, hgl, c_23]; done) | (simp [f_lay, ej_to, ej_fr, s_3, s_7, c_9, hgl, c_23]; rfl) | (simp only [f_lay, ej_to, ej_fr, s_3, s_7, c_9, hgl, c_23]; (repeat' split) <;> first | rfl | (exfalso; omega))
                exact W.iret (v := nI 0) hx hb hr (fun tt ht hW => ⟨⟨nI 0, (n, kd, sz, sh, nu, pa, sl, nI 3, tn, ts, tg), rfl, ⟨(by rw [ee]), (by rw [ee])⟩, (by show q_M E mm S (n, kd, sz, sh, nu, pa, sl, nI 3, tn, ts, tg) tt.heap; rw [ht]; exact hM)⟩, hS.F ht⟩) hS.2.2 dX2_lay_169
          · have c_9 := of_decide_eq_false c_9
            refine lv_aload_n hx hb dX2_lay_63 rfl (lv_at hl 2 rfl) ?_
            refine lv_iload_n hx hb dX2_lay_64 rfl (lv_at hl 3 rfl) ?_
            refine lv_bipush (v := nI 6) hx hb dX2_lay_65 (by decide) ?_
            refine qc_i (r1 := nI 0) (σ1 := (n, kd, sz, sh, nu, pa, sl, nI 1, (tn + 1), nI j_to, nI 6)) (va_runV (As := [.int (nI j_to), .int (nI 6)]) (rest := []) ⟨hx, hb, hml, hown, hts⟩ (kX2_turns l E mm S n kd sz sh nu pa sl ((nI 0)) tn ts tg hI (nI j_to) (nI 6)) (cwV 2 hts gX2_lay_X2_turns rfl rfl rfl (by decide +kernel) ⟨Nat.le_of_ble_eq_true rfl, Nat.le_of_ble_eq_true rfl⟩) (q_preV hK hM hM.1 rfl) rfl rfl hl.1 rfl (lv_room (Nat.le_of_ble_eq_true rfl)) dX2_lay_67 ⟨Nat.le_of_ble_eq_true rfl, Nat.le_of_ble_eq_true rfl⟩) hS rfl rfl (fun H locs hM hS => ?_)
            have ee : f_lay (n, kd, sz, sh, nu, pa, sl, ft, tn, ts, tg) (nI j_to) i (nI j_fr) = (nI 0, (n, kd, sz, sh, nu, pa, sl, nI 1, (tn + 1), nI j_to, nI 6)) := by first | (simp only [f_lay, ej_to, ej_fr, s_3, s_7, c_9]; done) | (simp only [f_lay, ej_to, ej_fr, s_3, s_7, c_9]; rfl) | (simp [f_lay, ej_to, ej_fr, s_3, s_7, c_9]; done) | (simp [f_lay, ej_to, ej_fr, s_3, s_7, c_9]; rfl) | (simp only [f_lay, ej_to, ej_fr, s_3, s_7, c_9]; (repeat' split) <;> first | rfl | (exfalso; omega))
            exact W.iret (v := nI 0) hx hb hr (fun tt ht hW => ⟨⟨nI 0, (n, kd, sz, sh, nu, pa, sl, nI 1, (tn + 1), nI j_to, nI 6), rfl, ⟨(by rw [ee]), (by rw [ee])⟩, (by show q_M E mm S (n, kd, sz, sh, nu, pa, sl, nI 1, (tn + 1), nI j_to, nI 6) tt.heap; rw [ht]; exact hM)⟩, hS.F ht⟩) hS.2.2 dX2_lay_70
        · try dsimp only at s_7 hk_7
          obtain ⟨ak_7, bk_7, dk_7, wk_7⟩ := hI.2.1 k_7 hk_7
          have n60 := hI.1
          try dsimp only at ak_7 bk_7 dk_7 wk_7 n60
          refine lv_istore (lv' := [(5, .int (nI k_7)), (4, .int (nI k_3)), (0, .ref mm), (1, .int (nI j_to)), (2, .int i), (3, .int (nI j_fr))]) hx hb dX2_lay_36 hl (by decide) rfl (fun ls hl => ?_)
          refine lv_iload hx hb dX2_lay_38 (lv_at hl 1 rfl) ?_
          refine lv_iconst (v := (-1)) hx hb dX2_lay_40 (by decide) ?_
          refine lv_icmp_ne (tgt := 50) hx hb dX2_lay_41 (by decide) (fun _ => ?_) (fun c_25 => absurd c_25 (q_nm1 (by omega)))
          refine lv_aload_n hx hb dX2_lay_50 rfl (lv_at hl 2 rfl) ?_
          refine qw_get (v := .ref (mm + 1)) (ci := 2) (C := RX2) (T := TX2) (N := 10) hx hb hts nX2_lay_2 hown hK hM.1 rfl 1 (by decide) (hts (.fieldLink RX2 7 "DockGatesModel" "kind" "[I") (by decide +kernel)) rfl rfl dX2_lay_51 ?_
          refine lv_iload hx hb dX2_lay_54 (lv_at hl 1 rfl) ?_
          refine qw_iald (f := fun q => nI (kd q)) hx hb hK hM.2.1 (by omega) (by decide) dX2_lay_56 ?_
          refine qc_ri (r1 := q_b (decide (3 ≤ kd k_3 ∧ kd k_3 < 9))) (W.runS (As := [.int (nI (kd k_3))]) (rest := []) ⟨hx, hb, hml, hown, hts⟩ (kX2_holdsThings l (kd k_3) (by omega)) (va_cwS 1 hts gX2_lay_X2_holdsThings rfl rfl rfl (by decide +kernel) ⟨Nat.le_of_ble_eq_true rfl, Nat.le_of_ble_eq_true rfl⟩) preEq rfl rfl hl.1 rfl (lv_room (Nat.le_of_ble_eq_true rfl)) dX2_lay_57 ⟨Nat.le_of_ble_eq_true rfl, Nat.le_of_ble_eq_true rfl⟩) rfl ?_
          refine ln_b_ne (tgt := 71) hx hb dX2_lay_60 (by decide) (fun c_26 => ?_) (fun c_26 => ?_)
          · have c_26 := of_decide_eq_true c_26
            refine lv_aload_n hx hb dX2_lay_71 rfl (lv_at hl 2 rfl) ?_
            refine qw_get (v := .ref (mm + 1)) (ci := 2) (C := RX2) (T := TX2) (N := 10) hx hb hts nX2_lay_2 hown hK hM.1 rfl 1 (by decide) (hts (.fieldLink RX2 7 "DockGatesModel" "kind" "[I") (by decide +kernel)) rfl rfl dX2_lay_72 ?_
            refine lv_iload hx hb dX2_lay_75 (lv_at hl 1 rfl) ?_
            refine qw_iald (f := fun q => nI (kd q)) hx hb hK hM.2.1 (by omega) (by decide) dX2_lay_77 ?_
            refine lv_iconst (v := nI 3) hx hb dX2_lay_78 (by decide) ?_
            refine ln_cmp_ne (tgt := 86) hx hb (by omega) (by omega) dX2_lay_79 (by decide) (fun c_27 => ?_) (fun c_27 => ?_)
            · refine lv_aload_n hx hb dX2_lay_86 rfl (lv_at hl 2 rfl) ?_
              refine qw_get (v := .ref (mm + 1)) (ci := 2) (C := RX2) (T := TX2) (N := 10) hx hb hts nX2_lay_2 hown hK hM.1 rfl 1 (by decide) (hts (.fieldLink RX2 7 "DockGatesModel" "kind" "[I") (by decide +kernel)) rfl rfl dX2_lay_87 ?_
              refine lv_iload hx hb dX2_lay_90 (lv_at hl 1 rfl) ?_
              refine qw_iald (f := fun q => nI (kd q)) hx hb hK hM.2.1 (by omega) (by decide) dX2_lay_92 ?_
              refine lv_bipush (v := nI 7) hx hb dX2_lay_93 (by decide) ?_
              refine ln_cmp_eq (tgt := 110) hx hb (by omega) (by omega) dX2_lay_95 (by decide) (fun c_28 => ?_) (fun c_28 => ?_)
              · refine lv_iconst (v := nI 4) hx hb dX2_lay_110 (by decide) ?_
                refine lv_goto (tgt := 116) hx hb dX2_lay_111 (by decide) ?_
                have hgl : q_gl (kd k_3) = 4 := by unfold q_gl; first | (rw [if_pos (by omega)]; done) | (rw [if_neg (by omega), if_pos (by omega)]; done) | (rw [if_neg (by omega), if_neg (by omega)]; done)
                refine lv_istore (lv' := [(6, .int (nI 4)), (5, .int (nI k_7)), (4, .int (nI k_3)), (0, .ref mm), (1, .int (nI j_to)), (2, .int i), (3, .int (nI j_fr))]) hx hb dX2_lay_116 hl (by decide) rfl (fun ls hl => ?_)
                refine lv_iload hx hb dX2_lay_118 (lv_at hl 1 rfl) ?_
                refine lv_iconst (v := (-1)) hx hb dX2_lay_120 (by decide) ?_
                refine lv_icmp_eq (tgt := 147) hx hb dX2_lay_121 (by decide) (fun c_29 => absurd c_29 (q_nm1 (by omega))) (fun _ => ?_)
                refine lv_aload_n hx hb dX2_lay_124 rfl (lv_at hl 3 rfl) ?_
                refine qw_get (v := .ref (mm + 1)) (ci := 2) (C := RX2) (T := TX2) (N := 10) hx hb hts nX2_lay_2 hown hK hM.1 rfl 1 (by decide) (hts (.fieldLink RX2 7 "DockGatesModel" "kind" "[I") (by decide +kernel)) rfl rfl dX2_lay_125 ?_
                refine lv_iload hx hb dX2_lay_128 (lv_at hl 1 rfl) ?_
                refine qw_iald (f := fun q => nI (kd q)) hx hb hK hM.2.1 (by omega) (by decide) dX2_lay_130 ?_
                refine lv_iload hx hb dX2_lay_131 (lv_at hl 0 rfl) ?_
                refine qc_ri (r1 := q_b (q_go (kd k_7) 4)) (W.runS (As := [.int (nI (kd k_7)), .int (nI 4)]) (rest := []) ⟨hx, hb, hml, hown, hts⟩ (kX2_goes l (kd k_7) 4 (by omega) (by omega)) (va_cwS 2 hts gX2_lay_X2_goes rfl rfl rfl (by decide +kernel) ⟨Nat.le_of_ble_eq_true rfl, Nat.le_of_ble_eq_true rfl⟩) preEq rfl rfl hl.1 rfl (lv_room (Nat.le_of_ble_eq_true rfl)) dX2_lay_133 ⟨Nat.le_of_ble_eq_true rfl, Nat.le_of_ble_eq_true rfl⟩) rfl ?_
                refine ln_b_ne (tgt := 147) hx hb dX2_lay_136 (by decide) (fun c_30 => ?_) (fun c_30 => ?_)
                · refine lv_iload_n hx hb dX2_lay_147 rfl (lv_at hl 5 rfl) ?_
                  refine lv_iconst (v := nI 0) hx hb dX2_lay_148 (by decide) ?_
                  refine lv_aload_n hx hb dX2_lay_149 rfl (lv_at hl 3 rfl) ?_
                  refine qw_get (v := .ref (mm + 2)) (ci := 2) (C := RX2) (T := TX2) (N := 10) hx hb hts nX2_lay_2 hown hK hM.1 rfl 2 (by decide) (hts (.fieldLink RX2 13 "DockGatesModel" "size" "[I") (by decide +kernel)) rfl rfl dX2_lay_150 ?_
                  refine lv_iload hx hb dX2_lay_153 (lv_at hl 2 rfl) ?_
                  refine qw_iald (f := fun q => nI (sz q)) hx hb hK hM.2.2.1 (by omega) (by decide) dX2_lay_155 ?_
                  refine lv_iconst (v := nI 1) hx hb dX2_lay_156 (by decide) ?_
                  refine lv_isub hx hb dX2_lay_157 ?_
                  refine qc_ri (r1 := q_b ((q_ix i (sz k_3)).isSome)) (W.runS (As := [.int i, .int (nI 0), .int (nI (sz k_3) - nI 1)]) (rest := []) ⟨hx, hb, hml, hown, hts⟩ (kX2_isIn l i (nI 0) ((nI (sz k_3) - nI 1))) (va_cwS 3 hts gX2_lay_X2_isIn rfl rfl rfl (by decide +kernel) ⟨Nat.le_of_ble_eq_true rfl, Nat.le_of_ble_eq_true rfl⟩) preEq rfl rfl hl.1 rfl (lv_room (Nat.le_of_ble_eq_true rfl)) dX2_lay_158 ⟨Nat.le_of_ble_eq_true rfl, Nat.le_of_ble_eq_true rfl⟩) (congrArg q_b (q_in1 _ (by omega))) ?_
                  refine ln_b_ne (tgt := 170) hx hb dX2_lay_161 (by decide) (fun c_31 => ?_) (fun c_31 => ?_)
                  · obtain ⟨j_i, hj_i, rfl⟩ := q_is (by first | decide | omega) c_31
                    have ej_i := q_ix_in hj_i (by first | decide | omega)
                    refine lv_iload hx hb dX2_lay_170 (lv_at hl 1 rfl) ?_
                    refine lv_iconst (v := (-1)) hx hb dX2_lay_172 (by decide) ?_
                    refine lv_icmp_eq (tgt := 202) hx hb dX2_lay_173 (by decide) (fun c_32 => absurd c_32 (q_nm1 (by omega))) (fun _ => ?_)
                    refine lv_aload_n hx hb dX2_lay_176 rfl (lv_at hl 3 rfl) ?_
                    refine qw_get (v := .ref (mm + 1)) (ci := 2) (C := RX2) (T := TX2) (N := 10) hx hb hts nX2_lay_2 hown hK hM.1 rfl 1 (by decide) (hts (.fieldLink RX2 7 "DockGatesModel" "kind" "[I") (by decide +kernel)) rfl rfl dX2_lay_177 ?_
                    refine lv_iload hx hb dX2_lay_180 (lv_at hl 2 rfl) ?_
                    refine qw_iald (f := fun q => nI (kd q)) hx hb hK hM.2.1 (by omega) (by decide) dX2_lay_182 ?_
                    refine lv_aload_n hx hb dX2_lay_183 rfl (lv_at hl 3 rfl) ?_
                    refine qw_get (v := .ref (mm + 1)) (ci := 2) (C := RX2) (T := TX2) (N := 10) hx hb hts nX2_lay_2 hown hK hM.1 rfl 1 (by decide) (hts (.fieldLink RX2 7 "DockGatesModel" "kind" "[I") (by decide +kernel)) rfl rfl dX2_lay_184 ?_
                    refine lv_iload hx hb dX2_lay_187 (lv_at hl 1 rfl) ?_
                    refine qw_iald (f := fun q => nI (kd q)) hx hb hK hM.2.1 (by omega) (by decide) dX2_lay_189 ?_
                    refine qc_ri (r1 := q_b (q_ch (kd k_3) (kd k_7))) (W.runS (As := [.int (nI (kd k_3)), .int (nI (kd k_7))]) (rest := []) ⟨hx, hb, hml, hown, hts⟩ (kX2_canHold l (kd k_3) (kd k_7) (by omega) (by omega)) (va_cwS 2 hts gX2_lay_X2_canHold rfl rfl rfl (by decide +kernel) ⟨Nat.le_of_ble_eq_true rfl, Nat.le_of_ble_eq_true rfl⟩) preEq rfl rfl hl.1 rfl (lv_room (Nat.le_of_ble_eq_true rfl)) dX2_lay_190 ⟨Nat.le_of_ble_eq_true rfl, Nat.le_of_ble_eq_true rfl⟩) rfl ?_
                    refine ln_b_ne (tgt := 202) hx hb dX2_lay_193 (by decide) (fun c_33 => ?_) (fun c_33 => ?_)
                    · refine lv_aload_n hx hb dX2_lay_202 rfl (lv_at hl 3 rfl) ?_
                      refine qw_get (v := .ref (mm + 4)) (ci := 2) (C := RX2) (T := TX2) (N := 10) hx hb hts nX2_lay_2 hown hK hM.1 rfl 4 (by decide) (hts (.fieldLink RX2 20 "DockGatesModel" "cell" "[J") (by decide +kernel)) rfl rfl dX2_lay_203 ?_
                      refine lv_bipush (v := nI 8) hx hb dX2_lay_206 (by decide) ?_
                      refine lv_iload hx hb dX2_lay_208 (lv_at hl 2 rfl) ?_
                      refine ln_mul hx hb dX2_lay_210 ?_
                      refine lv_iload_n hx hb dX2_lay_211 rfl (lv_at hl 5 rfl) ?_
                      refine ln_add hx hb dX2_lay_212 ?_
                      refine lv_iload hx hb dX2_lay_213 (lv_at hl 1 rfl) ?_
                      refine lv_i2l (v := lN k_7) hx hb dX2_lay_215 (nI_l (by first | omega | (simp; omega))) ?_
                      refine qw_last (i := 8 * k_3 + j_i) (A := q_Am mm) hx hb hK hM.2.2.2.2.1 hS ⟨by omega, by omega⟩ (by omega) (by decide) dX2_lay_216 (fun H locs hO hz hq hS => ?_)
                      have hM : q_M E mm S (n, kd, sz, sh, nu, (va_up pa k_3 (va_up (pa k_3) j_i (some k_7))), sl, (nI 0), tn, ts, tg) H := hM.par (by omega) (show 3 ≤ kd k_3 ∧ kd k_3 < 9 by omega) (some k_7) hO hz hq
                      refine lv_iconst (v := nI 1) hx hb dX2_lay_217 (by decide) ?_
                      have ee : f_lay (n, kd, sz, sh, nu, pa, sl, ft, tn, ts, tg) (nI j_to) (nI j_i) (nI j_fr) = (nI 1, (n, kd, sz, sh, nu, (va_up pa k_3 (va_up (pa k_3) j_i (some k_7))), sl, (nI 0), tn, ts, tg)) := by first | (simp only [f_lay, ej_to, ej_fr, s_3, s_7, c_26, hgl, c_30, ej_i, c_33]; done) | (simp only [f_lay, ej_to, ej_fr, s_3, s_7, c_26, hgl, c_30, ej_i, c_33]; rfl) | (simp [f_lay, ej_to, ej_fr, s_3, s_7, c_26, hgl, c_30, ej_i, c_33]; done) | (simp [f_lay, ej_to, ej_fr, s_3, s_7, c_26, hgl, c_30, ej_i, c_33]; rfl) | (simp only [f_lay, ej_to, ej_fr, s_3, s_7, c_26, hgl, c_30, ej_i, c_33]; (repeat' split) <;> first | rfl | (exfalso; omega))
                      exact W.iret (v := nI 1) hx hb hr (fun tt ht hW => ⟨⟨nI 1, (n, kd, sz, sh, nu, (va_up pa k_3 (va_up (pa k_3) j_i (some k_7))), sl, (nI 0), tn, ts, tg), rfl, ⟨(by rw [ee]), (by rw [ee])⟩, (by show q_M E mm S (n, kd, sz, sh, nu, (va_up pa k_3 (va_up (pa k_3) j_i (some k_7))), sl, (nI 0), tn, ts, tg) tt.heap; rw [ht]; exact hM)⟩, hS.F ht⟩) hS.2.2 dX2_lay_218
                    · refine lv_aload_n hx hb dX2_lay_196 rfl (lv_at hl 3 rfl) ?_
                      refine lv_iconst (v := nI 5) hx hb dX2_lay_197 (by decide) ?_
                      refine qc_i (r1 := nI 0) (σ1 := (n, kd, sz, sh, nu, pa, sl, nI 5, tn, ts, tg)) (va_runV (As := [.int (nI 5)]) (rest := []) ⟨hx, hb, hml, hown, hts⟩ (kX2_fails l E mm S n kd sz sh nu pa sl ((nI 0)) tn ts tg hI (nI 5)) (cwV 1 hts gX2_lay_X2_fails rfl rfl rfl (by decide +kernel) ⟨Nat.le_of_ble_eq_true rfl, Nat.le_of_ble_eq_true rfl⟩) (q_preV hK hM hM.1 rfl) rfl rfl hl.1 rfl (lv_room (Nat.le_of_ble_eq_true rfl)) dX2_lay_198 ⟨Nat.le_of_ble_eq_true rfl, Nat.le_of_ble_eq_true rfl⟩) hS rfl rfl (fun H locs hM hS => ?_)
                      have ee : f_lay (n, kd, sz, sh, nu, pa, sl, ft, tn, ts, tg) (nI j_to) (nI j_i) (nI j_fr) = (nI 0, (n, kd, sz, sh, nu, pa, sl, nI 5, tn, ts, tg)) := by first | (simp only [f_lay, ej_to, ej_fr, s_3, s_7, c_26, hgl, c_30, ej_i, c_33]; done) | (simp only [f_lay, ej_to, ej_fr, s_3, s_7, c_26, hgl, c_30, ej_i, c_33]; rfl) | (simp [f_lay, ej_to, ej_fr, s_3, s_7, c_26, hgl, c_30, ej_i, c_33]; done) | (simp [f_lay, ej_to, ej_fr, s_3, s_7, c_26, hgl, c_30, ej_i, c_33]; rfl) | (simp only [f_lay, ej_to, ej_fr, s_3, s_7, c_26, hgl, c_30, ej_i, c_33]; (repeat' split) <;> first | rfl | (exfalso; omega))
                      exact W.iret (v := nI 0) hx hb hr (fun tt ht hW => ⟨⟨nI 0, (n, kd, sz, sh, nu, pa, sl, nI 5, tn, ts, tg), rfl, ⟨(by rw [ee]), (by rw [ee])⟩, (by show q_M E mm S (n, kd, sz, sh, nu, pa, sl, nI 5, tn, ts, tg) tt.heap; rw [ht]; exact hM)⟩, hS.F ht⟩) hS.2.2 dX2_lay_201
                  · have c_31 := q_isn c_31
                    refine lv_aload_n hx hb dX2_lay_164 rfl (lv_at hl 3 rfl) ?_
                    refine lv_iconst (v := nI 3) hx hb dX2_lay_165 (by decide) ?_
                    refine qc_i (r1 := nI 0) (σ1 := (n, kd, sz, sh, nu, pa, sl, nI 3, tn, ts, tg)) (va_runV (As := [.int (nI 3)]) (rest := []) ⟨hx, hb, hml, hown, hts⟩ (kX2_fails l E mm S n kd sz sh nu pa sl ((nI 0)) tn ts tg hI (nI 3)) (cwV 1 hts gX2_lay_X2_fails rfl rfl rfl (by decide +kernel) ⟨Nat.le_of_ble_eq_true rfl, Nat.le_of_ble_eq_true rfl⟩) (q_preV hK hM hM.1 rfl) rfl rfl hl.1 rfl (lv_room (Nat.le_of_ble_eq_true rfl)) dX2_lay_166 ⟨Nat.le_of_ble_eq_true rfl, Nat.le_of_ble_eq_true rfl⟩) hS rfl rfl (fun H locs hM hS => ?_)
                    have ee : f_lay (n, kd, sz, sh, nu, pa, sl, ft, tn, ts, tg) (nI j_to) i (nI j_fr) = (nI 0, (n, kd, sz, sh, nu, pa, sl, nI 3, tn, ts, tg)) := by first | (simp only [f_lay, ej_to, ej_fr, s_3, s_7, c_26, hgl, c_30, c_31]; done) | (simp only [f_lay, ej_to, ej_fr, s_3, s_7, c_26, hgl, c_30, c_31]; rfl) | (simp [f_lay, ej_to, ej_fr, s_3, s_7, c_26, hgl, c_30, c_31]; done) | (simp [f_lay, ej_to, ej_fr, s_3, s_7, c_26, hgl, c_30, c_31]; rfl) | (simp only [f_lay, ej_to, ej_fr, s_3, s_7, c_26, hgl, c_30, c_31]; (repeat' split) <;> first | rfl | (exfalso; omega))
                    exact W.iret (v := nI 0) hx hb hr (fun tt ht hW => ⟨⟨nI 0, (n, kd, sz, sh, nu, pa, sl, nI 3, tn, ts, tg), rfl, ⟨(by rw [ee]), (by rw [ee])⟩, (by show q_M E mm S (n, kd, sz, sh, nu, pa, sl, nI 3, tn, ts, tg) tt.heap; rw [ht]; exact hM)⟩, hS.F ht⟩) hS.2.2 dX2_lay_169
                · refine lv_aload_n hx hb dX2_lay_139 rfl (lv_at hl 3 rfl) ?_
                  refine lv_iload_n hx hb dX2_lay_140 rfl (lv_at hl 6 rfl) ?_
                  refine lv_iload hx hb dX2_lay_141 (lv_at hl 0 rfl) ?_
                  refine qc_i (r1 := nI 0) (σ1 := (n, kd, sz, sh, nu, pa, sl, nI 1, (tn + 1), nI j_fr, nI 4)) (va_runV (As := [.int (nI j_fr), .int (nI 4)]) (rest := []) ⟨hx, hb, hml, hown, hts⟩ (kX2_turns l E mm S n kd sz sh nu pa sl ((nI 0)) tn ts tg hI (nI j_fr) (nI 4)) (cwV 2 hts gX2_lay_X2_turns rfl rfl rfl (by decide +kernel) ⟨Nat.le_of_ble_eq_true rfl, Nat.le_of_ble_eq_true rfl⟩) (q_preV hK hM hM.1 rfl) rfl rfl hl.1 rfl (lv_room (Nat.le_of_ble_eq_true rfl)) dX2_lay_143 ⟨Nat.le_of_ble_eq_true rfl, Nat.le_of_ble_eq_true rfl⟩) hS rfl rfl (fun H locs hM hS => ?_)
                  have ee : f_lay (n, kd, sz, sh, nu, pa, sl, ft, tn, ts, tg) (nI j_to) i (nI j_fr) = (nI 0, (n, kd, sz, sh, nu, pa, sl, nI 1, (tn + 1), nI j_fr, nI 4)) := by first | (simp only [f_lay, ej_to, ej_fr, s_3, s_7, c_26, hgl, c_30]; done) | (simp only [f_lay, ej_to, ej_fr, s_3, s_7, c_26, hgl, c_30]; rfl) | (simp [f_lay, ej_to, ej_fr, s_3, s_7, c_26, hgl, c_30]; done) | (simp [f_lay, ej_to, ej_fr, s_3, s_7, c_26, hgl, c_30]; rfl) | (simp only [f_lay, ej_to, ej_fr, s_3, s_7, c_26, hgl, c_30]; (repeat' split) <;> first | rfl | (exfalso; omega))
                  exact W.iret (v := nI 0) hx hb hr (fun tt ht hW => ⟨⟨nI 0, (n, kd, sz, sh, nu, pa, sl, nI 1, (tn + 1), nI j_fr, nI 4), rfl, ⟨(by rw [ee]), (by rw [ee])⟩, (by show q_M E mm S (n, kd, sz, sh, nu, pa, sl, nI 1, (tn + 1), nI j_fr, nI 4) tt.heap; rw [ht]; exact hM)⟩, hS.F ht⟩) hS.2.2 dX2_lay_146
              · refine lv_aload_n hx hb dX2_lay_98 rfl (lv_at hl 2 rfl) ?_
                refine qw_get (v := .ref (mm + 1)) (ci := 2) (C := RX2) (T := TX2) (N := 10) hx hb hts nX2_lay_2 hown hK hM.1 rfl 1 (by decide) (hts (.fieldLink RX2 7 "DockGatesModel" "kind" "[I") (by decide +kernel)) rfl rfl dX2_lay_99 ?_
                refine lv_iload hx hb dX2_lay_102 (lv_at hl 1 rfl) ?_
                refine qw_iald (f := fun q => nI (kd q)) hx hb hK hM.2.1 (by omega) (by decide) dX2_lay_104 ?_
                refine lv_bipush (v := nI 8) hx hb dX2_lay_105 (by decide) ?_
                refine ln_cmp_ne (tgt := 114) hx hb (by omega) (by omega) dX2_lay_107 (by decide) (fun c_34 => ?_) (fun c_34 => ?_)
                · refine lv_bipush (v := nI 12) hx hb dX2_lay_114 (by decide) ?_
                  have hgl : q_gl (kd k_3) = 12 := by unfold q_gl; first | (rw [if_pos (by omega)]; done) | (rw [if_neg (by omega), if_pos (by omega)]; done) | (rw [if_neg (by omega), if_neg (by omega)]; done)
                  refine lv_istore (lv' := [(6, .int (nI 12)), (5, .int (nI k_7)), (4, .int (nI k_3)), (0, .ref mm), (1, .int (nI j_to)), (2, .int i), (3, .int (nI j_fr))]) hx hb dX2_lay_116 hl (by decide) rfl (fun ls hl => ?_)
                  refine lv_iload hx hb dX2_lay_118 (lv_at hl 1 rfl) ?_
                  refine lv_iconst (v := (-1)) hx hb dX2_lay_120 (by decide) ?_
                  refine lv_icmp_eq (tgt := 147) hx hb dX2_lay_121 (by decide) (fun c_35 => absurd c_35 (q_nm1 (by omega))) (fun _ => ?_)
                  refine lv_aload_n hx hb dX2_lay_124 rfl (lv_at hl 3 rfl) ?_
                  refine qw_get (v := .ref (mm + 1)) (ci := 2) (C := RX2) (T := TX2) (N := 10) hx hb hts nX2_lay_2 hown hK hM.1 rfl 1 (by decide) (hts (.fieldLink RX2 7 "DockGatesModel" "kind" "[I") (by decide +kernel)) rfl rfl dX2_lay_125 ?_
                  refine lv_iload hx hb dX2_lay_128 (lv_at hl 1 rfl) ?_
                  refine qw_iald (f := fun q => nI (kd q)) hx hb hK hM.2.1 (by omega) (by decide) dX2_lay_130 ?_
                  refine lv_iload hx hb dX2_lay_131 (lv_at hl 0 rfl) ?_
                  refine qc_ri (r1 := q_b (q_go (kd k_7) 12)) (W.runS (As := [.int (nI (kd k_7)), .int (nI 12)]) (rest := []) ⟨hx, hb, hml, hown, hts⟩ (kX2_goes l (kd k_7) 12 (by omega) (by omega)) (va_cwS 2 hts gX2_lay_X2_goes rfl rfl rfl (by decide +kernel) ⟨Nat.le_of_ble_eq_true rfl, Nat.le_of_ble_eq_true rfl⟩) preEq rfl rfl hl.1 rfl (lv_room (Nat.le_of_ble_eq_true rfl)) dX2_lay_133 ⟨Nat.le_of_ble_eq_true rfl, Nat.le_of_ble_eq_true rfl⟩) rfl ?_
                  refine ln_b_ne (tgt := 147) hx hb dX2_lay_136 (by decide) (fun c_36 => ?_) (fun c_36 => ?_)
                  · refine lv_iload_n hx hb dX2_lay_147 rfl (lv_at hl 5 rfl) ?_
                    refine lv_iconst (v := nI 0) hx hb dX2_lay_148 (by decide) ?_
                    refine lv_aload_n hx hb dX2_lay_149 rfl (lv_at hl 3 rfl) ?_
                    refine qw_get (v := .ref (mm + 2)) (ci := 2) (C := RX2) (T := TX2) (N := 10) hx hb hts nX2_lay_2 hown hK hM.1 rfl 2 (by decide) (hts (.fieldLink RX2 13 "DockGatesModel" "size" "[I") (by decide +kernel)) rfl rfl dX2_lay_150 ?_
                    refine lv_iload hx hb dX2_lay_153 (lv_at hl 2 rfl) ?_
                    refine qw_iald (f := fun q => nI (sz q)) hx hb hK hM.2.2.1 (by omega) (by decide) dX2_lay_155 ?_
                    refine lv_iconst (v := nI 1) hx hb dX2_lay_156 (by decide) ?_
                    refine lv_isub hx hb dX2_lay_157 ?_
                    refine qc_ri (r1 := q_b ((q_ix i (sz k_3)).isSome)) (W.runS (As := [.int i, .int (nI 0), .int (nI (sz k_3) - nI 1)]) (rest := []) ⟨hx, hb, hml, hown, hts⟩ (kX2_isIn l i (nI 0) ((nI (sz k_3) - nI 1))) (va_cwS 3 hts gX2_lay_X2_isIn rfl rfl rfl (by decide +kernel) ⟨Nat.le_of_ble_eq_true rfl, Nat.le_of_ble_eq_true rfl⟩) preEq rfl rfl hl.1 rfl (lv_room (Nat.le_of_ble_eq_true rfl)) dX2_lay_158 ⟨Nat.le_of_ble_eq_true rfl, Nat.le_of_ble_eq_true rfl⟩) (congrArg q_b (q_in1 _ (by omega))) ?_
                    refine ln_b_ne (tgt := 170) hx hb dX2_lay_161 (by decide) (fun c_37 => ?_) (fun c_37 => ?_)
                    · obtain ⟨j_i, hj_i, rfl⟩ := q_is (by first | decide | omega) c_37
                      have ej_i := q_ix_in hj_i (by first | decide | omega)
                      refine lv_iload hx hb dX2_lay_170 (lv_at hl 1 rfl) ?_
                      refine lv_iconst (v := (-1)) hx hb dX2_lay_172 (by decide) ?_
                      refine lv_icmp_eq (tgt := 202) hx hb dX2_lay_173 (by decide) (fun c_38 => absurd c_38 (q_nm1 (by omega))) (fun _ => ?_)
                      refine lv_aload_n hx hb dX2_lay_176 rfl (lv_at hl 3 rfl) ?_
                      refine qw_get (v := .ref (mm + 1)) (ci := 2) (C := RX2) (T := TX2) (N := 10) hx hb hts nX2_lay_2 hown hK hM.1 rfl 1 (by decide) (hts (.fieldLink RX2 7 "DockGatesModel" "kind" "[I") (by decide +kernel)) rfl rfl dX2_lay_177 ?_
                      refine lv_iload hx hb dX2_lay_180 (lv_at hl 2 rfl) ?_
                      refine qw_iald (f := fun q => nI (kd q)) hx hb hK hM.2.1 (by omega) (by decide) dX2_lay_182 ?_
                      refine lv_aload_n hx hb dX2_lay_183 rfl (lv_at hl 3 rfl) ?_
                      refine qw_get (v := .ref (mm + 1)) (ci := 2) (C := RX2) (T := TX2) (N := 10) hx hb hts nX2_lay_2 hown hK hM.1 rfl 1 (by decide) (hts (.fieldLink RX2 7 "DockGatesModel" "kind" "[I") (by decide +kernel)) rfl rfl dX2_lay_184 ?_
                      refine lv_iload hx hb dX2_lay_187 (lv_at hl 1 rfl) ?_
                      refine qw_iald (f := fun q => nI (kd q)) hx hb hK hM.2.1 (by omega) (by decide) dX2_lay_189 ?_
                      refine qc_ri (r1 := q_b (q_ch (kd k_3) (kd k_7))) (W.runS (As := [.int (nI (kd k_3)), .int (nI (kd k_7))]) (rest := []) ⟨hx, hb, hml, hown, hts⟩ (kX2_canHold l (kd k_3) (kd k_7) (by omega) (by omega)) (va_cwS 2 hts gX2_lay_X2_canHold rfl rfl rfl (by decide +kernel) ⟨Nat.le_of_ble_eq_true rfl, Nat.le_of_ble_eq_true rfl⟩) preEq rfl rfl hl.1 rfl (lv_room (Nat.le_of_ble_eq_true rfl)) dX2_lay_190 ⟨Nat.le_of_ble_eq_true rfl, Nat.le_of_ble_eq_true rfl⟩) rfl ?_
                      refine ln_b_ne (tgt := 202) hx hb dX2_lay_193 (by decide) (fun c_39 => ?_) (fun c_39 => ?_)
                      · refine lv_aload_n hx hb dX2_lay_202 rfl (lv_at hl 3 rfl) ?_
                        refine qw_get (v := .ref (mm + 4)) (ci := 2) (C := RX2) (T := TX2) (N := 10) hx hb hts nX2_lay_2 hown hK hM.1 rfl 4 (by decide) (hts (.fieldLink RX2 20 "DockGatesModel" "cell" "[J") (by decide +kernel)) rfl rfl dX2_lay_203 ?_
                        refine lv_bipush (v := nI 8) hx hb dX2_lay_206 (by decide) ?_
                        refine lv_iload hx hb dX2_lay_208 (lv_at hl 2 rfl) ?_
                        refine ln_mul hx hb dX2_lay_210 ?_
                        refine lv_iload_n hx hb dX2_lay_211 rfl (lv_at hl 5 rfl) ?_
                        refine ln_add hx hb dX2_lay_212 ?_
                        refine lv_iload hx hb dX2_lay_213 (lv_at hl 1 rfl) ?_
                        refine lv_i2l (v := lN k_7) hx hb dX2_lay_215 (nI_l (by first | omega | (simp; omega))) ?_
                        refine qw_last (i := 8 * k_3 + j_i) (A := q_Am mm) hx hb hK hM.2.2.2.2.1 hS ⟨by omega, by omega⟩ (by omega) (by decide) dX2_lay_216 (fun H locs hO hz hq hS => ?_)
                        have hM : q_M E mm S (n, kd, sz, sh, nu, (va_up pa k_3 (va_up (pa k_3) j_i (some k_7))), sl, (nI 0), tn, ts, tg) H := hM.par (by omega) (show 3 ≤ kd k_3 ∧ kd k_3 < 9 by omega) (some k_7) hO hz hq
                        refine lv_iconst (v := nI 1) hx hb dX2_lay_217 (by decide) ?_
                        have ee : f_lay (n, kd, sz, sh, nu, pa, sl, ft, tn, ts, tg) (nI j_to) (nI j_i) (nI j_fr) = (nI 1, (n, kd, sz, sh, nu, (va_up pa k_3 (va_up (pa k_3) j_i (some k_7))), sl, (nI 0), tn, ts, tg)) := by first | (simp only [f_lay, ej_to, ej_fr, s_3, s_7, c_26, hgl, c_36, ej_i, c_39]; done) | (simp only [f_lay, ej_to, ej_fr, s_3, s_7, c_26, hgl, c_36, ej_i, c_39]; rfl) | (simp [f_lay, ej_to, ej_fr, s_3, s_7, c_26, hgl, c_36, ej_i, c_39]; done) | (simp [f_lay, ej_to, ej_fr, s_3, s_7, c_26, hgl, c_36, ej_i, c_39]; rfl) | (simp only [f_lay, ej_to, ej_fr, s_3, s_7, c_26, hgl, c_36, ej_i, c_39]; (repeat' split) <;> first | rfl | (exfalso; omega))
                        exact W.iret (v := nI 1) hx hb hr (fun tt ht hW => ⟨⟨nI 1, (n, kd, sz, sh, nu, (va_up pa k_3 (va_up (pa k_3) j_i (some k_7))), sl, (nI 0), tn, ts, tg), rfl, ⟨(by rw [ee]), (by rw [ee])⟩, (by show q_M E mm S (n, kd, sz, sh, nu, (va_up pa k_3 (va_up (pa k_3) j_i (some k_7))), sl, (nI 0), tn, ts, tg) tt.heap; rw [ht]; exact hM)⟩, hS.F ht⟩) hS.2.2 dX2_lay_218
                      · refine lv_aload_n hx hb dX2_lay_196 rfl (lv_at hl 3 rfl) ?_
                        refine lv_iconst (v := nI 5) hx hb dX2_lay_197 (by decide) ?_
                        refine qc_i (r1 := nI 0) (σ1 := (n, kd, sz, sh, nu, pa, sl, nI 5, tn, ts, tg)) (va_runV (As := [.int (nI 5)]) (rest := []) ⟨hx, hb, hml, hown, hts⟩ (kX2_fails l E mm S n kd sz sh nu pa sl ((nI 0)) tn ts tg hI (nI 5)) (cwV 1 hts gX2_lay_X2_fails rfl rfl rfl (by decide +kernel) ⟨Nat.le_of_ble_eq_true rfl, Nat.le_of_ble_eq_true rfl⟩) (q_preV hK hM hM.1 rfl) rfl rfl hl.1 rfl (lv_room (Nat.le_of_ble_eq_true rfl)) dX2_lay_198 ⟨Nat.le_of_ble_eq_true rfl, Nat.le_of_ble_eq_true rfl⟩) hS rfl rfl (fun H locs hM hS => ?_)
                        have ee : f_lay (n, kd, sz, sh, nu, pa, sl, ft, tn, ts, tg) (nI j_to) (nI j_i) (nI j_fr) = (nI 0, (n, kd, sz, sh, nu, pa, sl, nI 5, tn, ts, tg)) := by first | (simp only [f_lay, ej_to, ej_fr, s_3, s_7, c_26, hgl, c_36, ej_i, c_39]; done) | (simp only [f_lay, ej_to, ej_fr, s_3, s_7, c_26, hgl, c_36, ej_i, c_39]; rfl) | (simp [f_lay, ej_to, ej_fr, s_3, s_7, c_26, hgl, c_36, ej_i, c_39]; done) | (simp [f_lay, ej_to, ej_fr, s_3, s_7, c_26, hgl, c_36, ej_i, c_39]; rfl) | (simp only [f_lay, ej_to, ej_fr, s_3, s_7, c_26, hgl, c_36, ej_i, c_39]; (repeat' split) <;> first | rfl | (exfalso; omega))
                        exact W.iret (v := nI 0) hx hb hr (fun tt ht hW => ⟨⟨nI 0, (n, kd, sz, sh, nu, pa, sl, nI 5, tn, ts, tg), rfl, ⟨(by rw [ee]), (by rw [ee])⟩, (by show q_M E mm S (n, kd, sz, sh, nu, pa, sl, nI 5, tn, ts, tg) tt.heap; rw [ht]; exact hM)⟩, hS.F ht⟩) hS.2.2 dX2_lay_201
                    · have c_37 := q_isn c_37
                      refine lv_aload_n hx hb dX2_lay_164 rfl (lv_at hl 3 rfl) ?_
                      refine lv_iconst (v := nI 3) hx hb dX2_lay_165 (by decide) ?_
                      refine qc_i (r1 := nI 0) (σ1 := (n, kd, sz, sh, nu, pa, sl, nI 3, tn, ts, tg)) (va_runV (As := [.int (nI 3)]) (rest := []) ⟨hx, hb, hml, hown, hts⟩ (kX2_fails l E mm S n kd sz sh nu pa sl ((nI 0)) tn ts tg hI (nI 3)) (cwV 1 hts gX2_lay_X2_fails rfl rfl rfl (by decide +kernel) ⟨Nat.le_of_ble_eq_true rfl, Nat.le_of_ble_eq_true rfl⟩) (q_preV hK hM hM.1 rfl) rfl rfl hl.1 rfl (lv_room (Nat.le_of_ble_eq_true rfl)) dX2_lay_166 ⟨Nat.le_of_ble_eq_true rfl, Nat.le_of_ble_eq_true rfl⟩) hS rfl rfl (fun H locs hM hS => ?_)
                      have ee : f_lay (n, kd, sz, sh, nu, pa, sl, ft, tn, ts, tg) (nI j_to) i (nI j_fr) = (nI 0, (n, kd, sz, sh, nu, pa, sl, nI 3, tn, ts, tg)) := by first | (simp only [f_lay, ej_to, ej_fr, s_3, s_7, c_26, hgl, c_36, c_37]; done) | (simp only [f_lay, ej_to, ej_fr, s_3, s_7, c_26, hgl, c_36, c_37]; rfl) | (simp [f_lay, ej_to, ej_fr, s_3, s_7, c_26, hgl, c_36, c_37]; done) | (simp [f_lay, ej_to, ej_fr, s_3, s_7, c_26, hgl, c_36, c_37]; rfl) | (simp only [f_lay, ej_to, ej_fr, s_3, s_7, c_26, hgl, c_36, c_37]; (repeat' split) <;> first | rfl | (exfalso; omega))
                      exact W.iret (v := nI 0) hx hb hr (fun tt ht hW => ⟨⟨nI 0, (n, kd, sz, sh, nu, pa, sl, nI 3, tn, ts, tg), rfl, ⟨(by rw [ee]), (by rw [ee])⟩, (by show q_M E mm S (n, kd, sz, sh, nu, pa, sl, nI 3, tn, ts, tg) tt.heap; rw [ht]; exact hM)⟩, hS.F ht⟩) hS.2.2 dX2_lay_169
                  · refine lv_aload_n hx hb dX2_lay_139 rfl (lv_at hl 3 rfl) ?_
                    refine lv_iload_n hx hb dX2_lay_140 rfl (lv_at hl 6 rfl) ?_
                    refine lv_iload hx hb dX2_lay_141 (lv_at hl 0 rfl) ?_
                    refine qc_i (r1 := nI 0) (σ1 := (n, kd, sz, sh, nu, pa, sl, nI 1, (tn + 1), nI j_fr, nI 12)) (va_runV (As := [.int (nI j_fr), .int (nI 12)]) (rest := []) ⟨hx, hb, hml, hown, hts⟩ (kX2_turns l E mm S n kd sz sh nu pa sl ((nI 0)) tn ts tg hI (nI j_fr) (nI 12)) (cwV 2 hts gX2_lay_X2_turns rfl rfl rfl (by decide +kernel) ⟨Nat.le_of_ble_eq_true rfl, Nat.le_of_ble_eq_true rfl⟩) (q_preV hK hM hM.1 rfl) rfl rfl hl.1 rfl (lv_room (Nat.le_of_ble_eq_true rfl)) dX2_lay_143 ⟨Nat.le_of_ble_eq_true rfl, Nat.le_of_ble_eq_true rfl⟩) hS rfl rfl (fun H locs hM hS => ?_)
                    have ee : f_lay (n, kd, sz, sh, nu, pa, sl, ft, tn, ts, tg) (nI j_to) i (nI j_fr) = (nI 0, (n, kd, sz, sh, nu, pa, sl, nI 1, (tn + 1), nI j_fr, nI 12)) := by first | (simp only [f_lay, ej_to, ej_fr, s_3, s_7, c_26, hgl, c_36]; done) | (simp only [f_lay, ej_to, ej_fr, s_3, s_7, c_26, hgl, c_36]; rfl) | (simp [f_lay, ej_to, ej_fr, s_3, s_7, c_26, hgl, c_36]; done) | (simp [f_lay, ej_to, ej_fr, s_3, s_7, c_26, hgl, c_36]; rfl) | (simp only [f_lay, ej_to, ej_fr, s_3, s_7, c_26, hgl, c_36]; (repeat' split) <;> first | rfl | (exfalso; omega))
                    exact W.iret (v := nI 0) hx hb hr (fun tt ht hW => ⟨⟨nI 0, (n, kd, sz, sh, nu, pa, sl, nI 1, (tn + 1), nI j_fr, nI 12), rfl, ⟨(by rw [ee]), (by rw [ee])⟩, (by show q_M E mm S (n, kd, sz, sh, nu, pa, sl, nI 1, (tn + 1), nI j_fr, nI 12) tt.heap; rw [ht]; exact hM)⟩, hS.F ht⟩) hS.2.2 dX2_lay_146
                · refine lv_iconst (v := nI 4) hx hb dX2_lay_110 (by decide) ?_
                  refine lv_goto (tgt := 116) hx hb dX2_lay_111 (by decide) ?_
                  have hgl : q_gl (kd k_3) = 4 := by unfold q_gl; first | (rw [if_pos (by omega)]; done) | (rw [if_neg (by omega), if_pos (by omega)]; done) | (rw [if_neg (by omega), if_neg (by omega)]; done)
                  refine lv_istore (lv' := [(6, .int (nI 4)), (5, .int (nI k_7)), (4, .int (nI k_3)), (0, .ref mm), (1, .int (nI j_to)), (2, .int i), (3, .int (nI j_fr))]) hx hb dX2_lay_116 hl (by decide) rfl (fun ls hl => ?_)
                  refine lv_iload hx hb dX2_lay_118 (lv_at hl 1 rfl) ?_
                  refine lv_iconst (v := (-1)) hx hb dX2_lay_120 (by decide) ?_
                  refine lv_icmp_eq (tgt := 147) hx hb dX2_lay_121 (by decide) (fun c_40 => absurd c_40 (q_nm1 (by omega))) (fun _ => ?_)
                  refine lv_aload_n hx hb dX2_lay_124 rfl (lv_at hl 3 rfl) ?_
                  refine qw_get (v := .ref (mm + 1)) (ci := 2) (C := RX2) (T := TX2) (N := 10) hx hb hts nX2_lay_2 hown hK hM.1 rfl 1 (by decide) (hts (.fieldLink RX2 7 "DockGatesModel" "kind" "[I") (by decide +kernel)) rfl rfl dX2_lay_125 ?_
                  refine lv_iload hx hb dX2_lay_128 (lv_at hl 1 rfl) ?_
                  refine qw_iald (f := fun q => nI (kd q)) hx hb hK hM.2.1 (by omega) (by decide) dX2_lay_130 ?_
                  refine lv_iload hx hb dX2_lay_131 (lv_at hl 0 rfl) ?_
                  refine qc_ri (r1 := q_b (q_go (kd k_7) 4)) (W.runS (As := [.int (nI (kd k_7)), .int (nI 4)]) (rest := []) ⟨hx, hb, hml, hown, hts⟩ (kX2_goes l (kd k_7) 4 (by omega) (by omega)) (va_cwS 2 hts gX2_lay_X2_goes rfl rfl rfl (by decide +kernel) ⟨Nat.le_of_ble_eq_true rfl, Nat.le_of_ble_eq_true rfl⟩) preEq rfl rfl hl.1 rfl (lv_room (Nat.le_of_ble_eq_true rfl)) dX2_lay_133 ⟨Nat.le_of_ble_eq_true rfl, Nat.le_of_ble_eq_true rfl⟩) rfl ?_
                  refine ln_b_ne (tgt := 147) hx hb dX2_lay_136 (by decide) (fun c_41 => ?_) (fun c_41 => ?_)
                  · refine lv_iload_n hx hb dX2_lay_147 rfl (lv_at hl 5 rfl) ?_
                    refine lv_iconst (v := nI 0) hx hb dX2_lay_148 (by decide) ?_
                    refine lv_aload_n hx hb dX2_lay_149 rfl (lv_at hl 3 rfl) ?_
                    refine qw_get (v := .ref (mm + 2)) (ci := 2) (C := RX2) (T := TX2) (N := 10) hx hb hts nX2_lay_2 hown hK hM.1 rfl 2 (by decide) (hts (.fieldLink RX2 13 "DockGatesModel" "size" "[I") (by decide +kernel)) rfl rfl dX2_lay_150 ?_
                    refine lv_iload hx hb dX2_lay_153 (lv_at hl 2 rfl) ?_
                    refine qw_iald (f := fun q => nI (sz q)) hx hb hK hM.2.2.1 (by omega) (by decide) dX2_lay_155 ?_
                    refine lv_iconst (v := nI 1) hx hb dX2_lay_156 (by decide) ?_
                    refine lv_isub hx hb dX2_lay_157 ?_
                    refine qc_ri (r1 := q_b ((q_ix i (sz k_3)).isSome)) (W.runS (As := [.int i, .int (nI 0), .int (nI (sz k_3) - nI 1)]) (rest := []) ⟨hx, hb, hml, hown, hts⟩ (kX2_isIn l i (nI 0) ((nI (sz k_3) - nI 1))) (va_cwS 3 hts gX2_lay_X2_isIn rfl rfl rfl (by decide +kernel) ⟨Nat.le_of_ble_eq_true rfl, Nat.le_of_ble_eq_true rfl⟩) preEq rfl rfl hl.1 rfl (lv_room (Nat.le_of_ble_eq_true rfl)) dX2_lay_158 ⟨Nat.le_of_ble_eq_true rfl, Nat.le_of_ble_eq_true rfl⟩) (congrArg q_b (q_in1 _ (by omega))) ?_
                    refine ln_b_ne (tgt := 170) hx hb dX2_lay_161 (by decide) (fun c_42 => ?_) (fun c_42 => ?_)
                    · obtain ⟨j_i, hj_i, rfl⟩ := q_is (by first | decide | omega) c_42
                      have ej_i := q_ix_in hj_i (by first | decide | omega)
                      refine lv_iload hx hb dX2_lay_170 (lv_at hl 1 rfl) ?_
                      refine lv_iconst (v := (-1)) hx hb dX2_lay_172 (by decide) ?_
                      refine lv_icmp_eq (tgt := 202) hx hb dX2_lay_173 (by decide) (fun c_43 => absurd c_43 (q_nm1 (by omega))) (fun _ => ?_)
                      refine lv_aload_n hx hb dX2_lay_176 rfl (lv_at hl 3 rfl) ?_
                      refine qw_get (v := .ref (mm + 1)) (ci := 2) (C := RX2) (T := TX2) (N := 10) hx hb hts nX2_lay_2 hown hK hM.1 rfl 1 (by decide) (hts (.fieldLink RX2 7 "DockGatesModel" "kind" "[I") (by decide +kernel)) rfl rfl dX2_lay_177 ?_
                      refine lv_iload hx hb dX2_lay_180 (lv_at hl 2 rfl) ?_
                      refine qw_iald (f := fun q => nI (kd q)) hx hb hK hM.2.1 (by omega) (by decide) dX2_lay_182 ?_
                      refine lv_aload_n hx hb dX2_lay_183 rfl (lv_at hl 3 rfl) ?_
                      refine qw_get (v := .ref (mm + 1)) (ci := 2) (C := RX2) (T := TX2) (N := 10) hx hb hts nX2_lay_2 hown hK hM.1 rfl 1 (by decide) (hts (.fieldLink RX2 7 "DockGatesModel" "kind" "[I") (by decide +kernel)) rfl rfl dX2_lay_184 ?_
                      refine lv_iload hx hb dX2_lay_187 (lv_at hl 1 rfl) ?_
                      refine qw_iald (f := fun q => nI (kd q)) hx hb hK hM.2.1 (by omega) (by decide) dX2_lay_189 ?_
                      refine qc_ri (r1 := q_b (q_ch (kd k_3) (kd k_7))) (W.runS (As := [.int (nI (kd k_3)), .int (nI (kd k_7))]) (rest := []) ⟨hx, hb, hml, hown, hts⟩ (kX2_canHold l (kd k_3) (kd k_7) (by omega) (by omega)) (va_cwS 2 hts gX2_lay_X2_canHold rfl rfl rfl (by decide +kernel) ⟨Nat.le_of_ble_eq_true rfl, Nat.le_of_ble_eq_true rfl⟩) preEq rfl rfl hl.1 rfl (lv_room (Nat.le_of_ble_eq_true rfl)) dX2_lay_190 ⟨Nat.le_of_ble_eq_true rfl, Nat.le_of_ble_eq_true rfl⟩) rfl ?_
                      refine ln_b_ne (tgt := 202) hx hb dX2_lay_193 (by decide) (fun c_44 => ?_) (fun c_44 => ?_)
                      · refine lv_aload_n hx hb dX2_lay_202 rfl (lv_at hl 3 rfl) ?_
                        refine qw_get (v := .ref (mm + 4)) (ci := 2) (C := RX2) (T := TX2) (N := 10) hx hb hts nX2_lay_2 hown hK hM.1 rfl 4 (by decide) (hts (.fieldLink RX2 20 "DockGatesModel" "cell" "[J") (by decide +kernel)) rfl rfl dX2_lay_203 ?_
                        refine lv_bipush (v := nI 8) hx hb dX2_lay_206 (by decide) ?_
                        refine lv_iload hx hb dX2_lay_208 (lv_at hl 2 rfl) ?_
                        refine ln_mul hx hb dX2_lay_210 ?_
                        refine lv_iload_n hx hb dX2_lay_211 rfl (lv_at hl 5 rfl) ?_
                        refine ln_add hx hb dX2_lay_212 ?_
                        refine lv_iload hx hb dX2_lay_213 (lv_at hl 1 rfl) ?_
                        refine lv_i2l (v := lN k_7) hx hb dX2_lay_215 (nI_l (by first | omega | (simp; omega))) ?_
                        refine qw_last (i := 8 * k_3 + j_i) (A := q_Am mm) hx hb hK hM.2.2.2.2.1 hS ⟨by omega, by omega⟩ (by omega) (by decide) dX2_lay_216 (fun H locs hO hz hq hS => ?_)
                        have hM : q_M E mm S (n, kd, sz, sh, nu, (va_up pa k_3 (va_up (pa k_3) j_i (some k_7))), sl, (nI 0), tn, ts, tg) H := hM.par (by omega) (show 3 ≤ kd k_3 ∧ kd k_3 < 9 by omega) (some k_7) hO hz hq
                        refine lv_iconst (v := nI 1) hx hb dX2_lay_217 (by decide) ?_
                        have ee : f_lay (n, kd, sz, sh, nu, pa, sl, ft, tn, ts, tg) (nI j_to) (nI j_i) (nI j_fr) = (nI 1, (n, kd, sz, sh, nu, (va_up pa k_3 (va_up (pa k_3) j_i (some k_7))), sl, (nI 0), tn, ts, tg)) := by first | (simp only [f_lay, ej_to, ej_fr, s_3, s_7, c_26, hgl, c_41, ej_i, c_44]; done) | (simp only [f_lay, ej_to, ej_fr, s_3, s_7, c_26, hgl, c_41, ej_i, c_44]; rfl) | (simp [f_lay, ej_to, ej_fr, s_3, s_7, c_26, hgl, c_41, ej_i, c_44]; done) | (simp [f_lay, ej_to, ej_fr, s_3, s_7, c_26, hgl, c_41, ej_i, c_44]; rfl) | (simp only [f_lay, ej_to, ej_fr, s_3, s_7, c_26, hgl, c_41, ej_i, c_44]; (repeat' split) <;> first | rfl | (exfalso; omega))
                        exact W.iret (v := nI 1) hx hb hr (fun tt ht hW => ⟨⟨nI 1, (n, kd, sz, sh, nu, (va_up pa k_3 (va_up (pa k_3) j_i (some k_7))), sl, (nI 0), tn, ts, tg), rfl, ⟨(by rw [ee]), (by rw [ee])⟩, (by show q_M E mm S (n, kd, sz, sh, nu, (va_up pa k_3 (va_up (pa k_3) j_i (some k_7))), sl, (nI 0), tn, ts, tg) tt.heap; rw [ht]; exact hM)⟩, hS.F ht⟩) hS.2.2 dX2_lay_218
                      · refine lv_aload_n hx hb dX2_lay_196 rfl (lv_at hl 3 rfl) ?_
                        refine lv_iconst (v := nI 5) hx hb dX2_lay_197 (by decide) ?_
                        refine qc_i (r1 := nI 0) (σ1 := (n, kd, sz, sh, nu, pa, sl, nI 5, tn, ts, tg)) (va_runV (As := [.int (nI 5)]) (rest := []) ⟨hx, hb, hml, hown, hts⟩ (kX2_fails l E mm S n kd sz sh nu pa sl ((nI 0)) tn ts tg hI (nI 5)) (cwV 1 hts gX2_lay_X2_fails rfl rfl rfl (by decide +kernel) ⟨Nat.le_of_ble_eq_true rfl, Nat.le_of_ble_eq_true rfl⟩) (q_preV hK hM hM.1 rfl) rfl rfl hl.1 rfl (lv_room (Nat.le_of_ble_eq_true rfl)) dX2_lay_198 ⟨Nat.le_of_ble_eq_true rfl, Nat.le_of_ble_eq_true rfl⟩) hS rfl rfl (fun H locs hM hS => ?_)
                        have ee : f_lay (n, kd, sz, sh, nu, pa, sl, ft, tn, ts, tg) (nI j_to) (nI j_i) (nI j_fr) = (nI 0, (n, kd, sz, sh, nu, pa, sl, nI 5, tn, ts, tg)) := by first | (simp only [f_lay, ej_to, ej_fr, s_3, s_7, c_26, hgl, c_41, ej_i, c_44]; done) | (simp only [f_lay, ej_to, ej_fr, s_3, s_7, c_26, hgl, c_41, ej_i, c_44]; rfl) | (simp [f_lay, ej_to, ej_fr, s_3, s_7, c_26, hgl, c_41, ej_i, c_44]; done) | (simp [f_lay, ej_to, ej_fr, s_3, s_7, c_26, hgl, c_41, ej_i, c_44]; rfl) | (simp only [f_lay, ej_to, ej_fr, s_3, s_7, c_26, hgl, c_41, ej_i, c_44]; (repeat' split) <;> first | rfl | (exfalso; omega))
                        exact W.iret (v := nI 0) hx hb hr (fun tt ht hW => ⟨⟨nI 0, (n, kd, sz, sh, nu, pa, sl, nI 5, tn, ts, tg), rfl, ⟨(by rw [ee]), (by rw [ee])⟩, (by show q_M E mm S (n, kd, sz, sh, nu, pa, sl, nI 5, tn, ts, tg) tt.heap; rw [ht]; exact hM)⟩, hS.F ht⟩) hS.2.2 dX2_lay_201
                    · have c_42 := q_isn c_42
                      refine lv_aload_n hx hb dX2_lay_164 rfl (lv_at hl 3 rfl) ?_
                      refine lv_iconst (v := nI 3) hx hb dX2_lay_165 (by decide) ?_
                      refine qc_i (r1 := nI 0) (σ1 := (n, kd, sz, sh, nu, pa, sl, nI 3, tn, ts, tg)) (va_runV (As := [.int (nI 3)]) (rest := []) ⟨hx, hb, hml, hown, hts⟩ (kX2_fails l E mm S n kd sz sh nu pa sl ((nI 0)) tn ts tg hI (nI 3)) (cwV 1 hts gX2_lay_X2_fails rfl rfl rfl (by decide +kernel) ⟨Nat.le_of_ble_eq_true rfl, Nat.le_of_ble_eq_true rfl⟩) (q_preV hK hM hM.1 rfl) rfl rfl hl.1 rfl (lv_room (Nat.le_of_ble_eq_true rfl)) dX2_lay_166 ⟨Nat.le_of_ble_eq_true rfl, Nat.le_of_ble_eq_true rfl⟩) hS rfl rfl (fun H locs hM hS => ?_)
                      have ee : f_lay (n, kd, sz, sh, nu, pa, sl, ft, tn, ts, tg) (nI j_to) i (nI j_fr) = (nI 0, (n, kd, sz, sh, nu, pa, sl, nI 3, tn, ts, tg)) := by first | (simp only [f_lay, ej_to, ej_fr, s_3, s_7, c_26, hgl, c_41, c_42]; done) | (simp only [f_lay, ej_to, ej_fr, s_3, s_7, c_26, hgl, c_41, c_42]; rfl) | (simp [f_lay, ej_to, ej_fr, s_3, s_7, c_26, hgl, c_41, c_42]; done) | (simp [f_lay, ej_to, ej_fr, s_3, s_7, c_26, hgl, c_41, c_42]; rfl) | (simp only [f_lay, ej_to, ej_fr, s_3, s_7, c_26, hgl, c_41, c_42]; (repeat' split) <;> first | rfl | (exfalso; omega))
                      exact W.iret (v := nI 0) hx hb hr (fun tt ht hW => ⟨⟨nI 0, (n, kd, sz, sh, nu, pa, sl, nI 3, tn, ts, tg), rfl, ⟨(by rw [ee]), (by rw [ee])⟩, (by show q_M E mm S (n, kd, sz, sh, nu, pa, sl, nI 3, tn, ts, tg) tt.heap; rw [ht]; exact hM)⟩, hS.F ht⟩) hS.2.2 dX2_lay_169
                  · refine lv_aload_n hx hb dX2_lay_139 rfl (lv_at hl 3 rfl) ?_
                    refine lv_iload_n hx hb dX2_lay_140 rfl (lv_at hl 6 rfl) ?_
                    refine lv_iload hx hb dX2_lay_141 (lv_at hl 0 rfl) ?_
                    refine qc_i (r1 := nI 0) (σ1 := (n, kd, sz, sh, nu, pa, sl, nI 1, (tn + 1), nI j_fr, nI 4)) (va_runV (As := [.int (nI j_fr), .int (nI 4)]) (rest := []) ⟨hx, hb, hml, hown, hts⟩ (kX2_turns l E mm S n kd sz sh nu pa sl ((nI 0)) tn ts tg hI (nI j_fr) (nI 4)) (cwV 2 hts gX2_lay_X2_turns rfl rfl rfl (by decide +kernel) ⟨Nat.le_of_ble_eq_true rfl, Nat.le_of_ble_eq_true rfl⟩) (q_preV hK hM hM.1 rfl) rfl rfl hl.1 rfl (lv_room (Nat.le_of_ble_eq_true rfl)) dX2_lay_143 ⟨Nat.le_of_ble_eq_true rfl, Nat.le_of_ble_eq_true rfl⟩) hS rfl rfl (fun H locs hM hS => ?_)
                    have ee : f_lay (n, kd, sz, sh, nu, pa, sl, ft, tn, ts, tg) (nI j_to) i (nI j_fr) = (nI 0, (n, kd, sz, sh, nu, pa, sl, nI 1, (tn + 1), nI j_fr, nI 4)) := by first | (simp only [f_lay, ej_to, ej_fr, s_3, s_7, c_26, hgl, c_41]; done) | (simp only [f_lay, ej_to, ej_fr, s_3, s_7, c_26, hgl, c_41]; rfl) | (simp [f_lay, ej_to, ej_fr, s_3, s_7, c_26, hgl, c_41]; done) | (simp [f_lay, ej_to, ej_fr, s_3, s_7, c_26, hgl, c_41]; rfl) | (simp only [f_lay, ej_to, ej_fr, s_3, s_7, c_26, hgl, c_41]; (repeat' split) <;> first | rfl | (exfalso; omega))
                    exact W.iret (v := nI 0) hx hb hr (fun tt ht hW => ⟨⟨nI 0, (n, kd, sz, sh, nu, pa, sl, nI 1, (tn + 1), nI j_fr, nI 4), rfl, ⟨(by rw [ee]), (by rw [ee])⟩, (by show q_M E mm S (n, kd, sz, sh, nu, pa, sl, nI 1, (tn + 1), nI j_fr, nI 4) tt.heap; rw [ht]; exact hM)⟩, hS.F ht⟩) hS.2.2 dX2_lay_146
            · refine lv_iconst (v := nI 0) hx hb dX2_lay_82 (by decide) ?_
              refine lv_goto (tgt := 116) hx hb dX2_lay_83 (by decide) ?_
              have hgl : q_gl (kd k_3) = 0 := by unfold q_gl; first | (rw [if_pos (by omega)]; done) | (rw [if_neg (by omega), if_pos (by omega)]; done) | (rw [if_neg (by omega), if_neg (by omega)]; done)
              refine lv_istore (lv' := [(6, .int (nI 0)), (5, .int (nI k_7)), (4, .int (nI k_3)), (0, .ref mm), (1, .int (nI j_to)), (2, .int i), (3, .int (nI j_fr))]) hx hb dX2_lay_116 hl (by decide) rfl (fun ls hl => ?_)
              refine lv_iload hx hb dX2_lay_118 (lv_at hl 1 rfl) ?_
              refine lv_iconst (v := (-1)) hx hb dX2_lay_120 (by decide) ?_
              refine lv_icmp_eq (tgt := 147) hx hb dX2_lay_121 (by decide) (fun c_45 => absurd c_45 (q_nm1 (by omega))) (fun _ => ?_)
              refine lv_aload_n hx hb dX2_lay_124 rfl (lv_at hl 3 rfl) ?_
              refine qw_get (v := .ref (mm + 1)) (ci := 2) (C := RX2) (T := TX2) (N := 10) hx hb hts nX2_lay_2 hown hK hM.1 rfl 1 (by decide) (hts (.fieldLink RX2 7 "DockGatesModel" "kind" "[I") (by decide +kernel)) rfl rfl dX2_lay_125 ?_
              refine lv_iload hx hb dX2_lay_128 (lv_at hl 1 rfl) ?_
              refine qw_iald (f := fun q => nI (kd q)) hx hb hK hM.2.1 (by omega) (by decide) dX2_lay_130 ?_
              refine lv_iload hx hb dX2_lay_131 (lv_at hl 0 rfl) ?_
              refine qc_ri (r1 := q_b (q_go (kd k_7) 0)) (W.runS (As := [.int (nI (kd k_7)), .int (nI 0)]) (rest := []) ⟨hx, hb, hml, hown, hts⟩ (kX2_goes l (kd k_7) 0 (by omega) (by omega)) (va_cwS 2 hts gX2_lay_X2_goes rfl rfl rfl (by decide +kernel) ⟨Nat.le_of_ble_eq_true rfl, Nat.le_of_ble_eq_true rfl⟩) preEq rfl rfl hl.1 rfl (lv_room (Nat.le_of_ble_eq_true rfl)) dX2_lay_133 ⟨Nat.le_of_ble_eq_true rfl, Nat.le_of_ble_eq_true rfl⟩) rfl ?_
              refine ln_b_ne (tgt := 147) hx hb dX2_lay_136 (by decide) (fun c_46 => ?_) (fun c_46 => ?_)
              · refine lv_iload_n hx hb dX2_lay_147 rfl (lv_at hl 5 rfl) ?_
                refine lv_iconst (v := nI 0) hx hb dX2_lay_148 (by decide) ?_
                refine lv_aload_n hx hb dX2_lay_149 rfl (lv_at hl 3 rfl) ?_
                refine qw_get (v := .ref (mm + 2)) (ci := 2) (C := RX2) (T := TX2) (N := 10) hx hb hts nX2_lay_2 hown hK hM.1 rfl 2 (by decide) (hts (.fieldLink RX2 13 "DockGatesModel" "size" "[I") (by decide +kernel)) rfl rfl dX2_lay_150 ?_
                refine lv_iload hx hb dX2_lay_153 (lv_at hl 2 rfl) ?_
                refine qw_iald (f := fun q => nI (sz q)) hx hb hK hM.2.2.1 (by omega) (by decide) dX2_lay_155 ?_
                refine lv_iconst (v := nI 1) hx hb dX2_lay_156 (by decide) ?_
                refine lv_isub hx hb dX2_lay_157 ?_
                refine qc_ri (r1 := q_b ((q_ix i (sz k_3)).isSome)) (W.runS (As := [.int i, .int (nI 0), .int (nI (sz k_3) - nI 1)]) (rest := []) ⟨hx, hb, hml, hown, hts⟩ (kX2_isIn l i (nI 0) ((nI (sz k_3) - nI 1))) (va_cwS 3 hts gX2_lay_X2_isIn rfl rfl rfl (by decide +kernel) ⟨Nat.le_of_ble_eq_true rfl, Nat.le_of_ble_eq_true rfl⟩) preEq rfl rfl hl.1 rfl (lv_room (Nat.le_of_ble_eq_true rfl)) dX2_lay_158 ⟨Nat.le_of_ble_eq_true rfl, Nat.le_of_ble_eq_true rfl⟩) (congrArg q_b (q_in1 _ (by omega))) ?_
                refine ln_b_ne (tgt := 170) hx hb dX2_lay_161 (by decide) (fun c_47 => ?_) (fun c_47 => ?_)
                · obtain ⟨j_i, hj_i, rfl⟩ := q_is (by first | decide | omega) c_47
                  have ej_i := q_ix_in hj_i (by first | decide | omega)
                  refine lv_iload hx hb dX2_lay_170 (lv_at hl 1 rfl) ?_
                  refine lv_iconst (v := (-1)) hx hb dX2_lay_172 (by decide) ?_
                  refine lv_icmp_eq (tgt := 202) hx hb dX2_lay_173 (by decide) (fun c_48 => absurd c_48 (q_nm1 (by omega))) (fun _ => ?_)
                  refine lv_aload_n hx hb dX2_lay_176 rfl (lv_at hl 3 rfl) ?_
                  refine qw_get (v := .ref (mm + 1)) (ci := 2) (C := RX2) (T := TX2) (N := 10) hx hb hts nX2_lay_2 hown hK hM.1 rfl 1 (by decide) (hts (.fieldLink RX2 7 "DockGatesModel" "kind" "[I") (by decide +kernel)) rfl rfl dX2_lay_177 ?_
                  refine lv_iload hx hb dX2_lay_180 (lv_at hl 2 rfl) ?_
                  refine qw_iald (f := fun q => nI (kd q)) hx hb hK hM.2.1 (by omega) (by decide) dX2_lay_182 ?_
                  refine lv_aload_n hx hb dX2_lay_183 rfl (lv_at hl 3 rfl) ?_
                  refine qw_get (v := .ref (mm + 1)) (ci := 2) (C := RX2) (T := TX2) (N := 10) hx hb hts nX2_lay_2 hown hK hM.1 rfl 1 (by decide) (hts (.fieldLink RX2 7 "DockGatesModel" "kind" "[I") (by decide +kernel)) rfl rfl dX2_lay_184 ?_
                  refine lv_iload hx hb dX2_lay_187 (lv_at hl 1 rfl) ?_
                  refine qw_iald (f := fun q => nI (kd q)) hx hb hK hM.2.1 (by omega) (by decide) dX2_lay_189 ?_
                  refine qc_ri (r1 := q_b (q_ch (kd k_3) (kd k_7))) (W.runS (As := [.int (nI (kd k_3)), .int (nI (kd k_7))]) (rest := []) ⟨hx, hb, hml, hown, hts⟩ (kX2_canHold l (kd k_3) (kd k_7) (by omega) (by omega)) (va_cwS 2 hts gX2_lay_X2_canHold rfl rfl rfl (by decide +kernel) ⟨Nat.le_of_ble_eq_true rfl, Nat.le_of_ble_eq_true rfl⟩) preEq rfl rfl hl.1 rfl (lv_room (Nat.le_of_ble_eq_true rfl)) dX2_lay_190 ⟨Nat.le_of_ble_eq_true rfl, Nat.le_of_ble_eq_true rfl⟩) rfl ?_
                  refine ln_b_ne (tgt := 202) hx hb dX2_lay_193 (by decide) (fun c_49 => ?_) (fun c_49 => ?_)
                  · refine lv_aload_n hx hb dX2_lay_202 rfl (lv_at hl 3 rfl) ?_
                    refine qw_get (v := .ref (mm + 4)) (ci := 2) (C := RX2) (T := TX2) (N := 10) hx hb hts nX2_lay_2 hown hK hM.1 rfl 4 (by decide) (hts (.fieldLink RX2 20 "DockGatesModel" "cell" "[J") (by decide +kernel)) rfl rfl dX2_lay_203 ?_
                    refine lv_bipush (v := nI 8) hx hb dX2_lay_206 (by decide) ?_
                    refine lv_iload hx hb dX2_lay_208 (lv_at hl 2 rfl) ?_
                    refine ln_mul hx hb dX2_lay_210 ?_
                    refine lv_iload_n hx hb dX2_lay_211 rfl (lv_at hl 5 rfl) ?_
                    refine ln_add hx hb dX2_lay_212 ?_
                    refine lv_iload hx hb dX2_lay_213 (lv_at hl 1 rfl) ?_
                    refine lv_i2l (v := lN k_7) hx hb dX2_lay_215 (nI_l (by first | omega | (simp; omega))) ?_
                    refine qw_last (i := 8 * k_3 + j_i) (A := q_Am mm) hx hb hK hM.2.2.2.2.1 hS ⟨by omega, by omega⟩ (by omega) (by decide) dX2_lay_216 (fun H locs hO hz hq hS => ?_)
                    have hM : q_M E mm S (n, kd, sz, sh, nu, (va_up pa k_3 (va_up (pa k_3) j_i (some k_7))), sl, (nI 0), tn, ts, tg) H := hM.par (by omega) (show 3 ≤ kd k_3 ∧ kd k_3 < 9 by omega) (some k_7) hO hz hq
                    refine lv_iconst (v := nI 1) hx hb dX2_lay_217 (by decide) ?_
                    have ee : f_lay (n, kd, sz, sh, nu, pa, sl, ft, tn, ts, tg) (nI j_to) (nI j_i) (nI j_fr) = (nI 1, (n, kd, sz, sh, nu, (va_up pa k_3 (va_up (pa k_3) j_i (some k_7))), sl, (nI 0), tn, ts, tg)) := by first | (simp only [f_lay, ej_to, ej_fr, s_3, s_7, c_26, hgl, c_46, ej_i, c_49]; done) | (simp only [f_lay, ej_to, ej_fr, s_3, s_7, c_26, hgl, c_46, ej_i, c_49]; rfl) | (simp [f_lay, ej_to, ej_fr, s_3, s_7, c_26, hgl, c_46, ej_i, c_49]; done) | (simp [f_lay, ej_to, ej_fr, s_3, s_7, c_26, hgl, c_46, ej_i, c_49]; rfl) | (simp only [f_lay, ej_to, ej_fr, s_3, s_7, c_26, hgl, c_46, ej_i, c_49]; (repeat' split) <;> first | rfl | (exfalso; omega))
                    exact W.iret (v := nI 1) hx hb hr (fun tt ht hW => ⟨⟨nI 1, (n, kd, sz, sh, nu, (va_up pa k_3 (va_up (pa k_3) j_i (some k_7))), sl, (nI 0), tn, ts, tg), rfl, ⟨(by rw [ee]), (by rw [ee])⟩, (by show q_M E mm S (n, kd, sz, sh, nu, (va_up pa k_3 (va_up (pa k_3) j_i (some k_7))), sl, (nI 0), tn, ts, tg) tt.heap; rw [ht]; exact hM)⟩, hS.F ht⟩) hS.2.2 dX2_lay_218
                  · refine lv_aload_n hx hb dX2_lay_196 rfl (lv_at hl 3 rfl) ?_
                    refine lv_iconst (v := nI 5) hx hb dX2_lay_197 (by decide) ?_
                    refine qc_i (r1 := nI 0) (σ1 := (n, kd, sz, sh, nu, pa, sl, nI 5, tn, ts, tg)) (va_runV (As := [.int (nI 5)]) (rest := []) ⟨hx, hb, hml, hown, hts⟩ (kX2_fails l E mm S n kd sz sh nu pa sl ((nI 0)) tn ts tg hI (nI 5)) (cwV 1 hts gX2_lay_X2_fails rfl rfl rfl (by decide +kernel) ⟨Nat.le_of_ble_eq_true rfl, Nat.le_of_ble_eq_true rfl⟩) (q_preV hK hM hM.1 rfl) rfl rfl hl.1 rfl (lv_room (Nat.le_of_ble_eq_true rfl)) dX2_lay_198 ⟨Nat.le_of_ble_eq_true rfl, Nat.le_of_ble_eq_true rfl⟩) hS rfl rfl (fun H locs hM hS => ?_)
                    have ee : f_lay (n, kd, sz, sh, nu, pa, sl, ft, tn, ts, tg) (nI j_to) (nI j_i) (nI j_fr) = (nI 0, (n, kd, sz, sh, nu, pa, sl, nI 5, tn, ts, tg)) := by first | (simp only [f_lay, ej_to, ej_fr, s_3, s_7, c_26, hgl, c_46, ej_i, c_49]; done) | (simp only [f_lay, ej_to, ej_fr, s_3, s_7, c_26, hgl, c_46, ej_i, c_49]; rfl) | (simp [f_lay, ej_to, ej_fr, s_3, s_7, c_26, hgl, c_46, ej_i, c_49]; done) | (simp [f_lay, ej_to, ej_fr, s_3, s_7, c_26, hgl, c_46, ej_i, c_49]; rfl) | (simp only [f_lay, ej_to, ej_fr, s_3, s_7, c_26, hgl, c_46, ej_i, c_49]; (repeat' split) <;> first | rfl | (exfalso; omega))
                    exact W.iret (v := nI 0) hx hb hr (fun tt ht hW => ⟨⟨nI 0, (n, kd, sz, sh, nu, pa, sl, nI 5, tn, ts, tg), rfl, ⟨(by rw [ee]), (by rw [ee])⟩, (by show q_M E mm S (n, kd, sz, sh, nu, pa, sl, nI 5, tn, ts, tg) tt.heap; rw [ht]; exact hM)⟩, hS.F ht⟩) hS.2.2 dX2_lay_201
                · have c_47 := q_isn c_47
                  refine lv_aload_n hx hb dX2_lay_164 rfl (lv_at hl 3 rfl) ?_
                  refine lv_iconst (v := nI 3) hx hb dX2_lay_165 (by decide) ?_
                  refine qc_i (r1 := nI 0) (σ1 := (n, kd, sz, sh, nu, pa, sl, nI 3, tn, ts, tg)) (va_runV (As := [.int (nI 3)]) (rest := []) ⟨hx, hb, hml, hown, hts⟩ (kX2_fails l E mm S n kd sz sh nu pa sl ((nI 0)) tn ts tg hI (nI 3)) (cwV 1 hts gX2_lay_X2_fails rfl rfl rfl (by decide +kernel) ⟨Nat.le_of_ble_eq_true rfl, Nat.le_of_ble_eq_true rfl⟩) (q_preV hK hM hM.1 rfl) rfl rfl hl.1 rfl (lv_room (Nat.le_of_ble_eq_true rfl)) dX2_lay_166 ⟨Nat.le_of_ble_eq_true rfl, Nat.le_of_ble_eq_true rfl⟩) hS rfl rfl (fun H locs hM hS => ?_)
                  have ee : f_lay (n, kd, sz, sh, nu, pa, sl, ft, tn, ts, tg) (nI j_to) i (nI j_fr) = (nI 0, (n, kd, sz, sh, nu, pa, sl, nI 3, tn, ts, tg)) := by first | (simp only [f_lay, ej_to, ej_fr, s_3, s_7, c_26, hgl, c_46, c_47]; done) | (simp only [f_lay, ej_to, ej_fr, s_3, s_7, c_26, hgl, c_46, c_47]; rfl) | (simp [f_lay, ej_to, ej_fr, s_3, s_7, c_26, hgl, c_46, c_47]; done) | (simp [f_lay, ej_to, ej_fr, s_3, s_7, c_26, hgl, c_46, c_47]; rfl) | (simp only [f_lay, ej_to, ej_fr, s_3, s_7, c_26, hgl, c_46, c_47]; (repeat' split) <;> first | rfl | (exfalso; omega))
                  exact W.iret (v := nI 0) hx hb hr (fun tt ht hW => ⟨⟨nI 0, (n, kd, sz, sh, nu, pa, sl, nI 3, tn, ts, tg), rfl, ⟨(by rw [ee]), (by rw [ee])⟩, (by show q_M E mm S (n, kd, sz, sh, nu, pa, sl, nI 3, tn, ts, tg) tt.heap; rw [ht]; exact hM)⟩, hS.F ht⟩) hS.2.2 dX2_lay_169
              · refine lv_aload_n hx hb dX2_lay_139 rfl (lv_at hl 3 rfl) ?_
                refine lv_iload_n hx hb dX2_lay_140 rfl (lv_at hl 6 rfl) ?_
                refine lv_iload hx hb dX2_lay_141 (lv_at hl 0 rfl) ?_
                refine qc_i (r1 := nI 0) (σ1 := (n, kd, sz, sh, nu, pa, sl, nI 1, (tn + 1), nI j_fr, nI 0)) (va_runV (As := [.int (nI j_fr), .int (nI 0)]) (rest := []) ⟨hx, hb, hml, hown, hts⟩ (kX2_turns l E mm S n kd sz sh nu pa sl ((nI 0)) tn ts tg hI (nI j_fr) (nI 0)) (cwV 2 hts gX2_lay_X2_turns rfl rfl rfl (by decide +kernel) ⟨Nat.le_of_ble_eq_true rfl, Nat.le_of_ble_eq_true rfl⟩) (q_preV hK hM hM.1 rfl) rfl rfl hl.1 rfl (lv_room (Nat.le_of_ble_eq_true rfl)) dX2_lay_143 ⟨Nat.le_of_ble_eq_true rfl, Nat.le_of_ble_eq_true rfl⟩) hS rfl rfl (fun H locs hM hS => ?_)
                have ee : f_lay (n, kd, sz, sh, nu, pa, sl, ft, tn, ts, tg) (nI j_to) i (nI j_fr) = (nI 0, (n, kd, sz, sh, nu, pa, sl, nI 1, (tn + 1), nI j_fr, nI 0)) := by first | (simp only [f_lay, ej_to, ej_fr, s_3, s_7, c_26, hgl, c_46]; done) | (simp only [f_lay, ej_to, ej_fr, s_3, s_7, c_26, hgl, c_46]; rfl) | (simp [f_lay, ej_to, ej_fr, s_3, s_7, c_26, hgl, c_46]; done) | (simp [f_lay, ej_to, ej_fr, s_3, s_7, c_26, hgl, c_46]; rfl) | (simp only [f_lay, ej_to, ej_fr, s_3, s_7, c_26, hgl, c_46]; (repeat' split) <;> first | rfl | (exfalso; omega))
                exact W.iret (v := nI 0) hx hb hr (fun tt ht hW => ⟨⟨nI 0, (n, kd, sz, sh, nu, pa, sl, nI 1, (tn + 1), nI j_fr, nI 0), rfl, ⟨(by rw [ee]), (by rw [ee])⟩, (by show q_M E mm S (n, kd, sz, sh, nu, pa, sl, nI 1, (tn + 1), nI j_fr, nI 0) tt.heap; rw [ht]; exact hM)⟩, hS.F ht⟩) hS.2.2 dX2_lay_146
          · have c_26 := of_decide_eq_false c_26
            refine lv_aload_n hx hb dX2_lay_63 rfl (lv_at hl 2 rfl) ?_
            refine lv_iload_n hx hb dX2_lay_64 rfl (lv_at hl 3 rfl) ?_
            refine lv_bipush (v := nI 6) hx hb dX2_lay_65 (by decide) ?_
            refine qc_i (r1 := nI 0) (σ1 := (n, kd, sz, sh, nu, pa, sl, nI 1, (tn + 1), nI j_to, nI 6)) (va_runV (As := [.int (nI j_to), .int (nI 6)]) (rest := []) ⟨hx, hb, hml, hown, hts⟩ (kX2_turns l E mm S n kd sz sh nu pa sl ((nI 0)) tn ts tg hI (nI j_to) (nI 6)) (cwV 2 hts gX2_lay_X2_turns rfl rfl rfl (by decide +kernel) ⟨Nat.le_of_ble_eq_true rfl, Nat.le_of_ble_eq_true rfl⟩) (q_preV hK hM hM.1 rfl) rfl rfl hl.1 rfl (lv_room (Nat.le_of_ble_eq_true rfl)) dX2_lay_67 ⟨Nat.le_of_ble_eq_true rfl, Nat.le_of_ble_eq_true rfl⟩) hS rfl rfl (fun H locs hM hS => ?_)
            have ee : f_lay (n, kd, sz, sh, nu, pa, sl, ft, tn, ts, tg) (nI j_to) i (nI j_fr) = (nI 0, (n, kd, sz, sh, nu, pa, sl, nI 1, (tn + 1), nI j_to, nI 6)) := by first | (simp only [f_lay, ej_to, ej_fr, s_3, s_7, c_26]; done) | (simp only [f_lay, ej_to, ej_fr, s_3, s_7, c_26]; rfl) | (simp [f_lay, ej_to, ej_fr, s_3, s_7, c_26]; done) | (simp [f_lay, ej_to, ej_fr, s_3, s_7, c_26]; rfl) | (simp only [f_lay, ej_to, ej_fr, s_3, s_7, c_26]; (repeat' split) <;> first | rfl | (exfalso; omega))
            exact W.iret (v := nI 0) hx hb hr (fun tt ht hW => ⟨⟨nI 0, (n, kd, sz, sh, nu, pa, sl, nI 1, (tn + 1), nI j_to, nI 6), rfl, ⟨(by rw [ee]), (by rw [ee])⟩, (by show q_M E mm S (n, kd, sz, sh, nu, pa, sl, nI 1, (tn + 1), nI j_to, nI 6) tt.heap; rw [ht]; exact hM)⟩, hS.F ht⟩) hS.2.2 dX2_lay_70
    · have c_2 := q_isn c_2
      refine lv_bipush (v := (-2)) hx hb dX2_lay_19 (by decide) ?_
      have ee : f_lay (n, kd, sz, sh, nu, pa, sl, ft, tn, ts, tg) (nI j_to) i fr = (((-2)), (n, kd, sz, sh, nu, pa, sl, (nI 0), tn, ts, tg)) := by first | (simp only [f_lay, ej_to, c_2]; done) | (simp only [f_lay, ej_to, c_2]; rfl) | (simp [f_lay, ej_to, c_2]; done) | (simp [f_lay, ej_to, c_2]; rfl) | (simp only [f_lay, ej_to, c_2]; (repeat' split) <;> first | rfl | (exfalso; omega))
      exact W.iret (v := ((-2))) hx hb hr (fun tt ht hW => ⟨⟨((-2)), (n, kd, sz, sh, nu, pa, sl, (nI 0), tn, ts, tg), rfl, ⟨(by rw [ee]), (by rw [ee])⟩, (by show q_M E mm S (n, kd, sz, sh, nu, pa, sl, (nI 0), tn, ts, tg) tt.heap; rw [ht]; exact hM)⟩, hS.F ht⟩) hS.2.2 dX2_lay_21
set_option maxRecDepth 20000 in
theorem nX2_take_2 : ∀ w ∈ u_ws RX2 TX2 10, w ∈ wsX2_take := by decide +kernel
set_option maxHeartbeats 4000000 in
set_option maxRecDepth 100000 in
theorem kX2_take (l : Launch) (E : q_E) (mm S : Nat) (n : Nat) (kd sz : Nat → Nat) (sh : Nat → Bool) (nu : Nat → Nat → Int64) (pa : Nat → Nat → Option Nat) (sl : Nat → Option Nat) (ft tn ts tg : Int32) (hI : q_I (n, kd, sz, sh, nu, pa, sl, ft, tn, ts, tg)) (fr i to : Int32)  : Met l yX2_take wsX2_take ({ frames := 2, cells := 0, slots := 0, locals := 44 }) (q_P E (q_M E mm S (n, kd, sz, sh, nu, pa, sl, ft, tn, ts, tg)) [.ref mm, .int fr, .int i, .int to]) (q_Wi (q_M E mm S) (q_Am mm) ((f_take (n, kd, sz, sh, nu, pa, sl, ft, tn, ts, tg) fr i to).1) (f_take (n, kd, sz, sh, nu, pa, sl, ft, tn, ts, tg) fr i to).2) 0 0 (q_Am mm) := by
  refine Met.ofW (cc := cX2_take) (maxL := 5) (ret := (some .int)) (by decide) rfl ?_
  intro p e s m args below meth c s₁ B hml hv
  obtain ⟨rfl, hK, hM⟩ := hv
  have hx := B.exec
  have hb := B.bytes
  have hr := B.returns
  have hts := atoms_spec (ws := wsX2_take) B.pre
  have hown : s.vm.findClass RX2 = some m.cls := findClass_of_methodNamed B.named
  have hlocks := B.notSynchronized
  have hl := lv_entry ([.ref mm, .int fr, .int i, .int to]) (n := 5) (Nat.le_of_ble_eq_true rfl)
  rw [lg_entry_eq]
  generalize (lg_sl ([.ref mm, .int fr, .int i, .int to]) ++ List.replicate (5 - (lg_sl ([.ref mm, .int fr, .int i, .int to])).length) Slot.unset).toArray = ls at hl ⊢
  have hl : lv_has ls 5 [(0, .ref mm), (1, .int fr), (2, .int i), (3, .int to)] := hl
  have hS : va_S (q_Am mm) s.heap s.heap [] := va_S.rf
  refine lv_aload_n hx hb dX2_take_0 rfl (lv_at hl 0 rfl) ?_
  refine lv_iconst (v := nI 0) hx hb dX2_take_1 (by decide) ?_
  refine qw_put (ci := 2) (C := RX2) (T := TX2) (N := 10) hx hb hts nX2_take_2 tyX2 tyX2_ok nmX2 hown hK hM.1 hS ⟨by omega, by omega⟩ rfl 6 (by decide) (hts (.fieldLink RX2 42 "DockGatesModel" "fault" "I") (by decide +kernel)) rfl rfl rfl rfl (Nat.le_of_ble_eq_true rfl) dX2_take_2 (fun H locs hO hz hq hS => ?_)
  have hM : q_M E mm S (n, kd, sz, sh, nu, pa, sl, (nI 0), tn, ts, tg) H := hM.obj hO hz hq
  refine lv_iload_n hx hb dX2_take_5 rfl (lv_at hl 1 rfl) ?_
  refine qc_ri (r1 := q_b ((q_ix fr 12).isSome)) (W.runS (As := [.int fr]) (rest := []) ⟨hx, hb, hml, hown, hts⟩ (kX2_isSlot l fr) (va_cwS 1 hts gX2_take_X2_isSlot rfl rfl rfl (by decide +kernel) ⟨Nat.le_of_ble_eq_true rfl, Nat.le_of_ble_eq_true rfl⟩) preEq rfl rfl hl.1 rfl (lv_room (Nat.le_of_ble_eq_true rfl)) dX2_take_6 ⟨Nat.le_of_ble_eq_true rfl, Nat.le_of_ble_eq_true rfl⟩) rfl ?_
  refine ln_b_eq (tgt := 19) hx hb dX2_take_9 (by decide) (fun c_1 => ?_) (fun c_1 => ?_)
  · have c_1 := q_isn c_1
    refine lv_bipush (v := (-2)) hx hb dX2_take_19 (by decide) ?_
    have ee : f_take (n, kd, sz, sh, nu, pa, sl, ft, tn, ts, tg) fr i to = (((-2)), (n, kd, sz, sh, nu, pa, sl, (nI 0), tn, ts, tg)) := by first | (simp only [f_take, c_1]; done) | (simp only [f_take, c_1]; rfl) | (simp [f_take, c_1]; done) | (simp [f_take, c_1]; rfl) | (simp only [f_take, c_1]; (repeat' split) <;> first | rfl | (exfalso; omega))
    exact W.iret (v := ((-2))) hx hb hr (fun tt ht hW => ⟨⟨((-2)), (n, kd, sz, sh, nu, pa, sl, (nI 0), tn, ts, tg), rfl, ⟨(by rw [ee]), (by rw [ee])⟩, (by show q_M E mm S (n, kd, sz, sh, nu, pa, sl, (nI 0), tn, ts, tg) tt.heap; rw [ht]; exact hM)⟩, hS.F ht⟩) hS.2.2 dX2_take_21
  · obtain ⟨j_fr, hj_fr, rfl⟩ := q_is (by first | decide | omega) c_1
    have ej_fr := q_ix_in hj_fr (by first | decide | omega)
    refine lv_iload_n hx hb dX2_take_12 rfl (lv_at hl 3 rfl) ?_
    refine qc_ri (r1 := q_b ((q_ix to 12).isSome)) (W.runS (As := [.int to]) (rest := []) ⟨hx, hb, hml, hown, hts⟩ (kX2_isSlot l to) (va_cwS 1 hts gX2_take_X2_isSlot rfl rfl rfl (by decide +kernel) ⟨Nat.le_of_ble_eq_true rfl, Nat.le_of_ble_eq_true rfl⟩) preEq rfl rfl hl.1 rfl (lv_room (Nat.le_of_ble_eq_true rfl)) dX2_take_13 ⟨Nat.le_of_ble_eq_true rfl, Nat.le_of_ble_eq_true rfl⟩) rfl ?_
    refine ln_b_ne (tgt := 22) hx hb dX2_take_16 (by decide) (fun c_2 => ?_) (fun c_2 => ?_)
    · obtain ⟨j_to, hj_to, rfl⟩ := q_is (by first | decide | omega) c_2
      have ej_to := q_ix_in hj_to (by first | decide | omega)
      refine lv_aload_n hx hb dX2_take_22 rfl (lv_at hl 0 rfl) ?_
      refine qw_get (v := .ref (mm + 5)) (ci := 2) (C := RX2) (T := TX2) (N := 10) hx hb hts nX2_take_2 hown hK hM.1 rfl 5 (by decide) (hts (.fieldLink RX2 24 "DockGatesModel" "slots" "[I") (by decide +kernel)) rfl rfl dX2_take_23 ?_
      refine lv_iload_n hx hb dX2_take_26 rfl (lv_at hl 1 rfl) ?_
      refine qm_slot hx hb hK hM hI hj_fr dX2_take_27 (fun s_3 => ?_) (fun k_3 hk_3 s_3 => ?_)
      · try dsimp only at s_3
        refine lv_istore (lv' := [(4, .int ((-1))), (0, .ref mm), (1, .int (nI j_fr)), (2, .int i), (3, .int (nI j_to))]) hx hb dX2_take_28 hl (by decide) rfl (fun ls hl => ?_)
        refine lv_iload hx hb dX2_take_30 (lv_at hl 0 rfl) ?_
        refine lv_iconst (v := (-1)) hx hb dX2_take_32 (by decide) ?_
        refine lv_icmp_ne (tgt := 42) hx hb dX2_take_33 (by decide) (fun c_4 => absurd rfl c_4) (fun _ => ?_)
        refine lv_aload_n hx hb dX2_take_36 rfl (lv_at hl 1 rfl) ?_
        refine lv_iconst (v := nI 2) hx hb dX2_take_37 (by decide) ?_
        refine qc_i (r1 := nI 0) (σ1 := (n, kd, sz, sh, nu, pa, sl, nI 2, tn, ts, tg)) (va_runV (As := [.int (nI 2)]) (rest := []) ⟨hx, hb, hml, hown, hts⟩ (kX2_fails l E mm S n kd sz sh nu pa sl ((nI 0)) tn ts tg hI (nI 2)) (cwV 1 hts gX2_take_X2_fails rfl rfl rfl (by decide +kernel) ⟨Nat.le_of_ble_eq_true rfl, Nat.le_of_ble_eq_true rfl⟩) (q_preV hK hM hM.1 rfl) rfl rfl hl.1 rfl (lv_room (Nat.le_of_ble_eq_true rfl)) dX2_take_38 ⟨Nat.le_of_ble_eq_true rfl, Nat.le_of_ble_eq_true rfl⟩) hS rfl rfl (fun H locs hM hS => ?_)
        have ee : f_take (n, kd, sz, sh, nu, pa, sl, ft, tn, ts, tg) (nI j_fr) i (nI j_to) = (nI 0, (n, kd, sz, sh, nu, pa, sl, nI 2, tn, ts, tg)) := by first | (simp only [f_take, ej_fr, ej_to, s_3]; done) | (simp only [f_take, ej_fr, ej_to, s_3]; rfl) | (simp [f_take, ej_fr, ej_to, s_3]; done) | (simp [f_take, ej_fr, ej_to, s_3]; rfl) | (simp only [f_take, ej_fr, ej_to, s_3]; (repeat' split) <;> first | rfl | (exfalso; omega))
        exact W.iret (v := nI 0) hx hb hr (fun tt ht hW => ⟨⟨nI 0, (n, kd, sz, sh, nu, pa, sl, nI 2, tn, ts, tg), rfl, ⟨(by rw [ee]), (by rw [ee])⟩, (by show q_M E mm S (n, kd, sz, sh, nu, pa, sl, nI 2, tn, ts, tg) tt.heap; rw [ht]; exact hM)⟩, hS.F ht⟩) hS.2.2 dX2_take_41
      · try dsimp only at s_3 hk_3
        obtain ⟨ak_3, bk_3, dk_3, wk_3⟩ := hI.2.1 k_3 hk_3
        have n60 := hI.1
        try dsimp only at ak_3 bk_3 dk_3 wk_3 n60
        refine lv_istore (lv' := [(4, .int (nI k_3)), (0, .ref mm), (1, .int (nI j_fr)), (2, .int i), (3, .int (nI j_to))]) hx hb dX2_take_28 hl (by decide) rfl (fun ls hl => ?_)
        refine lv_iload hx hb dX2_take_30 (lv_at hl 0 rfl) ?_
        refine lv_iconst (v := (-1)) hx hb dX2_take_32 (by decide) ?_
        refine lv_icmp_ne (tgt := 42) hx hb dX2_take_33 (by decide) (fun _ => ?_) (fun c_5 => absurd c_5 (q_nm1 (by omega)))
        refine lv_aload_n hx hb dX2_take_42 rfl (lv_at hl 1 rfl) ?_
        refine qw_get (v := .ref (mm + 1)) (ci := 2) (C := RX2) (T := TX2) (N := 10) hx hb hts nX2_take_2 hown hK hM.1 rfl 1 (by decide) (hts (.fieldLink RX2 7 "DockGatesModel" "kind" "[I") (by decide +kernel)) rfl rfl dX2_take_43 ?_
        refine lv_iload hx hb dX2_take_46 (lv_at hl 0 rfl) ?_
        refine qw_iald (f := fun q => nI (kd q)) hx hb hK hM.2.1 (by omega) (by decide) dX2_take_48 ?_
        refine qc_ri (r1 := q_b (decide (3 ≤ kd k_3 ∧ kd k_3 < 9))) (W.runS (As := [.int (nI (kd k_3))]) (rest := []) ⟨hx, hb, hml, hown, hts⟩ (kX2_holdsThings l (kd k_3) (by omega)) (va_cwS 1 hts gX2_take_X2_holdsThings rfl rfl rfl (by decide +kernel) ⟨Nat.le_of_ble_eq_true rfl, Nat.le_of_ble_eq_true rfl⟩) preEq rfl rfl hl.1 rfl (lv_room (Nat.le_of_ble_eq_true rfl)) dX2_take_49 ⟨Nat.le_of_ble_eq_true rfl, Nat.le_of_ble_eq_true rfl⟩) rfl ?_
        refine ln_b_ne (tgt := 63) hx hb dX2_take_52 (by decide) (fun c_6 => ?_) (fun c_6 => ?_)
        · have c_6 := of_decide_eq_true c_6
          refine lv_iload_n hx hb dX2_take_63 rfl (lv_at hl 3 rfl) ?_
          refine lv_iconst (v := nI 0) hx hb dX2_take_64 (by decide) ?_
          refine lv_aload_n hx hb dX2_take_65 rfl (lv_at hl 1 rfl) ?_
          refine qw_get (v := .ref (mm + 2)) (ci := 2) (C := RX2) (T := TX2) (N := 10) hx hb hts nX2_take_2 hown hK hM.1 rfl 2 (by decide) (hts (.fieldLink RX2 13 "DockGatesModel" "size" "[I") (by decide +kernel)) rfl rfl dX2_take_66 ?_
          refine lv_iload hx hb dX2_take_69 (lv_at hl 0 rfl) ?_
          refine qw_iald (f := fun q => nI (sz q)) hx hb hK hM.2.2.1 (by omega) (by decide) dX2_take_71 ?_
          refine lv_iconst (v := nI 1) hx hb dX2_take_72 (by decide) ?_
          refine lv_isub hx hb dX2_take_73 ?_
          refine qc_ri (r1 := q_b ((q_ix i (sz k_3)).isSome)) (W.runS (As := [.int i, .int (nI 0), .int (nI (sz k_3) - nI 1)]) (rest := []) ⟨hx, hb, hml, hown, hts⟩ (kX2_isIn l i (nI 0) ((nI (sz k_3) - nI 1))) (va_cwS 3 hts gX2_take_X2_isIn rfl rfl rfl (by decide +kernel) ⟨Nat.le_of_ble_eq_true rfl, Nat.le_of_ble_eq_true rfl⟩) preEq rfl rfl hl.1 rfl (lv_room (Nat.le_of_ble_eq_true rfl)) dX2_take_74 ⟨Nat.le_of_ble_eq_true rfl, Nat.le_of_ble_eq_true rfl⟩) (congrArg q_b (q_in1 _ (by omega))) ?_
          refine ln_b_ne (tgt := 86) hx hb dX2_take_77 (by decide) (fun c_7 => ?_) (fun c_7 => ?_)
          · obtain ⟨j_i, hj_i, rfl⟩ := q_is (by first | decide | omega) c_7
            have ej_i := q_ix_in hj_i (by first | decide | omega)
            refine lv_aload_n hx hb dX2_take_86 rfl (lv_at hl 1 rfl) ?_
            refine qw_get (v := .ref (mm + 5)) (ci := 2) (C := RX2) (T := TX2) (N := 10) hx hb hts nX2_take_2 hown hK hM.1 rfl 5 (by decide) (hts (.fieldLink RX2 24 "DockGatesModel" "slots" "[I") (by decide +kernel)) rfl rfl dX2_take_87 ?_
            refine lv_iload_n hx hb dX2_take_90 rfl (lv_at hl 4 rfl) ?_
            refine lv_aload_n hx hb dX2_take_91 rfl (lv_at hl 1 rfl) ?_
            refine qw_get (v := .ref (mm + 4)) (ci := 2) (C := RX2) (T := TX2) (N := 10) hx hb hts nX2_take_2 hown hK hM.1 rfl 4 (by decide) (hts (.fieldLink RX2 20 "DockGatesModel" "cell" "[J") (by decide +kernel)) rfl rfl dX2_take_92 ?_
            refine lv_bipush (v := nI 8) hx hb dX2_take_95 (by decide) ?_
            refine lv_iload hx hb dX2_take_97 (lv_at hl 0 rfl) ?_
            refine ln_mul hx hb dX2_take_99 ?_
            refine lv_iload_n hx hb dX2_take_100 rfl (lv_at hl 3 rfl) ?_
            refine ln_add hx hb dX2_take_101 ?_
            refine qm_part (k := k_3) (i := j_i) hx hb hK hM hI hk_3 (by omega) (show 3 ≤ kd k_3 ∧ kd k_3 < 9 by omega) dX2_take_102 (fun s_8 => ?_) (fun y_8 hy_8 oy_8 s_8 => ?_)
            · try dsimp only at s_8
              refine lv_l2i (v := (-1)) hx hb dX2_take_103 (by decide) ?_
              refine qw_iast (A := q_Am mm) hx hb hK hM.2.2.2.2.2.1 hS ⟨by omega, by omega⟩ hj_to (by decide) dX2_take_104 (fun H locs hO hz hq hS => ?_)
              have hM : q_M E mm S (n, kd, sz, sh, nu, pa, (va_up sl j_to none), (nI 0), tn, ts, tg) H := hM.slot none hO hz hq
              have u_9 : va_up sl j_to none j_to = none := va_up_self _ _ _
              refine lv_aload_n hx hb dX2_take_105 rfl (lv_at hl 1 rfl) ?_
              refine qw_get (v := .ref (mm + 5)) (ci := 2) (C := RX2) (T := TX2) (N := 10) hx hb hts nX2_take_2 hown hK hM.1 rfl 5 (by decide) (hts (.fieldLink RX2 24 "DockGatesModel" "slots" "[I") (by decide +kernel)) rfl rfl dX2_take_106 ?_
              refine lv_iload_n hx hb dX2_take_109 rfl (lv_at hl 4 rfl) ?_
              refine qm_slotN hx hb hK hM u_9 hj_to dX2_take_110 ?_
              have ee : f_take (n, kd, sz, sh, nu, pa, sl, ft, tn, ts, tg) (nI j_fr) (nI j_i) (nI j_to) = (((-1)), (n, kd, sz, sh, nu, pa, (va_up sl j_to none), (nI 0), tn, ts, tg)) := by first | (simp only [f_take, ej_fr, ej_to, s_3, c_6, ej_i, s_8]; done) | (simp only [f_take, ej_fr, ej_to, s_3, c_6, ej_i, s_8]; rfl) | (simp [f_take, ej_fr, ej_to, s_3, c_6, ej_i, s_8]; done) | (simp [f_take, ej_fr, ej_to, s_3, c_6, ej_i, s_8]; rfl) | (simp only [f_take, ej_fr, ej_to, s_3, c_6, ej_i, s_8]; (repeat' split) <;> first | rfl | (exfalso; omega))
              exact W.iret (v := ((-1))) hx hb hr (fun tt ht hW => ⟨⟨((-1)), (n, kd, sz, sh, nu, pa, (va_up sl j_to none), (nI 0), tn, ts, tg), rfl, ⟨(by rw [ee]), (by rw [ee])⟩, (by show q_M E mm S (n, kd, sz, sh, nu, pa, (va_up sl j_to none), (nI 0), tn, ts, tg) tt.heap; rw [ht]; exact hM)⟩, hS.F ht⟩) hS.2.2 dX2_take_111
            · try dsimp only at s_8 hy_8 oy_8
              unfold q_ok at oy_8
              obtain ⟨ay_8, by_8, dy_8, wy_8⟩ := hI.2.1 y_8 hy_8
              have n60 := hI.1
              try dsimp only at ay_8 by_8 dy_8 wy_8 n60
              refine lv_l2i (v := nI y_8) hx hb dX2_take_103 (lN_i _) ?_
              refine qw_iast (A := q_Am mm) hx hb hK hM.2.2.2.2.2.1 hS ⟨by omega, by omega⟩ hj_to (by decide) dX2_take_104 (fun H locs hO hz hq hS => ?_)
              have hM : q_M E mm S (n, kd, sz, sh, nu, pa, (va_up sl j_to (some y_8)), (nI 0), tn, ts, tg) H := hM.slot (some y_8) hO hz hq
              have u_10 : va_up sl j_to (some y_8) j_to = (some y_8) := va_up_self _ _ _
              refine lv_aload_n hx hb dX2_take_105 rfl (lv_at hl 1 rfl) ?_
              refine qw_get (v := .ref (mm + 5)) (ci := 2) (C := RX2) (T := TX2) (N := 10) hx hb hts nX2_take_2 hown hK hM.1 rfl 5 (by decide) (hts (.fieldLink RX2 24 "DockGatesModel" "slots" "[I") (by decide +kernel)) rfl rfl dX2_take_106 ?_
              refine lv_iload_n hx hb dX2_take_109 rfl (lv_at hl 4 rfl) ?_
              refine qm_slotS hx hb hK hM u_10 hj_to dX2_take_110 ?_
              have ee : f_take (n, kd, sz, sh, nu, pa, sl, ft, tn, ts, tg) (nI j_fr) (nI j_i) (nI j_to) = (nI y_8, (n, kd, sz, sh, nu, pa, (va_up sl j_to (some y_8)), (nI 0), tn, ts, tg)) := by first | (simp only [f_take, ej_fr, ej_to, s_3, c_6, ej_i, s_8]; done) | (simp only [f_take, ej_fr, ej_to, s_3, c_6, ej_i, s_8]; rfl) | (simp [f_take, ej_fr, ej_to, s_3, c_6, ej_i, s_8]; done) | (simp [f_take, ej_fr, ej_to, s_3, c_6, ej_i, s_8]; rfl) | (simp only [f_take, ej_fr, ej_to, s_3, c_6, ej_i, s_8]; (repeat' split) <;> first | rfl | (exfalso; omega))
              exact W.iret (v := nI y_8) hx hb hr (fun tt ht hW => ⟨⟨nI y_8, (n, kd, sz, sh, nu, pa, (va_up sl j_to (some y_8)), (nI 0), tn, ts, tg), rfl, ⟨(by rw [ee]), (by rw [ee])⟩, (by show q_M E mm S (n, kd, sz, sh, nu, pa, (va_up sl j_to (some y_8)), (nI 0), tn, ts, tg) tt.heap; rw [ht]; exact hM)⟩, hS.F ht⟩) hS.2.2 dX2_take_111
          · have c_7 := q_isn c_7
            refine lv_aload_n hx hb dX2_take_80 rfl (lv_at hl 1 rfl) ?_
            refine lv_iconst (v := nI 3) hx hb dX2_take_81 (by decide) ?_
            refine qc_i (r1 := nI 0) (σ1 := (n, kd, sz, sh, nu, pa, sl, nI 3, tn, ts, tg)) (va_runV (As := [.int (nI 3)]) (rest := []) ⟨hx, hb, hml, hown, hts⟩ (kX2_fails l E mm S n kd sz sh nu pa sl ((nI 0)) tn ts tg hI (nI 3)) (cwV 1 hts gX2_take_X2_fails rfl rfl rfl (by decide +kernel) ⟨Nat.le_of_ble_eq_true rfl, Nat.le_of_ble_eq_true rfl⟩) (q_preV hK hM hM.1 rfl) rfl rfl hl.1 rfl (lv_room (Nat.le_of_ble_eq_true rfl)) dX2_take_82 ⟨Nat.le_of_ble_eq_true rfl, Nat.le_of_ble_eq_true rfl⟩) hS rfl rfl (fun H locs hM hS => ?_)
            have ee : f_take (n, kd, sz, sh, nu, pa, sl, ft, tn, ts, tg) (nI j_fr) i (nI j_to) = (nI 0, (n, kd, sz, sh, nu, pa, sl, nI 3, tn, ts, tg)) := by first | (simp only [f_take, ej_fr, ej_to, s_3, c_6, c_7]; done) | (simp only [f_take, ej_fr, ej_to, s_3, c_6, c_7]; rfl) | (simp [f_take, ej_fr, ej_to, s_3, c_6, c_7]; done) | (simp [f_take, ej_fr, ej_to, s_3, c_6, c_7]; rfl) | (simp only [f_take, ej_fr, ej_to, s_3, c_6, c_7]; (repeat' split) <;> first | rfl | (exfalso; omega))
            exact W.iret (v := nI 0) hx hb hr (fun tt ht hW => ⟨⟨nI 0, (n, kd, sz, sh, nu, pa, sl, nI 3, tn, ts, tg), rfl, ⟨(by rw [ee]), (by rw [ee])⟩, (by show q_M E mm S (n, kd, sz, sh, nu, pa, sl, nI 3, tn, ts, tg) tt.heap; rw [ht]; exact hM)⟩, hS.F ht⟩) hS.2.2 dX2_take_85
        · have c_6 := of_decide_eq_false c_6
          refine lv_aload_n hx hb dX2_take_55 rfl (lv_at hl 1 rfl) ?_
          refine lv_iload_n hx hb dX2_take_56 rfl (lv_at hl 2 rfl) ?_
          refine lv_bipush (v := nI 6) hx hb dX2_take_57 (by decide) ?_
          refine qc_i (r1 := nI 0) (σ1 := (n, kd, sz, sh, nu, pa, sl, nI 1, (tn + 1), nI j_fr, nI 6)) (va_runV (As := [.int (nI j_fr), .int (nI 6)]) (rest := []) ⟨hx, hb, hml, hown, hts⟩ (kX2_turns l E mm S n kd sz sh nu pa sl ((nI 0)) tn ts tg hI (nI j_fr) (nI 6)) (cwV 2 hts gX2_take_X2_turns rfl rfl rfl (by decide +kernel) ⟨Nat.le_of_ble_eq_true rfl, Nat.le_of_ble_eq_true rfl⟩) (q_preV hK hM hM.1 rfl) rfl rfl hl.1 rfl (lv_room (Nat.le_of_ble_eq_true rfl)) dX2_take_59 ⟨Nat.le_of_ble_eq_true rfl, Nat.le_of_ble_eq_true rfl⟩) hS rfl rfl (fun H locs hM hS => ?_)
          have ee : f_take (n, kd, sz, sh, nu, pa, sl, ft, tn, ts, tg) (nI j_fr) i (nI j_to) = (nI 0, (n, kd, sz, sh, nu, pa, sl, nI 1, (tn + 1), nI j_fr, nI 6)) := by first | (simp only [f_take, ej_fr, ej_to, s_3, c_6]; done) | (simp only [f_take, ej_fr, ej_to, s_3, c_6]; rfl) | (simp [f_take, ej_fr, ej_to, s_3, c_6]; done) | (simp [f_take, ej_fr, ej_to, s_3, c_6]; rfl) | (simp only [f_take, ej_fr, ej_to, s_3, c_6]; (repeat' split) <;> first | rfl | (exfalso; omega))
          exact W.iret (v := nI 0) hx hb hr (fun tt ht hW => ⟨⟨nI 0, (n, kd, sz, sh, nu, pa, sl, nI 1, (tn + 1), nI j_fr, nI 6), rfl, ⟨(by rw [ee]), (by rw [ee])⟩, (by show q_M E mm S (n, kd, sz, sh, nu, pa, sl, nI 1, (tn + 1), nI j_fr, nI 6) tt.heap; rw [ht]; exact hM)⟩, hS.F ht⟩) hS.2.2 dX2_take_62
    · have c_2 := q_isn c_2
      refine lv_bipush (v := (-2)) hx hb dX2_take_19 (by decide) ?_
      have ee : f_take (n, kd, sz, sh, nu, pa, sl, ft, tn, ts, tg) (nI j_fr) i to = (((-2)), (n, kd, sz, sh, nu, pa, sl, (nI 0), tn, ts, tg)) := by first | (simp only [f_take, ej_fr, c_2]; done) | (simp only [f_take, ej_fr, c_2]; rfl) | (simp [f_take, ej_fr, c_2]; done) | (simp [f_take, ej_fr, c_2]; rfl) | (simp only [f_take, ej_fr, c_2]; (repeat' split) <;> first | rfl | (exfalso; omega))
      exact W.iret (v := ((-2))) hx hb hr (fun tt ht hW => ⟨⟨((-2)), (n, kd, sz, sh, nu, pa, sl, (nI 0), tn, ts, tg), rfl, ⟨(by rw [ee]), (by rw [ee])⟩, (by show q_M E mm S (n, kd, sz, sh, nu, pa, sl, (nI 0), tn, ts, tg) tt.heap; rw [ht]; exact hM)⟩, hS.F ht⟩) hS.2.2 dX2_take_21
set_option maxRecDepth 20000 in
theorem nX2_share_2 : ∀ w ∈ u_ws RX2 TX2 10, w ∈ wsX2_share := by decide +kernel
set_option maxHeartbeats 4000000 in
set_option maxRecDepth 100000 in
theorem kX2_share (l : Launch) (E : q_E) (mm S : Nat) (n : Nat) (kd sz : Nat → Nat) (sh : Nat → Bool) (nu : Nat → Nat → Int64) (pa : Nat → Nat → Option Nat) (sl : Nat → Option Nat) (ft tn ts tg : Int32) (hI : q_I (n, kd, sz, sh, nu, pa, sl, ft, tn, ts, tg)) (fr to : Int32)  : Met l yX2_share wsX2_share ({ frames := 2, cells := 0, slots := 0, locals := 42 }) (q_P E (q_M E mm S (n, kd, sz, sh, nu, pa, sl, ft, tn, ts, tg)) [.ref mm, .int fr, .int to]) (q_Wi (q_M E mm S) (q_Am mm) ((f_share (n, kd, sz, sh, nu, pa, sl, ft, tn, ts, tg) fr to).1) (f_share (n, kd, sz, sh, nu, pa, sl, ft, tn, ts, tg) fr to).2) 0 0 (q_Am mm) := by
  refine Met.ofW (cc := cX2_share) (maxL := 3) (ret := (some .int)) (by decide) rfl ?_
  intro p e s m args below meth c s₁ B hml hv
  obtain ⟨rfl, hK, hM⟩ := hv
  have hx := B.exec
  have hb := B.bytes
  have hr := B.returns
  have hts := atoms_spec (ws := wsX2_share) B.pre
  have hown : s.vm.findClass RX2 = some m.cls := findClass_of_methodNamed B.named
  have hlocks := B.notSynchronized
  have hl := lv_entry ([.ref mm, .int fr, .int to]) (n := 3) (Nat.le_of_ble_eq_true rfl)
  rw [lg_entry_eq]
  generalize (lg_sl ([.ref mm, .int fr, .int to]) ++ List.replicate (3 - (lg_sl ([.ref mm, .int fr, .int to])).length) Slot.unset).toArray = ls at hl ⊢
  have hl : lv_has ls 3 [(0, .ref mm), (1, .int fr), (2, .int to)] := hl
  have hS : va_S (q_Am mm) s.heap s.heap [] := va_S.rf
  refine lv_aload_n hx hb dX2_share_0 rfl (lv_at hl 0 rfl) ?_
  refine lv_iconst (v := nI 0) hx hb dX2_share_1 (by decide) ?_
  refine qw_put (ci := 2) (C := RX2) (T := TX2) (N := 10) hx hb hts nX2_share_2 tyX2 tyX2_ok nmX2 hown hK hM.1 hS ⟨by omega, by omega⟩ rfl 6 (by decide) (hts (.fieldLink RX2 42 "DockGatesModel" "fault" "I") (by decide +kernel)) rfl rfl rfl rfl (Nat.le_of_ble_eq_true rfl) dX2_share_2 (fun H locs hO hz hq hS => ?_)
  have hM : q_M E mm S (n, kd, sz, sh, nu, pa, sl, (nI 0), tn, ts, tg) H := hM.obj hO hz hq
  refine lv_iload_n hx hb dX2_share_5 rfl (lv_at hl 1 rfl) ?_
  refine qc_ri (r1 := q_b ((q_ix fr 12).isSome)) (W.runS (As := [.int fr]) (rest := []) ⟨hx, hb, hml, hown, hts⟩ (kX2_isSlot l fr) (va_cwS 1 hts gX2_share_X2_isSlot rfl rfl rfl (by decide +kernel) ⟨Nat.le_of_ble_eq_true rfl, Nat.le_of_ble_eq_true rfl⟩) preEq rfl rfl hl.1 rfl (lv_room (Nat.le_of_ble_eq_true rfl)) dX2_share_6 ⟨Nat.le_of_ble_eq_true rfl, Nat.le_of_ble_eq_true rfl⟩) rfl ?_
  refine ln_b_eq (tgt := 19) hx hb dX2_share_9 (by decide) (fun c_1 => ?_) (fun c_1 => ?_)
  · have c_1 := q_isn c_1
    refine lv_bipush (v := (-2)) hx hb dX2_share_19 (by decide) ?_
    have ee : f_share (n, kd, sz, sh, nu, pa, sl, ft, tn, ts, tg) fr to = (((-2)), (n, kd, sz, sh, nu, pa, sl, (nI 0), tn, ts, tg)) := by first | (simp only [f_share, c_1]; done) | (simp only [f_share, c_1]; rfl) | (simp [f_share, c_1]; done) | (simp [f_share, c_1]; rfl) | (simp only [f_share, c_1]; (repeat' split) <;> first | rfl | (exfalso; omega))
    exact W.iret (v := ((-2))) hx hb hr (fun tt ht hW => ⟨⟨((-2)), (n, kd, sz, sh, nu, pa, sl, (nI 0), tn, ts, tg), rfl, ⟨(by rw [ee]), (by rw [ee])⟩, (by show q_M E mm S (n, kd, sz, sh, nu, pa, sl, (nI 0), tn, ts, tg) tt.heap; rw [ht]; exact hM)⟩, hS.F ht⟩) hS.2.2 dX2_share_21
  · obtain ⟨j_fr, hj_fr, rfl⟩ := q_is (by first | decide | omega) c_1
    have ej_fr := q_ix_in hj_fr (by first | decide | omega)
    refine lv_iload_n hx hb dX2_share_12 rfl (lv_at hl 2 rfl) ?_
    refine qc_ri (r1 := q_b ((q_ix to 12).isSome)) (W.runS (As := [.int to]) (rest := []) ⟨hx, hb, hml, hown, hts⟩ (kX2_isSlot l to) (va_cwS 1 hts gX2_share_X2_isSlot rfl rfl rfl (by decide +kernel) ⟨Nat.le_of_ble_eq_true rfl, Nat.le_of_ble_eq_true rfl⟩) preEq rfl rfl hl.1 rfl (lv_room (Nat.le_of_ble_eq_true rfl)) dX2_share_13 ⟨Nat.le_of_ble_eq_true rfl, Nat.le_of_ble_eq_true rfl⟩) rfl ?_
    refine ln_b_ne (tgt := 22) hx hb dX2_share_16 (by decide) (fun c_2 => ?_) (fun c_2 => ?_)
    · obtain ⟨j_to, hj_to, rfl⟩ := q_is (by first | decide | omega) c_2
      have ej_to := q_ix_in hj_to (by first | decide | omega)
      refine lv_aload_n hx hb dX2_share_22 rfl (lv_at hl 0 rfl) ?_
      refine qw_get (v := .ref (mm + 5)) (ci := 2) (C := RX2) (T := TX2) (N := 10) hx hb hts nX2_share_2 hown hK hM.1 rfl 5 (by decide) (hts (.fieldLink RX2 24 "DockGatesModel" "slots" "[I") (by decide +kernel)) rfl rfl dX2_share_23 ?_
      refine lv_iload_n hx hb dX2_share_26 rfl (lv_at hl 2 rfl) ?_
      refine lv_aload_n hx hb dX2_share_27 rfl (lv_at hl 0 rfl) ?_
      refine qw_get (v := .ref (mm + 5)) (ci := 2) (C := RX2) (T := TX2) (N := 10) hx hb hts nX2_share_2 hown hK hM.1 rfl 5 (by decide) (hts (.fieldLink RX2 24 "DockGatesModel" "slots" "[I") (by decide +kernel)) rfl rfl dX2_share_28 ?_
      refine lv_iload_n hx hb dX2_share_31 rfl (lv_at hl 1 rfl) ?_
      refine qm_slot hx hb hK hM hI hj_fr dX2_share_32 (fun s_3 => ?_) (fun k_3 hk_3 s_3 => ?_)
      · try dsimp only at s_3
        refine qw_iast (A := q_Am mm) hx hb hK hM.2.2.2.2.2.1 hS ⟨by omega, by omega⟩ hj_to (by decide) dX2_share_33 (fun H locs hO hz hq hS => ?_)
        have hM : q_M E mm S (n, kd, sz, sh, nu, pa, (va_up sl j_to none), (nI 0), tn, ts, tg) H := hM.slot none hO hz hq
        have u_4 : va_up sl j_to none j_to = none := va_up_self _ _ _
        refine lv_aload_n hx hb dX2_share_34 rfl (lv_at hl 0 rfl) ?_
        refine qw_get (v := .ref (mm + 5)) (ci := 2) (C := RX2) (T := TX2) (N := 10) hx hb hts nX2_share_2 hown hK hM.1 rfl 5 (by decide) (hts (.fieldLink RX2 24 "DockGatesModel" "slots" "[I") (by decide +kernel)) rfl rfl dX2_share_35 ?_
        refine lv_iload_n hx hb dX2_share_38 rfl (lv_at hl 2 rfl) ?_
        refine qm_slotN hx hb hK hM u_4 hj_to dX2_share_39 ?_
        have ee : f_share (n, kd, sz, sh, nu, pa, sl, ft, tn, ts, tg) (nI j_fr) (nI j_to) = (((-1)), (n, kd, sz, sh, nu, pa, (va_up sl j_to none), (nI 0), tn, ts, tg)) := by first | (simp only [f_share, ej_fr, ej_to, s_3]; done) | (simp only [f_share, ej_fr, ej_to, s_3]; rfl) | (simp [f_share, ej_fr, ej_to, s_3]; done) | (simp [f_share, ej_fr, ej_to, s_3]; rfl) | (simp only [f_share, ej_fr, ej_to, s_3]; (repeat' split) <;> first | rfl | (exfalso; omega))
        exact W.iret (v := ((-1))) hx hb hr (fun tt ht hW => ⟨⟨((-1)), (n, kd, sz, sh, nu, pa, (va_up sl j_to none), (nI 0), tn, ts, tg), rfl, ⟨(by rw [ee]), (by rw [ee])⟩, (by show q_M E mm S (n, kd, sz, sh, nu, pa, (va_up sl j_to none), (nI 0), tn, ts, tg) tt.heap; rw [ht]; exact hM)⟩, hS.F ht⟩) hS.2.2 dX2_share_40
      · try dsimp only at s_3 hk_3
        obtain ⟨ak_3, bk_3, dk_3, wk_3⟩ := hI.2.1 k_3 hk_3
        have n60 := hI.1
        try dsimp only at ak_3 bk_3 dk_3 wk_3 n60
        refine qw_iast (A := q_Am mm) hx hb hK hM.2.2.2.2.2.1 hS ⟨by omega, by omega⟩ hj_to (by decide) dX2_share_33 (fun H locs hO hz hq hS => ?_)
        have hM : q_M E mm S (n, kd, sz, sh, nu, pa, (va_up sl j_to (some k_3)), (nI 0), tn, ts, tg) H := hM.slot (some k_3) hO hz hq
        have u_5 : va_up sl j_to (some k_3) j_to = (some k_3) := va_up_self _ _ _
        refine lv_aload_n hx hb dX2_share_34 rfl (lv_at hl 0 rfl) ?_
        refine qw_get (v := .ref (mm + 5)) (ci := 2) (C := RX2) (T := TX2) (N := 10) hx hb hts nX2_share_2 hown hK hM.1 rfl 5 (by decide) (hts (.fieldLink RX2 24 "DockGatesModel" "slots" "[I") (by decide +kernel)) rfl rfl dX2_share_35 ?_
        refine lv_iload_n hx hb dX2_share_38 rfl (lv_at hl 2 rfl) ?_
        refine qm_slotS hx hb hK hM u_5 hj_to dX2_share_39 ?_
        have ee : f_share (n, kd, sz, sh, nu, pa, sl, ft, tn, ts, tg) (nI j_fr) (nI j_to) = (nI k_3, (n, kd, sz, sh, nu, pa, (va_up sl j_to (some k_3)), (nI 0), tn, ts, tg)) := by first | (simp only [f_share, ej_fr, ej_to, s_3]; done) | (simp only [f_share, ej_fr, ej_to, s_3]; rfl) | (simp [f_share, ej_fr, ej_to, s_3]; done) | (simp [f_share, ej_fr, ej_to, s_3]; rfl) | (simp only [f_share, ej_fr, ej_to, s_3]; (repeat' split) <;> first | rfl | (exfalso; omega))
        exact W.iret (v := nI k_3) hx hb hr (fun tt ht hW => ⟨⟨nI k_3, (n, kd, sz, sh, nu, pa, (va_up sl j_to (some k_3)), (nI 0), tn, ts, tg), rfl, ⟨(by rw [ee]), (by rw [ee])⟩, (by show q_M E mm S (n, kd, sz, sh, nu, pa, (va_up sl j_to (some k_3)), (nI 0), tn, ts, tg) tt.heap; rw [ht]; exact hM)⟩, hS.F ht⟩) hS.2.2 dX2_share_40
    · have c_2 := q_isn c_2
      refine lv_bipush (v := (-2)) hx hb dX2_share_19 (by decide) ?_
      have ee : f_share (n, kd, sz, sh, nu, pa, sl, ft, tn, ts, tg) (nI j_fr) to = (((-2)), (n, kd, sz, sh, nu, pa, sl, (nI 0), tn, ts, tg)) := by first | (simp only [f_share, ej_fr, c_2]; done) | (simp only [f_share, ej_fr, c_2]; rfl) | (simp [f_share, ej_fr, c_2]; done) | (simp [f_share, ej_fr, c_2]; rfl) | (simp only [f_share, ej_fr, c_2]; (repeat' split) <;> first | rfl | (exfalso; omega))
      exact W.iret (v := ((-2))) hx hb hr (fun tt ht hW => ⟨⟨((-2)), (n, kd, sz, sh, nu, pa, sl, (nI 0), tn, ts, tg), rfl, ⟨(by rw [ee]), (by rw [ee])⟩, (by show q_M E mm S (n, kd, sz, sh, nu, pa, sl, (nI 0), tn, ts, tg) tt.heap; rw [ht]; exact hM)⟩, hS.F ht⟩) hS.2.2 dX2_share_21
set_option maxRecDepth 20000 in
theorem nX2_empty_2 : ∀ w ∈ u_ws RX2 TX2 10, w ∈ wsX2_empty := by decide +kernel
set_option maxHeartbeats 4000000 in
set_option maxRecDepth 100000 in
theorem kX2_empty (l : Launch) (E : q_E) (mm S : Nat) (n : Nat) (kd sz : Nat → Nat) (sh : Nat → Bool) (nu : Nat → Nat → Int64) (pa : Nat → Nat → Option Nat) (sl : Nat → Option Nat) (ft tn ts tg : Int32) (hI : q_I (n, kd, sz, sh, nu, pa, sl, ft, tn, ts, tg)) (slot : Int32)  : Met l yX2_empty wsX2_empty ({ frames := 2, cells := 0, slots := 0, locals := 42 }) (q_P E (q_M E mm S (n, kd, sz, sh, nu, pa, sl, ft, tn, ts, tg)) [.ref mm, .int slot]) (q_Wi (q_M E mm S) (q_Am mm) ((f_empty (n, kd, sz, sh, nu, pa, sl, ft, tn, ts, tg) slot).1) (f_empty (n, kd, sz, sh, nu, pa, sl, ft, tn, ts, tg) slot).2) 0 0 (q_Am mm) := by
  refine Met.ofW (cc := cX2_empty) (maxL := 3) (ret := (some .int)) (by decide) rfl ?_
  intro p e s m args below meth c s₁ B hml hv
  obtain ⟨rfl, hK, hM⟩ := hv
  have hx := B.exec
  have hb := B.bytes
  have hr := B.returns
  have hts := atoms_spec (ws := wsX2_empty) B.pre
  have hown : s.vm.findClass RX2 = some m.cls := findClass_of_methodNamed B.named
  have hlocks := B.notSynchronized
  have hl := lv_entry ([.ref mm, .int slot]) (n := 3) (Nat.le_of_ble_eq_true rfl)
  rw [lg_entry_eq]
  generalize (lg_sl ([.ref mm, .int slot]) ++ List.replicate (3 - (lg_sl ([.ref mm, .int slot])).length) Slot.unset).toArray = ls at hl ⊢
  have hl : lv_has ls 3 [(0, .ref mm), (1, .int slot)] := hl
  have hS : va_S (q_Am mm) s.heap s.heap [] := va_S.rf
  refine lv_aload_n hx hb dX2_empty_0 rfl (lv_at hl 0 rfl) ?_
  refine lv_iconst (v := nI 0) hx hb dX2_empty_1 (by decide) ?_
  refine qw_put (ci := 2) (C := RX2) (T := TX2) (N := 10) hx hb hts nX2_empty_2 tyX2 tyX2_ok nmX2 hown hK hM.1 hS ⟨by omega, by omega⟩ rfl 6 (by decide) (hts (.fieldLink RX2 42 "DockGatesModel" "fault" "I") (by decide +kernel)) rfl rfl rfl rfl (Nat.le_of_ble_eq_true rfl) dX2_empty_2 (fun H locs hO hz hq hS => ?_)
  have hM : q_M E mm S (n, kd, sz, sh, nu, pa, sl, (nI 0), tn, ts, tg) H := hM.obj hO hz hq
  refine lv_iload_n hx hb dX2_empty_5 rfl (lv_at hl 1 rfl) ?_
  refine qc_ri (r1 := q_b ((q_ix slot 12).isSome)) (W.runS (As := [.int slot]) (rest := []) ⟨hx, hb, hml, hown, hts⟩ (kX2_isSlot l slot) (va_cwS 1 hts gX2_empty_X2_isSlot rfl rfl rfl (by decide +kernel) ⟨Nat.le_of_ble_eq_true rfl, Nat.le_of_ble_eq_true rfl⟩) preEq rfl rfl hl.1 rfl (lv_room (Nat.le_of_ble_eq_true rfl)) dX2_empty_6 ⟨Nat.le_of_ble_eq_true rfl, Nat.le_of_ble_eq_true rfl⟩) rfl ?_
  refine ln_b_ne (tgt := 15) hx hb dX2_empty_9 (by decide) (fun c_1 => ?_) (fun c_1 => ?_)
  · obtain ⟨j_slot, hj_slot, rfl⟩ := q_is (by first | decide | omega) c_1
    have ej_slot := q_ix_in hj_slot (by first | decide | omega)
    refine lv_aload_n hx hb dX2_empty_15 rfl (lv_at hl 0 rfl) ?_
    refine qw_get (v := .ref (mm + 5)) (ci := 2) (C := RX2) (T := TX2) (N := 10) hx hb hts nX2_empty_2 hown hK hM.1 rfl 5 (by decide) (hts (.fieldLink RX2 24 "DockGatesModel" "slots" "[I") (by decide +kernel)) rfl rfl dX2_empty_16 ?_
    refine lv_iload_n hx hb dX2_empty_19 rfl (lv_at hl 1 rfl) ?_
    refine qm_slot hx hb hK hM hI hj_slot dX2_empty_20 (fun s_2 => ?_) (fun k_2 hk_2 s_2 => ?_)
    · try dsimp only at s_2
      refine lv_istore_n (lv' := [(2, .int ((-1))), (0, .ref mm), (1, .int (nI j_slot))]) hx hb dX2_empty_21 rfl hl (by decide) rfl (fun ls hl => ?_)
      refine lv_aload_n hx hb dX2_empty_22 rfl (lv_at hl 1 rfl) ?_
      refine qw_get (v := .ref (mm + 5)) (ci := 2) (C := RX2) (T := TX2) (N := 10) hx hb hts nX2_empty_2 hown hK hM.1 rfl 5 (by decide) (hts (.fieldLink RX2 24 "DockGatesModel" "slots" "[I") (by decide +kernel)) rfl rfl dX2_empty_23 ?_
      refine lv_iload_n hx hb dX2_empty_26 rfl (lv_at hl 2 rfl) ?_
      refine lv_iconst (v := (-1)) hx hb dX2_empty_27 (by decide) ?_
      refine qw_iast (A := q_Am mm) hx hb hK hM.2.2.2.2.2.1 hS ⟨by omega, by omega⟩ hj_slot (by decide) dX2_empty_28 (fun H locs hO hz hq hS => ?_)
      have hM : q_M E mm S (n, kd, sz, sh, nu, pa, (va_up sl j_slot none), (nI 0), tn, ts, tg) H := hM.slot none hO hz hq
      have u_3 : va_up sl j_slot none j_slot = none := va_up_self _ _ _
      refine lv_iload_n hx hb dX2_empty_29 rfl (lv_at hl 0 rfl) ?_
      have ee : f_empty (n, kd, sz, sh, nu, pa, sl, ft, tn, ts, tg) (nI j_slot) = (((-1)), (n, kd, sz, sh, nu, pa, (va_up sl j_slot none), (nI 0), tn, ts, tg)) := by first | (simp only [f_empty, ej_slot, s_2]; done) | (simp only [f_empty, ej_slot, s_2]; rfl) | (simp [f_empty, ej_slot, s_2]; done) | (simp [f_empty, ej_slot, s_2]; rfl) | (simp only [f_empty, ej_slot, s_2]; (repeat' split) <;> first | rfl | (exfalso; omega))
      exact W.iret (v := ((-1))) hx hb hr (fun tt ht hW => ⟨⟨((-1)), (n, kd, sz, sh, nu, pa, (va_up sl j_slot none), (nI 0), tn, ts, tg), rfl, ⟨(by rw [ee]), (by rw [ee])⟩, (by show q_M E mm S (n, kd, sz, sh, nu, pa, (va_up sl j_slot none), (nI 0), tn, ts, tg) tt.heap; rw [ht]; exact hM)⟩, hS.F ht⟩) hS.2.2 dX2_empty_30
    · try dsimp only at s_2 hk_2
      obtain ⟨ak_2, bk_2, dk_2, wk_2⟩ := hI.2.1 k_2 hk_2
      have n60 := hI.1
      try dsimp only at ak_2 bk_2 dk_2 wk_2 n60
      refine lv_istore_n (lv' := [(2, .int (nI k_2)), (0, .ref mm), (1, .int (nI j_slot))]) hx hb dX2_empty_21 rfl hl (by decide) rfl (fun ls hl => ?_)
      refine lv_aload_n hx hb dX2_empty_22 rfl (lv_at hl 1 rfl) ?_
      refine qw_get (v := .ref (mm + 5)) (ci := 2) (C := RX2) (T := TX2) (N := 10) hx hb hts nX2_empty_2 hown hK hM.1 rfl 5 (by decide) (hts (.fieldLink RX2 24 "DockGatesModel" "slots" "[I") (by decide +kernel)) rfl rfl dX2_empty_23 ?_
      refine lv_iload_n hx hb dX2_empty_26 rfl (lv_at hl 2 rfl) ?_
      refine lv_iconst (v := (-1)) hx hb dX2_empty_27 (by decide) ?_
      refine qw_iast (A := q_Am mm) hx hb hK hM.2.2.2.2.2.1 hS ⟨by omega, by omega⟩ hj_slot (by decide) dX2_empty_28 (fun H locs hO hz hq hS => ?_)
      have hM : q_M E mm S (n, kd, sz, sh, nu, pa, (va_up sl j_slot none), (nI 0), tn, ts, tg) H := hM.slot none hO hz hq
      have u_4 : va_up sl j_slot none j_slot = none := va_up_self _ _ _
      refine lv_iload_n hx hb dX2_empty_29 rfl (lv_at hl 0 rfl) ?_
      have ee : f_empty (n, kd, sz, sh, nu, pa, sl, ft, tn, ts, tg) (nI j_slot) = (nI k_2, (n, kd, sz, sh, nu, pa, (va_up sl j_slot none), (nI 0), tn, ts, tg)) := by first | (simp only [f_empty, ej_slot, s_2]; done) | (simp only [f_empty, ej_slot, s_2]; rfl) | (simp [f_empty, ej_slot, s_2]; done) | (simp [f_empty, ej_slot, s_2]; rfl) | (simp only [f_empty, ej_slot, s_2]; (repeat' split) <;> first | rfl | (exfalso; omega))
      exact W.iret (v := nI k_2) hx hb hr (fun tt ht hW => ⟨⟨nI k_2, (n, kd, sz, sh, nu, pa, (va_up sl j_slot none), (nI 0), tn, ts, tg), rfl, ⟨(by rw [ee]), (by rw [ee])⟩, (by show q_M E mm S (n, kd, sz, sh, nu, pa, (va_up sl j_slot none), (nI 0), tn, ts, tg) tt.heap; rw [ht]; exact hM)⟩, hS.F ht⟩) hS.2.2 dX2_empty_30
  · have c_1 := q_isn c_1
    refine lv_bipush (v := (-2)) hx hb dX2_empty_12 (by decide) ?_
    have ee : f_empty (n, kd, sz, sh, nu, pa, sl, ft, tn, ts, tg) slot = (((-2)), (n, kd, sz, sh, nu, pa, sl, (nI 0), tn, ts, tg)) := by first | (simp only [f_empty, c_1]; done) | (simp only [f_empty, c_1]; rfl) | (simp [f_empty, c_1]; done) | (simp [f_empty, c_1]; rfl) | (simp only [f_empty, c_1]; (repeat' split) <;> first | rfl | (exfalso; omega))
    exact W.iret (v := ((-2))) hx hb hr (fun tt ht hW => ⟨⟨((-2)), (n, kd, sz, sh, nu, pa, sl, (nI 0), tn, ts, tg), rfl, ⟨(by rw [ee]), (by rw [ee])⟩, (by show q_M E mm S (n, kd, sz, sh, nu, pa, sl, (nI 0), tn, ts, tg) tt.heap; rw [ht]; exact hM)⟩, hS.F ht⟩) hS.2.2 dX2_empty_14
set_option maxRecDepth 20000 in
theorem nX2_lid_2 : ∀ w ∈ u_ws RX2 TX2 10, w ∈ wsX2_lid := by decide +kernel
set_option maxHeartbeats 4000000 in
set_option maxRecDepth 100000 in
theorem kX2_lid (l : Launch) (E : q_E) (mm S : Nat) (n : Nat) (kd sz : Nat → Nat) (sh : Nat → Bool) (nu : Nat → Nat → Int64) (pa : Nat → Nat → Option Nat) (sl : Nat → Option Nat) (ft tn ts tg : Int32) (hI : q_I (n, kd, sz, sh, nu, pa, sl, ft, tn, ts, tg)) (slot : Int32) (b : Bool)  : Met l yX2_lid wsX2_lid ({ frames := 3, cells := 0, slots := 0, locals := 66 }) (q_P E (q_M E mm S (n, kd, sz, sh, nu, pa, sl, ft, tn, ts, tg)) [.ref mm, .int slot, .int (q_b b)]) (q_Wi (q_M E mm S) (q_Am mm) ((f_lid (n, kd, sz, sh, nu, pa, sl, ft, tn, ts, tg) slot b).1) (f_lid (n, kd, sz, sh, nu, pa, sl, ft, tn, ts, tg) slot b).2) 0 0 (q_Am mm) := by
  refine Met.ofW (cc := cX2_lid) (maxL := 4) (ret := (some .int)) (by decide) rfl ?_
  intro p e s m args below meth c s₁ B hml hv
  obtain ⟨rfl, hK, hM⟩ := hv
  have hx := B.exec
  have hb := B.bytes
  have hr := B.returns
  have hts := atoms_spec (ws := wsX2_lid) B.pre
  have hown : s.vm.findClass RX2 = some m.cls := findClass_of_methodNamed B.named
  have hlocks := B.notSynchronized
  have hl := lv_entry ([.ref mm, .int slot, .int (q_b b)]) (n := 4) (Nat.le_of_ble_eq_true rfl)
  rw [lg_entry_eq]
  generalize (lg_sl ([.ref mm, .int slot, .int (q_b b)]) ++ List.replicate (4 - (lg_sl ([.ref mm, .int slot, .int (q_b b)])).length) Slot.unset).toArray = ls at hl ⊢
  have hl : lv_has ls 4 [(0, .ref mm), (1, .int slot), (2, .int (q_b b))] := hl
  have hS : va_S (q_Am mm) s.heap s.heap [] := va_S.rf
  refine lv_aload_n hx hb dX2_lid_0 rfl (lv_at hl 0 rfl) ?_
  refine lv_iconst (v := nI 0) hx hb dX2_lid_1 (by decide) ?_
  refine qw_put (ci := 2) (C := RX2) (T := TX2) (N := 10) hx hb hts nX2_lid_2 tyX2 tyX2_ok nmX2 hown hK hM.1 hS ⟨by omega, by omega⟩ rfl 6 (by decide) (hts (.fieldLink RX2 42 "DockGatesModel" "fault" "I") (by decide +kernel)) rfl rfl rfl rfl (Nat.le_of_ble_eq_true rfl) dX2_lid_2 (fun H locs hO hz hq hS => ?_)
  have hM : q_M E mm S (n, kd, sz, sh, nu, pa, sl, (nI 0), tn, ts, tg) H := hM.obj hO hz hq
  refine lv_iload_n hx hb dX2_lid_5 rfl (lv_at hl 1 rfl) ?_
  refine qc_ri (r1 := q_b ((q_ix slot 12).isSome)) (W.runS (As := [.int slot]) (rest := []) ⟨hx, hb, hml, hown, hts⟩ (kX2_isSlot l slot) (va_cwS 1 hts gX2_lid_X2_isSlot rfl rfl rfl (by decide +kernel) ⟨Nat.le_of_ble_eq_true rfl, Nat.le_of_ble_eq_true rfl⟩) preEq rfl rfl hl.1 rfl (lv_room (Nat.le_of_ble_eq_true rfl)) dX2_lid_6 ⟨Nat.le_of_ble_eq_true rfl, Nat.le_of_ble_eq_true rfl⟩) rfl ?_
  refine ln_b_ne (tgt := 15) hx hb dX2_lid_9 (by decide) (fun c_1 => ?_) (fun c_1 => ?_)
  · obtain ⟨j_slot, hj_slot, rfl⟩ := q_is (by first | decide | omega) c_1
    have ej_slot := q_ix_in hj_slot (by first | decide | omega)
    refine lv_aload_n hx hb dX2_lid_15 rfl (lv_at hl 0 rfl) ?_
    refine lv_iload_n hx hb dX2_lid_16 rfl (lv_at hl 1 rfl) ?_
    refine lv_bipush (v := nI 10) hx hb dX2_lid_17 (by decide) ?_
    cases s_2 : sl j_slot with
    | none =>
      refine qc_i (r1 := nI 0) (σ1 := (n, kd, sz, sh, nu, pa, sl, nI 2, tn, ts, tg)) (va_runV (As := [.int (nI j_slot), .int (nI 10)]) (rest := []) ⟨hx, hb, hml, hown, hts⟩ (kX2_isLetThrough_N l E mm S n kd sz sh nu pa sl tn ts tg hI j_slot hj_slot 10 (by decide) s_2) (cwV 2 hts gX2_lid_X2_isLetThrough rfl rfl rfl (by decide +kernel) ⟨Nat.le_of_ble_eq_true rfl, Nat.le_of_ble_eq_true rfl⟩) (q_preV hK hM hM.1 rfl) rfl rfl hl.1 rfl (lv_room (Nat.le_of_ble_eq_true rfl)) dX2_lid_19 ⟨Nat.le_of_ble_eq_true rfl, Nat.le_of_ble_eq_true rfl⟩) hS rfl rfl (fun H locs hM hS => ?_)
      refine ln_if_ne (tgt := 27) hx hb (by omega) dX2_lid_22 (by decide) (fun c_3 => absurd c_3 (by omega)) (fun _ => ?_)
      refine lv_iconst (v := nI 0) hx hb dX2_lid_25 (by decide) ?_
      have ee : f_lid (n, kd, sz, sh, nu, pa, sl, ft, tn, ts, tg) (nI j_slot) b = (nI 0, (n, kd, sz, sh, nu, pa, sl, nI 2, tn, ts, tg)) := by first | (simp only [f_lid, ej_slot, s_2, q_b]; done) | (simp only [f_lid, ej_slot, s_2, q_b]; rfl) | (simp [f_lid, ej_slot, s_2, q_b]; done) | (simp [f_lid, ej_slot, s_2, q_b]; rfl) | (simp only [f_lid, ej_slot, s_2, q_b]; (repeat' split) <;> first | rfl | (exfalso; omega))
      exact W.iret (v := nI 0) hx hb hr (fun tt ht hW => ⟨⟨nI 0, (n, kd, sz, sh, nu, pa, sl, nI 2, tn, ts, tg), rfl, ⟨(by rw [ee]), (by rw [ee])⟩, (by show q_M E mm S (n, kd, sz, sh, nu, pa, sl, nI 2, tn, ts, tg) tt.heap; rw [ht]; exact hM)⟩, hS.F ht⟩) hS.2.2 dX2_lid_26
    | some k_2 =>
      have hk_2 : k_2 < n := hI.2.2 _ _ s_2
      obtain ⟨ak_2, bk_2, dk_2, wk_2⟩ := hI.2.1 k_2 hk_2
      have n60 := hI.1
      try dsimp only at ak_2 bk_2 dk_2 wk_2 n60
      cases g_4 : q_go (kd k_2) 10 with
      | false =>
        have zg_4 := q_gofalse g_4
        refine qc_i (r1 := nI 0) (σ1 := (n, kd, sz, sh, nu, pa, sl, nI 1, (tn + 1), nI j_slot, nI 10)) (va_runV (As := [.int (nI j_slot), .int (nI 10)]) (rest := []) ⟨hx, hb, hml, hown, hts⟩ (kX2_isLetThrough_T l E mm S n kd sz sh nu pa sl tn ts tg hI j_slot hj_slot k_2 hk_2 s_2 10 (by decide) g_4) (cwV 2 hts gX2_lid_X2_isLetThrough rfl rfl rfl (by decide +kernel) ⟨Nat.le_of_ble_eq_true rfl, Nat.le_of_ble_eq_true rfl⟩) (q_preV hK hM hM.1 rfl) rfl rfl hl.1 rfl (lv_room (Nat.le_of_ble_eq_true rfl)) dX2_lid_19 ⟨Nat.le_of_ble_eq_true rfl, Nat.le_of_ble_eq_true rfl⟩) hS rfl rfl (fun H locs hM hS => ?_)
        refine ln_if_ne (tgt := 27) hx hb (by omega) dX2_lid_22 (by decide) (fun c_5 => absurd c_5 (by omega)) (fun _ => ?_)
        refine lv_iconst (v := nI 0) hx hb dX2_lid_25 (by decide) ?_
        have ee : f_lid (n, kd, sz, sh, nu, pa, sl, ft, tn, ts, tg) (nI j_slot) b = (nI 0, (n, kd, sz, sh, nu, pa, sl, nI 1, (tn + 1), nI j_slot, nI 10)) := by first | (simp only [f_lid, ej_slot, s_2, g_4, q_b]; done) | (simp only [f_lid, ej_slot, s_2, g_4, q_b]; rfl) | (simp [f_lid, ej_slot, s_2, g_4, q_b]; done) | (simp [f_lid, ej_slot, s_2, g_4, q_b]; rfl) | (simp only [f_lid, ej_slot, s_2, g_4, q_b]; (repeat' split) <;> first | rfl | (exfalso; omega))
        exact W.iret (v := nI 0) hx hb hr (fun tt ht hW => ⟨⟨nI 0, (n, kd, sz, sh, nu, pa, sl, nI 1, (tn + 1), nI j_slot, nI 10), rfl, ⟨(by rw [ee]), (by rw [ee])⟩, (by show q_M E mm S (n, kd, sz, sh, nu, pa, sl, nI 1, (tn + 1), nI j_slot, nI 10) tt.heap; rw [ht]; exact hM)⟩, hS.F ht⟩) hS.2.2 dX2_lid_26
      | true =>
        have zg_4 := q_gofacts g_4
        refine qc_i (r1 := nI 1) (σ1 := (n, kd, sz, sh, nu, pa, sl, (nI 0), tn, ts, tg)) (va_runV (As := [.int (nI j_slot), .int (nI 10)]) (rest := []) ⟨hx, hb, hml, hown, hts⟩ (kX2_isLetThrough_S l E mm S n kd sz sh nu pa sl tn ts tg hI j_slot hj_slot k_2 hk_2 s_2 10 (by decide) g_4) (cwV 2 hts gX2_lid_X2_isLetThrough rfl rfl rfl (by decide +kernel) ⟨Nat.le_of_ble_eq_true rfl, Nat.le_of_ble_eq_true rfl⟩) (q_preV hK hM hM.1 rfl) rfl rfl hl.1 rfl (lv_room (Nat.le_of_ble_eq_true rfl)) dX2_lid_19 ⟨Nat.le_of_ble_eq_true rfl, Nat.le_of_ble_eq_true rfl⟩) hS rfl rfl (fun H locs hM hS => ?_)
        refine ln_if_ne (tgt := 27) hx hb (by omega) dX2_lid_22 (by decide) (fun _ => ?_) (fun c_6 => absurd c_6 (by omega))
        refine lv_aload_n hx hb dX2_lid_27 rfl (lv_at hl 0 rfl) ?_
        refine qw_get (v := .ref (mm + 3)) (ci := 2) (C := RX2) (T := TX2) (N := 10) hx hb hts nX2_lid_2 hown hK hM.1 rfl 3 (by decide) (hts (.fieldLink RX2 16 "DockGatesModel" "isShut" "[Z") (by decide +kernel)) rfl rfl dX2_lid_28 ?_
        refine lv_aload_n hx hb dX2_lid_31 rfl (lv_at hl 0 rfl) ?_
        refine qw_get (v := .ref (mm + 5)) (ci := 2) (C := RX2) (T := TX2) (N := 10) hx hb hts nX2_lid_2 hown hK hM.1 rfl 5 (by decide) (hts (.fieldLink RX2 24 "DockGatesModel" "slots" "[I") (by decide +kernel)) rfl rfl dX2_lid_32 ?_
        refine lv_iload_n hx hb dX2_lid_35 rfl (lv_at hl 1 rfl) ?_
        refine qm_slotS hx hb hK hM s_2 hj_slot dX2_lid_36 ?_
        refine qw_zald (f := fun q => q_b (sh q)) hx hb hK hM.2.2.2.1 (by omega) (by decide) dX2_lid_37 ?_
        refine ln_b_eq (tgt := 45) hx hb dX2_lid_38 (by decide) (fun c_7 => ?_) (fun c_7 => ?_)
        · refine lv_iconst (v := nI 0) hx hb dX2_lid_45 (by decide) ?_
          refine lv_istore_n (lv' := [(3, .int (nI 0)), (0, .ref mm), (1, .int (nI j_slot)), (2, .int (q_b b))]) hx hb dX2_lid_46 rfl hl (by decide) rfl (fun ls hl => ?_)
          refine lv_aload_n hx hb dX2_lid_47 rfl (lv_at hl 1 rfl) ?_
          refine qw_get (v := .ref (mm + 3)) (ci := 2) (C := RX2) (T := TX2) (N := 10) hx hb hts nX2_lid_2 hown hK hM.1 rfl 3 (by decide) (hts (.fieldLink RX2 16 "DockGatesModel" "isShut" "[Z") (by decide +kernel)) rfl rfl dX2_lid_48 ?_
          refine lv_aload_n hx hb dX2_lid_51 rfl (lv_at hl 1 rfl) ?_
          refine qw_get (v := .ref (mm + 5)) (ci := 2) (C := RX2) (T := TX2) (N := 10) hx hb hts nX2_lid_2 hown hK hM.1 rfl 5 (by decide) (hts (.fieldLink RX2 24 "DockGatesModel" "slots" "[I") (by decide +kernel)) rfl rfl dX2_lid_52 ?_
          refine lv_iload_n hx hb dX2_lid_55 rfl (lv_at hl 2 rfl) ?_
          refine qm_slotS hx hb hK hM s_2 hj_slot dX2_lid_56 ?_
          refine lv_iload_n hx hb dX2_lid_57 rfl (lv_at hl 3 rfl) ?_
          refine qw_zast (x := b) (A := q_Am mm) hx hb hK hM.2.2.2.1 hS ⟨by omega, by omega⟩ (by omega) (by decide) dX2_lid_58 (fun H locs hO hz hq hS => ?_)
          have hM : q_M E mm S (n, kd, sz, (va_up sh k_2 b), nu, pa, sl, (nI 0), tn, ts, tg) H := hM.lid _ hO hz hq
          refine lv_iload_n hx hb dX2_lid_59 rfl (lv_at hl 0 rfl) ?_
          have ee : f_lid (n, kd, sz, sh, nu, pa, sl, ft, tn, ts, tg) (nI j_slot) b = (nI 0, (n, kd, sz, (va_up sh k_2 b), nu, pa, sl, (nI 0), tn, ts, tg)) := by first | (simp only [f_lid, ej_slot, s_2, g_4, c_7, q_b]; done) | (simp only [f_lid, ej_slot, s_2, g_4, c_7, q_b]; rfl) | (simp [f_lid, ej_slot, s_2, g_4, c_7, q_b]; done) | (simp [f_lid, ej_slot, s_2, g_4, c_7, q_b]; rfl) | (simp only [f_lid, ej_slot, s_2, g_4, c_7, q_b]; (repeat' split) <;> first | rfl | (exfalso; omega))
          exact W.iret (v := nI 0) hx hb hr (fun tt ht hW => ⟨⟨nI 0, (n, kd, sz, (va_up sh k_2 b), nu, pa, sl, (nI 0), tn, ts, tg), rfl, ⟨(by rw [ee]), (by rw [ee])⟩, (by show q_M E mm S (n, kd, sz, (va_up sh k_2 b), nu, pa, sl, (nI 0), tn, ts, tg) tt.heap; rw [ht]; exact hM)⟩, hS.F ht⟩) hS.2.2 dX2_lid_60
        · refine lv_iconst (v := nI 1) hx hb dX2_lid_41 (by decide) ?_
          refine lv_goto (tgt := 46) hx hb dX2_lid_42 (by decide) ?_
          refine lv_istore_n (lv' := [(3, .int (nI 1)), (0, .ref mm), (1, .int (nI j_slot)), (2, .int (q_b b))]) hx hb dX2_lid_46 rfl hl (by decide) rfl (fun ls hl => ?_)
          refine lv_aload_n hx hb dX2_lid_47 rfl (lv_at hl 1 rfl) ?_
          refine qw_get (v := .ref (mm + 3)) (ci := 2) (C := RX2) (T := TX2) (N := 10) hx hb hts nX2_lid_2 hown hK hM.1 rfl 3 (by decide) (hts (.fieldLink RX2 16 "DockGatesModel" "isShut" "[Z") (by decide +kernel)) rfl rfl dX2_lid_48 ?_
          refine lv_aload_n hx hb dX2_lid_51 rfl (lv_at hl 1 rfl) ?_
          refine qw_get (v := .ref (mm + 5)) (ci := 2) (C := RX2) (T := TX2) (N := 10) hx hb hts nX2_lid_2 hown hK hM.1 rfl 5 (by decide) (hts (.fieldLink RX2 24 "DockGatesModel" "slots" "[I") (by decide +kernel)) rfl rfl dX2_lid_52 ?_
          refine lv_iload_n hx hb dX2_lid_55 rfl (lv_at hl 2 rfl) ?_
          refine qm_slotS hx hb hK hM s_2 hj_slot dX2_lid_56 ?_
          refine lv_iload_n hx hb dX2_lid_57 rfl (lv_at hl 3 rfl) ?_
          refine qw_zast (x := b) (A := q_Am mm) hx hb hK hM.2.2.2.1 hS ⟨by omega, by omega⟩ (by omega) (by decide) dX2_lid_58 (fun H locs hO hz hq hS => ?_)
          have hM : q_M E mm S (n, kd, sz, (va_up sh k_2 b), nu, pa, sl, (nI 0), tn, ts, tg) H := hM.lid _ hO hz hq
          refine lv_iload_n hx hb dX2_lid_59 rfl (lv_at hl 0 rfl) ?_
          have ee : f_lid (n, kd, sz, sh, nu, pa, sl, ft, tn, ts, tg) (nI j_slot) b = (nI 1, (n, kd, sz, (va_up sh k_2 b), nu, pa, sl, (nI 0), tn, ts, tg)) := by first | (simp only [f_lid, ej_slot, s_2, g_4, c_7, q_b]; done) | (simp only [f_lid, ej_slot, s_2, g_4, c_7, q_b]; rfl) | (simp [f_lid, ej_slot, s_2, g_4, c_7, q_b]; done) | (simp [f_lid, ej_slot, s_2, g_4, c_7, q_b]; rfl) | (simp only [f_lid, ej_slot, s_2, g_4, c_7, q_b]; (repeat' split) <;> first | rfl | (exfalso; omega))
          exact W.iret (v := nI 1) hx hb hr (fun tt ht hW => ⟨⟨nI 1, (n, kd, sz, (va_up sh k_2 b), nu, pa, sl, (nI 0), tn, ts, tg), rfl, ⟨(by rw [ee]), (by rw [ee])⟩, (by show q_M E mm S (n, kd, sz, (va_up sh k_2 b), nu, pa, sl, (nI 0), tn, ts, tg) tt.heap; rw [ht]; exact hM)⟩, hS.F ht⟩) hS.2.2 dX2_lid_60
  · have c_1 := q_isn c_1
    refine lv_bipush (v := (-2)) hx hb dX2_lid_12 (by decide) ?_
    have ee : f_lid (n, kd, sz, sh, nu, pa, sl, ft, tn, ts, tg) slot b = (((-2)), (n, kd, sz, sh, nu, pa, sl, (nI 0), tn, ts, tg)) := by first | (simp only [f_lid, c_1, q_b]; done) | (simp only [f_lid, c_1, q_b]; rfl) | (simp [f_lid, c_1, q_b]; done) | (simp [f_lid, c_1, q_b]; rfl) | (simp only [f_lid, c_1, q_b]; (repeat' split) <;> first | rfl | (exfalso; omega))
    exact W.iret (v := ((-2))) hx hb hr (fun tt ht hW => ⟨⟨((-2)), (n, kd, sz, sh, nu, pa, sl, (nI 0), tn, ts, tg), rfl, ⟨(by rw [ee]), (by rw [ee])⟩, (by show q_M E mm S (n, kd, sz, sh, nu, pa, sl, (nI 0), tn, ts, tg) tt.heap; rw [ht]; exact hM)⟩, hS.F ht⟩) hS.2.2 dX2_lid_14
set_option maxRecDepth 20000 in
theorem nX2_weigh_2 : ∀ w ∈ u_ws RX2 TX2 10, w ∈ wsX2_weigh := by decide +kernel
set_option maxHeartbeats 4000000 in
set_option maxRecDepth 100000 in
theorem kX2_weigh (l : Launch) (E : q_E) (mm S : Nat) (n : Nat) (kd sz : Nat → Nat) (sh : Nat → Bool) (nu : Nat → Nat → Int64) (pa : Nat → Nat → Option Nat) (sl : Nat → Option Nat) (ft tn ts tg : Int32) (hI : q_I (n, kd, sz, sh, nu, pa, sl, ft, tn, ts, tg)) (slot w : Int32)  : Met l yX2_weigh wsX2_weigh ({ frames := 3, cells := 0, slots := 0, locals := 66 }) (q_P E (q_M E mm S (n, kd, sz, sh, nu, pa, sl, ft, tn, ts, tg)) [.ref mm, .int slot, .int w]) (q_Wi (q_M E mm S) (q_Am mm) ((f_weigh (n, kd, sz, sh, nu, pa, sl, ft, tn, ts, tg) slot w).1) (f_weigh (n, kd, sz, sh, nu, pa, sl, ft, tn, ts, tg) slot w).2) 0 0 (q_Am mm) := by
  refine Met.ofW (cc := cX2_weigh) (maxL := 4) (ret := (some .int)) (by decide) rfl ?_
  intro p e s m args below meth c s₁ B hml hv
  obtain ⟨rfl, hK, hM⟩ := hv
  have hx := B.exec
  have hb := B.bytes
  have hr := B.returns
  have hts := atoms_spec (ws := wsX2_weigh) B.pre
  have hown : s.vm.findClass RX2 = some m.cls := findClass_of_methodNamed B.named
  have hlocks := B.notSynchronized
  have hl := lv_entry ([.ref mm, .int slot, .int w]) (n := 4) (Nat.le_of_ble_eq_true rfl)
  rw [lg_entry_eq]
  generalize (lg_sl ([.ref mm, .int slot, .int w]) ++ List.replicate (4 - (lg_sl ([.ref mm, .int slot, .int w])).length) Slot.unset).toArray = ls at hl ⊢
  have hl : lv_has ls 4 [(0, .ref mm), (1, .int slot), (2, .int w)] := hl
  have hS : va_S (q_Am mm) s.heap s.heap [] := va_S.rf
  refine lv_aload_n hx hb dX2_weigh_0 rfl (lv_at hl 0 rfl) ?_
  refine lv_iconst (v := nI 0) hx hb dX2_weigh_1 (by decide) ?_
  refine qw_put (ci := 2) (C := RX2) (T := TX2) (N := 10) hx hb hts nX2_weigh_2 tyX2 tyX2_ok nmX2 hown hK hM.1 hS ⟨by omega, by omega⟩ rfl 6 (by decide) (hts (.fieldLink RX2 42 "DockGatesModel" "fault" "I") (by decide +kernel)) rfl rfl rfl rfl (Nat.le_of_ble_eq_true rfl) dX2_weigh_2 (fun H locs hO hz hq hS => ?_)
  have hM : q_M E mm S (n, kd, sz, sh, nu, pa, sl, (nI 0), tn, ts, tg) H := hM.obj hO hz hq
  refine lv_iload_n hx hb dX2_weigh_5 rfl (lv_at hl 1 rfl) ?_
  refine qc_ri (r1 := q_b ((q_ix slot 12).isSome)) (W.runS (As := [.int slot]) (rest := []) ⟨hx, hb, hml, hown, hts⟩ (kX2_isSlot l slot) (va_cwS 1 hts gX2_weigh_X2_isSlot rfl rfl rfl (by decide +kernel) ⟨Nat.le_of_ble_eq_true rfl, Nat.le_of_ble_eq_true rfl⟩) preEq rfl rfl hl.1 rfl (lv_room (Nat.le_of_ble_eq_true rfl)) dX2_weigh_6 ⟨Nat.le_of_ble_eq_true rfl, Nat.le_of_ble_eq_true rfl⟩) rfl ?_
  refine ln_b_eq (tgt := 22) hx hb dX2_weigh_9 (by decide) (fun c_1 => ?_) (fun c_1 => ?_)
  · have c_1 := q_isn c_1
    refine lv_bipush (v := (-2)) hx hb dX2_weigh_22 (by decide) ?_
    have ee : f_weigh (n, kd, sz, sh, nu, pa, sl, ft, tn, ts, tg) slot w = (((-2)), (n, kd, sz, sh, nu, pa, sl, (nI 0), tn, ts, tg)) := by first | (simp only [f_weigh, c_1]; done) | (simp only [f_weigh, c_1]; rfl) | (simp [f_weigh, c_1]; done) | (simp [f_weigh, c_1]; rfl) | (simp only [f_weigh, c_1]; (repeat' split) <;> first | rfl | (exfalso; omega))
    exact W.iret (v := ((-2))) hx hb hr (fun tt ht hW => ⟨⟨((-2)), (n, kd, sz, sh, nu, pa, sl, (nI 0), tn, ts, tg), rfl, ⟨(by rw [ee]), (by rw [ee])⟩, (by show q_M E mm S (n, kd, sz, sh, nu, pa, sl, (nI 0), tn, ts, tg) tt.heap; rw [ht]; exact hM)⟩, hS.F ht⟩) hS.2.2 dX2_weigh_24
  · obtain ⟨j_slot, hj_slot, rfl⟩ := q_is (by first | decide | omega) c_1
    have ej_slot := q_ix_in hj_slot (by first | decide | omega)
    refine lv_iload_n hx hb dX2_weigh_12 rfl (lv_at hl 2 rfl) ?_
    refine lv_iconst (v := nI 0) hx hb dX2_weigh_13 (by decide) ?_
    refine lv_ldc (v := 1000000) hx hb hown (hts (.constant RX2 56 (1000000)) (by decide +kernel)) dX2_weigh_14 ?_
    rw [show (1000000 : Int32) = nI 1000000 by decide]
    refine qc_ri (r1 := q_b ((q_ix w 1000001).isSome)) (W.runS (As := [.int w, .int (nI 0), .int (nI 1000000)]) (rest := []) ⟨hx, hb, hml, hown, hts⟩ (kX2_isIn l w (nI 0) (nI 1000000)) (va_cwS 3 hts gX2_weigh_X2_isIn rfl rfl rfl (by decide +kernel) ⟨Nat.le_of_ble_eq_true rfl, Nat.le_of_ble_eq_true rfl⟩) preEq rfl rfl hl.1 rfl (lv_room (Nat.le_of_ble_eq_true rfl)) dX2_weigh_16 ⟨Nat.le_of_ble_eq_true rfl, Nat.le_of_ble_eq_true rfl⟩) (congrArg q_b (q_in0 _ (by decide))) ?_
    refine ln_b_ne (tgt := 25) hx hb dX2_weigh_19 (by decide) (fun c_2 => ?_) (fun c_2 => ?_)
    · obtain ⟨j_w, hj_w, rfl⟩ := q_is (by first | decide | omega) c_2
      have ej_w := q_ix_in hj_w (by first | decide | omega)
      refine lv_aload_n hx hb dX2_weigh_25 rfl (lv_at hl 0 rfl) ?_
      refine lv_iload_n hx hb dX2_weigh_26 rfl (lv_at hl 1 rfl) ?_
      refine lv_bipush (v := nI 9) hx hb dX2_weigh_27 (by decide) ?_
      cases s_3 : sl j_slot with
      | none =>
        refine qc_i (r1 := nI 0) (σ1 := (n, kd, sz, sh, nu, pa, sl, nI 2, tn, ts, tg)) (va_runV (As := [.int (nI j_slot), .int (nI 9)]) (rest := []) ⟨hx, hb, hml, hown, hts⟩ (kX2_isLetThrough_N l E mm S n kd sz sh nu pa sl tn ts tg hI j_slot hj_slot 9 (by decide) s_3) (cwV 2 hts gX2_weigh_X2_isLetThrough rfl rfl rfl (by decide +kernel) ⟨Nat.le_of_ble_eq_true rfl, Nat.le_of_ble_eq_true rfl⟩) (q_preV hK hM hM.1 rfl) rfl rfl hl.1 rfl (lv_room (Nat.le_of_ble_eq_true rfl)) dX2_weigh_29 ⟨Nat.le_of_ble_eq_true rfl, Nat.le_of_ble_eq_true rfl⟩) hS rfl rfl (fun H locs hM hS => ?_)
        refine ln_if_ne (tgt := 37) hx hb (by omega) dX2_weigh_32 (by decide) (fun c_4 => absurd c_4 (by omega)) (fun _ => ?_)
        refine lv_iconst (v := nI 0) hx hb dX2_weigh_35 (by decide) ?_
        have ee : f_weigh (n, kd, sz, sh, nu, pa, sl, ft, tn, ts, tg) (nI j_slot) (nI j_w) = (nI 0, (n, kd, sz, sh, nu, pa, sl, nI 2, tn, ts, tg)) := by first | (simp only [f_weigh, ej_slot, ej_w, s_3]; done) | (simp only [f_weigh, ej_slot, ej_w, s_3]; rfl) | (simp [f_weigh, ej_slot, ej_w, s_3]; done) | (simp [f_weigh, ej_slot, ej_w, s_3]; rfl) | (simp only [f_weigh, ej_slot, ej_w, s_3]; (repeat' split) <;> first | rfl | (exfalso; omega))
        exact W.iret (v := nI 0) hx hb hr (fun tt ht hW => ⟨⟨nI 0, (n, kd, sz, sh, nu, pa, sl, nI 2, tn, ts, tg), rfl, ⟨(by rw [ee]), (by rw [ee])⟩, (by show q_M E mm S (n, kd, sz, sh, nu, pa, sl, nI 2, tn, ts, tg) tt.heap; rw [ht]; exact hM)⟩, hS.F ht⟩) hS.2.2 dX2_weigh_36
      | some k_3 =>
        have hk_3 : k_3 < n := hI.2.2 _ _ s_3
        obtain ⟨ak_3, bk_3, dk_3, wk_3⟩ := hI.2.1 k_3 hk_3
        have n60 := hI.1
        try dsimp only at ak_3 bk_3 dk_3 wk_3 n60
        cases g_5 : q_go (kd k_3) 9 with
        | false =>
          have zg_5 := q_gofalse g_5
          refine qc_i (r1 := nI 0) (σ1 := (n, kd, sz, sh, nu, pa, sl, nI 1, (tn + 1), nI j_slot, nI 9)) (va_runV (As := [.int (nI j_slot), .int (nI 9)]) (rest := []) ⟨hx, hb, hml, hown, hts⟩ (kX2_isLetThrough_T l E mm S n kd sz sh nu pa sl tn ts tg hI j_slot hj_slot k_3 hk_3 s_3 9 (by decide) g_5) (cwV 2 hts gX2_weigh_X2_isLetThrough rfl rfl rfl (by decide +kernel) ⟨Nat.le_of_ble_eq_true rfl, Nat.le_of_ble_eq_true rfl⟩) (q_preV hK hM hM.1 rfl) rfl rfl hl.1 rfl (lv_room (Nat.le_of_ble_eq_true rfl)) dX2_weigh_29 ⟨Nat.le_of_ble_eq_true rfl, Nat.le_of_ble_eq_true rfl⟩) hS rfl rfl (fun H locs hM hS => ?_)
          refine ln_if_ne (tgt := 37) hx hb (by omega) dX2_weigh_32 (by decide) (fun c_6 => absurd c_6 (by omega)) (fun _ => ?_)
          refine lv_iconst (v := nI 0) hx hb dX2_weigh_35 (by decide) ?_
          have ee : f_weigh (n, kd, sz, sh, nu, pa, sl, ft, tn, ts, tg) (nI j_slot) (nI j_w) = (nI 0, (n, kd, sz, sh, nu, pa, sl, nI 1, (tn + 1), nI j_slot, nI 9)) := by first | (simp only [f_weigh, ej_slot, ej_w, s_3, g_5]; done) | (simp only [f_weigh, ej_slot, ej_w, s_3, g_5]; rfl) | (simp [f_weigh, ej_slot, ej_w, s_3, g_5]; done) | (simp [f_weigh, ej_slot, ej_w, s_3, g_5]; rfl) | (simp only [f_weigh, ej_slot, ej_w, s_3, g_5]; (repeat' split) <;> first | rfl | (exfalso; omega))
          exact W.iret (v := nI 0) hx hb hr (fun tt ht hW => ⟨⟨nI 0, (n, kd, sz, sh, nu, pa, sl, nI 1, (tn + 1), nI j_slot, nI 9), rfl, ⟨(by rw [ee]), (by rw [ee])⟩, (by show q_M E mm S (n, kd, sz, sh, nu, pa, sl, nI 1, (tn + 1), nI j_slot, nI 9) tt.heap; rw [ht]; exact hM)⟩, hS.F ht⟩) hS.2.2 dX2_weigh_36
        | true =>
          have zg_5 := q_gofacts g_5
          refine qc_i (r1 := nI 1) (σ1 := (n, kd, sz, sh, nu, pa, sl, (nI 0), tn, ts, tg)) (va_runV (As := [.int (nI j_slot), .int (nI 9)]) (rest := []) ⟨hx, hb, hml, hown, hts⟩ (kX2_isLetThrough_S l E mm S n kd sz sh nu pa sl tn ts tg hI j_slot hj_slot k_3 hk_3 s_3 9 (by decide) g_5) (cwV 2 hts gX2_weigh_X2_isLetThrough rfl rfl rfl (by decide +kernel) ⟨Nat.le_of_ble_eq_true rfl, Nat.le_of_ble_eq_true rfl⟩) (q_preV hK hM hM.1 rfl) rfl rfl hl.1 rfl (lv_room (Nat.le_of_ble_eq_true rfl)) dX2_weigh_29 ⟨Nat.le_of_ble_eq_true rfl, Nat.le_of_ble_eq_true rfl⟩) hS rfl rfl (fun H locs hM hS => ?_)
          refine ln_if_ne (tgt := 37) hx hb (by omega) dX2_weigh_32 (by decide) (fun _ => ?_) (fun c_7 => absurd c_7 (by omega))
          refine lv_aload_n hx hb dX2_weigh_37 rfl (lv_at hl 0 rfl) ?_
          refine qw_get (v := .ref (mm + 2)) (ci := 2) (C := RX2) (T := TX2) (N := 10) hx hb hts nX2_weigh_2 hown hK hM.1 rfl 2 (by decide) (hts (.fieldLink RX2 13 "DockGatesModel" "size" "[I") (by decide +kernel)) rfl rfl dX2_weigh_38 ?_
          refine lv_aload_n hx hb dX2_weigh_41 rfl (lv_at hl 0 rfl) ?_
          refine qw_get (v := .ref (mm + 5)) (ci := 2) (C := RX2) (T := TX2) (N := 10) hx hb hts nX2_weigh_2 hown hK hM.1 rfl 5 (by decide) (hts (.fieldLink RX2 24 "DockGatesModel" "slots" "[I") (by decide +kernel)) rfl rfl dX2_weigh_42 ?_
          refine lv_iload_n hx hb dX2_weigh_45 rfl (lv_at hl 1 rfl) ?_
          refine qm_slotS hx hb hK hM s_3 hj_slot dX2_weigh_46 ?_
          refine qw_iald (f := fun q => nI (sz q)) hx hb hK hM.2.2.1 (by omega) (by decide) dX2_weigh_47 ?_
          refine lv_istore_n (lv' := [(3, .int (nI (sz k_3))), (0, .ref mm), (1, .int (nI j_slot)), (2, .int (nI j_w))]) hx hb dX2_weigh_48 rfl hl (by decide) rfl (fun ls hl => ?_)
          refine lv_aload_n hx hb dX2_weigh_49 rfl (lv_at hl 1 rfl) ?_
          refine qw_get (v := .ref (mm + 2)) (ci := 2) (C := RX2) (T := TX2) (N := 10) hx hb hts nX2_weigh_2 hown hK hM.1 rfl 2 (by decide) (hts (.fieldLink RX2 13 "DockGatesModel" "size" "[I") (by decide +kernel)) rfl rfl dX2_weigh_50 ?_
          refine lv_aload_n hx hb dX2_weigh_53 rfl (lv_at hl 1 rfl) ?_
          refine qw_get (v := .ref (mm + 5)) (ci := 2) (C := RX2) (T := TX2) (N := 10) hx hb hts nX2_weigh_2 hown hK hM.1 rfl 5 (by decide) (hts (.fieldLink RX2 24 "DockGatesModel" "slots" "[I") (by decide +kernel)) rfl rfl dX2_weigh_54 ?_
          refine lv_iload_n hx hb dX2_weigh_57 rfl (lv_at hl 2 rfl) ?_
          refine qm_slotS hx hb hK hM s_3 hj_slot dX2_weigh_58 ?_
          refine lv_iload_n hx hb dX2_weigh_59 rfl (lv_at hl 3 rfl) ?_
          refine qw_iast (A := q_Am mm) hx hb hK hM.2.2.1 hS ⟨by omega, by omega⟩ (by omega) (by decide) dX2_weigh_60 (fun H locs hO hz hq hS => ?_)
          have hM : q_M E mm S (n, kd, (va_up sz k_3 j_w), sh, nu, pa, sl, (nI 0), tn, ts, tg) H := hM.amt _ hO hz hq
          refine lv_iload_n hx hb dX2_weigh_61 rfl (lv_at hl 0 rfl) ?_
          have ee : f_weigh (n, kd, sz, sh, nu, pa, sl, ft, tn, ts, tg) (nI j_slot) (nI j_w) = (nI (sz k_3), (n, kd, (va_up sz k_3 j_w), sh, nu, pa, sl, (nI 0), tn, ts, tg)) := by first | (simp only [f_weigh, ej_slot, ej_w, s_3, g_5]; done) | (simp only [f_weigh, ej_slot, ej_w, s_3, g_5]; rfl) | (simp [f_weigh, ej_slot, ej_w, s_3, g_5]; done) | (simp [f_weigh, ej_slot, ej_w, s_3, g_5]; rfl) | (simp only [f_weigh, ej_slot, ej_w, s_3, g_5]; (repeat' split) <;> first | rfl | (exfalso; omega))
          exact W.iret (v := nI (sz k_3)) hx hb hr (fun tt ht hW => ⟨⟨nI (sz k_3), (n, kd, (va_up sz k_3 j_w), sh, nu, pa, sl, (nI 0), tn, ts, tg), rfl, ⟨(by rw [ee]), (by rw [ee])⟩, (by show q_M E mm S (n, kd, (va_up sz k_3 j_w), sh, nu, pa, sl, (nI 0), tn, ts, tg) tt.heap; rw [ht]; exact hM)⟩, hS.F ht⟩) hS.2.2 dX2_weigh_62
    · have c_2 := q_isn c_2
      refine lv_bipush (v := (-2)) hx hb dX2_weigh_22 (by decide) ?_
      have ee : f_weigh (n, kd, sz, sh, nu, pa, sl, ft, tn, ts, tg) (nI j_slot) w = (((-2)), (n, kd, sz, sh, nu, pa, sl, (nI 0), tn, ts, tg)) := by first | (simp only [f_weigh, ej_slot, c_2]; done) | (simp only [f_weigh, ej_slot, c_2]; rfl) | (simp [f_weigh, ej_slot, c_2]; done) | (simp [f_weigh, ej_slot, c_2]; rfl) | (simp only [f_weigh, ej_slot, c_2]; (repeat' split) <;> first | rfl | (exfalso; omega))
      exact W.iret (v := ((-2))) hx hb hr (fun tt ht hW => ⟨⟨((-2)), (n, kd, sz, sh, nu, pa, sl, (nI 0), tn, ts, tg), rfl, ⟨(by rw [ee]), (by rw [ee])⟩, (by show q_M E mm S (n, kd, sz, sh, nu, pa, sl, (nI 0), tn, ts, tg) tt.heap; rw [ht]; exact hM)⟩, hS.F ht⟩) hS.2.2 dX2_weigh_24
set_option maxRecDepth 20000 in
theorem nX2_size_2 : ∀ w ∈ u_ws RX2 TX2 10, w ∈ wsX2_size := by decide +kernel
set_option maxHeartbeats 4000000 in
set_option maxRecDepth 100000 in
theorem kX2_size (l : Launch) (E : q_E) (mm S : Nat) (n : Nat) (kd sz : Nat → Nat) (sh : Nat → Bool) (nu : Nat → Nat → Int64) (pa : Nat → Nat → Option Nat) (sl : Nat → Option Nat) (ft tn ts tg : Int32) (hI : q_I (n, kd, sz, sh, nu, pa, sl, ft, tn, ts, tg)) (slot : Int32)  : Met l yX2_size wsX2_size ({ frames := 2, cells := 0, slots := 0, locals := 44 }) (q_P E (q_M E mm S (n, kd, sz, sh, nu, pa, sl, ft, tn, ts, tg)) [.ref mm, .int slot]) (q_Wi (q_M E mm S) (q_Am mm) ((f_size (n, kd, sz, sh, nu, pa, sl, ft, tn, ts, tg) slot).1) (f_size (n, kd, sz, sh, nu, pa, sl, ft, tn, ts, tg) slot).2) 0 0 (q_Am mm) := by
  refine Met.ofW (cc := cX2_size) (maxL := 2) (ret := (some .int)) (by decide) rfl ?_
  intro p e s m args below meth c s₁ B hml hv
  obtain ⟨rfl, hK, hM⟩ := hv
  have hx := B.exec
  have hb := B.bytes
  have hr := B.returns
  have hts := atoms_spec (ws := wsX2_size) B.pre
  have hown : s.vm.findClass RX2 = some m.cls := findClass_of_methodNamed B.named
  have hlocks := B.notSynchronized
  have hl := lv_entry ([.ref mm, .int slot]) (n := 2) (Nat.le_of_ble_eq_true rfl)
  rw [lg_entry_eq]
  generalize (lg_sl ([.ref mm, .int slot]) ++ List.replicate (2 - (lg_sl ([.ref mm, .int slot])).length) Slot.unset).toArray = ls at hl ⊢
  have hl : lv_has ls 2 [(0, .ref mm), (1, .int slot)] := hl
  have hS : va_S (q_Am mm) s.heap s.heap [] := va_S.rf
  refine lv_aload_n hx hb dX2_size_0 rfl (lv_at hl 0 rfl) ?_
  refine lv_iconst (v := nI 0) hx hb dX2_size_1 (by decide) ?_
  refine qw_put (ci := 2) (C := RX2) (T := TX2) (N := 10) hx hb hts nX2_size_2 tyX2 tyX2_ok nmX2 hown hK hM.1 hS ⟨by omega, by omega⟩ rfl 6 (by decide) (hts (.fieldLink RX2 42 "DockGatesModel" "fault" "I") (by decide +kernel)) rfl rfl rfl rfl (Nat.le_of_ble_eq_true rfl) dX2_size_2 (fun H locs hO hz hq hS => ?_)
  have hM : q_M E mm S (n, kd, sz, sh, nu, pa, sl, (nI 0), tn, ts, tg) H := hM.obj hO hz hq
  refine lv_iload_n hx hb dX2_size_5 rfl (lv_at hl 1 rfl) ?_
  refine qc_ri (r1 := q_b ((q_ix slot 12).isSome)) (W.runS (As := [.int slot]) (rest := []) ⟨hx, hb, hml, hown, hts⟩ (kX2_isSlot l slot) (va_cwS 1 hts gX2_size_X2_isSlot rfl rfl rfl (by decide +kernel) ⟨Nat.le_of_ble_eq_true rfl, Nat.le_of_ble_eq_true rfl⟩) preEq rfl rfl hl.1 rfl (lv_room (Nat.le_of_ble_eq_true rfl)) dX2_size_6 ⟨Nat.le_of_ble_eq_true rfl, Nat.le_of_ble_eq_true rfl⟩) rfl ?_
  refine ln_b_ne (tgt := 15) hx hb dX2_size_9 (by decide) (fun c_1 => ?_) (fun c_1 => ?_)
  · obtain ⟨j_slot, hj_slot, rfl⟩ := q_is (by first | decide | omega) c_1
    have ej_slot := q_ix_in hj_slot (by first | decide | omega)
    refine lv_aload_n hx hb dX2_size_15 rfl (lv_at hl 0 rfl) ?_
    refine qw_get (v := .ref (mm + 5)) (ci := 2) (C := RX2) (T := TX2) (N := 10) hx hb hts nX2_size_2 hown hK hM.1 rfl 5 (by decide) (hts (.fieldLink RX2 24 "DockGatesModel" "slots" "[I") (by decide +kernel)) rfl rfl dX2_size_16 ?_
    refine lv_iload_n hx hb dX2_size_19 rfl (lv_at hl 1 rfl) ?_
    refine qm_slot hx hb hK hM hI hj_slot dX2_size_20 (fun s_2 => ?_) (fun k_2 hk_2 s_2 => ?_)
    · try dsimp only at s_2
      refine lv_iconst (v := (-1)) hx hb dX2_size_21 (by decide) ?_
      refine lv_icmp_ne (tgt := 31) hx hb dX2_size_22 (by decide) (fun c_3 => absurd rfl c_3) (fun _ => ?_)
      refine lv_aload_n hx hb dX2_size_25 rfl (lv_at hl 0 rfl) ?_
      refine lv_iconst (v := nI 2) hx hb dX2_size_26 (by decide) ?_
      refine qc_i (r1 := nI 0) (σ1 := (n, kd, sz, sh, nu, pa, sl, nI 2, tn, ts, tg)) (va_runV (As := [.int (nI 2)]) (rest := []) ⟨hx, hb, hml, hown, hts⟩ (kX2_fails l E mm S n kd sz sh nu pa sl ((nI 0)) tn ts tg hI (nI 2)) (cwV 1 hts gX2_size_X2_fails rfl rfl rfl (by decide +kernel) ⟨Nat.le_of_ble_eq_true rfl, Nat.le_of_ble_eq_true rfl⟩) (q_preV hK hM hM.1 rfl) rfl rfl hl.1 rfl (lv_room (Nat.le_of_ble_eq_true rfl)) dX2_size_27 ⟨Nat.le_of_ble_eq_true rfl, Nat.le_of_ble_eq_true rfl⟩) hS rfl rfl (fun H locs hM hS => ?_)
      have ee : f_size (n, kd, sz, sh, nu, pa, sl, ft, tn, ts, tg) (nI j_slot) = (nI 0, (n, kd, sz, sh, nu, pa, sl, nI 2, tn, ts, tg)) := by first | (simp only [f_size, ej_slot, s_2]; done) | (simp only [f_size, ej_slot, s_2]; rfl) | (simp [f_size, ej_slot, s_2]; done) | (simp [f_size, ej_slot, s_2]; rfl) | (simp only [f_size, ej_slot, s_2]; (repeat' split) <;> first | rfl | (exfalso; omega))
      exact W.iret (v := nI 0) hx hb hr (fun tt ht hW => ⟨⟨nI 0, (n, kd, sz, sh, nu, pa, sl, nI 2, tn, ts, tg), rfl, ⟨(by rw [ee]), (by rw [ee])⟩, (by show q_M E mm S (n, kd, sz, sh, nu, pa, sl, nI 2, tn, ts, tg) tt.heap; rw [ht]; exact hM)⟩, hS.F ht⟩) hS.2.2 dX2_size_30
    · try dsimp only at s_2 hk_2
      obtain ⟨ak_2, bk_2, dk_2, wk_2⟩ := hI.2.1 k_2 hk_2
      have n60 := hI.1
      try dsimp only at ak_2 bk_2 dk_2 wk_2 n60
      refine lv_iconst (v := (-1)) hx hb dX2_size_21 (by decide) ?_
      refine lv_icmp_ne (tgt := 31) hx hb dX2_size_22 (by decide) (fun _ => ?_) (fun c_4 => absurd c_4 (q_nm1 (by omega)))
      refine lv_aload_n hx hb dX2_size_31 rfl (lv_at hl 0 rfl) ?_
      refine qw_get (v := .ref (mm + 1)) (ci := 2) (C := RX2) (T := TX2) (N := 10) hx hb hts nX2_size_2 hown hK hM.1 rfl 1 (by decide) (hts (.fieldLink RX2 7 "DockGatesModel" "kind" "[I") (by decide +kernel)) rfl rfl dX2_size_32 ?_
      refine lv_aload_n hx hb dX2_size_35 rfl (lv_at hl 0 rfl) ?_
      refine qw_get (v := .ref (mm + 5)) (ci := 2) (C := RX2) (T := TX2) (N := 10) hx hb hts nX2_size_2 hown hK hM.1 rfl 5 (by decide) (hts (.fieldLink RX2 24 "DockGatesModel" "slots" "[I") (by decide +kernel)) rfl rfl dX2_size_36 ?_
      refine lv_iload_n hx hb dX2_size_39 rfl (lv_at hl 1 rfl) ?_
      refine qm_slotS hx hb hK hM s_2 hj_slot dX2_size_40 ?_
      refine qw_iald (f := fun q => nI (kd q)) hx hb hK hM.2.1 (by omega) (by decide) dX2_size_41 ?_
      refine lv_bipush (v := nI 9) hx hb dX2_size_42 (by decide) ?_
      refine ln_cmp_ge (tgt := 61) hx hb (by omega) (by omega) dX2_size_44 (by decide) (fun c_5 => ?_) (fun c_5 => ?_)
      · refine lv_aload_n hx hb dX2_size_61 rfl (lv_at hl 0 rfl) ?_
        refine lv_iload_n hx hb dX2_size_62 rfl (lv_at hl 1 rfl) ?_
        refine lv_bipush (v := nI 8) hx hb dX2_size_63 (by decide) ?_
        refine qc_i (r1 := nI 0) (σ1 := (n, kd, sz, sh, nu, pa, sl, nI 1, (tn + 1), nI j_slot, nI 8)) (va_runV (As := [.int (nI j_slot), .int (nI 8)]) (rest := []) ⟨hx, hb, hml, hown, hts⟩ (kX2_turns l E mm S n kd sz sh nu pa sl ((nI 0)) tn ts tg hI (nI j_slot) (nI 8)) (cwV 2 hts gX2_size_X2_turns rfl rfl rfl (by decide +kernel) ⟨Nat.le_of_ble_eq_true rfl, Nat.le_of_ble_eq_true rfl⟩) (q_preV hK hM hM.1 rfl) rfl rfl hl.1 rfl (lv_room (Nat.le_of_ble_eq_true rfl)) dX2_size_65 ⟨Nat.le_of_ble_eq_true rfl, Nat.le_of_ble_eq_true rfl⟩) hS rfl rfl (fun H locs hM hS => ?_)
        have ee : f_size (n, kd, sz, sh, nu, pa, sl, ft, tn, ts, tg) (nI j_slot) = (nI 0, (n, kd, sz, sh, nu, pa, sl, nI 1, (tn + 1), nI j_slot, nI 8)) := by first | (simp only [f_size, ej_slot, s_2, c_5]; done) | (simp only [f_size, ej_slot, s_2, c_5]; rfl) | (simp [f_size, ej_slot, s_2, c_5]; done) | (simp [f_size, ej_slot, s_2, c_5]; rfl) | (simp only [f_size, ej_slot, s_2, c_5]; (repeat' split) <;> first | rfl | (exfalso; omega))
        exact W.iret (v := nI 0) hx hb hr (fun tt ht hW => ⟨⟨nI 0, (n, kd, sz, sh, nu, pa, sl, nI 1, (tn + 1), nI j_slot, nI 8), rfl, ⟨(by rw [ee]), (by rw [ee])⟩, (by show q_M E mm S (n, kd, sz, sh, nu, pa, sl, nI 1, (tn + 1), nI j_slot, nI 8) tt.heap; rw [ht]; exact hM)⟩, hS.F ht⟩) hS.2.2 dX2_size_68
      · refine lv_aload_n hx hb dX2_size_47 rfl (lv_at hl 0 rfl) ?_
        refine qw_get (v := .ref (mm + 2)) (ci := 2) (C := RX2) (T := TX2) (N := 10) hx hb hts nX2_size_2 hown hK hM.1 rfl 2 (by decide) (hts (.fieldLink RX2 13 "DockGatesModel" "size" "[I") (by decide +kernel)) rfl rfl dX2_size_48 ?_
        refine lv_aload_n hx hb dX2_size_51 rfl (lv_at hl 0 rfl) ?_
        refine qw_get (v := .ref (mm + 5)) (ci := 2) (C := RX2) (T := TX2) (N := 10) hx hb hts nX2_size_2 hown hK hM.1 rfl 5 (by decide) (hts (.fieldLink RX2 24 "DockGatesModel" "slots" "[I") (by decide +kernel)) rfl rfl dX2_size_52 ?_
        refine lv_iload_n hx hb dX2_size_55 rfl (lv_at hl 1 rfl) ?_
        refine qm_slotS hx hb hK hM s_2 hj_slot dX2_size_56 ?_
        refine qw_iald (f := fun q => nI (sz q)) hx hb hK hM.2.2.1 (by omega) (by decide) dX2_size_57 ?_
        refine lv_goto (tgt := 68) hx hb dX2_size_58 (by decide) ?_
        have ee : f_size (n, kd, sz, sh, nu, pa, sl, ft, tn, ts, tg) (nI j_slot) = (nI (sz k_2), (n, kd, sz, sh, nu, pa, sl, (nI 0), tn, ts, tg)) := by first | (simp only [f_size, ej_slot, s_2, c_5]; done) | (simp only [f_size, ej_slot, s_2, c_5]; rfl) | (simp [f_size, ej_slot, s_2, c_5]; done) | (simp [f_size, ej_slot, s_2, c_5]; rfl) | (simp only [f_size, ej_slot, s_2, c_5]; (repeat' split) <;> first | rfl | (exfalso; omega))
        exact W.iret (v := nI (sz k_2)) hx hb hr (fun tt ht hW => ⟨⟨nI (sz k_2), (n, kd, sz, sh, nu, pa, sl, (nI 0), tn, ts, tg), rfl, ⟨(by rw [ee]), (by rw [ee])⟩, (by show q_M E mm S (n, kd, sz, sh, nu, pa, sl, (nI 0), tn, ts, tg) tt.heap; rw [ht]; exact hM)⟩, hS.F ht⟩) hS.2.2 dX2_size_68
  · have c_1 := q_isn c_1
    refine lv_bipush (v := (-2)) hx hb dX2_size_12 (by decide) ?_
    have ee : f_size (n, kd, sz, sh, nu, pa, sl, ft, tn, ts, tg) slot = (((-2)), (n, kd, sz, sh, nu, pa, sl, (nI 0), tn, ts, tg)) := by first | (simp only [f_size, c_1]; done) | (simp only [f_size, c_1]; rfl) | (simp [f_size, c_1]; done) | (simp [f_size, c_1]; rfl) | (simp only [f_size, c_1]; (repeat' split) <;> first | rfl | (exfalso; omega))
    exact W.iret (v := ((-2))) hx hb hr (fun tt ht hW => ⟨⟨((-2)), (n, kd, sz, sh, nu, pa, sl, (nI 0), tn, ts, tg), rfl, ⟨(by rw [ee]), (by rw [ee])⟩, (by show q_M E mm S (n, kd, sz, sh, nu, pa, sl, (nI 0), tn, ts, tg) tt.heap; rw [ht]; exact hM)⟩, hS.F ht⟩) hS.2.2 dX2_size_14
