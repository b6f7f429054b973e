/-! ===== the reference: its helpers (written by program) ===== -/
set_option maxRecDepth 20000 in
theorem nX2_fails_2 : ∀ w ∈ u_ws RX2 TX2 10, w ∈ wsX2_fails := by decide +kernel
set_option maxHeartbeats 4000000 in
set_option maxRecDepth 100000 in
theorem kX2_fails (l : Launch) (E : q_E) (mm S : Nat) (n : Nat) (kd sz : Nat → Nat) (sh : Nat → Bool) (nu : Nat → Nat → Int64) (pa : Nat → Nat → Option Nat) (sl : Nat → Option Nat) (ft tn ts tg : Int32) (hI : q_I (n, kd, sz, sh, nu, pa, sl, ft, tn, ts, tg)) (a : Int32)  : Met l yX2_fails wsX2_fails ({ frames := 0, cells := 0, slots := 0, locals := 0 }) (q_P E (q_M E mm S (n, kd, sz, sh, nu, pa, sl, ft, tn, ts, tg)) [.ref mm, .int a]) (q_Wi (q_M E mm S) (q_Am mm) (nI 0) (n, kd, sz, sh, nu, pa, sl, a, tn, ts, tg)) 0 0 (q_Am mm) := by
  refine Met.ofW (cc := cX2_fails) (maxL := 2) (ret := (some .int)) (by decide) rfl ?_
  intro p e s m args below meth c s₁ B hml hv
  obtain ⟨rfl, hK, hM⟩ := hv
  have hx := B.exec
  have hb := B.bytes
  have hr := B.returns
  have hts := atoms_spec (ws := wsX2_fails) B.pre
  have hown : s.vm.findClass RX2 = some m.cls := findClass_of_methodNamed B.named
  have hlocks := B.notSynchronized
  have hl := lv_entry ([.ref mm, .int a]) (n := 2) (Nat.le_of_ble_eq_true rfl)
  rw [lg_entry_eq]
  generalize (lg_sl ([.ref mm, .int a]) ++ List.replicate (2 - (lg_sl ([.ref mm, .int a])).length) Slot.unset).toArray = ls at hl ⊢
  have hl : lv_has ls 2 [(0, .ref mm), (1, .int a)] := hl
  have hS : va_S (q_Am mm) s.heap s.heap [] := va_S.rf
  refine lv_aload_n hx hb dX2_fails_0 rfl (lv_at hl 0 rfl) ?_
  refine lv_iload_n hx hb dX2_fails_1 rfl (lv_at hl 1 rfl) ?_
  refine qw_put (ci := 2) (C := RX2) (T := TX2) (N := 10) hx hb hts nX2_fails_2 tyX2 tyX2_ok nmX2 hown hK hM.1 hS ⟨by omega, by omega⟩ rfl 6 (by decide) (hts (.fieldLink RX2 42 "DockGatesModel" "fault" "I") (by decide +kernel)) rfl rfl rfl rfl (Nat.le_of_ble_eq_true rfl) dX2_fails_2 (fun H locs hO hz hq hS => ?_)
  have hM : q_M E mm S (n, kd, sz, sh, nu, pa, sl, a, tn, ts, tg) H := hM.obj hO hz hq
  refine lv_iconst (v := nI 0) hx hb dX2_fails_5 (by decide) ?_
  exact W.iret (v := nI 0) hx hb hr (fun tt ht hW => ⟨⟨nI 0, (n, kd, sz, sh, nu, pa, sl, a, tn, ts, tg), rfl, ⟨rfl, rfl⟩, (by show q_M E mm S (n, kd, sz, sh, nu, pa, sl, a, tn, ts, tg) tt.heap; rw [ht]; exact hM)⟩, hS.F ht⟩) hS.2.2 dX2_fails_6
set_option maxRecDepth 20000 in
theorem nX2_turn_2 : ∀ w ∈ u_ws RX2 TX2 10, w ∈ wsX2_turn := by decide +kernel
set_option maxHeartbeats 4000000 in
set_option maxRecDepth 100000 in
theorem kX2_turn (l : Launch) (E : q_E) (mm S : Nat) (n : Nat) (kd sz : Nat → Nat) (sh : Nat → Bool) (nu : Nat → Nat → Int64) (pa : Nat → Nat → Option Nat) (sl : Nat → Option Nat) (ft tn ts tg : Int32) (hI : q_I (n, kd, sz, sh, nu, pa, sl, ft, tn, ts, tg)) (a g : Int32)  : Met l yX2_turn wsX2_turn ({ frames := 0, cells := 0, slots := 0, locals := 0 }) (q_P E (q_M E mm S (n, kd, sz, sh, nu, pa, sl, ft, tn, ts, tg)) [.ref mm, .int a, .int g]) (q_Wv (q_M E mm S) (q_Am mm) (n, kd, sz, sh, nu, pa, sl, ft, tn + 1, a, g)) 0 0 (q_Am mm) := by
  refine Met.ofW (cc := cX2_turn) (maxL := 3) (ret := none) (by decide) rfl ?_
  intro p e s m args below meth c s₁ B hml hv
  obtain ⟨rfl, hK, hM⟩ := hv
  have hx := B.exec
  have hb := B.bytes
  have hr := B.returns
  have hts := atoms_spec (ws := wsX2_turn) B.pre
  have hown : s.vm.findClass RX2 = some m.cls := findClass_of_methodNamed B.named
  have hlocks := B.notSynchronized
  have hl := lv_entry ([.ref mm, .int a, .int g]) (n := 3) (Nat.le_of_ble_eq_true rfl)
  rw [lg_entry_eq]
  generalize (lg_sl ([.ref mm, .int a, .int g]) ++ List.replicate (3 - (lg_sl ([.ref mm, .int a, .int g])).length) Slot.unset).toArray = ls at hl ⊢
  have hl : lv_has ls 3 [(0, .ref mm), (1, .int a), (2, .int g)] := hl
  have hS : va_S (q_Am mm) s.heap s.heap [] := va_S.rf
  refine lv_aload_n hx hb dX2_turn_0 rfl (lv_at hl 0 rfl) ?_
  refine lv_dup hx hb dX2_turn_1 rfl ?_
  refine qw_get (v := .int tn) (ci := 2) (C := RX2) (T := TX2) (N := 10) hx hb hts nX2_turn_2 hown hK hM.1 rfl 7 (by decide) (hts (.fieldLink RX2 45 "DockGatesModel" "turned" "I") (by decide +kernel)) rfl rfl dX2_turn_2 ?_
  refine lv_iconst (v := nI 1) hx hb dX2_turn_5 (by decide) ?_
  refine lv_iadd hx hb dX2_turn_6 ?_
  refine qw_put (ci := 2) (C := RX2) (T := TX2) (N := 10) hx hb hts nX2_turn_2 tyX2 tyX2_ok nmX2 hown hK hM.1 hS ⟨by omega, by omega⟩ rfl 7 (by decide) (hts (.fieldLink RX2 45 "DockGatesModel" "turned" "I") (by decide +kernel)) rfl rfl rfl rfl (Nat.le_of_ble_eq_true rfl) dX2_turn_7 (fun H locs hO hz hq hS => ?_)
  have hM : q_M E mm S (n, kd, sz, sh, nu, pa, sl, ft, (tn + nI 1), ts, tg) H := hM.obj hO hz hq
  refine lv_aload_n hx hb dX2_turn_10 rfl (lv_at hl 0 rfl) ?_
  refine lv_iload_n hx hb dX2_turn_11 rfl (lv_at hl 1 rfl) ?_
  refine qw_put (ci := 2) (C := RX2) (T := TX2) (N := 10) hx hb hts nX2_turn_2 tyX2 tyX2_ok nmX2 hown hK hM.1 hS ⟨by omega, by omega⟩ rfl 8 (by decide) (hts (.fieldLink RX2 27 "DockGatesModel" "turnedSlot" "I") (by decide +kernel)) rfl rfl rfl rfl (Nat.le_of_ble_eq_true rfl) dX2_turn_12 (fun H locs hO hz hq hS => ?_)
  have hM : q_M E mm S (n, kd, sz, sh, nu, pa, sl, ft, (tn + nI 1), a, tg) H := hM.obj hO hz hq
  refine lv_aload_n hx hb dX2_turn_15 rfl (lv_at hl 0 rfl) ?_
  refine lv_iload_n hx hb dX2_turn_16 rfl (lv_at hl 2 rfl) ?_
  refine qw_put (ci := 2) (C := RX2) (T := TX2) (N := 10) hx hb hts nX2_turn_2 tyX2 tyX2_ok nmX2 hown hK hM.1 hS ⟨by omega, by omega⟩ rfl 9 (by decide) (hts (.fieldLink RX2 31 "DockGatesModel" "turnedGate" "I") (by decide +kernel)) rfl rfl rfl rfl (Nat.le_of_ble_eq_true rfl) dX2_turn_17 (fun H locs hO hz hq hS => ?_)
  have hM : q_M E mm S (n, kd, sz, sh, nu, pa, sl, ft, (tn + nI 1), a, g) H := hM.obj hO hz hq
  exact W.vret hx hb hr (fun tt ht hW => ⟨⟨(n, kd, sz, sh, nu, pa, sl, ft, (tn + nI 1), a, g), rfl, rfl, (by show q_M E mm S (n, kd, sz, sh, nu, pa, sl, ft, (tn + nI 1), a, g) tt.heap; rw [ht]; exact hM)⟩, hS.F ht⟩) hS.2.2 dX2_turn_20
set_option maxHeartbeats 4000000 in
set_option maxRecDepth 100000 in
theorem kX2_turns (l : Launch) (E : q_E) (mm S : Nat) (n : Nat) (kd sz : Nat → Nat) (sh : Nat → Bool) (nu : Nat → Nat → Int64) (pa : Nat → Nat → Option Nat) (sl : Nat → Option Nat) (ft tn ts tg : Int32) (hI : q_I (n, kd, sz, sh, nu, pa, sl, ft, tn, ts, tg)) (a g : Int32)  : Met l yX2_turns wsX2_turns ({ frames := 1, cells := 0, slots := 0, locals := 22 }) (q_P E (q_M E mm S (n, kd, sz, sh, nu, pa, sl, ft, tn, ts, tg)) [.ref mm, .int a, .int g]) (q_Wi (q_M E mm S) (q_Am mm) (nI 0) (n, kd, sz, sh, nu, pa, sl, nI 1, tn + 1, a, g)) 0 0 (q_Am mm) := by
  refine Met.ofW (cc := cX2_turns) (maxL := 3) (ret := (some .int)) (by decide) rfl ?_
  intro p e s m args below meth c s₁ B hml hv
  obtain ⟨rfl, hK, hM⟩ := hv
  have hx := B.exec
  have hb := B.bytes
  have hr := B.returns
  have hts := atoms_spec (ws := wsX2_turns) B.pre
  have hown : s.vm.findClass RX2 = some m.cls := findClass_of_methodNamed B.named
  have hlocks := B.notSynchronized
  have hl := lv_entry ([.ref mm, .int a, .int g]) (n := 3) (Nat.le_of_ble_eq_true rfl)
  rw [lg_entry_eq]
  generalize (lg_sl ([.ref mm, .int a, .int g]) ++ List.replicate (3 - (lg_sl ([.ref mm, .int a, .int g])).length) Slot.unset).toArray = ls at hl ⊢
  have hl : lv_has ls 3 [(0, .ref mm), (1, .int a), (2, .int g)] := hl
  have hS : va_S (q_Am mm) s.heap s.heap [] := va_S.rf
  refine lv_aload_n hx hb dX2_turns_0 rfl (lv_at hl 0 rfl) ?_
  refine lv_iload_n hx hb dX2_turns_1 rfl (lv_at hl 1 rfl) ?_
  refine lv_iload_n hx hb dX2_turns_2 rfl (lv_at hl 2 rfl) ?_
  refine qc_v (σ1 := (n, kd, sz, sh, nu, pa, sl, ft, (tn + 1), a, g)) (va_runV (As := [.int a, .int g]) (rest := []) ⟨hx, hb, hml, hown, hts⟩ (kX2_turn l E mm S n kd sz sh nu pa sl ft tn ts tg hI a g) (cwV 2 hts gX2_turns_X2_turn rfl rfl rfl (by decide +kernel) ⟨Nat.le_of_ble_eq_true rfl, Nat.le_of_ble_eq_true rfl⟩) (q_preV hK hM hM.1 rfl) rfl rfl hl.1 rfl (lv_room (Nat.le_of_ble_eq_true rfl)) dX2_turns_3 ⟨Nat.le_of_ble_eq_true rfl, Nat.le_of_ble_eq_true rfl⟩) hS rfl (fun H locs hM hS => ?_)
  refine lv_aload_n hx hb dX2_turns_6 rfl (lv_at hl 0 rfl) ?_
  refine lv_iconst (v := nI 1) hx hb dX2_turns_7 (by decide) ?_
  refine qc_i (r1 := nI 0) (σ1 := (n, kd, sz, sh, nu, pa, sl, nI 1, (tn + 1), a, g)) (va_runV (As := [.int (nI 1)]) (rest := []) ⟨hx, hb, hml, hown, hts⟩ (kX2_fails l E mm S n kd sz sh nu pa sl ft ((tn + 1)) a g hI (nI 1)) (cwV 1 hts gX2_turns_X2_fails rfl rfl rfl (by decide +kernel) ⟨Nat.le_of_ble_eq_true rfl, Nat.le_of_ble_eq_true rfl⟩) (q_preV hK hM hM.1 rfl) rfl rfl hl.1 rfl (lv_room (Nat.le_of_ble_eq_true rfl)) dX2_turns_8 ⟨Nat.le_of_ble_eq_true rfl, Nat.le_of_ble_eq_true rfl⟩) hS rfl rfl (fun H locs hM hS => ?_)
  exact W.iret (v := nI 0) hx hb hr (fun tt ht hW => ⟨⟨nI 0, (n, kd, sz, sh, nu, pa, sl, nI 1, (tn + 1), a, g), rfl, ⟨rfl, rfl⟩, (by show q_M E mm S (n, kd, sz, sh, nu, pa, sl, nI 1, (tn + 1), a, g) tt.heap; rw [ht]; exact hM)⟩, hS.F ht⟩) hS.2.2 dX2_turns_11
set_option maxRecDepth 20000 in
theorem nX2_bad_2 : ∀ w ∈ u_ws RX2 TX2 10, w ∈ wsX2_bad := by decide +kernel
set_option maxHeartbeats 4000000 in
set_option maxRecDepth 100000 in
theorem kX2_bad (l : Launch) (E : q_E) (mm S : Nat) (n : Nat) (kd sz : Nat → Nat) (sh : Nat → Bool) (nu : Nat → Nat → Int64) (pa : Nat → Nat → Option Nat) (sl : Nat → Option Nat) (ft tn ts tg : Int32) (hI : q_I (n, kd, sz, sh, nu, pa, sl, ft, tn, ts, tg))   : Met l yX2_bad wsX2_bad ({ frames := 0, cells := 0, slots := 0, locals := 0 }) (q_P E (q_M E mm S (n, kd, sz, sh, nu, pa, sl, ft, tn, ts, tg)) [.ref mm]) (q_Wi (q_M E mm S) (q_Am mm) ((-2)) (n, kd, sz, sh, nu, pa, sl, nI 0, tn, ts, tg)) 0 0 (q_Am mm) := by
  refine Met.ofW (cc := cX2_bad) (maxL := 1) (ret := (some .int)) (by decide) rfl ?_
  intro p e s m args below meth c s₁ B hml hv
  obtain ⟨rfl, hK, hM⟩ := hv
  have hx := B.exec
  have hb := B.bytes
  have hr := B.returns
  have hts := atoms_spec (ws := wsX2_bad) B.pre
  have hown : s.vm.findClass RX2 = some m.cls := findClass_of_methodNamed B.named
  have hlocks := B.notSynchronized
  have hl := lv_entry ([.ref mm]) (n := 1) (Nat.le_of_ble_eq_true rfl)
  rw [lg_entry_eq]
  generalize (lg_sl ([.ref mm]) ++ List.replicate (1 - (lg_sl ([.ref mm])).length) Slot.unset).toArray = ls at hl ⊢
  have hl : lv_has ls 1 [(0, .ref mm)] := hl
  have hS : va_S (q_Am mm) s.heap s.heap [] := va_S.rf
  refine lv_aload_n hx hb dX2_bad_0 rfl (lv_at hl 0 rfl) ?_
  refine lv_iconst (v := nI 0) hx hb dX2_bad_1 (by decide) ?_
  refine qw_put (ci := 2) (C := RX2) (T := TX2) (N := 10) hx hb hts nX2_bad_2 tyX2 tyX2_ok nmX2 hown hK hM.1 hS ⟨by omega, by omega⟩ rfl 6 (by decide) (hts (.fieldLink RX2 42 "DockGatesModel" "fault" "I") (by decide +kernel)) rfl rfl rfl rfl (Nat.le_of_ble_eq_true rfl) dX2_bad_2 (fun H locs hO hz hq hS => ?_)
  have hM : q_M E mm S (n, kd, sz, sh, nu, pa, sl, (nI 0), tn, ts, tg) H := hM.obj hO hz hq
  refine lv_bipush (v := (-2)) hx hb dX2_bad_5 (by decide) ?_
  exact W.iret (v := ((-2))) hx hb hr (fun tt ht hW => ⟨⟨((-2)), (n, kd, sz, sh, nu, pa, sl, (nI 0), tn, ts, tg), rfl, ⟨rfl, rfl⟩, (by show q_M E mm S (n, kd, sz, sh, nu, pa, sl, (nI 0), tn, ts, tg) tt.heap; rw [ht]; exact hM)⟩, hS.F ht⟩) hS.2.2 dX2_bad_7
set_option maxRecDepth 20000 in
theorem nX2_fitsAt_2 : ∀ w ∈ u_ws RX2 TX2 10, w ∈ wsX2_fitsAt := by decide +kernel
set_option maxHeartbeats 4000000 in
set_option maxRecDepth 100000 in
theorem kX2_fitsAt (l : Launch) (E : q_E) (mm S : Nat) (n : Nat) (kd sz : Nat → Nat) (sh : Nat → Bool) (nu : Nat → Nat → Int64) (pa : Nat → Nat → Option Nat) (sl : Nat → Option Nat) (ft tn ts tg : Int32) (hI : q_I (n, kd, sz, sh, nu, pa, sl, ft, tn, ts, tg)) (j g : Nat) (hj : j < 12) (hg : g < 13)  : Met l yX2_fitsAt wsX2_fitsAt ({ frames := 1, cells := 0, slots := 0, locals := 21 }) (q_P E (q_M E mm S (n, kd, sz, sh, nu, pa, sl, ft, tn, ts, tg)) [.ref mm, .int (nI j), .int (nI g)]) (vp_Si (fun rr => rr = q_b (q_fit kd (sl j) g))) 0 0 (fun _ => False) := by
  refine Met.ofW (cc := cX2_fitsAt) (maxL := 3) (ret := (some .boolean)) (by decide) rfl ?_
  intro p e s m args below meth c s₁ B hml hv
  obtain ⟨rfl, hK, hM⟩ := hv
  have hx := B.exec
  have hb := B.bytes
  have hr := B.returns
  have hts := atoms_spec (ws := wsX2_fitsAt) B.pre
  have hown : s.vm.findClass RX2 = some m.cls := findClass_of_methodNamed B.named
  have hlocks := B.notSynchronized
  have hl := lv_entry ([.ref mm, .int (nI j), .int (nI g)]) (n := 3) (Nat.le_of_ble_eq_true rfl)
  rw [lg_entry_eq]
  generalize (lg_sl ([.ref mm, .int (nI j), .int (nI g)]) ++ List.replicate (3 - (lg_sl ([.ref mm, .int (nI j), .int (nI g)])).length) Slot.unset).toArray = ls at hl ⊢
  have hl : lv_has ls 3 [(0, .ref mm), (1, .int (nI j)), (2, .int (nI g))] := hl
  refine lv_aload_n hx hb dX2_fitsAt_0 rfl (lv_at hl 0 rfl) ?_
  refine qw_get (v := .ref (mm + 5)) (ci := 2) (C := RX2) (T := TX2) (N := 10) hx hb hts nX2_fitsAt_2 hown hK hM.1 rfl 5 (by decide) (hts (.fieldLink RX2 24 "DockGatesModel" "slots" "[I") (by decide +kernel)) rfl rfl dX2_fitsAt_1 ?_
  refine lv_iload_n hx hb dX2_fitsAt_4 rfl (lv_at hl 1 rfl) ?_
  refine qm_slot hx hb hK hM hI hj dX2_fitsAt_5 (fun s_1 => ?_) (fun k_1 hk_1 s_1 => ?_)
  · try dsimp only at s_1
    refine lv_iconst (v := (-1)) hx hb dX2_fitsAt_6 (by decide) ?_
    refine lv_icmp_eq (tgt := 32) hx hb dX2_fitsAt_7 (by decide) (fun _ => ?_) (fun c_2 => absurd rfl c_2)
    refine lv_iconst (v := nI 0) hx hb dX2_fitsAt_32 (by decide) ?_
    exact W.zret (v := nI 0) hx hb hr rfl (fun tt ht hW => ⟨_, rfl, (q_b0 (by simp [q_fit, s_1])), ht⟩) (fun _ h => absurd h List.not_mem_nil) dX2_fitsAt_33
  · try dsimp only at s_1 hk_1
    obtain ⟨ak_1, bk_1, dk_1, wk_1⟩ := hI.2.1 k_1 hk_1
    have n60 := hI.1
    try dsimp only at ak_1 bk_1 dk_1 wk_1 n60
    refine lv_iconst (v := (-1)) hx hb dX2_fitsAt_6 (by decide) ?_
    refine lv_icmp_eq (tgt := 32) hx hb dX2_fitsAt_7 (by decide) (fun c_3 => absurd c_3 (q_nm1 (by omega))) (fun _ => ?_)
    refine lv_aload_n hx hb dX2_fitsAt_10 rfl (lv_at hl 0 rfl) ?_
    refine qw_get (v := .ref (mm + 1)) (ci := 2) (C := RX2) (T := TX2) (N := 10) hx hb hts nX2_fitsAt_2 hown hK hM.1 rfl 1 (by decide) (hts (.fieldLink RX2 7 "DockGatesModel" "kind" "[I") (by decide +kernel)) rfl rfl dX2_fitsAt_11 ?_
    refine lv_aload_n hx hb dX2_fitsAt_14 rfl (lv_at hl 0 rfl) ?_
    refine qw_get (v := .ref (mm + 5)) (ci := 2) (C := RX2) (T := TX2) (N := 10) hx hb hts nX2_fitsAt_2 hown hK hM.1 rfl 5 (by decide) (hts (.fieldLink RX2 24 "DockGatesModel" "slots" "[I") (by decide +kernel)) rfl rfl dX2_fitsAt_15 ?_
    refine lv_iload_n hx hb dX2_fitsAt_18 rfl (lv_at hl 1 rfl) ?_
    refine qm_slotS hx hb hK hM s_1 hj dX2_fitsAt_19 ?_
    refine qw_iald (f := fun q => nI (kd q)) hx hb hK hM.2.1 (by omega) (by decide) dX2_fitsAt_20 ?_
    refine lv_iload_n hx hb dX2_fitsAt_21 rfl (lv_at hl 2 rfl) ?_
    refine qc_ri (r1 := q_b (q_go (kd k_1) g)) (W.runS (As := [.int (nI (kd k_1)), .int (nI g)]) (rest := []) ⟨hx, hb, hml, hown, hts⟩ (kX2_goes l (kd k_1) g (by omega) (by omega)) (va_cwS 2 hts gX2_fitsAt_X2_goes rfl rfl rfl (by decide +kernel) ⟨Nat.le_of_ble_eq_true rfl, Nat.le_of_ble_eq_true rfl⟩) preEq rfl rfl hl.1 rfl (lv_room (Nat.le_of_ble_eq_true rfl)) dX2_fitsAt_22 ⟨Nat.le_of_ble_eq_true rfl, Nat.le_of_ble_eq_true rfl⟩) rfl ?_
    refine ln_b_eq (tgt := 32) hx hb dX2_fitsAt_25 (by decide) (fun c_4 => ?_) (fun c_4 => ?_)
    · refine lv_iconst (v := nI 0) hx hb dX2_fitsAt_32 (by decide) ?_
      exact W.zret (v := nI 0) hx hb hr rfl (fun tt ht hW => ⟨_, rfl, (q_b0 (by simp [q_fit, s_1, c_4])), ht⟩) (fun _ h => absurd h List.not_mem_nil) dX2_fitsAt_33
    · refine lv_iconst (v := nI 1) hx hb dX2_fitsAt_28 (by decide) ?_
      refine lv_goto (tgt := 33) hx hb dX2_fitsAt_29 (by decide) ?_
      exact W.zret (v := nI 1) hx hb hr rfl (fun tt ht hW => ⟨_, rfl, (q_b1 (by simp [q_fit, s_1, c_4])), ht⟩) (fun _ h => absurd h List.not_mem_nil) dX2_fitsAt_33
set_option maxRecDepth 20000 in
theorem nX2_weighs_2 : ∀ w ∈ u_ws RX2 TX2 10, w ∈ wsX2_weighs := by decide +kernel
set_option maxHeartbeats 4000000 in
set_option maxRecDepth 100000 in
theorem kX2_weighs (l : Launch) (E : q_E) (mm S : Nat) (n : Nat) (kd sz : Nat → Nat) (sh : Nat → Bool) (nu : Nat → Nat → Int64) (pa : Nat → Nat → Option Nat) (sl : Nat → Option Nat) (ft tn ts tg : Int32) (hI : q_I (n, kd, sz, sh, nu, pa, sl, ft, tn, ts, tg)) (t : Nat) (ht : t < n)  : Met l yX2_weighs wsX2_weighs ({ frames := 0, cells := 0, slots := 0, locals := 0 }) (q_P E (q_M E mm S (n, kd, sz, sh, nu, pa, sl, ft, tn, ts, tg)) [.ref mm, .int (nI t)]) (vp_Si (fun rr => rr = nI (q_w kd sz sh t))) 0 0 (fun _ => False) := by
  refine Met.ofW (cc := cX2_weighs) (maxL := 2) (ret := (some .int)) (by decide) rfl ?_
  intro p e s m args below meth c s₁ B hml hv
  obtain ⟨rfl, hK, hM⟩ := hv
  have hx := B.exec
  have hb := B.bytes
  have hr := B.returns
  have hts := atoms_spec (ws := wsX2_weighs) B.pre
  have hown : s.vm.findClass RX2 = some m.cls := findClass_of_methodNamed B.named
  have hlocks := B.notSynchronized
  have hl := lv_entry ([.ref mm, .int (nI t)]) (n := 2) (Nat.le_of_ble_eq_true rfl)
  rw [lg_entry_eq]
  generalize (lg_sl ([.ref mm, .int (nI t)]) ++ List.replicate (2 - (lg_sl ([.ref mm, .int (nI t)])).length) Slot.unset).toArray = ls at hl ⊢
  have hl : lv_has ls 2 [(0, .ref mm), (1, .int (nI t))] := hl
  obtain ⟨at_, bt_, dt_, wt_⟩ := hI.2.1 t ht
  have n60 := hI.1
  try dsimp only at at_ bt_ dt_ wt_ n60
  refine lv_aload_n hx hb dX2_weighs_0 rfl (lv_at hl 0 rfl) ?_
  refine qw_get (v := .ref (mm + 1)) (ci := 2) (C := RX2) (T := TX2) (N := 10) hx hb hts nX2_weighs_2 hown hK hM.1 rfl 1 (by decide) (hts (.fieldLink RX2 7 "DockGatesModel" "kind" "[I") (by decide +kernel)) rfl rfl dX2_weighs_1 ?_
  refine lv_iload_n hx hb dX2_weighs_4 rfl (lv_at hl 1 rfl) ?_
  refine qw_iald (f := fun q => nI (kd q)) hx hb hK hM.2.1 (by omega) (by decide) dX2_weighs_5 ?_
  refine lv_bipush (v := nI 11) hx hb dX2_weighs_6 (by decide) ?_
  refine ln_cmp_ne (tgt := 22) hx hb (by omega) (by omega) dX2_weighs_8 (by decide) (fun c_1 => ?_) (fun c_1 => ?_)
  · refine lv_aload_n hx hb dX2_weighs_22 rfl (lv_at hl 0 rfl) ?_
    refine qw_get (v := .ref (mm + 2)) (ci := 2) (C := RX2) (T := TX2) (N := 10) hx hb hts nX2_weighs_2 hown hK hM.1 rfl 2 (by decide) (hts (.fieldLink RX2 13 "DockGatesModel" "size" "[I") (by decide +kernel)) rfl rfl dX2_weighs_23 ?_
    refine lv_iload_n hx hb dX2_weighs_26 rfl (lv_at hl 1 rfl) ?_
    refine qw_iald (f := fun q => nI (sz q)) hx hb hK hM.2.2.1 (by omega) (by decide) dX2_weighs_27 ?_
    refine lv_aload_n hx hb dX2_weighs_28 rfl (lv_at hl 0 rfl) ?_
    refine qw_get (v := .ref (mm + 3)) (ci := 2) (C := RX2) (T := TX2) (N := 10) hx hb hts nX2_weighs_2 hown hK hM.1 rfl 3 (by decide) (hts (.fieldLink RX2 16 "DockGatesModel" "isShut" "[Z") (by decide +kernel)) rfl rfl dX2_weighs_29 ?_
    refine lv_iload_n hx hb dX2_weighs_32 rfl (lv_at hl 1 rfl) ?_
    refine qw_zald (f := fun q => q_b (sh q)) hx hb hK hM.2.2.2.1 (by omega) (by decide) dX2_weighs_33 ?_
    refine ln_b_eq (tgt := 41) hx hb dX2_weighs_34 (by decide) (fun c_2 => ?_) (fun c_2 => ?_)
    · refine lv_iconst (v := nI 0) hx hb dX2_weighs_41 (by decide) ?_
      refine ln_add hx hb dX2_weighs_42 ?_
      exact W.iret (v := nI ((sz t) + 0)) hx hb hr (fun tt ht hW => ⟨_, rfl, (q_c (by unfold q_w; simp [c_1, c_2])), ht⟩) (fun _ h => absurd h List.not_mem_nil) dX2_weighs_43
    · refine lv_iconst (v := nI 1) hx hb dX2_weighs_37 (by decide) ?_
      refine lv_goto (tgt := 42) hx hb dX2_weighs_38 (by decide) ?_
      refine ln_add hx hb dX2_weighs_42 ?_
      exact W.iret (v := nI ((sz t) + 1)) hx hb hr (fun tt ht hW => ⟨_, rfl, (q_c (by unfold q_w; simp [c_1, c_2])), ht⟩) (fun _ h => absurd h List.not_mem_nil) dX2_weighs_43
  · refine lv_iconst (v := nI 2) hx hb dX2_weighs_11 (by decide) ?_
    refine lv_aload_n hx hb dX2_weighs_12 rfl (lv_at hl 0 rfl) ?_
    refine qw_get (v := .ref (mm + 2)) (ci := 2) (C := RX2) (T := TX2) (N := 10) hx hb hts nX2_weighs_2 hown hK hM.1 rfl 2 (by decide) (hts (.fieldLink RX2 13 "DockGatesModel" "size" "[I") (by decide +kernel)) rfl rfl dX2_weighs_13 ?_
    refine lv_iload_n hx hb dX2_weighs_16 rfl (lv_at hl 1 rfl) ?_
    refine qw_iald (f := fun q => nI (sz q)) hx hb hK hM.2.2.1 (by omega) (by decide) dX2_weighs_17 ?_
    refine ln_mul hx hb dX2_weighs_18 ?_
    refine lv_goto (tgt := 43) hx hb dX2_weighs_19 (by decide) ?_
    exact W.iret (v := nI (2 * (sz t))) hx hb hr (fun tt ht hW => ⟨_, rfl, (q_c (by unfold q_w; simp [c_1])), ht⟩) (fun _ h => absurd h List.not_mem_nil) dX2_weighs_43
set_option maxRecDepth 20000 in
theorem nX2_sumOf_2 : ∀ w ∈ u_ws RX2 TX2 10, w ∈ wsX2_sumOf := by decide +kernel
set_option maxHeartbeats 4000000 in
set_option maxRecDepth 100000 in
theorem kX2_sumOf (l : Launch) (E : q_E) (mm S : Nat) (n : Nat) (kd sz : Nat → Nat) (sh : Nat → Bool) (nu : Nat → Nat → Int64) (pa : Nat → Nat → Option Nat) (sl : Nat → Option Nat) (ft tn ts tg : Int32) (hI : q_I (n, kd, sz, sh, nu, pa, sl, ft, tn, ts, tg)) (t : Nat) (ht : t < n) (h3 : kd t < 3)  : Met l yX2_sumOf wsX2_sumOf ({ frames := 0, cells := 0, slots := 0, locals := 0 }) (q_P E (q_M E mm S (n, kd, sz, sh, nu, pa, sl, ft, tn, ts, tg)) [.ref mm, .int (nI t)]) (vp_Sl (fun rr => rr = q_so kd sz nu t)) 0 0 (fun _ => False) := by
  refine Met.ofW (cc := cX2_sumOf) (maxL := 5) (ret := (some .long)) (by decide) rfl ?_
  intro p e s m args below meth c s₁ B hml hv
  obtain ⟨rfl, hK, hM⟩ := hv
  have hx := B.exec
  have hb := B.bytes
  have hr := B.returns
  have hts := atoms_spec (ws := wsX2_sumOf) B.pre
  have hown : s.vm.findClass RX2 = some m.cls := findClass_of_methodNamed B.named
  have hlocks := B.notSynchronized
  have hl := lv_entry ([.ref mm, .int (nI t)]) (n := 5) (Nat.le_of_ble_eq_true rfl)
  rw [lg_entry_eq]
  generalize (lg_sl ([.ref mm, .int (nI t)]) ++ List.replicate (5 - (lg_sl ([.ref mm, .int (nI t)])).length) Slot.unset).toArray = ls at hl ⊢
  have hl : lv_has ls 5 [(0, .ref mm), (1, .int (nI t))] := hl
  obtain ⟨at_, bt_, dt_, wt_⟩ := hI.2.1 t ht
  have n60 := hI.1
  try dsimp only at at_ bt_ dt_ wt_ n60
  refine lv_lconst (v := 0) hx hb dX2_sumOf_0 (by decide) ?_
  refine lv_lstore_n (lv' := [(2, .long 0), (0, .ref mm), (1, .int (nI t))]) hx hb dX2_sumOf_1 rfl hl (by decide) rfl (fun ls hl => ?_)
  refine lv_iconst (v := nI 0) hx hb dX2_sumOf_2 (by decide) ?_
  refine lv_istore (lv' := [(4, .int (nI 0)), (2, .long 0), (0, .ref mm), (1, .int (nI t))]) hx hb dX2_sumOf_3 hl (by decide) rfl (fun ls hl => ?_)
  obtain ⟨i, ei⟩ : ∃ i : Nat, i = 0 := ⟨_, rfl⟩
  have hl : lv_has ls 5 [(0, .ref mm), (1, .int (nI t)), (2, .long (q_sm (nu t) i)), (4, .int (nI i))] := by subst ei; exact lv_sub hl [2, 3, 1, 0] rfl
  generalize els : ls = lz at hl ⊢
  clear els
  obtain ⟨d, hd⟩ : ∃ d, i + d = sz t := ⟨sz t - i, by omega⟩
  clear ei
  induction d generalizing i lz with
  | zero =>
    refine lv_iload hx hb dX2_sumOf_5 (lv_at hl 3 rfl) ?_
    refine lv_aload_n hx hb dX2_sumOf_7 rfl (lv_at hl 0 rfl) ?_
    refine qw_get (v := .ref (mm + 2)) (ci := 2) (C := RX2) (T := TX2) (N := 10) hx hb hts nX2_sumOf_2 hown hK hM.1 rfl 2 (by decide) (hts (.fieldLink RX2 13 "DockGatesModel" "size" "[I") (by decide +kernel)) rfl rfl dX2_sumOf_8 ?_
    refine lv_iload_n hx hb dX2_sumOf_11 rfl (lv_at hl 1 rfl) ?_
    refine qw_iald (f := fun q => nI (sz q)) hx hb hK hM.2.2.1 (by omega) (by decide) dX2_sumOf_12 ?_
    refine ln_cmp_ge (tgt := 37) hx hb (by omega) (by omega) dX2_sumOf_13 (by decide) (fun _ => ?_) (fun c_1 => absurd c_1 (by omega))
    refine lv_aload_n hx hb dX2_sumOf_37 rfl (lv_at hl 0 rfl) ?_
    refine qw_get (v := .ref (mm + 1)) (ci := 2) (C := RX2) (T := TX2) (N := 10) hx hb hts nX2_sumOf_2 hown hK hM.1 rfl 1 (by decide) (hts (.fieldLink RX2 7 "DockGatesModel" "kind" "[I") (by decide +kernel)) rfl rfl dX2_sumOf_38 ?_
    refine lv_iload_n hx hb dX2_sumOf_41 rfl (lv_at hl 1 rfl) ?_
    refine qw_iald (f := fun q => nI (kd q)) hx hb hK hM.2.1 (by omega) (by decide) dX2_sumOf_42 ?_
    refine lv_iconst (v := nI 2) hx hb dX2_sumOf_43 (by decide) ?_
    refine ln_cmp_ne (tgt := 51) hx hb (by omega) (by omega) dX2_sumOf_44 (by decide) (fun c_2 => ?_) (fun c_2 => ?_)
    · refine lv_lload_n hx hb dX2_sumOf_51 rfl (lv_at hl 2 rfl) ?_
      refine lv_l2i hx hb dX2_sumOf_52 rfl ?_
      refine lv_i2l hx hb dX2_sumOf_53 rfl ?_
      exact W.lret (v := Int32.toInt64 ((Int64.toInt32 (q_sm (nu t) i)))) hx hb hr (fun tt ht hW => ⟨_, rfl, (by unfold q_so q_num; rw [if_neg c_2, q_nl3 h3, ← hd]; rfl), ht⟩) (fun _ h => absurd h List.not_mem_nil) dX2_sumOf_54
    · refine lv_lload_n hx hb dX2_sumOf_47 rfl (lv_at hl 2 rfl) ?_
      refine lv_goto (tgt := 54) hx hb dX2_sumOf_48 (by decide) ?_
      exact W.lret (v := q_sm (nu t) i) hx hb hr (fun tt ht hW => ⟨_, rfl, (by unfold q_so q_num; rw [if_pos c_2, q_nl3 h3, ← hd]; rfl), ht⟩) (fun _ h => absurd h List.not_mem_nil) dX2_sumOf_54
  | succ d ih =>
    refine lv_iload hx hb dX2_sumOf_5 (lv_at hl 3 rfl) ?_
    refine lv_aload_n hx hb dX2_sumOf_7 rfl (lv_at hl 0 rfl) ?_
    refine qw_get (v := .ref (mm + 2)) (ci := 2) (C := RX2) (T := TX2) (N := 10) hx hb hts nX2_sumOf_2 hown hK hM.1 rfl 2 (by decide) (hts (.fieldLink RX2 13 "DockGatesModel" "size" "[I") (by decide +kernel)) rfl rfl dX2_sumOf_8 ?_
    refine lv_iload_n hx hb dX2_sumOf_11 rfl (lv_at hl 1 rfl) ?_
    refine qw_iald (f := fun q => nI (sz q)) hx hb hK hM.2.2.1 (by omega) (by decide) dX2_sumOf_12 ?_
    refine ln_cmp_ge (tgt := 37) hx hb (by omega) (by omega) dX2_sumOf_13 (by decide) (fun c_3 => absurd c_3 (by omega)) (fun _ => ?_)
    refine lv_lload_n hx hb dX2_sumOf_16 rfl (lv_at hl 2 rfl) ?_
    refine lv_aload_n hx hb dX2_sumOf_17 rfl (lv_at hl 0 rfl) ?_
    refine qw_get (v := .ref (mm + 4)) (ci := 2) (C := RX2) (T := TX2) (N := 10) hx hb hts nX2_sumOf_2 hown hK hM.1 rfl 4 (by decide) (hts (.fieldLink RX2 20 "DockGatesModel" "cell" "[J") (by decide +kernel)) rfl rfl dX2_sumOf_18 ?_
    refine lv_bipush (v := nI 8) hx hb dX2_sumOf_21 (by decide) ?_
    refine lv_iload_n hx hb dX2_sumOf_23 rfl (lv_at hl 1 rfl) ?_
    refine ln_mul hx hb dX2_sumOf_24 ?_
    refine lv_iload hx hb dX2_sumOf_25 (lv_at hl 3 rfl) ?_
    refine ln_add hx hb dX2_sumOf_27 ?_
    refine qm_num (k := t) (i := i) hx hb hK hM (by omega) (by omega) (show ¬ (3 ≤ kd t ∧ kd t < 9) by omega) dX2_sumOf_28 ?_
    refine lv_ladd hx hb dX2_sumOf_29 ?_
    refine lv_lstore_n (lv' := [(2, .long ((q_sm (nu t) i) + (nu t i))), (0, .ref mm), (1, .int (nI t)), (4, .int (nI i))]) hx hb dX2_sumOf_30 rfl hl (by decide) rfl (fun ls hl => ?_)
    refine lv_iinc (v := nI (i + 1)) (lv' := [(4, .int (nI (i + 1))), (2, .long ((q_sm (nu t) i) + (nu t i))), (0, .ref mm), (1, .int (nI t))]) hx hb dX2_sumOf_31 hl (k := 3) rfl (nI_1 _) (by decide) rfl (fun ls hl => ?_)
    refine lv_goto (tgt := 5) hx hb dX2_sumOf_34 (by decide) ?_
    exact ih (i + 1) ls (lv_sub hl [2, 3, 1, 0] rfl)  (by omega) 
set_option maxRecDepth 20000 in
theorem nX2_insideOf_2 : ∀ w ∈ u_ws RX2 TX2 10, w ∈ wsX2_insideOf := by decide +kernel
set_option maxHeartbeats 4000000 in
set_option maxRecDepth 100000 in
theorem kX2_insideOf_f (l : Launch) (E : q_E) (mm S : Nat) (n : Nat) (kd sz : Nat → Nat) (sh : Nat → Bool) (nu : Nat → Nat → Int64) (pa : Nat → Nat → Option Nat) (sl : Nat → Option Nat) (ft tn ts tg : Int32) (hI : q_I (n, kd, sz, sh, nu, pa, sl, ft, tn, ts, tg)) (t : Nat) (ht : t < n) (hkk : 4 ≤ kd t ∧ kd t ≤ 6)  : Met l yX2_insideOf wsX2_insideOf ({ frames := 1, cells := 0, slots := 0, locals := 21 }) (q_P E (q_M E mm S (n, kd, sz, sh, nu, pa, sl, ft, tn, ts, tg)) [.ref mm, .int (nI t), .int (nI 0)]) (q_Wi (q_M E mm S) (q_Am mm) (nI (q_ins kd sz sh pa false t)) (n, kd, sz, sh, nu, pa, sl, q_fh (q_ho1 kd sz pa t) ft, tn, ts, tg)) 0 0 (q_Am mm) := by
  refine Met.ofW (cc := cX2_insideOf) (maxL := 6) (ret := (some .int)) (by decide) rfl ?_
  intro p e s m args below meth c s₁ B hml hv
  obtain ⟨rfl, hK, hM⟩ := hv
  have hx := B.exec
  have hb := B.bytes
  have hr := B.returns
  have hts := atoms_spec (ws := wsX2_insideOf) B.pre
  have hown : s.vm.findClass RX2 = some m.cls := findClass_of_methodNamed B.named
  have hlocks := B.notSynchronized
  have hl := lv_entry ([.ref mm, .int (nI t), .int (nI 0)]) (n := 6) (Nat.le_of_ble_eq_true rfl)
  rw [lg_entry_eq]
  generalize (lg_sl ([.ref mm, .int (nI t), .int (nI 0)]) ++ List.replicate (6 - (lg_sl ([.ref mm, .int (nI t), .int (nI 0)])).length) Slot.unset).toArray = ls at hl ⊢
  have hl : lv_has ls 6 [(0, .ref mm), (1, .int (nI t)), (2, .int (nI 0))] := hl
  have hS : va_S (q_Am mm) s.heap s.heap [] := va_S.rf
  obtain ⟨at_, bt_, dt_, wt_⟩ := hI.2.1 t ht
  have n60 := hI.1
  try dsimp only at at_ bt_ dt_ wt_ n60
  refine lv_iconst (v := nI 0) hx hb dX2_insideOf_0 (by decide) ?_
  refine lv_istore_n (lv' := [(3, .int (nI 0)), (0, .ref mm), (1, .int (nI t)), (2, .int (nI 0))]) hx hb dX2_insideOf_1 rfl hl (by decide) rfl (fun ls hl => ?_)
  refine lv_iconst (v := nI 0) hx hb dX2_insideOf_2 (by decide) ?_
  refine lv_istore (lv' := [(4, .int (nI 0)), (3, .int (nI 0)), (0, .ref mm), (1, .int (nI t)), (2, .int (nI 0))]) hx hb dX2_insideOf_3 hl (by decide) rfl (fun ls hl => ?_)
  obtain ⟨i, ei⟩ : ∃ i : Nat, i = 0 := ⟨_, rfl⟩
  refine qw_name (P := fun H locs => q_M E mm S (n, kd, sz, sh, nu, pa, sl, (q_fh (q_h1 (pa t) i) ft), tn, ts, tg) H ∧ va_S (q_Am mm) s.heap H locs) (by subst ei; exact ⟨hM, hS⟩) (fun H locs hMS => ?_)
  clear hM hS
  obtain ⟨hM, hS⟩ := hMS
  have hl : lv_has ls 6 [(0, .ref mm), (1, .int (nI t)), (2, .int (nI 0)), (3, .int (nI (q_su (q_ld kd sz sh false) (pa t) i))), (4, .int (nI i))] := by subst ei; exact lv_sub hl [2, 3, 4, 1, 0] rfl
  generalize els : ls = lz at hl ⊢
  clear els
  obtain ⟨d, hd⟩ : ∃ d, i + d = sz t := ⟨sz t - i, by omega⟩
  clear ei
  induction d generalizing i H locs lz with
  | zero =>
    refine lv_iload hx hb dX2_insideOf_5 (lv_at hl 4 rfl) ?_
    refine lv_aload_n hx hb dX2_insideOf_7 rfl (lv_at hl 0 rfl) ?_
    refine qw_get (v := .ref (mm + 2)) (ci := 2) (C := RX2) (T := TX2) (N := 10) hx hb hts nX2_insideOf_2 hown hK hM.1 rfl 2 (by decide) (hts (.fieldLink RX2 13 "DockGatesModel" "size" "[I") (by decide +kernel)) rfl rfl dX2_insideOf_8 ?_
    refine lv_iload_n hx hb dX2_insideOf_11 rfl (lv_at hl 1 rfl) ?_
    refine qw_iald (f := fun q => nI (sz q)) hx hb hK hM.2.2.1 (by omega) (by decide) dX2_insideOf_12 ?_
    refine ln_cmp_ge (tgt := 82) hx hb (by omega) (by omega) dX2_insideOf_13 (by decide) (fun _ => ?_) (fun c_1 => absurd c_1 (by omega))
    refine lv_iload_n hx hb dX2_insideOf_82 rfl (lv_at hl 3 rfl) ?_
    exact W.iret (v := nI (q_su (q_ld kd sz sh false) (pa t) i)) hx hb hr (fun tt ht hW => ⟨⟨nI (q_su (q_ld kd sz sh false) (pa t) i), (n, kd, sz, sh, nu, pa, sl, (q_fh (q_h1 (pa t) i) ft), tn, ts, tg), rfl, ⟨(q_c (by unfold q_ins; rw [q_pl39 (by omega) (by omega), ← hd]; rfl)), (by unfold q_ho1; rw [q_pl39 (by omega) (by omega), ← hd]; rfl)⟩, (by show q_M E mm S (n, kd, sz, sh, nu, pa, sl, (q_fh (q_h1 (pa t) i) ft), tn, ts, tg) tt.heap; rw [ht]; exact hM)⟩, hS.F ht⟩) hS.2.2 dX2_insideOf_83
  | succ d ih =>
    refine lv_iload hx hb dX2_insideOf_5 (lv_at hl 4 rfl) ?_
    refine lv_aload_n hx hb dX2_insideOf_7 rfl (lv_at hl 0 rfl) ?_
    refine qw_get (v := .ref (mm + 2)) (ci := 2) (C := RX2) (T := TX2) (N := 10) hx hb hts nX2_insideOf_2 hown hK hM.1 rfl 2 (by decide) (hts (.fieldLink RX2 13 "DockGatesModel" "size" "[I") (by decide +kernel)) rfl rfl dX2_insideOf_8 ?_
    refine lv_iload_n hx hb dX2_insideOf_11 rfl (lv_at hl 1 rfl) ?_
    refine qw_iald (f := fun q => nI (sz q)) hx hb hK hM.2.2.1 (by omega) (by decide) dX2_insideOf_12 ?_
    refine ln_cmp_ge (tgt := 82) hx hb (by omega) (by omega) dX2_insideOf_13 (by decide) (fun c_2 => absurd c_2 (by omega)) (fun _ => ?_)
    refine lv_aload_n hx hb dX2_insideOf_16 rfl (lv_at hl 0 rfl) ?_
    refine qw_get (v := .ref (mm + 4)) (ci := 2) (C := RX2) (T := TX2) (N := 10) hx hb hts nX2_insideOf_2 hown hK hM.1 rfl 4 (by decide) (hts (.fieldLink RX2 20 "DockGatesModel" "cell" "[J") (by decide +kernel)) rfl rfl dX2_insideOf_17 ?_
    refine lv_bipush (v := nI 8) hx hb dX2_insideOf_20 (by decide) ?_
    refine lv_iload_n hx hb dX2_insideOf_22 rfl (lv_at hl 1 rfl) ?_
    refine ln_mul hx hb dX2_insideOf_23 ?_
    refine lv_iload hx hb dX2_insideOf_24 (lv_at hl 4 rfl) ?_
    refine ln_add hx hb dX2_insideOf_26 ?_
    refine qm_part (k := t) (i := i) hx hb hK hM hI ht (by omega) (show 3 ≤ kd t ∧ kd t < 9 by omega) dX2_insideOf_27 (fun s_3 => ?_) (fun y_3 hy_3 oy_3 s_3 => ?_)
    · try dsimp only at s_3
      refine lv_l2i (v := (-1)) hx hb dX2_insideOf_28 (by decide) ?_
      refine lv_istore (lv' := [(5, .int ((-1))), (0, .ref mm), (1, .int (nI t)), (2, .int (nI 0)), (3, .int (nI (q_su (q_ld kd sz sh false) (pa t) i))), (4, .int (nI i))]) hx hb dX2_insideOf_29 hl (by decide) rfl (fun ls hl => ?_)
      refine lv_iload hx hb dX2_insideOf_31 (lv_at hl 0 rfl) ?_
      refine lv_iconst (v := (-1)) hx hb dX2_insideOf_33 (by decide) ?_
      refine lv_icmp_ne (tgt := 45) hx hb dX2_insideOf_34 (by decide) (fun c_4 => absurd rfl c_4) (fun _ => ?_)
      refine lv_aload_n hx hb dX2_insideOf_37 rfl (lv_at hl 1 rfl) ?_
      refine lv_iconst (v := nI 4) hx hb dX2_insideOf_38 (by decide) ?_
      refine qw_put (ci := 2) (C := RX2) (T := TX2) (N := 10) hx hb hts nX2_insideOf_2 tyX2 tyX2_ok nmX2 hown hK hM.1 hS ⟨by omega, by omega⟩ rfl 6 (by decide) (hts (.fieldLink RX2 42 "DockGatesModel" "fault" "I") (by decide +kernel)) rfl rfl rfl rfl (Nat.le_of_ble_eq_true rfl) dX2_insideOf_39 (fun H locs hO hz hq hS => ?_)
      have hM : q_M E mm S (n, kd, sz, sh, nu, pa, sl, (nI 4), tn, ts, tg) H := hM.obj hO hz hq
      refine lv_goto (tgt := 76) hx hb dX2_insideOf_42 (by decide) ?_
      refine lv_iinc (v := nI (i + 1)) (lv' := [(4, .int (nI (i + 1))), (5, .int ((-1))), (0, .ref mm), (1, .int (nI t)), (2, .int (nI 0)), (3, .int (nI (q_su (q_ld kd sz sh false) (pa t) i)))]) hx hb dX2_insideOf_76 hl (k := 5) rfl (nI_1 _) (by decide) rfl (fun ls hl => ?_)
      refine lv_goto (tgt := 5) hx hb dX2_insideOf_79 (by decide) ?_
      exact ih (i + 1) H locs (by rw [q_fh_n s_3]; exact hM) hS ls (by rw [q_su_n s_3]; exact lv_sub hl [2, 3, 4, 5, 0] rfl)  (by omega) 
    · try dsimp only at s_3 hy_3 oy_3
      unfold q_ok at oy_3
      obtain ⟨ay_3, by_3, dy_3, wy_3⟩ := hI.2.1 y_3 hy_3
      have n60 := hI.1
      try dsimp only at ay_3 by_3 dy_3 wy_3 n60
      refine lv_l2i (v := nI y_3) hx hb dX2_insideOf_28 (lN_i _) ?_
      refine lv_istore (lv' := [(5, .int (nI y_3)), (0, .ref mm), (1, .int (nI t)), (2, .int (nI 0)), (3, .int (nI (q_su (q_ld kd sz sh false) (pa t) i))), (4, .int (nI i))]) hx hb dX2_insideOf_29 hl (by decide) rfl (fun ls hl => ?_)
      refine lv_iload hx hb dX2_insideOf_31 (lv_at hl 0 rfl) ?_
      refine lv_iconst (v := (-1)) hx hb dX2_insideOf_33 (by decide) ?_
      refine lv_icmp_ne (tgt := 45) hx hb dX2_insideOf_34 (by decide) (fun _ => ?_) (fun c_5 => absurd c_5 (q_nm1 (by omega)))
      refine lv_iload_n hx hb dX2_insideOf_45 rfl (lv_at hl 4 rfl) ?_
      refine lv_iload_n hx hb dX2_insideOf_46 rfl (lv_at hl 3 rfl) ?_
      refine ln_if_eq (tgt := 68) hx hb (by omega) dX2_insideOf_47 (by decide) (fun _ => ?_) (fun c_6 => absurd c_6 (by omega))
      refine lv_aload_n hx hb dX2_insideOf_68 rfl (lv_at hl 1 rfl) ?_
      refine lv_iload hx hb dX2_insideOf_69 (lv_at hl 0 rfl) ?_
      refine qc_ri (r1 := nI (q_w kd sz sh y_3)) (W.runV (As := [.int (nI y_3)]) (rest := [.int (nI (q_su (q_ld kd sz sh false) (pa t) i))]) ⟨hx, hb, hml, hown, hts⟩ (kX2_weighs l E mm S n kd sz sh nu pa sl ((q_fh (q_h1 (pa t) i) ft)) tn ts tg hI y_3 hy_3) (cwV 1 hts gX2_insideOf_X2_weighs rfl rfl rfl (by decide +kernel) ⟨Nat.le_of_ble_eq_true rfl, Nat.le_of_ble_eq_true rfl⟩) (q_preV hK hM hM.1 rfl) rfl rfl hl.1 rfl (lv_room (Nat.le_of_ble_eq_true rfl)) dX2_insideOf_71 ⟨Nat.le_of_ble_eq_true rfl, Nat.le_of_ble_eq_true rfl⟩) rfl ?_
      have iy_3 := q_w_le (kd := kd) (sh := sh) by_3
      refine ln_add hx hb dX2_insideOf_74 ?_
      refine lv_istore_n (lv' := [(3, .int (nI ((q_su (q_ld kd sz sh false) (pa t) i) + (q_w kd sz sh y_3)))), (5, .int (nI y_3)), (0, .ref mm), (1, .int (nI t)), (2, .int (nI 0)), (4, .int (nI i))]) hx hb dX2_insideOf_75 rfl hl (by decide) rfl (fun ls hl => ?_)
      refine lv_iinc (v := nI (i + 1)) (lv' := [(4, .int (nI (i + 1))), (3, .int (nI ((q_su (q_ld kd sz sh false) (pa t) i) + (q_w kd sz sh y_3)))), (5, .int (nI y_3)), (0, .ref mm), (1, .int (nI t)), (2, .int (nI 0))]) hx hb dX2_insideOf_76 hl (k := 5) rfl (nI_1 _) (by decide) rfl (fun ls hl => ?_)
      refine lv_goto (tgt := 5) hx hb dX2_insideOf_79 (by decide) ?_
      exact ih (i + 1) H locs (by rw [q_fh_s s_3]; exact hM) hS ls (by rw [q_su_s s_3]; exact lv_sub hl [3, 4, 5, 1, 0] rfl)  (by omega) 
set_option maxHeartbeats 4000000 in
set_option maxRecDepth 100000 in
theorem kX2_insideOf_t (l : Launch) (E : q_E) (mm S : Nat) (n : Nat) (kd sz : Nat → Nat) (sh : Nat → Bool) (nu : Nat → Nat → Int64) (pa : Nat → Nat → Option Nat) (sl : Nat → Option Nat) (ft tn ts tg : Int32) (hI : q_I (n, kd, sz, sh, nu, pa, sl, ft, tn, ts, tg)) (t : Nat) (ht : t < n) (hkk : 4 ≤ kd t ∧ kd t ≤ 6)  : Met l yX2_insideOf wsX2_insideOf ({ frames := 1, cells := 0, slots := 0, locals := 21 }) (q_P E (q_M E mm S (n, kd, sz, sh, nu, pa, sl, ft, tn, ts, tg)) [.ref mm, .int (nI t), .int (nI 1)]) (q_Wi (q_M E mm S) (q_Am mm) (nI (q_ins kd sz sh pa true t)) (n, kd, sz, sh, nu, pa, sl, q_fh (q_ho1 kd sz pa t) ft, tn, ts, tg)) 0 0 (q_Am mm) := by
  refine Met.ofW (cc := cX2_insideOf) (maxL := 6) (ret := (some .int)) (by decide) rfl ?_
  intro p e s m args below meth c s₁ B hml hv
  obtain ⟨rfl, hK, hM⟩ := hv
  have hx := B.exec
  have hb := B.bytes
  have hr := B.returns
  have hts := atoms_spec (ws := wsX2_insideOf) B.pre
  have hown : s.vm.findClass RX2 = some m.cls := findClass_of_methodNamed B.named
  have hlocks := B.notSynchronized
  have hl := lv_entry ([.ref mm, .int (nI t), .int (nI 1)]) (n := 6) (Nat.le_of_ble_eq_true rfl)
  rw [lg_entry_eq]
  generalize (lg_sl ([.ref mm, .int (nI t), .int (nI 1)]) ++ List.replicate (6 - (lg_sl ([.ref mm, .int (nI t), .int (nI 1)])).length) Slot.unset).toArray = ls at hl ⊢
  have hl : lv_has ls 6 [(0, .ref mm), (1, .int (nI t)), (2, .int (nI 1))] := hl
  have hS : va_S (q_Am mm) s.heap s.heap [] := va_S.rf
  obtain ⟨at_, bt_, dt_, wt_⟩ := hI.2.1 t ht
  have n60 := hI.1
  try dsimp only at at_ bt_ dt_ wt_ n60
  refine lv_iconst (v := nI 0) hx hb dX2_insideOf_0 (by decide) ?_
  refine lv_istore_n (lv' := [(3, .int (nI 0)), (0, .ref mm), (1, .int (nI t)), (2, .int (nI 1))]) hx hb dX2_insideOf_1 rfl hl (by decide) rfl (fun ls hl => ?_)
  refine lv_iconst (v := nI 0) hx hb dX2_insideOf_2 (by decide) ?_
  refine lv_istore (lv' := [(4, .int (nI 0)), (3, .int (nI 0)), (0, .ref mm), (1, .int (nI t)), (2, .int (nI 1))]) hx hb dX2_insideOf_3 hl (by decide) rfl (fun ls hl => ?_)
  obtain ⟨i, ei⟩ : ∃ i : Nat, i = 0 := ⟨_, rfl⟩
  refine qw_name (P := fun H locs => q_M E mm S (n, kd, sz, sh, nu, pa, sl, (q_fh (q_h1 (pa t) i) ft), tn, ts, tg) H ∧ va_S (q_Am mm) s.heap H locs) (by subst ei; exact ⟨hM, hS⟩) (fun H locs hMS => ?_)
  clear hM hS
  obtain ⟨hM, hS⟩ := hMS
  have hl : lv_has ls 6 [(0, .ref mm), (1, .int (nI t)), (2, .int (nI 1)), (3, .int (nI (q_su (q_ld kd sz sh true) (pa t) i))), (4, .int (nI i))] := by subst ei; exact lv_sub hl [2, 3, 4, 1, 0] rfl
  generalize els : ls = lz at hl ⊢
  clear els
  obtain ⟨d, hd⟩ : ∃ d, i + d = sz t := ⟨sz t - i, by omega⟩
  clear ei
  induction d generalizing i H locs lz with
  | zero =>
    refine lv_iload hx hb dX2_insideOf_5 (lv_at hl 4 rfl) ?_
    refine lv_aload_n hx hb dX2_insideOf_7 rfl (lv_at hl 0 rfl) ?_
    refine qw_get (v := .ref (mm + 2)) (ci := 2) (C := RX2) (T := TX2) (N := 10) hx hb hts nX2_insideOf_2 hown hK hM.1 rfl 2 (by decide) (hts (.fieldLink RX2 13 "DockGatesModel" "size" "[I") (by decide +kernel)) rfl rfl dX2_insideOf_8 ?_
    refine lv_iload_n hx hb dX2_insideOf_11 rfl (lv_at hl 1 rfl) ?_
    refine qw_iald (f := fun q => nI (sz q)) hx hb hK hM.2.2.1 (by omega) (by decide) dX2_insideOf_12 ?_
    refine ln_cmp_ge (tgt := 82) hx hb (by omega) (by omega) dX2_insideOf_13 (by decide) (fun _ => ?_) (fun c_1 => absurd c_1 (by omega))
    refine lv_iload_n hx hb dX2_insideOf_82 rfl (lv_at hl 3 rfl) ?_
    exact W.iret (v := nI (q_su (q_ld kd sz sh true) (pa t) i)) hx hb hr (fun tt ht hW => ⟨⟨nI (q_su (q_ld kd sz sh true) (pa t) i), (n, kd, sz, sh, nu, pa, sl, (q_fh (q_h1 (pa t) i) ft), tn, ts, tg), rfl, ⟨(q_c (by unfold q_ins; rw [q_pl39 (by omega) (by omega), ← hd]; rfl)), (by unfold q_ho1; rw [q_pl39 (by omega) (by omega), ← hd]; rfl)⟩, (by show q_M E mm S (n, kd, sz, sh, nu, pa, sl, (q_fh (q_h1 (pa t) i) ft), tn, ts, tg) tt.heap; rw [ht]; exact hM)⟩, hS.F ht⟩) hS.2.2 dX2_insideOf_83
  | succ d ih =>
    refine lv_iload hx hb dX2_insideOf_5 (lv_at hl 4 rfl) ?_
    refine lv_aload_n hx hb dX2_insideOf_7 rfl (lv_at hl 0 rfl) ?_
    refine qw_get (v := .ref (mm + 2)) (ci := 2) (C := RX2) (T := TX2) (N := 10) hx hb hts nX2_insideOf_2 hown hK hM.1 rfl 2 (by decide) (hts (.fieldLink RX2 13 "DockGatesModel" "size" "[I") (by decide +kernel)) rfl rfl dX2_insideOf_8 ?_
    refine lv_iload_n hx hb dX2_insideOf_11 rfl (lv_at hl 1 rfl) ?_
    refine qw_iald (f := fun q => nI (sz q)) hx hb hK hM.2.2.1 (by omega) (by decide) dX2_insideOf_12 ?_
    refine ln_cmp_ge (tgt := 82) hx hb (by omega) (by omega) dX2_insideOf_13 (by decide) (fun c_2 => absurd c_2 (by omega)) (fun _ => ?_)
    refine lv_aload_n hx hb dX2_insideOf_16 rfl (lv_at hl 0 rfl) ?_
    refine qw_get (v := .ref (mm + 4)) (ci := 2) (C := RX2) (T := TX2) (N := 10) hx hb hts nX2_insideOf_2 hown hK hM.1 rfl 4 (by decide) (hts (.fieldLink RX2 20 "DockGatesModel" "cell" "[J") (by decide +kernel)) rfl rfl dX2_insideOf_17 ?_
    refine lv_bipush (v := nI 8) hx hb dX2_insideOf_20 (by decide) ?_
    refine lv_iload_n hx hb dX2_insideOf_22 rfl (lv_at hl 1 rfl) ?_
    refine ln_mul hx hb dX2_insideOf_23 ?_
    refine lv_iload hx hb dX2_insideOf_24 (lv_at hl 4 rfl) ?_
    refine ln_add hx hb dX2_insideOf_26 ?_
    refine qm_part (k := t) (i := i) hx hb hK hM hI ht (by omega) (show 3 ≤ kd t ∧ kd t < 9 by omega) dX2_insideOf_27 (fun s_3 => ?_) (fun y_3 hy_3 oy_3 s_3 => ?_)
    · try dsimp only at s_3
      refine lv_l2i (v := (-1)) hx hb dX2_insideOf_28 (by decide) ?_
      refine lv_istore (lv' := [(5, .int ((-1))), (0, .ref mm), (1, .int (nI t)), (2, .int (nI 1)), (3, .int (nI (q_su (q_ld kd sz sh true) (pa t) i))), (4, .int (nI i))]) hx hb dX2_insideOf_29 hl (by decide) rfl (fun ls hl => ?_)
      refine lv_iload hx hb dX2_insideOf_31 (lv_at hl 0 rfl) ?_
      refine lv_iconst (v := (-1)) hx hb dX2_insideOf_33 (by decide) ?_
      refine lv_icmp_ne (tgt := 45) hx hb dX2_insideOf_34 (by decide) (fun c_4 => absurd rfl c_4) (fun _ => ?_)
      refine lv_aload_n hx hb dX2_insideOf_37 rfl (lv_at hl 1 rfl) ?_
      refine lv_iconst (v := nI 4) hx hb dX2_insideOf_38 (by decide) ?_
      refine qw_put (ci := 2) (C := RX2) (T := TX2) (N := 10) hx hb hts nX2_insideOf_2 tyX2 tyX2_ok nmX2 hown hK hM.1 hS ⟨by omega, by omega⟩ rfl 6 (by decide) (hts (.fieldLink RX2 42 "DockGatesModel" "fault" "I") (by decide +kernel)) rfl rfl rfl rfl (Nat.le_of_ble_eq_true rfl) dX2_insideOf_39 (fun H locs hO hz hq hS => ?_)
      have hM : q_M E mm S (n, kd, sz, sh, nu, pa, sl, (nI 4), tn, ts, tg) H := hM.obj hO hz hq
      refine lv_goto (tgt := 76) hx hb dX2_insideOf_42 (by decide) ?_
      refine lv_iinc (v := nI (i + 1)) (lv' := [(4, .int (nI (i + 1))), (5, .int ((-1))), (0, .ref mm), (1, .int (nI t)), (2, .int (nI 1)), (3, .int (nI (q_su (q_ld kd sz sh true) (pa t) i)))]) hx hb dX2_insideOf_76 hl (k := 5) rfl (nI_1 _) (by decide) rfl (fun ls hl => ?_)
      refine lv_goto (tgt := 5) hx hb dX2_insideOf_79 (by decide) ?_
      exact ih (i + 1) H locs (by rw [q_fh_n s_3]; exact hM) hS ls (by rw [q_su_n s_3]; exact lv_sub hl [2, 3, 4, 5, 0] rfl)  (by omega) 
    · try dsimp only at s_3 hy_3 oy_3
      unfold q_ok at oy_3
      obtain ⟨ay_3, by_3, dy_3, wy_3⟩ := hI.2.1 y_3 hy_3
      have n60 := hI.1
      try dsimp only at ay_3 by_3 dy_3 wy_3 n60
      refine lv_l2i (v := nI y_3) hx hb dX2_insideOf_28 (lN_i _) ?_
      refine lv_istore (lv' := [(5, .int (nI y_3)), (0, .ref mm), (1, .int (nI t)), (2, .int (nI 1)), (3, .int (nI (q_su (q_ld kd sz sh true) (pa t) i))), (4, .int (nI i))]) hx hb dX2_insideOf_29 hl (by decide) rfl (fun ls hl => ?_)
      refine lv_iload hx hb dX2_insideOf_31 (lv_at hl 0 rfl) ?_
      refine lv_iconst (v := (-1)) hx hb dX2_insideOf_33 (by decide) ?_
      refine lv_icmp_ne (tgt := 45) hx hb dX2_insideOf_34 (by decide) (fun _ => ?_) (fun c_5 => absurd c_5 (q_nm1 (by omega)))
      refine lv_iload_n hx hb dX2_insideOf_45 rfl (lv_at hl 4 rfl) ?_
      refine lv_iload_n hx hb dX2_insideOf_46 rfl (lv_at hl 3 rfl) ?_
      refine ln_if_eq (tgt := 68) hx hb (by omega) dX2_insideOf_47 (by decide) (fun c_6 => absurd c_6 (by omega)) (fun _ => ?_)
      refine lv_aload_n hx hb dX2_insideOf_50 rfl (lv_at hl 1 rfl) ?_
      refine qw_get (v := .ref (mm + 3)) (ci := 2) (C := RX2) (T := TX2) (N := 10) hx hb hts nX2_insideOf_2 hown hK hM.1 rfl 3 (by decide) (hts (.fieldLink RX2 16 "DockGatesModel" "isShut" "[Z") (by decide +kernel)) rfl rfl dX2_insideOf_51 ?_
      refine lv_iload hx hb dX2_insideOf_54 (lv_at hl 0 rfl) ?_
      refine qw_zald (f := fun q => q_b (sh q)) hx hb hK hM.2.2.2.1 (by omega) (by decide) dX2_insideOf_56 ?_
      refine ln_b_eq (tgt := 64) hx hb dX2_insideOf_57 (by decide) (fun c_7 => ?_) (fun c_7 => ?_)
      · refine lv_iconst (v := nI 0) hx hb dX2_insideOf_64 (by decide) ?_
        refine lv_goto (tgt := 74) hx hb dX2_insideOf_65 (by decide) ?_
        refine ln_add hx hb dX2_insideOf_74 ?_
        refine lv_istore_n (lv' := [(3, .int (nI ((q_su (q_ld kd sz sh true) (pa t) i) + 0))), (5, .int (nI y_3)), (0, .ref mm), (1, .int (nI t)), (2, .int (nI 1)), (4, .int (nI i))]) hx hb dX2_insideOf_75 rfl hl (by decide) rfl (fun ls hl => ?_)
        refine lv_iinc (v := nI (i + 1)) (lv' := [(4, .int (nI (i + 1))), (3, .int (nI ((q_su (q_ld kd sz sh true) (pa t) i) + 0))), (5, .int (nI y_3)), (0, .ref mm), (1, .int (nI t)), (2, .int (nI 1))]) hx hb dX2_insideOf_76 hl (k := 5) rfl (nI_1 _) (by decide) rfl (fun ls hl => ?_)
        refine lv_goto (tgt := 5) hx hb dX2_insideOf_79 (by decide) ?_
        exact ih (i + 1) H locs (by rw [q_fh_s s_3]; exact hM) hS ls (by rw [q_su_s s_3, show q_ld kd sz sh true y_3 = 0 by simp [q_ld, c_7]]; exact lv_sub hl [3, 4, 5, 1, 0] rfl)  (by omega) 
      · refine lv_iconst (v := nI 1) hx hb dX2_insideOf_60 (by decide) ?_
        refine lv_goto (tgt := 74) hx hb dX2_insideOf_61 (by decide) ?_
        refine ln_add hx hb dX2_insideOf_74 ?_
        refine lv_istore_n (lv' := [(3, .int (nI ((q_su (q_ld kd sz sh true) (pa t) i) + 1))), (5, .int (nI y_3)), (0, .ref mm), (1, .int (nI t)), (2, .int (nI 1)), (4, .int (nI i))]) hx hb dX2_insideOf_75 rfl hl (by decide) rfl (fun ls hl => ?_)
        refine lv_iinc (v := nI (i + 1)) (lv' := [(4, .int (nI (i + 1))), (3, .int (nI ((q_su (q_ld kd sz sh true) (pa t) i) + 1))), (5, .int (nI y_3)), (0, .ref mm), (1, .int (nI t)), (2, .int (nI 1))]) hx hb dX2_insideOf_76 hl (k := 5) rfl (nI_1 _) (by decide) rfl (fun ls hl => ?_)
        refine lv_goto (tgt := 5) hx hb dX2_insideOf_79 (by decide) ?_
        exact ih (i + 1) H locs (by rw [q_fh_s s_3]; exact hM) hS ls (by rw [q_su_s s_3, show q_ld kd sz sh true y_3 = 1 by simp [q_ld, c_7]]; exact lv_sub hl [3, 4, 5, 1, 0] rfl)  (by omega) 
set_option maxRecDepth 20000 in
theorem nX2_rowsOf_2 : ∀ w ∈ u_ws RX2 TX2 10, w ∈ wsX2_rowsOf := by decide +kernel
set_option maxHeartbeats 4000000 in
set_option maxRecDepth 100000 in
theorem kX2_rowsOf_g (l : Launch) (E : q_E) (mm S : Nat) (n : Nat) (kd sz : Nat → Nat) (sh : Nat → Bool) (nu : Nat → Nat → Int64) (pa : Nat → Nat → Option Nat) (sl : Nat → Option Nat) (ft tn ts tg : Int32) (hI : q_I (n, kd, sz, sh, nu, pa, sl, ft, tn, ts, tg)) (t : Nat) (ht : t < n) (hkk : kd t = 3)  : Met l yX2_rowsOf wsX2_rowsOf ({ frames := 2, cells := 0, slots := 0, locals := 46 }) (q_P E (q_M E mm S (n, kd, sz, sh, nu, pa, sl, ft, tn, ts, tg)) [.ref mm, .int (nI t), .int (nI 3)]) (q_Wi (q_M E mm S) (q_Am mm) (q_grd kd sz nu pa t) (n, kd, sz, sh, nu, pa, sl, q_fh (q_ho2 kd sz pa t) ft, tn, ts, tg)) 0 0 (q_Am mm) := by
  refine Met.ofW (cc := cX2_rowsOf) (maxL := 6) (ret := (some .int)) (by decide) rfl ?_
  intro p e s m args below meth c s₁ B hml hv
  obtain ⟨rfl, hK, hM⟩ := hv
  have hx := B.exec
  have hb := B.bytes
  have hr := B.returns
  have hts := atoms_spec (ws := wsX2_rowsOf) B.pre
  have hown : s.vm.findClass RX2 = some m.cls := findClass_of_methodNamed B.named
  have hlocks := B.notSynchronized
  have hl := lv_entry ([.ref mm, .int (nI t), .int (nI 3)]) (n := 6) (Nat.le_of_ble_eq_true rfl)
  rw [lg_entry_eq]
  generalize (lg_sl ([.ref mm, .int (nI t), .int (nI 3)]) ++ List.replicate (6 - (lg_sl ([.ref mm, .int (nI t), .int (nI 3)])).length) Slot.unset).toArray = ls at hl ⊢
  have hl : lv_has ls 6 [(0, .ref mm), (1, .int (nI t)), (2, .int (nI 3))] := hl
  have hS : va_S (q_Am mm) s.heap s.heap [] := va_S.rf
  obtain ⟨at_, bt_, dt_, wt_⟩ := hI.2.1 t ht
  have n60 := hI.1
  try dsimp only at at_ bt_ dt_ wt_ n60
  refine lv_iconst (v := nI 0) hx hb dX2_rowsOf_0 (by decide) ?_
  refine lv_istore_n (lv' := [(3, .int (nI 0)), (0, .ref mm), (1, .int (nI t)), (2, .int (nI 3))]) hx hb dX2_rowsOf_1 rfl hl (by decide) rfl (fun ls hl => ?_)
  refine lv_iconst (v := nI 0) hx hb dX2_rowsOf_2 (by decide) ?_
  refine lv_istore (lv' := [(4, .int (nI 0)), (3, .int (nI 0)), (0, .ref mm), (1, .int (nI t)), (2, .int (nI 3))]) hx hb dX2_rowsOf_3 hl (by decide) rfl (fun ls hl => ?_)
  obtain ⟨i, ei⟩ : ∃ i : Nat, i = 0 := ⟨_, rfl⟩
  refine qw_name (P := fun H locs => q_M E mm S (n, kd, sz, sh, nu, pa, sl, (q_fh (q_h2 (q_ho1 kd sz pa) (pa t) i) ft), tn, ts, tg) H ∧ va_S (q_Am mm) s.heap H locs) (by subst ei; exact ⟨hM, hS⟩) (fun H locs hMS => ?_)
  clear hM hS
  obtain ⟨hM, hS⟩ := hMS
  have hl : lv_has ls 6 [(0, .ref mm), (1, .int (nI t)), (2, .int (nI 3)), (3, .int (q_gs (fun j => Int64.toInt32 (q_num kd sz nu j)) (pa t) i)), (4, .int (nI i))] := by subst ei; exact lv_sub hl [2, 3, 4, 1, 0] rfl
  generalize els : ls = lz at hl ⊢
  clear els
  obtain ⟨d, hd⟩ : ∃ d, i + d = sz t := ⟨sz t - i, by omega⟩
  clear ei
  induction d generalizing i H locs lz with
  | zero =>
    refine lv_iload hx hb dX2_rowsOf_5 (lv_at hl 4 rfl) ?_
    refine lv_aload_n hx hb dX2_rowsOf_7 rfl (lv_at hl 0 rfl) ?_
    refine qw_get (v := .ref (mm + 2)) (ci := 2) (C := RX2) (T := TX2) (N := 10) hx hb hts nX2_rowsOf_2 hown hK hM.1 rfl 2 (by decide) (hts (.fieldLink RX2 13 "DockGatesModel" "size" "[I") (by decide +kernel)) rfl rfl dX2_rowsOf_8 ?_
    refine lv_iload_n hx hb dX2_rowsOf_11 rfl (lv_at hl 1 rfl) ?_
    refine qw_iald (f := fun q => nI (sz q)) hx hb hK hM.2.2.1 (by omega) (by decide) dX2_rowsOf_12 ?_
    refine ln_cmp_ge (tgt := 86) hx hb (by omega) (by omega) dX2_rowsOf_13 (by decide) (fun _ => ?_) (fun c_1 => absurd c_1 (by omega))
    refine lv_iload_n hx hb dX2_rowsOf_86 rfl (lv_at hl 3 rfl) ?_
    exact W.iret (v := (q_gs (fun j => Int64.toInt32 (q_num kd sz nu j)) (pa t) i)) hx hb hr (fun tt ht hW => ⟨⟨(q_gs (fun j => Int64.toInt32 (q_num kd sz nu j)) (pa t) i), (n, kd, sz, sh, nu, pa, sl, (q_fh (q_h2 (q_ho1 kd sz pa) (pa t) i) ft), tn, ts, tg), rfl, ⟨(by unfold q_grd; rw [q_pl39 (by omega) (by omega), ← hd]; rfl), (by unfold q_ho2; rw [q_pl39 (by omega) (by omega), ← hd]; rfl)⟩, (by show q_M E mm S (n, kd, sz, sh, nu, pa, sl, (q_fh (q_h2 (q_ho1 kd sz pa) (pa t) i) ft), tn, ts, tg) tt.heap; rw [ht]; exact hM)⟩, hS.F ht⟩) hS.2.2 dX2_rowsOf_87
  | succ d ih =>
    refine lv_iload hx hb dX2_rowsOf_5 (lv_at hl 4 rfl) ?_
    refine lv_aload_n hx hb dX2_rowsOf_7 rfl (lv_at hl 0 rfl) ?_
    refine qw_get (v := .ref (mm + 2)) (ci := 2) (C := RX2) (T := TX2) (N := 10) hx hb hts nX2_rowsOf_2 hown hK hM.1 rfl 2 (by decide) (hts (.fieldLink RX2 13 "DockGatesModel" "size" "[I") (by decide +kernel)) rfl rfl dX2_rowsOf_8 ?_
    refine lv_iload_n hx hb dX2_rowsOf_11 rfl (lv_at hl 1 rfl) ?_
    refine qw_iald (f := fun q => nI (sz q)) hx hb hK hM.2.2.1 (by omega) (by decide) dX2_rowsOf_12 ?_
    refine ln_cmp_ge (tgt := 86) hx hb (by omega) (by omega) dX2_rowsOf_13 (by decide) (fun c_2 => absurd c_2 (by omega)) (fun _ => ?_)
    refine lv_aload_n hx hb dX2_rowsOf_16 rfl (lv_at hl 0 rfl) ?_
    refine qw_get (v := .ref (mm + 4)) (ci := 2) (C := RX2) (T := TX2) (N := 10) hx hb hts nX2_rowsOf_2 hown hK hM.1 rfl 4 (by decide) (hts (.fieldLink RX2 20 "DockGatesModel" "cell" "[J") (by decide +kernel)) rfl rfl dX2_rowsOf_17 ?_
    refine lv_bipush (v := nI 8) hx hb dX2_rowsOf_20 (by decide) ?_
    refine lv_iload_n hx hb dX2_rowsOf_22 rfl (lv_at hl 1 rfl) ?_
    refine ln_mul hx hb dX2_rowsOf_23 ?_
    refine lv_iload hx hb dX2_rowsOf_24 (lv_at hl 4 rfl) ?_
    refine ln_add hx hb dX2_rowsOf_26 ?_
    refine qm_part (k := t) (i := i) hx hb hK hM hI ht (by omega) (show 3 ≤ kd t ∧ kd t < 9 by omega) dX2_rowsOf_27 (fun s_3 => ?_) (fun y_3 hy_3 oy_3 s_3 => ?_)
    · try dsimp only at s_3
      refine lv_l2i (v := (-1)) hx hb dX2_rowsOf_28 (by decide) ?_
      refine lv_istore (lv' := [(5, .int ((-1))), (0, .ref mm), (1, .int (nI t)), (2, .int (nI 3)), (3, .int (q_gs (fun j => Int64.toInt32 (q_num kd sz nu j)) (pa t) i)), (4, .int (nI i))]) hx hb dX2_rowsOf_29 hl (by decide) rfl (fun ls hl => ?_)
      refine lv_iload hx hb dX2_rowsOf_31 (lv_at hl 0 rfl) ?_
      refine lv_iconst (v := (-1)) hx hb dX2_rowsOf_33 (by decide) ?_
      refine lv_icmp_ne (tgt := 45) hx hb dX2_rowsOf_34 (by decide) (fun c_4 => absurd rfl c_4) (fun _ => ?_)
      refine lv_aload_n hx hb dX2_rowsOf_37 rfl (lv_at hl 1 rfl) ?_
      refine lv_iconst (v := nI 4) hx hb dX2_rowsOf_38 (by decide) ?_
      refine qw_put (ci := 2) (C := RX2) (T := TX2) (N := 10) hx hb hts nX2_rowsOf_2 tyX2 tyX2_ok nmX2 hown hK hM.1 hS ⟨by omega, by omega⟩ rfl 6 (by decide) (hts (.fieldLink RX2 42 "DockGatesModel" "fault" "I") (by decide +kernel)) rfl rfl rfl rfl (Nat.le_of_ble_eq_true rfl) dX2_rowsOf_39 (fun H locs hO hz hq hS => ?_)
      have hM : q_M E mm S (n, kd, sz, sh, nu, pa, sl, (nI 4), tn, ts, tg) H := hM.obj hO hz hq
      refine lv_goto (tgt := 80) hx hb dX2_rowsOf_42 (by decide) ?_
      refine lv_iinc (v := nI (i + 1)) (lv' := [(4, .int (nI (i + 1))), (5, .int ((-1))), (0, .ref mm), (1, .int (nI t)), (2, .int (nI 3)), (3, .int (q_gs (fun j => Int64.toInt32 (q_num kd sz nu j)) (pa t) i))]) hx hb dX2_rowsOf_80 hl (k := 5) rfl (nI_1 _) (by decide) rfl (fun ls hl => ?_)
      refine lv_goto (tgt := 5) hx hb dX2_rowsOf_83 (by decide) ?_
      exact ih (i + 1) H locs (by rw [q_fh2_n s_3]; exact hM) hS ls (by rw [q_gs_n s_3]; exact lv_sub hl [2, 3, 4, 5, 0] rfl)  (by omega) 
    · try dsimp only at s_3 hy_3 oy_3
      unfold q_ok at oy_3
      obtain ⟨ay_3, by_3, dy_3, wy_3⟩ := hI.2.1 y_3 hy_3
      have n60 := hI.1
      try dsimp only at ay_3 by_3 dy_3 wy_3 n60
      refine lv_l2i (v := nI y_3) hx hb dX2_rowsOf_28 (lN_i _) ?_
      refine lv_istore (lv' := [(5, .int (nI y_3)), (0, .ref mm), (1, .int (nI t)), (2, .int (nI 3)), (3, .int (q_gs (fun j => Int64.toInt32 (q_num kd sz nu j)) (pa t) i)), (4, .int (nI i))]) hx hb dX2_rowsOf_29 hl (by decide) rfl (fun ls hl => ?_)
      refine lv_iload hx hb dX2_rowsOf_31 (lv_at hl 0 rfl) ?_
      refine lv_iconst (v := (-1)) hx hb dX2_rowsOf_33 (by decide) ?_
      refine lv_icmp_ne (tgt := 45) hx hb dX2_rowsOf_34 (by decide) (fun _ => ?_) (fun c_5 => absurd c_5 (q_nm1 (by omega)))
      refine lv_iload_n hx hb dX2_rowsOf_45 rfl (lv_at hl 4 rfl) ?_
      refine lv_iload_n hx hb dX2_rowsOf_46 rfl (lv_at hl 3 rfl) ?_
      refine lv_iconst (v := nI 3) hx hb dX2_rowsOf_47 (by decide) ?_
      refine ln_cmp_ne (tgt := 61) hx hb (by omega) (by omega) dX2_rowsOf_48 (by decide) (fun c_6 => absurd c_6 (by omega)) (fun _ => ?_)
      refine lv_aload_n hx hb dX2_rowsOf_51 rfl (lv_at hl 1 rfl) ?_
      refine lv_iload hx hb dX2_rowsOf_52 (lv_at hl 0 rfl) ?_
      refine qc_rl (r1 := Int32.toInt64 (Int64.toInt32 (q_num kd sz nu y_3))) (W.runV (As := [.int (nI y_3)]) (rest := [.int (q_gs (fun j => Int64.toInt32 (q_num kd sz nu j)) (pa t) i)]) ⟨hx, hb, hml, hown, hts⟩ (kX2_sumOf l E mm S n kd sz sh nu pa sl ((q_fh (q_h2 (q_ho1 kd sz pa) (pa t) i) ft)) tn ts tg hI y_3 hy_3 (by omega)) (cwV 1 hts gX2_rowsOf_X2_sumOf rfl rfl rfl (by decide +kernel) ⟨Nat.le_of_ble_eq_true rfl, Nat.le_of_ble_eq_true rfl⟩) (q_preV hK hM hM.1 rfl) rfl rfl hl.1 rfl (lv_room (Nat.le_of_ble_eq_true rfl)) dX2_rowsOf_54 ⟨Nat.le_of_ble_eq_true rfl, Nat.le_of_ble_eq_true rfl⟩) (if_neg (by omega)) ?_
      refine lv_l2i (v := Int64.toInt32 (q_num kd sz nu y_3)) hx hb dX2_rowsOf_57 (q_l2i _) ?_
      refine lv_goto (tgt := 78) hx hb dX2_rowsOf_58 (by decide) ?_
      refine lv_iadd hx hb dX2_rowsOf_78 ?_
      refine lv_istore_n (lv' := [(3, .int ((q_gs (fun j => Int64.toInt32 (q_num kd sz nu j)) (pa t) i) + (Int64.toInt32 (q_num kd sz nu y_3)))), (5, .int (nI y_3)), (0, .ref mm), (1, .int (nI t)), (2, .int (nI 3)), (4, .int (nI i))]) hx hb dX2_rowsOf_79 rfl hl (by decide) rfl (fun ls hl => ?_)
      refine lv_iinc (v := nI (i + 1)) (lv' := [(4, .int (nI (i + 1))), (3, .int ((q_gs (fun j => Int64.toInt32 (q_num kd sz nu j)) (pa t) i) + (Int64.toInt32 (q_num kd sz nu y_3)))), (5, .int (nI y_3)), (0, .ref mm), (1, .int (nI t)), (2, .int (nI 3))]) hx hb dX2_rowsOf_80 hl (k := 5) rfl (nI_1 _) (by decide) rfl (fun ls hl => ?_)
      refine lv_goto (tgt := 5) hx hb dX2_rowsOf_83 (by decide) ?_
      exact ih (i + 1) H locs (by rw [q_fh2_s s_3, q_ho1_0 (show ¬ (3 ≤ kd y_3 ∧ kd y_3 < 9) by omega)]; exact hM) hS ls (by rw [q_gs_s s_3]; exact lv_sub hl [3, 4, 5, 1, 0] rfl)  (by omega) 
set_option maxHeartbeats 4000000 in
set_option maxRecDepth 100000 in
theorem kX2_rowsOf_f (l : Launch) (E : q_E) (mm S : Nat) (n : Nat) (kd sz : Nat → Nat) (sh : Nat → Bool) (nu : Nat → Nat → Int64) (pa : Nat → Nat → Option Nat) (sl : Nat → Option Nat) (ft tn ts tg : Int32) (hI : q_I (n, kd, sz, sh, nu, pa, sl, ft, tn, ts, tg)) (t : Nat) (ht : t < n) (hkk : kd t = 7 ∨ kd t = 8)  : Met l yX2_rowsOf wsX2_rowsOf ({ frames := 2, cells := 0, slots := 0, locals := 46 }) (q_P E (q_M E mm S (n, kd, sz, sh, nu, pa, sl, ft, tn, ts, tg)) [.ref mm, .int (nI t), .int (nI 7)]) (q_Wi (q_M E mm S) (q_Am mm) (nI (q_rws kd sz sh pa false t)) (n, kd, sz, sh, nu, pa, sl, q_fh (q_ho2 kd sz pa t) ft, tn, ts, tg)) 0 0 (q_Am mm) := by
  refine Met.ofW (cc := cX2_rowsOf) (maxL := 6) (ret := (some .int)) (by decide) rfl ?_
  intro p e s m args below meth c s₁ B hml hv
  obtain ⟨rfl, hK, hM⟩ := hv
  have hx := B.exec
  have hb := B.bytes
  have hr := B.returns
  have hts := atoms_spec (ws := wsX2_rowsOf) B.pre
  have hown : s.vm.findClass RX2 = some m.cls := findClass_of_methodNamed B.named
  have hlocks := B.notSynchronized
  have hl := lv_entry ([.ref mm, .int (nI t), .int (nI 7)]) (n := 6) (Nat.le_of_ble_eq_true rfl)
  rw [lg_entry_eq]
  generalize (lg_sl ([.ref mm, .int (nI t), .int (nI 7)]) ++ List.replicate (6 - (lg_sl ([.ref mm, .int (nI t), .int (nI 7)])).length) Slot.unset).toArray = ls at hl ⊢
  have hl : lv_has ls 6 [(0, .ref mm), (1, .int (nI t)), (2, .int (nI 7))] := hl
  have hS : va_S (q_Am mm) s.heap s.heap [] := va_S.rf
  obtain ⟨at_, bt_, dt_, wt_⟩ := hI.2.1 t ht
  have n60 := hI.1
  try dsimp only at at_ bt_ dt_ wt_ n60
  refine lv_iconst (v := nI 0) hx hb dX2_rowsOf_0 (by decide) ?_
  refine lv_istore_n (lv' := [(3, .int (nI 0)), (0, .ref mm), (1, .int (nI t)), (2, .int (nI 7))]) hx hb dX2_rowsOf_1 rfl hl (by decide) rfl (fun ls hl => ?_)
  refine lv_iconst (v := nI 0) hx hb dX2_rowsOf_2 (by decide) ?_
  refine lv_istore (lv' := [(4, .int (nI 0)), (3, .int (nI 0)), (0, .ref mm), (1, .int (nI t)), (2, .int (nI 7))]) hx hb dX2_rowsOf_3 hl (by decide) rfl (fun ls hl => ?_)
  obtain ⟨i, ei⟩ : ∃ i : Nat, i = 0 := ⟨_, rfl⟩
  refine qw_name (P := fun H locs => q_M E mm S (n, kd, sz, sh, nu, pa, sl, (q_fh (q_h2 (q_ho1 kd sz pa) (pa t) i) ft), tn, ts, tg) H ∧ va_S (q_Am mm) s.heap H locs) (by subst ei; exact ⟨hM, hS⟩) (fun H locs hMS => ?_)
  clear hM hS
  obtain ⟨hM, hS⟩ := hMS
  have hl : lv_has ls 6 [(0, .ref mm), (1, .int (nI t)), (2, .int (nI 7)), (3, .int (nI (q_su (q_ins kd sz sh pa false) (pa t) i))), (4, .int (nI i))] := by subst ei; exact lv_sub hl [2, 3, 4, 1, 0] rfl
  generalize els : ls = lz at hl ⊢
  clear els
  obtain ⟨d, hd⟩ : ∃ d, i + d = sz t := ⟨sz t - i, by omega⟩
  clear ei
  induction d generalizing i H locs lz with
  | zero =>
    refine lv_iload hx hb dX2_rowsOf_5 (lv_at hl 4 rfl) ?_
    refine lv_aload_n hx hb dX2_rowsOf_7 rfl (lv_at hl 0 rfl) ?_
    refine qw_get (v := .ref (mm + 2)) (ci := 2) (C := RX2) (T := TX2) (N := 10) hx hb hts nX2_rowsOf_2 hown hK hM.1 rfl 2 (by decide) (hts (.fieldLink RX2 13 "DockGatesModel" "size" "[I") (by decide +kernel)) rfl rfl dX2_rowsOf_8 ?_
    refine lv_iload_n hx hb dX2_rowsOf_11 rfl (lv_at hl 1 rfl) ?_
    refine qw_iald (f := fun q => nI (sz q)) hx hb hK hM.2.2.1 (by omega) (by decide) dX2_rowsOf_12 ?_
    refine ln_cmp_ge (tgt := 86) hx hb (by omega) (by omega) dX2_rowsOf_13 (by decide) (fun _ => ?_) (fun c_1 => absurd c_1 (by omega))
    refine lv_iload_n hx hb dX2_rowsOf_86 rfl (lv_at hl 3 rfl) ?_
    exact W.iret (v := nI (q_su (q_ins kd sz sh pa false) (pa t) i)) hx hb hr (fun tt ht hW => ⟨⟨nI (q_su (q_ins kd sz sh pa false) (pa t) i), (n, kd, sz, sh, nu, pa, sl, (q_fh (q_h2 (q_ho1 kd sz pa) (pa t) i) ft), tn, ts, tg), rfl, ⟨(q_c (by unfold q_rws; rw [q_pl39 (by omega) (by omega), ← hd]; rfl)), (by unfold q_ho2; rw [q_pl39 (by omega) (by omega), ← hd]; rfl)⟩, (by show q_M E mm S (n, kd, sz, sh, nu, pa, sl, (q_fh (q_h2 (q_ho1 kd sz pa) (pa t) i) ft), tn, ts, tg) tt.heap; rw [ht]; exact hM)⟩, hS.F ht⟩) hS.2.2 dX2_rowsOf_87
  | succ d ih =>
    refine lv_iload hx hb dX2_rowsOf_5 (lv_at hl 4 rfl) ?_
    refine lv_aload_n hx hb dX2_rowsOf_7 rfl (lv_at hl 0 rfl) ?_
    refine qw_get (v := .ref (mm + 2)) (ci := 2) (C := RX2) (T := TX2) (N := 10) hx hb hts nX2_rowsOf_2 hown hK hM.1 rfl 2 (by decide) (hts (.fieldLink RX2 13 "DockGatesModel" "size" "[I") (by decide +kernel)) rfl rfl dX2_rowsOf_8 ?_
    refine lv_iload_n hx hb dX2_rowsOf_11 rfl (lv_at hl 1 rfl) ?_
    refine qw_iald (f := fun q => nI (sz q)) hx hb hK hM.2.2.1 (by omega) (by decide) dX2_rowsOf_12 ?_
    refine ln_cmp_ge (tgt := 86) hx hb (by omega) (by omega) dX2_rowsOf_13 (by decide) (fun c_2 => absurd c_2 (by omega)) (fun _ => ?_)
    refine lv_aload_n hx hb dX2_rowsOf_16 rfl (lv_at hl 0 rfl) ?_
    refine qw_get (v := .ref (mm + 4)) (ci := 2) (C := RX2) (T := TX2) (N := 10) hx hb hts nX2_rowsOf_2 hown hK hM.1 rfl 4 (by decide) (hts (.fieldLink RX2 20 "DockGatesModel" "cell" "[J") (by decide +kernel)) rfl rfl dX2_rowsOf_17 ?_
    refine lv_bipush (v := nI 8) hx hb dX2_rowsOf_20 (by decide) ?_
    refine lv_iload_n hx hb dX2_rowsOf_22 rfl (lv_at hl 1 rfl) ?_
    refine ln_mul hx hb dX2_rowsOf_23 ?_
    refine lv_iload hx hb dX2_rowsOf_24 (lv_at hl 4 rfl) ?_
    refine ln_add hx hb dX2_rowsOf_26 ?_
    refine qm_part (k := t) (i := i) hx hb hK hM hI ht (by omega) (show 3 ≤ kd t ∧ kd t < 9 by omega) dX2_rowsOf_27 (fun s_3 => ?_) (fun y_3 hy_3 oy_3 s_3 => ?_)
    · try dsimp only at s_3
      refine lv_l2i (v := (-1)) hx hb dX2_rowsOf_28 (by decide) ?_
      refine lv_istore (lv' := [(5, .int ((-1))), (0, .ref mm), (1, .int (nI t)), (2, .int (nI 7)), (3, .int (nI (q_su (q_ins kd sz sh pa false) (pa t) i))), (4, .int (nI i))]) hx hb dX2_rowsOf_29 hl (by decide) rfl (fun ls hl => ?_)
      refine lv_iload hx hb dX2_rowsOf_31 (lv_at hl 0 rfl) ?_
      refine lv_iconst (v := (-1)) hx hb dX2_rowsOf_33 (by decide) ?_
      refine lv_icmp_ne (tgt := 45) hx hb dX2_rowsOf_34 (by decide) (fun c_4 => absurd rfl c_4) (fun _ => ?_)
      refine lv_aload_n hx hb dX2_rowsOf_37 rfl (lv_at hl 1 rfl) ?_
      refine lv_iconst (v := nI 4) hx hb dX2_rowsOf_38 (by decide) ?_
      refine qw_put (ci := 2) (C := RX2) (T := TX2) (N := 10) hx hb hts nX2_rowsOf_2 tyX2 tyX2_ok nmX2 hown hK hM.1 hS ⟨by omega, by omega⟩ rfl 6 (by decide) (hts (.fieldLink RX2 42 "DockGatesModel" "fault" "I") (by decide +kernel)) rfl rfl rfl rfl (Nat.le_of_ble_eq_true rfl) dX2_rowsOf_39 (fun H locs hO hz hq hS => ?_)
      have hM : q_M E mm S (n, kd, sz, sh, nu, pa, sl, (nI 4), tn, ts, tg) H := hM.obj hO hz hq
      refine lv_goto (tgt := 80) hx hb dX2_rowsOf_42 (by decide) ?_
      refine lv_iinc (v := nI (i + 1)) (lv' := [(4, .int (nI (i + 1))), (5, .int ((-1))), (0, .ref mm), (1, .int (nI t)), (2, .int (nI 7)), (3, .int (nI (q_su (q_ins kd sz sh pa false) (pa t) i)))]) hx hb dX2_rowsOf_80 hl (k := 5) rfl (nI_1 _) (by decide) rfl (fun ls hl => ?_)
      refine lv_goto (tgt := 5) hx hb dX2_rowsOf_83 (by decide) ?_
      exact ih (i + 1) H locs (by rw [q_fh2_n s_3]; exact hM) hS ls (by rw [q_su_n s_3]; exact lv_sub hl [2, 3, 4, 5, 0] rfl)  (by omega) 
    · try dsimp only at s_3 hy_3 oy_3
      unfold q_ok at oy_3
      obtain ⟨ay_3, by_3, dy_3, wy_3⟩ := hI.2.1 y_3 hy_3
      have n60 := hI.1
      try dsimp only at ay_3 by_3 dy_3 wy_3 n60
      refine lv_l2i (v := nI y_3) hx hb dX2_rowsOf_28 (lN_i _) ?_
      refine lv_istore (lv' := [(5, .int (nI y_3)), (0, .ref mm), (1, .int (nI t)), (2, .int (nI 7)), (3, .int (nI (q_su (q_ins kd sz sh pa false) (pa t) i))), (4, .int (nI i))]) hx hb dX2_rowsOf_29 hl (by decide) rfl (fun ls hl => ?_)
      refine lv_iload hx hb dX2_rowsOf_31 (lv_at hl 0 rfl) ?_
      refine lv_iconst (v := (-1)) hx hb dX2_rowsOf_33 (by decide) ?_
      refine lv_icmp_ne (tgt := 45) hx hb dX2_rowsOf_34 (by decide) (fun _ => ?_) (fun c_5 => absurd c_5 (q_nm1 (by omega)))
      refine lv_iload_n hx hb dX2_rowsOf_45 rfl (lv_at hl 4 rfl) ?_
      refine lv_iload_n hx hb dX2_rowsOf_46 rfl (lv_at hl 3 rfl) ?_
      refine lv_iconst (v := nI 3) hx hb dX2_rowsOf_47 (by decide) ?_
      refine ln_cmp_ne (tgt := 61) hx hb (by omega) (by omega) dX2_rowsOf_48 (by decide) (fun _ => ?_) (fun c_6 => absurd c_6 (by omega))
      refine lv_aload_n hx hb dX2_rowsOf_61 rfl (lv_at hl 1 rfl) ?_
      refine lv_iload hx hb dX2_rowsOf_62 (lv_at hl 0 rfl) ?_
      refine lv_iload_n hx hb dX2_rowsOf_64 rfl (lv_at hl 3 rfl) ?_
      refine lv_bipush (v := nI 8) hx hb dX2_rowsOf_65 (by decide) ?_
      refine ln_cmp_ne (tgt := 74) hx hb (by omega) (by omega) dX2_rowsOf_67 (by decide) (fun _ => ?_) (fun c_7 => absurd c_7 (by omega))
      refine lv_iconst (v := nI 0) hx hb dX2_rowsOf_74 (by decide) ?_
      refine qc_i (r1 := nI (q_ins kd sz sh pa false y_3)) (σ1 := (n, kd, sz, sh, nu, pa, sl, (q_fh (q_ho1 kd sz pa y_3) ((q_fh (q_h2 (q_ho1 kd sz pa) (pa t) i) ft))), tn, ts, tg)) (va_runV (As := [.int (nI y_3), .int (nI 0)]) (rest := [.int (nI (q_su (q_ins kd sz sh pa false) (pa t) i))]) ⟨hx, hb, hml, hown, hts⟩ (kX2_insideOf_f l E mm S n kd sz sh nu pa sl ((q_fh (q_h2 (q_ho1 kd sz pa) (pa t) i) ft)) tn ts tg hI y_3 hy_3 (by omega)) (cwV 2 hts gX2_rowsOf_X2_insideOf rfl rfl rfl (by decide +kernel) ⟨Nat.le_of_ble_eq_true rfl, Nat.le_of_ble_eq_true rfl⟩) (q_preV hK hM hM.1 rfl) rfl rfl hl.1 rfl (lv_room (Nat.le_of_ble_eq_true rfl)) dX2_rowsOf_75 ⟨Nat.le_of_ble_eq_true rfl, Nat.le_of_ble_eq_true rfl⟩) hS rfl rfl (fun H locs hM hS => ?_)
      have ily_3 := q_ins_le hI false hy_3
      refine ln_add hx hb dX2_rowsOf_78 ?_
      refine lv_istore_n (lv' := [(3, .int (nI ((q_su (q_ins kd sz sh pa false) (pa t) i) + (q_ins kd sz sh pa false y_3)))), (5, .int (nI y_3)), (0, .ref mm), (1, .int (nI t)), (2, .int (nI 7)), (4, .int (nI i))]) hx hb dX2_rowsOf_79 rfl hl (by decide) rfl (fun ls hl => ?_)
      refine lv_iinc (v := nI (i + 1)) (lv' := [(4, .int (nI (i + 1))), (3, .int (nI ((q_su (q_ins kd sz sh pa false) (pa t) i) + (q_ins kd sz sh pa false y_3)))), (5, .int (nI y_3)), (0, .ref mm), (1, .int (nI t)), (2, .int (nI 7))]) hx hb dX2_rowsOf_80 hl (k := 5) rfl (nI_1 _) (by decide) rfl (fun ls hl => ?_)
      refine lv_goto (tgt := 5) hx hb dX2_rowsOf_83 (by decide) ?_
      exact ih (i + 1) H locs (by rw [q_fh2_s s_3]; exact hM) hS ls (by rw [q_su_s s_3]; exact lv_sub hl [3, 4, 5, 1, 0] rfl)  (by omega) 
set_option maxHeartbeats 4000000 in
set_option maxRecDepth 100000 in
theorem kX2_rowsOf_t (l : Launch) (E : q_E) (mm S : Nat) (n : Nat) (kd sz : Nat → Nat) (sh : Nat → Bool) (nu : Nat → Nat → Int64) (pa : Nat → Nat → Option Nat) (sl : Nat → Option Nat) (ft tn ts tg : Int32) (hI : q_I (n, kd, sz, sh, nu, pa, sl, ft, tn, ts, tg)) (t : Nat) (ht : t < n) (hkk : kd t = 8)  : Met l yX2_rowsOf wsX2_rowsOf ({ frames := 2, cells := 0, slots := 0, locals := 46 }) (q_P E (q_M E mm S (n, kd, sz, sh, nu, pa, sl, ft, tn, ts, tg)) [.ref mm, .int (nI t), .int (nI 8)]) (q_Wi (q_M E mm S) (q_Am mm) (nI (q_rws kd sz sh pa true t)) (n, kd, sz, sh, nu, pa, sl, q_fh (q_ho2 kd sz pa t) ft, tn, ts, tg)) 0 0 (q_Am mm) := by
  refine Met.ofW (cc := cX2_rowsOf) (maxL := 6) (ret := (some .int)) (by decide) rfl ?_
  intro p e s m args below meth c s₁ B hml hv
  obtain ⟨rfl, hK, hM⟩ := hv
  have hx := B.exec
  have hb := B.bytes
  have hr := B.returns
  have hts := atoms_spec (ws := wsX2_rowsOf) B.pre
  have hown : s.vm.findClass RX2 = some m.cls := findClass_of_methodNamed B.named
  have hlocks := B.notSynchronized
  have hl := lv_entry ([.ref mm, .int (nI t), .int (nI 8)]) (n := 6) (Nat.le_of_ble_eq_true rfl)
  rw [lg_entry_eq]
  generalize (lg_sl ([.ref mm, .int (nI t), .int (nI 8)]) ++ List.replicate (6 - (lg_sl ([.ref mm, .int (nI t), .int (nI 8)])).length) Slot.unset).toArray = ls at hl ⊢
  have hl : lv_has ls 6 [(0, .ref mm), (1, .int (nI t)), (2, .int (nI 8))] := hl
  have hS : va_S (q_Am mm) s.heap s.heap [] := va_S.rf
  obtain ⟨at_, bt_, dt_, wt_⟩ := hI.2.1 t ht
  have n60 := hI.1
  try dsimp only at at_ bt_ dt_ wt_ n60
  refine lv_iconst (v := nI 0) hx hb dX2_rowsOf_0 (by decide) ?_
  refine lv_istore_n (lv' := [(3, .int (nI 0)), (0, .ref mm), (1, .int (nI t)), (2, .int (nI 8))]) hx hb dX2_rowsOf_1 rfl hl (by decide) rfl (fun ls hl => ?_)
  refine lv_iconst (v := nI 0) hx hb dX2_rowsOf_2 (by decide) ?_
  refine lv_istore (lv' := [(4, .int (nI 0)), (3, .int (nI 0)), (0, .ref mm), (1, .int (nI t)), (2, .int (nI 8))]) hx hb dX2_rowsOf_3 hl (by decide) rfl (fun ls hl => ?_)
  obtain ⟨i, ei⟩ : ∃ i : Nat, i = 0 := ⟨_, rfl⟩
  refine qw_name (P := fun H locs => q_M E mm S (n, kd, sz, sh, nu, pa, sl, (q_fh (q_h2 (q_ho1 kd sz pa) (pa t) i) ft), tn, ts, tg) H ∧ va_S (q_Am mm) s.heap H locs) (by subst ei; exact ⟨hM, hS⟩) (fun H locs hMS => ?_)
  clear hM hS
  obtain ⟨hM, hS⟩ := hMS
  have hl : lv_has ls 6 [(0, .ref mm), (1, .int (nI t)), (2, .int (nI 8)), (3, .int (nI (q_su (q_ins kd sz sh pa true) (pa t) i))), (4, .int (nI i))] := by subst ei; exact lv_sub hl [2, 3, 4, 1, 0] rfl
  generalize els : ls = lz at hl ⊢
  clear els
  obtain ⟨d, hd⟩ : ∃ d, i + d = sz t := ⟨sz t - i, by omega⟩
  clear ei
  induction d generalizing i H locs lz with
  | zero =>
    refine lv_iload hx hb dX2_rowsOf_5 (lv_at hl 4 rfl) ?_
    refine lv_aload_n hx hb dX2_rowsOf_7 rfl (lv_at hl 0 rfl) ?_
    refine qw_get (v := .ref (mm + 2)) (ci := 2) (C := RX2) (T := TX2) (N := 10) hx hb hts nX2_rowsOf_2 hown hK hM.1 rfl 2 (by decide) (hts (.fieldLink RX2 13 "DockGatesModel" "size" "[I") (by decide +kernel)) rfl rfl dX2_rowsOf_8 ?_
    refine lv_iload_n hx hb dX2_rowsOf_11 rfl (lv_at hl 1 rfl) ?_
    refine qw_iald (f := fun q => nI (sz q)) hx hb hK hM.2.2.1 (by omega) (by decide) dX2_rowsOf_12 ?_
    refine ln_cmp_ge (tgt := 86) hx hb (by omega) (by omega) dX2_rowsOf_13 (by decide) (fun _ => ?_) (fun c_1 => absurd c_1 (by omega))
    refine lv_iload_n hx hb dX2_rowsOf_86 rfl (lv_at hl 3 rfl) ?_
    exact W.iret (v := nI (q_su (q_ins kd sz sh pa true) (pa t) i)) hx hb hr (fun tt ht hW => ⟨⟨nI (q_su (q_ins kd sz sh pa true) (pa t) i), (n, kd, sz, sh, nu, pa, sl, (q_fh (q_h2 (q_ho1 kd sz pa) (pa t) i) ft), tn, ts, tg), rfl, ⟨(q_c (by unfold q_rws; rw [q_pl39 (by omega) (by omega), ← hd]; rfl)), (by unfold q_ho2; rw [q_pl39 (by omega) (by omega), ← hd]; rfl)⟩, (by show q_M E mm S (n, kd, sz, sh, nu, pa, sl, (q_fh (q_h2 (q_ho1 kd sz pa) (pa t) i) ft), tn, ts, tg) tt.heap; rw [ht]; exact hM)⟩, hS.F ht⟩) hS.2.2 dX2_rowsOf_87
  | succ d ih =>
    refine lv_iload hx hb dX2_rowsOf_5 (lv_at hl 4 rfl) ?_
    refine lv_aload_n hx hb dX2_rowsOf_7 rfl (lv_at hl 0 rfl) ?_
    refine qw_get (v := .ref (mm + 2)) (ci := 2) (C := RX2) (T := TX2) (N := 10) hx hb hts nX2_rowsOf_2 hown hK hM.1 rfl 2 (by decide) (hts (.fieldLink RX2 13 "DockGatesModel" "size" "[I") (by decide +kernel)) rfl rfl dX2_rowsOf_8 ?_
    refine lv_iload_n hx hb dX2_rowsOf_11 rfl (lv_at hl 1 rfl) ?_
    refine qw_iald (f := fun q => nI (sz q)) hx hb hK hM.2.2.1 (by omega) (by decide) dX2_rowsOf_12 ?_
    refine ln_cmp_ge (tgt := 86) hx hb (by omega) (by omega) dX2_rowsOf_13 (by decide) (fun c_2 => absurd c_2 (by omega)) (fun _ => ?_)
    refine lv_aload_n hx hb dX2_rowsOf_16 rfl (lv_at hl 0 rfl) ?_
    refine qw_get (v := .ref (mm + 4)) (ci := 2) (C := RX2) (T := TX2) (N := 10) hx hb hts nX2_rowsOf_2 hown hK hM.1 rfl 4 (by decide) (hts (.fieldLink RX2 20 "DockGatesModel" "cell" "[J") (by decide +kernel)) rfl rfl dX2_rowsOf_17 ?_
    refine lv_bipush (v := nI 8) hx hb dX2_rowsOf_20 (by decide) ?_
    refine lv_iload_n hx hb dX2_rowsOf_22 rfl (lv_at hl 1 rfl) ?_
    refine ln_mul hx hb dX2_rowsOf_23 ?_
    refine lv_iload hx hb dX2_rowsOf_24 (lv_at hl 4 rfl) ?_
    refine ln_add hx hb dX2_rowsOf_26 ?_
    refine qm_part (k := t) (i := i) hx hb hK hM hI ht (by omega) (show 3 ≤ kd t ∧ kd t < 9 by omega) dX2_rowsOf_27 (fun s_3 => ?_) (fun y_3 hy_3 oy_3 s_3 => ?_)
    · try dsimp only at s_3
      refine lv_l2i (v := (-1)) hx hb dX2_rowsOf_28 (by decide) ?_
      refine lv_istore (lv' := [(5, .int ((-1))), (0, .ref mm), (1, .int (nI t)), (2, .int (nI 8)), (3, .int (nI (q_su (q_ins kd sz sh pa true) (pa t) i))), (4, .int (nI i))]) hx hb dX2_rowsOf_29 hl (by decide) rfl (fun ls hl => ?_)
      refine lv_iload hx hb dX2_rowsOf_31 (lv_at hl 0 rfl) ?_
      refine lv_iconst (v := (-1)) hx hb dX2_rowsOf_33 (by decide) ?_
      refine lv_icmp_ne (tgt := 45) hx hb dX2_rowsOf_34 (by decide) (fun c_4 => absurd rfl c_4) (fun _ => ?_)
      refine lv_aload_n hx hb dX2_rowsOf_37 rfl (lv_at hl 1 rfl) ?_
      refine lv_iconst (v := nI 4) hx hb dX2_rowsOf_38 (by decide) ?_
      refine qw_put (ci := 2) (C := RX2) (T := TX2) (N := 10) hx hb hts nX2_rowsOf_2 tyX2 tyX2_ok nmX2 hown hK hM.1 hS ⟨by omega, by omega⟩ rfl 6 (by decide) (hts (.fieldLink RX2 42 "DockGatesModel" "fault" "I") (by decide +kernel)) rfl rfl rfl rfl (Nat.le_of_ble_eq_true rfl) dX2_rowsOf_39 (fun H locs hO hz hq hS => ?_)
      have hM : q_M E mm S (n, kd, sz, sh, nu, pa, sl, (nI 4), tn, ts, tg) H := hM.obj hO hz hq
      refine lv_goto (tgt := 80) hx hb dX2_rowsOf_42 (by decide) ?_
      refine lv_iinc (v := nI (i + 1)) (lv' := [(4, .int (nI (i + 1))), (5, .int ((-1))), (0, .ref mm), (1, .int (nI t)), (2, .int (nI 8)), (3, .int (nI (q_su (q_ins kd sz sh pa true) (pa t) i)))]) hx hb dX2_rowsOf_80 hl (k := 5) rfl (nI_1 _) (by decide) rfl (fun ls hl => ?_)
      refine lv_goto (tgt := 5) hx hb dX2_rowsOf_83 (by decide) ?_
      exact ih (i + 1) H locs (by rw [q_fh2_n s_3]; exact hM) hS ls (by rw [q_su_n s_3]; exact lv_sub hl [2, 3, 4, 5, 0] rfl)  (by omega) 
    · try dsimp only at s_3 hy_3 oy_3
      unfold q_ok at oy_3
      obtain ⟨ay_3, by_3, dy_3, wy_3⟩ := hI.2.1 y_3 hy_3
      have n60 := hI.1
      try dsimp only at ay_3 by_3 dy_3 wy_3 n60
      refine lv_l2i (v := nI y_3) hx hb dX2_rowsOf_28 (lN_i _) ?_
      refine lv_istore (lv' := [(5, .int (nI y_3)), (0, .ref mm), (1, .int (nI t)), (2, .int (nI 8)), (3, .int (nI (q_su (q_ins kd sz sh pa true) (pa t) i))), (4, .int (nI i))]) hx hb dX2_rowsOf_29 hl (by decide) rfl (fun ls hl => ?_)
      refine lv_iload hx hb dX2_rowsOf_31 (lv_at hl 0 rfl) ?_
      refine lv_iconst (v := (-1)) hx hb dX2_rowsOf_33 (by decide) ?_
      refine lv_icmp_ne (tgt := 45) hx hb dX2_rowsOf_34 (by decide) (fun _ => ?_) (fun c_5 => absurd c_5 (q_nm1 (by omega)))
      refine lv_iload_n hx hb dX2_rowsOf_45 rfl (lv_at hl 4 rfl) ?_
      refine lv_iload_n hx hb dX2_rowsOf_46 rfl (lv_at hl 3 rfl) ?_
      refine lv_iconst (v := nI 3) hx hb dX2_rowsOf_47 (by decide) ?_
      refine ln_cmp_ne (tgt := 61) hx hb (by omega) (by omega) dX2_rowsOf_48 (by decide) (fun _ => ?_) (fun c_6 => absurd c_6 (by omega))
      refine lv_aload_n hx hb dX2_rowsOf_61 rfl (lv_at hl 1 rfl) ?_
      refine lv_iload hx hb dX2_rowsOf_62 (lv_at hl 0 rfl) ?_
      refine lv_iload_n hx hb dX2_rowsOf_64 rfl (lv_at hl 3 rfl) ?_
      refine lv_bipush (v := nI 8) hx hb dX2_rowsOf_65 (by decide) ?_
      refine ln_cmp_ne (tgt := 74) hx hb (by omega) (by omega) dX2_rowsOf_67 (by decide) (fun c_7 => absurd c_7 (by omega)) (fun _ => ?_)
      refine lv_iconst (v := nI 1) hx hb dX2_rowsOf_70 (by decide) ?_
      refine lv_goto (tgt := 75) hx hb dX2_rowsOf_71 (by decide) ?_
      refine qc_i (r1 := nI (q_ins kd sz sh pa true y_3)) (σ1 := (n, kd, sz, sh, nu, pa, sl, (q_fh (q_ho1 kd sz pa y_3) ((q_fh (q_h2 (q_ho1 kd sz pa) (pa t) i) ft))), tn, ts, tg)) (va_runV (As := [.int (nI y_3), .int (nI 1)]) (rest := [.int (nI (q_su (q_ins kd sz sh pa true) (pa t) i))]) ⟨hx, hb, hml, hown, hts⟩ (kX2_insideOf_t l E mm S n kd sz sh nu pa sl ((q_fh (q_h2 (q_ho1 kd sz pa) (pa t) i) ft)) tn ts tg hI y_3 hy_3 (by omega)) (cwV 2 hts gX2_rowsOf_X2_insideOf rfl rfl rfl (by decide +kernel) ⟨Nat.le_of_ble_eq_true rfl, Nat.le_of_ble_eq_true rfl⟩) (q_preV hK hM hM.1 rfl) rfl rfl hl.1 rfl (lv_room (Nat.le_of_ble_eq_true rfl)) dX2_rowsOf_75 ⟨Nat.le_of_ble_eq_true rfl, Nat.le_of_ble_eq_true rfl⟩) hS rfl rfl (fun H locs hM hS => ?_)
      have ily_3 := q_ins_le hI true hy_3
      refine ln_add hx hb dX2_rowsOf_78 ?_
      refine lv_istore_n (lv' := [(3, .int (nI ((q_su (q_ins kd sz sh pa true) (pa t) i) + (q_ins kd sz sh pa true y_3)))), (5, .int (nI y_3)), (0, .ref mm), (1, .int (nI t)), (2, .int (nI 8)), (4, .int (nI i))]) hx hb dX2_rowsOf_79 rfl hl (by decide) rfl (fun ls hl => ?_)
      refine lv_iinc (v := nI (i + 1)) (lv' := [(4, .int (nI (i + 1))), (3, .int (nI ((q_su (q_ins kd sz sh pa true) (pa t) i) + (q_ins kd sz sh pa true y_3)))), (5, .int (nI y_3)), (0, .ref mm), (1, .int (nI t)), (2, .int (nI 8))]) hx hb dX2_rowsOf_80 hl (k := 5) rfl (nI_1 _) (by decide) rfl (fun ls hl => ?_)
      refine lv_goto (tgt := 5) hx hb dX2_rowsOf_83 (by decide) ?_
      exact ih (i + 1) H locs (by rw [q_fh2_s s_3]; exact hM) hS ls (by rw [q_su_s s_3]; exact lv_sub hl [3, 4, 5, 1, 0] rfl)  (by omega) 
set_option maxRecDepth 20000 in
theorem nX2_toldBy_2 : ∀ w ∈ u_ws RX2 TX2 10, w ∈ wsX2_toldBy := by decide +kernel
set_option maxHeartbeats 4000000 in
set_option maxRecDepth 100000 in
theorem kX2_toldBy (l : Launch) (E : q_E) (mm S : Nat) (n : Nat) (kd sz : Nat → Nat) (sh : Nat → Bool) (nu : Nat → Nat → Int64) (pa : Nat → Nat → Option Nat) (sl : Nat → Option Nat) (ft tn ts tg : Int32) (hI : q_I (n, kd, sz, sh, nu, pa, sl, ft, tn, ts, tg)) (t g : Nat) (ht : t < n) (hg : g < 13) (hgo : q_go (kd t) g = true)  : Met l yX2_toldBy wsX2_toldBy ({ frames := 3, cells := 0, slots := 0, locals := 71 }) (q_P E (q_M E mm S (n, kd, sz, sh, nu, pa, sl, ft, tn, ts, tg)) [.ref mm, .int (nI t), .int (nI g)]) (q_Wl (q_M E mm S) (q_Am mm) (q_val kd sz sh nu pa t g) (n, kd, sz, sh, nu, pa, sl, q_fh (q_ho2 kd sz pa t) ft, tn, ts, tg)) 0 0 (q_Am mm) := by
  refine Met.ofW (cc := cX2_toldBy) (maxL := 3) (ret := (some .long)) (by decide) rfl ?_
  intro p e s m args below meth c s₁ B hml hv
  obtain ⟨rfl, hK, hM⟩ := hv
  have hx := B.exec
  have hb := B.bytes
  have hr := B.returns
  have hts := atoms_spec (ws := wsX2_toldBy) B.pre
  have hown : s.vm.findClass RX2 = some m.cls := findClass_of_methodNamed B.named
  have hlocks := B.notSynchronized
  have hl := lv_entry ([.ref mm, .int (nI t), .int (nI g)]) (n := 3) (Nat.le_of_ble_eq_true rfl)
  rw [lg_entry_eq]
  generalize (lg_sl ([.ref mm, .int (nI t), .int (nI g)]) ++ List.replicate (3 - (lg_sl ([.ref mm, .int (nI t), .int (nI g)])).length) Slot.unset).toArray = ls at hl ⊢
  have hl : lv_has ls 3 [(0, .ref mm), (1, .int (nI t)), (2, .int (nI g))] := hl
  have hS : va_S (q_Am mm) s.heap s.heap [] := va_S.rf
  obtain ⟨at_, bt_, dt_, wt_⟩ := hI.2.1 t ht
  have n60 := hI.1
  try dsimp only at at_ bt_ dt_ wt_ n60
  have hg2 := q_gofacts hgo
  refine lv_iload_n hx hb dX2_toldBy_0 rfl (lv_at hl 2 rfl) ?_
  have c_1 : g = 0 ∨ g = 1 ∨ g = 2 ∨ g = 3 ∨ g = 4 ∨ g = 5 ∨ g = 6 ∨ g = 7 ∨ g = 8 ∨ g = 9 ∨ g = 10 ∨ g = 11 ∨ (¬ g = 0 ∧ ¬ g = 1 ∧ ¬ g = 2 ∧ ¬ g = 3 ∧ ¬ g = 4 ∧ ¬ g = 5 ∧ ¬ g = 6 ∧ ¬ g = 7 ∧ ¬ g = 8 ∧ ¬ g = 9 ∧ ¬ g = 10 ∧ ¬ g = 11) := by omega
  rcases c_1 with c_1 | c_1 | c_1 | c_1 | c_1 | c_1 | c_1 | c_1 | c_1 | c_1 | c_1 | c_1 | c_1
  · refine q_tIn (v := 0) (tgt := 64) (off := 63) hx hb c_1 dX2_toldBy_1 (by decide) (by decide) (by decide) (by decide) ?_
    refine lv_aload_n hx hb dX2_toldBy_64 rfl (lv_at hl 0 rfl) ?_
    refine lv_iload_n hx hb dX2_toldBy_65 rfl (lv_at hl 1 rfl) ?_
    refine qc_rl (r1 := q_so kd sz nu t) (W.runV (As := [.int (nI t)]) (rest := []) ⟨hx, hb, hml, hown, hts⟩ (kX2_sumOf l E mm S n kd sz sh nu pa sl ft tn ts tg hI t ht (by omega)) (cwV 1 hts gX2_toldBy_X2_sumOf rfl rfl rfl (by decide +kernel) ⟨Nat.le_of_ble_eq_true rfl, Nat.le_of_ble_eq_true rfl⟩) (q_preV hK hM hM.1 rfl) rfl rfl hl.1 rfl (lv_room (Nat.le_of_ble_eq_true rfl)) dX2_toldBy_66 ⟨Nat.le_of_ble_eq_true rfl, Nat.le_of_ble_eq_true rfl⟩) rfl ?_
    exact W.lret (v := q_so kd sz nu t) hx hb hr (fun tt ht hW => ⟨⟨q_so kd sz nu t, (n, kd, sz, sh, nu, pa, sl, ft, tn, ts, tg), rfl, ⟨(by subst c_1; unfold q_so; rw [if_neg (by omega)]; rfl), (by rw [q_ho2_0 (by omega)]; rfl)⟩, (by show q_M E mm S (n, kd, sz, sh, nu, pa, sl, ft, tn, ts, tg) tt.heap; rw [ht]; exact hM)⟩, hS.F ht⟩) hS.2.2 dX2_toldBy_69
  · refine q_tIn (v := 1) (tgt := 64) (off := 63) hx hb c_1 dX2_toldBy_1 (by decide) (by decide) (by decide) (by decide) ?_
    refine lv_aload_n hx hb dX2_toldBy_64 rfl (lv_at hl 0 rfl) ?_
    refine lv_iload_n hx hb dX2_toldBy_65 rfl (lv_at hl 1 rfl) ?_
    refine qc_rl (r1 := q_so kd sz nu t) (W.runV (As := [.int (nI t)]) (rest := []) ⟨hx, hb, hml, hown, hts⟩ (kX2_sumOf l E mm S n kd sz sh nu pa sl ft tn ts tg hI t ht (by omega)) (cwV 1 hts gX2_toldBy_X2_sumOf rfl rfl rfl (by decide +kernel) ⟨Nat.le_of_ble_eq_true rfl, Nat.le_of_ble_eq_true rfl⟩) (q_preV hK hM hM.1 rfl) rfl rfl hl.1 rfl (lv_room (Nat.le_of_ble_eq_true rfl)) dX2_toldBy_66 ⟨Nat.le_of_ble_eq_true rfl, Nat.le_of_ble_eq_true rfl⟩) rfl ?_
    exact W.lret (v := q_so kd sz nu t) hx hb hr (fun tt ht hW => ⟨⟨q_so kd sz nu t, (n, kd, sz, sh, nu, pa, sl, ft, tn, ts, tg), rfl, ⟨(by subst c_1; unfold q_so; rw [if_neg (by omega)]; rfl), (by rw [q_ho2_0 (by omega)]; rfl)⟩, (by show q_M E mm S (n, kd, sz, sh, nu, pa, sl, ft, tn, ts, tg) tt.heap; rw [ht]; exact hM)⟩, hS.F ht⟩) hS.2.2 dX2_toldBy_69
  · refine q_tIn (v := 2) (tgt := 64) (off := 63) hx hb c_1 dX2_toldBy_1 (by decide) (by decide) (by decide) (by decide) ?_
    refine lv_aload_n hx hb dX2_toldBy_64 rfl (lv_at hl 0 rfl) ?_
    refine lv_iload_n hx hb dX2_toldBy_65 rfl (lv_at hl 1 rfl) ?_
    refine qc_rl (r1 := q_so kd sz nu t) (W.runV (As := [.int (nI t)]) (rest := []) ⟨hx, hb, hml, hown, hts⟩ (kX2_sumOf l E mm S n kd sz sh nu pa sl ft tn ts tg hI t ht (by omega)) (cwV 1 hts gX2_toldBy_X2_sumOf rfl rfl rfl (by decide +kernel) ⟨Nat.le_of_ble_eq_true rfl, Nat.le_of_ble_eq_true rfl⟩) (q_preV hK hM hM.1 rfl) rfl rfl hl.1 rfl (lv_room (Nat.le_of_ble_eq_true rfl)) dX2_toldBy_66 ⟨Nat.le_of_ble_eq_true rfl, Nat.le_of_ble_eq_true rfl⟩) rfl ?_
    exact W.lret (v := q_so kd sz nu t) hx hb hr (fun tt ht hW => ⟨⟨q_so kd sz nu t, (n, kd, sz, sh, nu, pa, sl, ft, tn, ts, tg), rfl, ⟨(by subst c_1; unfold q_so; rw [if_pos (by omega)]; rfl), (by rw [q_ho2_0 (by omega)]; rfl)⟩, (by show q_M E mm S (n, kd, sz, sh, nu, pa, sl, ft, tn, ts, tg) tt.heap; rw [ht]; exact hM)⟩, hS.F ht⟩) hS.2.2 dX2_toldBy_69
  · refine q_tIn (v := 3) (tgt := 70) (off := 69) hx hb c_1 dX2_toldBy_1 (by decide) (by decide) (by decide) (by decide) ?_
    refine lv_aload_n hx hb dX2_toldBy_70 rfl (lv_at hl 0 rfl) ?_
    refine lv_iload_n hx hb dX2_toldBy_71 rfl (lv_at hl 1 rfl) ?_
    refine lv_iload_n hx hb dX2_toldBy_72 rfl (lv_at hl 2 rfl) ?_
    subst c_1
    refine qc_i (r1 := (q_grd kd sz nu pa t)) (σ1 := (n, kd, sz, sh, nu, pa, sl, (q_fh (q_ho2 kd sz pa t) ft), tn, ts, tg)) (va_runV (As := [.int (nI t), .int (nI 3)]) (rest := []) ⟨hx, hb, hml, hown, hts⟩ (kX2_rowsOf_g l E mm S n kd sz sh nu pa sl ft tn ts tg hI t ht (by omega)) (cwV 2 hts gX2_toldBy_X2_rowsOf rfl rfl rfl (by decide +kernel) ⟨Nat.le_of_ble_eq_true rfl, Nat.le_of_ble_eq_true rfl⟩) (q_preV hK hM hM.1 rfl) rfl rfl hl.1 rfl (lv_room (Nat.le_of_ble_eq_true rfl)) dX2_toldBy_73 ⟨Nat.le_of_ble_eq_true rfl, Nat.le_of_ble_eq_true rfl⟩) hS rfl rfl (fun H locs hM hS => ?_)
    refine lv_i2l hx hb dX2_toldBy_76 rfl ?_
    exact W.lret (v := Int32.toInt64 ((q_grd kd sz nu pa t))) hx hb hr (fun tt ht hW => ⟨⟨Int32.toInt64 ((q_grd kd sz nu pa t)), (n, kd, sz, sh, nu, pa, sl, (q_fh (q_ho2 kd sz pa t) ft), tn, ts, tg), rfl, ⟨(by rfl), rfl⟩, (by show q_M E mm S (n, kd, sz, sh, nu, pa, sl, (q_fh (q_ho2 kd sz pa t) ft), tn, ts, tg) tt.heap; rw [ht]; exact hM)⟩, hS.F ht⟩) hS.2.2 dX2_toldBy_77
  · refine q_tIn (v := 4) (tgt := 78) (off := 77) hx hb c_1 dX2_toldBy_1 (by decide) (by decide) (by decide) (by decide) ?_
    refine lv_aload_n hx hb dX2_toldBy_78 rfl (lv_at hl 0 rfl) ?_
    refine lv_iload_n hx hb dX2_toldBy_79 rfl (lv_at hl 1 rfl) ?_
    refine lv_iconst (v := nI 0) hx hb dX2_toldBy_80 (by decide) ?_
    refine qc_i (r1 := nI (q_ins kd sz sh pa false t)) (σ1 := (n, kd, sz, sh, nu, pa, sl, (q_fh (q_ho1 kd sz pa t) ft), tn, ts, tg)) (va_runV (As := [.int (nI t), .int (nI 0)]) (rest := []) ⟨hx, hb, hml, hown, hts⟩ (kX2_insideOf_f l E mm S n kd sz sh nu pa sl ft tn ts tg hI t ht (by omega)) (cwV 2 hts gX2_toldBy_X2_insideOf rfl rfl rfl (by decide +kernel) ⟨Nat.le_of_ble_eq_true rfl, Nat.le_of_ble_eq_true rfl⟩) (q_preV hK hM hM.1 rfl) rfl rfl hl.1 rfl (lv_room (Nat.le_of_ble_eq_true rfl)) dX2_toldBy_81 ⟨Nat.le_of_ble_eq_true rfl, Nat.le_of_ble_eq_true rfl⟩) hS rfl rfl (fun H locs hM hS => ?_)
    have ilt := q_ins_le hI false ht
    refine lv_i2l (v := lN (q_ins kd sz sh pa false t)) hx hb dX2_toldBy_84 (nI_l (by first | omega | (simp; omega))) ?_
    exact W.lret (v := lN (q_ins kd sz sh pa false t)) hx hb hr (fun tt ht hW => ⟨⟨lN (q_ins kd sz sh pa false t), (n, kd, sz, sh, nu, pa, sl, (q_fh (q_ho1 kd sz pa t) ft), tn, ts, tg), rfl, ⟨(by subst c_1; rfl), (by rw [q_ho12 hI (by omega) (by omega)])⟩, (by show q_M E mm S (n, kd, sz, sh, nu, pa, sl, (q_fh (q_ho1 kd sz pa t) ft), tn, ts, tg) tt.heap; rw [ht]; exact hM)⟩, hS.F ht⟩) hS.2.2 dX2_toldBy_85
  · refine q_tIn (v := 5) (tgt := 86) (off := 85) hx hb c_1 dX2_toldBy_1 (by decide) (by decide) (by decide) (by decide) ?_
    refine lv_aload_n hx hb dX2_toldBy_86 rfl (lv_at hl 0 rfl) ?_
    refine lv_iload_n hx hb dX2_toldBy_87 rfl (lv_at hl 1 rfl) ?_
    refine lv_iconst (v := nI 1) hx hb dX2_toldBy_88 (by decide) ?_
    refine qc_i (r1 := nI (q_ins kd sz sh pa true t)) (σ1 := (n, kd, sz, sh, nu, pa, sl, (q_fh (q_ho1 kd sz pa t) ft), tn, ts, tg)) (va_runV (As := [.int (nI t), .int (nI 1)]) (rest := []) ⟨hx, hb, hml, hown, hts⟩ (kX2_insideOf_t l E mm S n kd sz sh nu pa sl ft tn ts tg hI t ht (by omega)) (cwV 2 hts gX2_toldBy_X2_insideOf rfl rfl rfl (by decide +kernel) ⟨Nat.le_of_ble_eq_true rfl, Nat.le_of_ble_eq_true rfl⟩) (q_preV hK hM hM.1 rfl) rfl rfl hl.1 rfl (lv_room (Nat.le_of_ble_eq_true rfl)) dX2_toldBy_89 ⟨Nat.le_of_ble_eq_true rfl, Nat.le_of_ble_eq_true rfl⟩) hS rfl rfl (fun H locs hM hS => ?_)
    have ilt := q_ins_le hI true ht
    refine lv_i2l (v := lN (q_ins kd sz sh pa true t)) hx hb dX2_toldBy_92 (nI_l (by first | omega | (simp; omega))) ?_
    exact W.lret (v := lN (q_ins kd sz sh pa true t)) hx hb hr (fun tt ht hW => ⟨⟨lN (q_ins kd sz sh pa true t), (n, kd, sz, sh, nu, pa, sl, (q_fh (q_ho1 kd sz pa t) ft), tn, ts, tg), rfl, ⟨(by subst c_1; rfl), (by rw [q_ho12 hI (by omega) (by omega)])⟩, (by show q_M E mm S (n, kd, sz, sh, nu, pa, sl, (q_fh (q_ho1 kd sz pa t) ft), tn, ts, tg) tt.heap; rw [ht]; exact hM)⟩, hS.F ht⟩) hS.2.2 dX2_toldBy_93
  · refine q_tIn (v := 6) (tgt := 78) (off := 77) hx hb c_1 dX2_toldBy_1 (by decide) (by decide) (by decide) (by decide) ?_
    refine lv_aload_n hx hb dX2_toldBy_78 rfl (lv_at hl 0 rfl) ?_
    refine lv_iload_n hx hb dX2_toldBy_79 rfl (lv_at hl 1 rfl) ?_
    refine lv_iconst (v := nI 0) hx hb dX2_toldBy_80 (by decide) ?_
    refine qc_i (r1 := nI (q_ins kd sz sh pa false t)) (σ1 := (n, kd, sz, sh, nu, pa, sl, (q_fh (q_ho1 kd sz pa t) ft), tn, ts, tg)) (va_runV (As := [.int (nI t), .int (nI 0)]) (rest := []) ⟨hx, hb, hml, hown, hts⟩ (kX2_insideOf_f l E mm S n kd sz sh nu pa sl ft tn ts tg hI t ht (by omega)) (cwV 2 hts gX2_toldBy_X2_insideOf rfl rfl rfl (by decide +kernel) ⟨Nat.le_of_ble_eq_true rfl, Nat.le_of_ble_eq_true rfl⟩) (q_preV hK hM hM.1 rfl) rfl rfl hl.1 rfl (lv_room (Nat.le_of_ble_eq_true rfl)) dX2_toldBy_81 ⟨Nat.le_of_ble_eq_true rfl, Nat.le_of_ble_eq_true rfl⟩) hS rfl rfl (fun H locs hM hS => ?_)
    have ilt := q_ins_le hI false ht
    refine lv_i2l (v := lN (q_ins kd sz sh pa false t)) hx hb dX2_toldBy_84 (nI_l (by first | omega | (simp; omega))) ?_
    exact W.lret (v := lN (q_ins kd sz sh pa false t)) hx hb hr (fun tt ht hW => ⟨⟨lN (q_ins kd sz sh pa false t), (n, kd, sz, sh, nu, pa, sl, (q_fh (q_ho1 kd sz pa t) ft), tn, ts, tg), rfl, ⟨(by subst c_1; rfl), (by rw [q_ho12 hI (by omega) (by omega)])⟩, (by show q_M E mm S (n, kd, sz, sh, nu, pa, sl, (q_fh (q_ho1 kd sz pa t) ft), tn, ts, tg) tt.heap; rw [ht]; exact hM)⟩, hS.F ht⟩) hS.2.2 dX2_toldBy_85
  · refine q_tIn (v := 7) (tgt := 70) (off := 69) hx hb c_1 dX2_toldBy_1 (by decide) (by decide) (by decide) (by decide) ?_
    refine lv_aload_n hx hb dX2_toldBy_70 rfl (lv_at hl 0 rfl) ?_
    refine lv_iload_n hx hb dX2_toldBy_71 rfl (lv_at hl 1 rfl) ?_
    refine lv_iload_n hx hb dX2_toldBy_72 rfl (lv_at hl 2 rfl) ?_
    subst c_1
    refine qc_i (r1 := nI (q_rws kd sz sh pa false t)) (σ1 := (n, kd, sz, sh, nu, pa, sl, (q_fh (q_ho2 kd sz pa t) ft), tn, ts, tg)) (va_runV (As := [.int (nI t), .int (nI 7)]) (rest := []) ⟨hx, hb, hml, hown, hts⟩ (kX2_rowsOf_f l E mm S n kd sz sh nu pa sl ft tn ts tg hI t ht (by omega)) (cwV 2 hts gX2_toldBy_X2_rowsOf rfl rfl rfl (by decide +kernel) ⟨Nat.le_of_ble_eq_true rfl, Nat.le_of_ble_eq_true rfl⟩) (q_preV hK hM hM.1 rfl) rfl rfl hl.1 rfl (lv_room (Nat.le_of_ble_eq_true rfl)) dX2_toldBy_73 ⟨Nat.le_of_ble_eq_true rfl, Nat.le_of_ble_eq_true rfl⟩) hS rfl rfl (fun H locs hM hS => ?_)
    have ilt := q_rws_le hI false ht
    refine lv_i2l (v := lN (q_rws kd sz sh pa false t)) hx hb dX2_toldBy_76 (nI_l (by first | omega | (simp; omega))) ?_
    exact W.lret (v := lN (q_rws kd sz sh pa false t)) hx hb hr (fun tt ht hW => ⟨⟨lN (q_rws kd sz sh pa false t), (n, kd, sz, sh, nu, pa, sl, (q_fh (q_ho2 kd sz pa t) ft), tn, ts, tg), rfl, ⟨(by rfl), rfl⟩, (by show q_M E mm S (n, kd, sz, sh, nu, pa, sl, (q_fh (q_ho2 kd sz pa t) ft), tn, ts, tg) tt.heap; rw [ht]; exact hM)⟩, hS.F ht⟩) hS.2.2 dX2_toldBy_77
  · refine q_tIn (v := 8) (tgt := 70) (off := 69) hx hb c_1 dX2_toldBy_1 (by decide) (by decide) (by decide) (by decide) ?_
    refine lv_aload_n hx hb dX2_toldBy_70 rfl (lv_at hl 0 rfl) ?_
    refine lv_iload_n hx hb dX2_toldBy_71 rfl (lv_at hl 1 rfl) ?_
    refine lv_iload_n hx hb dX2_toldBy_72 rfl (lv_at hl 2 rfl) ?_
    subst c_1
    refine qc_i (r1 := nI (q_rws kd sz sh pa true t)) (σ1 := (n, kd, sz, sh, nu, pa, sl, (q_fh (q_ho2 kd sz pa t) ft), tn, ts, tg)) (va_runV (As := [.int (nI t), .int (nI 8)]) (rest := []) ⟨hx, hb, hml, hown, hts⟩ (kX2_rowsOf_t l E mm S n kd sz sh nu pa sl ft tn ts tg hI t ht (by omega)) (cwV 2 hts gX2_toldBy_X2_rowsOf rfl rfl rfl (by decide +kernel) ⟨Nat.le_of_ble_eq_true rfl, Nat.le_of_ble_eq_true rfl⟩) (q_preV hK hM hM.1 rfl) rfl rfl hl.1 rfl (lv_room (Nat.le_of_ble_eq_true rfl)) dX2_toldBy_73 ⟨Nat.le_of_ble_eq_true rfl, Nat.le_of_ble_eq_true rfl⟩) hS rfl rfl (fun H locs hM hS => ?_)
    have ilt := q_rws_le hI true ht
    refine lv_i2l (v := lN (q_rws kd sz sh pa true t)) hx hb dX2_toldBy_76 (nI_l (by first | omega | (simp; omega))) ?_
    exact W.lret (v := lN (q_rws kd sz sh pa true t)) hx hb hr (fun tt ht hW => ⟨⟨lN (q_rws kd sz sh pa true t), (n, kd, sz, sh, nu, pa, sl, (q_fh (q_ho2 kd sz pa t) ft), tn, ts, tg), rfl, ⟨(by rfl), rfl⟩, (by show q_M E mm S (n, kd, sz, sh, nu, pa, sl, (q_fh (q_ho2 kd sz pa t) ft), tn, ts, tg) tt.heap; rw [ht]; exact hM)⟩, hS.F ht⟩) hS.2.2 dX2_toldBy_77
  · refine q_tIn (v := 9) (tgt := 94) (off := 93) hx hb c_1 dX2_toldBy_1 (by decide) (by decide) (by decide) (by decide) ?_
    refine lv_aload_n hx hb dX2_toldBy_94 rfl (lv_at hl 0 rfl) ?_
    refine qw_get (v := .ref (mm + 2)) (ci := 2) (C := RX2) (T := TX2) (N := 10) hx hb hts nX2_toldBy_2 hown hK hM.1 rfl 2 (by decide) (hts (.fieldLink RX2 13 "DockGatesModel" "size" "[I") (by decide +kernel)) rfl rfl dX2_toldBy_95 ?_
    refine lv_iload_n hx hb dX2_toldBy_98 rfl (lv_at hl 1 rfl) ?_
    refine qw_iald (f := fun q => nI (sz q)) hx hb hK hM.2.2.1 (by omega) (by decide) dX2_toldBy_99 ?_
    refine lv_i2l (v := lN (sz t)) hx hb dX2_toldBy_100 (nI_l (by first | omega | (simp; omega))) ?_
    exact W.lret (v := lN (sz t)) hx hb hr (fun tt ht hW => ⟨⟨lN (sz t), (n, kd, sz, sh, nu, pa, sl, ft, tn, ts, tg), rfl, ⟨(by subst c_1; rfl), (by rw [q_ho2_0 (by omega)]; rfl)⟩, (by show q_M E mm S (n, kd, sz, sh, nu, pa, sl, ft, tn, ts, tg) tt.heap; rw [ht]; exact hM)⟩, hS.F ht⟩) hS.2.2 dX2_toldBy_101
  · refine q_tIn (v := 10) (tgt := 102) (off := 101) hx hb c_1 dX2_toldBy_1 (by decide) (by decide) (by decide) (by decide) ?_
    refine lv_aload_n hx hb dX2_toldBy_102 rfl (lv_at hl 0 rfl) ?_
    refine qw_get (v := .ref (mm + 3)) (ci := 2) (C := RX2) (T := TX2) (N := 10) hx hb hts nX2_toldBy_2 hown hK hM.1 rfl 3 (by decide) (hts (.fieldLink RX2 16 "DockGatesModel" "isShut" "[Z") (by decide +kernel)) rfl rfl dX2_toldBy_103 ?_
    refine lv_iload_n hx hb dX2_toldBy_106 rfl (lv_at hl 1 rfl) ?_
    refine qw_zald (f := fun q => q_b (sh q)) hx hb hK hM.2.2.2.1 (by omega) (by decide) dX2_toldBy_107 ?_
    refine ln_b_eq (tgt := 115) hx hb dX2_toldBy_108 (by decide) (fun c_2 => ?_) (fun c_2 => ?_)
    · refine lv_lconst (v := 0) hx hb dX2_toldBy_115 (by decide) ?_
      exact W.lret (v := 0) hx hb hr (fun tt ht hW => ⟨⟨0, (n, kd, sz, sh, nu, pa, sl, ft, tn, ts, tg), rfl, ⟨(by subst c_1; show _ = lN (if sh t then 1 else 0); simp [c_2]; rfl), (by rw [q_ho2_0 (by omega)]; rfl)⟩, (by show q_M E mm S (n, kd, sz, sh, nu, pa, sl, ft, tn, ts, tg) tt.heap; rw [ht]; exact hM)⟩, hS.F ht⟩) hS.2.2 dX2_toldBy_116
    · refine lv_lconst (v := 1) hx hb dX2_toldBy_111 (by decide) ?_
      refine lv_goto (tgt := 116) hx hb dX2_toldBy_112 (by decide) ?_
      exact W.lret (v := 1) hx hb hr (fun tt ht hW => ⟨⟨1, (n, kd, sz, sh, nu, pa, sl, ft, tn, ts, tg), rfl, ⟨(by subst c_1; show _ = lN (if sh t then 1 else 0); simp [c_2]; rfl), (by rw [q_ho2_0 (by omega)]; rfl)⟩, (by show q_M E mm S (n, kd, sz, sh, nu, pa, sl, ft, tn, ts, tg) tt.heap; rw [ht]; exact hM)⟩, hS.F ht⟩) hS.2.2 dX2_toldBy_116
  · refine q_tIn (v := 11) (tgt := 94) (off := 93) hx hb c_1 dX2_toldBy_1 (by decide) (by decide) (by decide) (by decide) ?_
    refine lv_aload_n hx hb dX2_toldBy_94 rfl (lv_at hl 0 rfl) ?_
    refine qw_get (v := .ref (mm + 2)) (ci := 2) (C := RX2) (T := TX2) (N := 10) hx hb hts nX2_toldBy_2 hown hK hM.1 rfl 2 (by decide) (hts (.fieldLink RX2 13 "DockGatesModel" "size" "[I") (by decide +kernel)) rfl rfl dX2_toldBy_95 ?_
    refine lv_iload_n hx hb dX2_toldBy_98 rfl (lv_at hl 1 rfl) ?_
    refine qw_iald (f := fun q => nI (sz q)) hx hb hK hM.2.2.1 (by omega) (by decide) dX2_toldBy_99 ?_
    refine lv_i2l (v := lN (sz t)) hx hb dX2_toldBy_100 (nI_l (by first | omega | (simp; omega))) ?_
    exact W.lret (v := lN (sz t)) hx hb hr (fun tt ht hW => ⟨⟨lN (sz t), (n, kd, sz, sh, nu, pa, sl, ft, tn, ts, tg), rfl, ⟨(by subst c_1; rfl), (by rw [q_ho2_0 (by omega)]; rfl)⟩, (by show q_M E mm S (n, kd, sz, sh, nu, pa, sl, ft, tn, ts, tg) tt.heap; rw [ht]; exact hM)⟩, hS.F ht⟩) hS.2.2 dX2_toldBy_101
  · obtain ⟨c_1_0, c_1_1, c_1_2, c_1_3, c_1_4, c_1_5, c_1_6, c_1_7, c_1_8, c_1_9, c_1_10, c_1_11⟩ := c_1
    refine q_tOut (tgt := 117) hx hb (by omega) dX2_toldBy_1 (by omega) (by decide) ?_
    refine lv_aload_n hx hb dX2_toldBy_117 rfl (lv_at hl 0 rfl) ?_
    refine lv_iload_n hx hb dX2_toldBy_118 rfl (lv_at hl 1 rfl) ?_
    refine qc_ri (r1 := nI (q_w kd sz sh t)) (W.runV (As := [.int (nI t)]) (rest := []) ⟨hx, hb, hml, hown, hts⟩ (kX2_weighs l E mm S n kd sz sh nu pa sl ft tn ts tg hI t ht) (cwV 1 hts gX2_toldBy_X2_weighs rfl rfl rfl (by decide +kernel) ⟨Nat.le_of_ble_eq_true rfl, Nat.le_of_ble_eq_true rfl⟩) (q_preV hK hM hM.1 rfl) rfl rfl hl.1 rfl (lv_room (Nat.le_of_ble_eq_true rfl)) dX2_toldBy_119 ⟨Nat.le_of_ble_eq_true rfl, Nat.le_of_ble_eq_true rfl⟩) rfl ?_
    have it := q_w_le (kd := kd) (sh := sh) bt_
    refine lv_i2l (v := lN (q_w kd sz sh t)) hx hb dX2_toldBy_122 (nI_l (by first | omega | (simp; omega))) ?_
    exact W.lret (v := lN (q_w kd sz sh t)) hx hb hr (fun tt ht hW => ⟨⟨lN (q_w kd sz sh t), (n, kd, sz, sh, nu, pa, sl, ft, tn, ts, tg), rfl, ⟨(by have h12 : g = 12 := (by omega); subst h12; rfl), (by rw [q_ho2_0 (by omega)]; rfl)⟩, (by show q_M E mm S (n, kd, sz, sh, nu, pa, sl, ft, tn, ts, tg) tt.heap; rw [ht]; exact hM)⟩, hS.F ht⟩) hS.2.2 dX2_toldBy_123
