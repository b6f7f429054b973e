/-! ===== the class: what writes its faults and turns (written by program) ===== -/
set_option maxRecDepth 20000 in
theorem nX1_failed_1 : ∀ w ∈ u_ws RX1 TX1 6, w ∈ wsX1_failed := by decide +kernel
set_option maxHeartbeats 4000000 in
set_option maxRecDepth 100000 in
theorem kX1_failed (l : Launch) (E : q_E) (x T0 : Nat) (n : Nat) (kd sz : Nat → Nat) (sh : Nat → Bool) (nu : Nat → Nat → Int64) (pa : Nat → Nat → Option Nat) (sl : Nat → Option Nat) (ft tn ts tg : Int32) (hI : q_I (n, kd, sz, sh, nu, pa, sl, ft, tn, ts, tg)) (a : Int32)  : Met l yX1_failed wsX1_failed ({ frames := 0, cells := 0, slots := 0, locals := 0 }) (q_P E (q_X E x T0 (n, kd, sz, sh, nu, pa, sl, ft, tn, ts, tg)) [.ref x, .int a]) (q_Wi (q_X E x T0) (q_Ax x T0) (nI 0) (n, kd, sz, sh, nu, pa, sl, a, tn, ts, tg)) 0 0 (q_Ax x T0) := by
  refine Met.ofW (cc := cX1_failed) (maxL := 2) (ret := (some .int)) (by decide) rfl ?_
  intro p e s m args below meth c s₁ B hml hv
  obtain ⟨rfl, hK, hX⟩ := hv
  have hx := B.exec
  have hb := B.bytes
  have hr := B.returns
  have hts := atoms_spec (ws := wsX1_failed) B.pre
  have hown : s.vm.findClass RX1 = some m.cls := findClass_of_methodNamed B.named
  have hlocks := B.notSynchronized
  have hl := lv_entry ([.ref x, .int a]) (n := 2) (Nat.le_of_ble_eq_true rfl)
  rw [lg_entry_eq]
  generalize (lg_sl ([.ref x, .int a]) ++ List.replicate (2 - (lg_sl ([.ref x, .int a])).length) Slot.unset).toArray = ls at hl ⊢
  have hl : lv_has ls 2 [(0, .ref x), (1, .int a)] := hl
  have hS : va_S (q_Ax x T0) s.heap s.heap [] := va_S.rf
  refine lv_aload_n hx hb dX1_failed_0 rfl (lv_at hl 0 rfl) ?_
  refine lv_iload_n hx hb dX1_failed_1 rfl (lv_at hl 1 rfl) ?_
  refine qw_put (ci := 1) (C := RX1) (T := TX1) (N := 6) hx hb hts nX1_failed_1 tyX1 tyX1_ok nmX1 hown hK hX.1 hS (Or.inl rfl) rfl 2 (by decide) (hts (.fieldLink RX1 19 "DockGates" "latestFault" "I") (by decide +kernel)) rfl rfl rfl rfl (Nat.le_of_ble_eq_true rfl) dX1_failed_2 (fun H locs hO hz hq hS => ?_)
  have hX : q_X E x T0 (n, kd, sz, sh, nu, pa, sl, a, tn, ts, tg) H := hX.obj hO hz hq
  refine lv_iconst (v := nI 0) hx hb dX1_failed_5 (by decide) ?_
  exact W.iret (v := nI 0) hx hb hr (fun t ht hW => ⟨⟨nI 0, (n, kd, sz, sh, nu, pa, sl, a, tn, ts, tg), rfl, ⟨rfl, rfl⟩, (by show q_X E x T0 (n, kd, sz, sh, nu, pa, sl, a, tn, ts, tg) t.heap; rw [ht]; exact hX)⟩, hS.F ht⟩) hS.2.2 dX1_failed_6
set_option maxRecDepth 20000 in
theorem nX1_turnBack_1 : ∀ w ∈ u_ws RX1 TX1 6, w ∈ wsX1_turnBack := by decide +kernel
set_option maxHeartbeats 4000000 in
set_option maxRecDepth 100000 in
theorem kX1_turnBack (l : Launch) (E : q_E) (x T0 : Nat) (n : Nat) (kd sz : Nat → Nat) (sh : Nat → Bool) (nu : Nat → Nat → Int64) (pa : Nat → Nat → Option Nat) (sl : Nat → Option Nat) (ft tn ts tg : Int32) (hI : q_I (n, kd, sz, sh, nu, pa, sl, ft, tn, ts, tg)) (a g : Int32)  : Met l yX1_turnBack wsX1_turnBack ({ frames := 0, cells := 0, slots := 0, locals := 0 }) (q_P E (q_X E x T0 (n, kd, sz, sh, nu, pa, sl, ft, tn, ts, tg)) [.ref x, .int a, .int g]) (q_Wv (q_X E x T0) (q_Ax x T0) (n, kd, sz, sh, nu, pa, sl, ft, tn + 1, a, g)) 0 0 (q_Ax x T0) := by
  refine Met.ofW (cc := cX1_turnBack) (maxL := 3) (ret := none) (by decide) rfl ?_
  intro p e s m args below meth c s₁ B hml hv
  obtain ⟨rfl, hK, hX⟩ := hv
  have hx := B.exec
  have hb := B.bytes
  have hr := B.returns
  have hts := atoms_spec (ws := wsX1_turnBack) B.pre
  have hown : s.vm.findClass RX1 = some m.cls := findClass_of_methodNamed B.named
  have hlocks := B.notSynchronized
  have hl := lv_entry ([.ref x, .int a, .int g]) (n := 3) (Nat.le_of_ble_eq_true rfl)
  rw [lg_entry_eq]
  generalize (lg_sl ([.ref x, .int a, .int g]) ++ List.replicate (3 - (lg_sl ([.ref x, .int a, .int g])).length) Slot.unset).toArray = ls at hl ⊢
  have hl : lv_has ls 3 [(0, .ref x), (1, .int a), (2, .int g)] := hl
  have hS : va_S (q_Ax x T0) s.heap s.heap [] := va_S.rf
  refine lv_aload_n hx hb dX1_turnBack_0 rfl (lv_at hl 0 rfl) ?_
  refine lv_dup hx hb dX1_turnBack_1 rfl ?_
  refine qw_get (v := .int tn) (ci := 1) (C := RX1) (T := TX1) (N := 6) hx hb hts nX1_turnBack_1 hown hK hX.1 rfl 3 (by decide) (hts (.fieldLink RX1 22 "DockGates" "turns" "I") (by decide +kernel)) rfl rfl dX1_turnBack_2 ?_
  refine lv_iconst (v := nI 1) hx hb dX1_turnBack_5 (by decide) ?_
  refine lv_iadd hx hb dX1_turnBack_6 ?_
  refine qw_put (ci := 1) (C := RX1) (T := TX1) (N := 6) hx hb hts nX1_turnBack_1 tyX1 tyX1_ok nmX1 hown hK hX.1 hS (Or.inl rfl) rfl 3 (by decide) (hts (.fieldLink RX1 22 "DockGates" "turns" "I") (by decide +kernel)) rfl rfl rfl rfl (Nat.le_of_ble_eq_true rfl) dX1_turnBack_7 (fun H locs hO hz hq hS => ?_)
  have hX : q_X E x T0 (n, kd, sz, sh, nu, pa, sl, ft, (tn + nI 1), ts, tg) H := hX.obj hO hz hq
  refine lv_aload_n hx hb dX1_turnBack_10 rfl (lv_at hl 0 rfl) ?_
  refine lv_iload_n hx hb dX1_turnBack_11 rfl (lv_at hl 1 rfl) ?_
  refine qw_put (ci := 1) (C := RX1) (T := TX1) (N := 6) hx hb hts nX1_turnBack_1 tyX1 tyX1_ok nmX1 hown hK hX.1 hS (Or.inl rfl) rfl 4 (by decide) (hts (.fieldLink RX1 25 "DockGates" "turnedSlot" "I") (by decide +kernel)) rfl rfl rfl rfl (Nat.le_of_ble_eq_true rfl) dX1_turnBack_12 (fun H locs hO hz hq hS => ?_)
  have hX : q_X E x T0 (n, kd, sz, sh, nu, pa, sl, ft, (tn + nI 1), a, tg) H := hX.obj hO hz hq
  refine lv_aload_n hx hb dX1_turnBack_15 rfl (lv_at hl 0 rfl) ?_
  refine lv_iload_n hx hb dX1_turnBack_16 rfl (lv_at hl 2 rfl) ?_
  refine qw_put (ci := 1) (C := RX1) (T := TX1) (N := 6) hx hb hts nX1_turnBack_1 tyX1 tyX1_ok nmX1 hown hK hX.1 hS (Or.inl rfl) rfl 5 (by decide) (hts (.fieldLink RX1 28 "DockGates" "turnedGate" "I") (by decide +kernel)) rfl rfl rfl rfl (Nat.le_of_ble_eq_true rfl) dX1_turnBack_17 (fun H locs hO hz hq hS => ?_)
  have hX : q_X E x T0 (n, kd, sz, sh, nu, pa, sl, ft, (tn + nI 1), a, g) H := hX.obj hO hz hq
  exact W.vret hx hb hr (fun t ht hW => ⟨⟨(n, kd, sz, sh, nu, pa, sl, ft, (tn + nI 1), a, g), rfl, rfl, (by show q_X E x T0 (n, kd, sz, sh, nu, pa, sl, ft, (tn + nI 1), a, g) t.heap; rw [ht]; exact hX)⟩, hS.F ht⟩) hS.2.2 dX1_turnBack_20
set_option maxHeartbeats 4000000 in
set_option maxRecDepth 100000 in
theorem kX1_failedAtGate (l : Launch) (E : q_E) (x T0 : Nat) (n : Nat) (kd sz : Nat → Nat) (sh : Nat → Bool) (nu : Nat → Nat → Int64) (pa : Nat → Nat → Option Nat) (sl : Nat → Option Nat) (ft tn ts tg : Int32) (hI : q_I (n, kd, sz, sh, nu, pa, sl, ft, tn, ts, tg)) (a g : Int32)  : Met l yX1_failedAtGate wsX1_failedAtGate ({ frames := 1, cells := 0, slots := 0, locals := 22 }) (q_P E (q_X E x T0 (n, kd, sz, sh, nu, pa, sl, ft, tn, ts, tg)) [.ref x, .int a, .int g]) (q_Wi (q_X E x T0) (q_Ax x T0) (nI 0) (n, kd, sz, sh, nu, pa, sl, nI 1, tn + 1, a, g)) 0 0 (q_Ax x T0) := by
  refine Met.ofW (cc := cX1_failedAtGate) (maxL := 3) (ret := (some .int)) (by decide) rfl ?_
  intro p e s m args below meth c s₁ B hml hv
  obtain ⟨rfl, hK, hX⟩ := hv
  have hx := B.exec
  have hb := B.bytes
  have hr := B.returns
  have hts := atoms_spec (ws := wsX1_failedAtGate) B.pre
  have hown : s.vm.findClass RX1 = some m.cls := findClass_of_methodNamed B.named
  have hlocks := B.notSynchronized
  have hl := lv_entry ([.ref x, .int a, .int g]) (n := 3) (Nat.le_of_ble_eq_true rfl)
  rw [lg_entry_eq]
  generalize (lg_sl ([.ref x, .int a, .int g]) ++ List.replicate (3 - (lg_sl ([.ref x, .int a, .int g])).length) Slot.unset).toArray = ls at hl ⊢
  have hl : lv_has ls 3 [(0, .ref x), (1, .int a), (2, .int g)] := hl
  have hS : va_S (q_Ax x T0) s.heap s.heap [] := va_S.rf
  refine lv_aload_n hx hb dX1_failedAtGate_0 rfl (lv_at hl 0 rfl) ?_
  refine lv_iload_n hx hb dX1_failedAtGate_1 rfl (lv_at hl 1 rfl) ?_
  refine lv_iload_n hx hb dX1_failedAtGate_2 rfl (lv_at hl 2 rfl) ?_
  refine qc_v (σ1 := (n, kd, sz, sh, nu, pa, sl, ft, (tn + 1), a, g)) (va_runV (As := [.int a, .int g]) (rest := []) ⟨hx, hb, hml, hown, hts⟩ (kX1_turnBack l E x T0 n kd sz sh nu pa sl ft tn ts tg hI a g) (cwV 2 hts gX1_failedAtGate_X1_turnBack rfl rfl rfl (by decide +kernel) ⟨Nat.le_of_ble_eq_true rfl, Nat.le_of_ble_eq_true rfl⟩) (q_preV hK hX hX.1 rfl) rfl rfl hl.1 rfl (lv_room (Nat.le_of_ble_eq_true rfl)) dX1_failedAtGate_3 ⟨Nat.le_of_ble_eq_true rfl, Nat.le_of_ble_eq_true rfl⟩) hS rfl (fun H locs hX hS => ?_)
  refine lv_aload_n hx hb dX1_failedAtGate_6 rfl (lv_at hl 0 rfl) ?_
  refine lv_iconst (v := nI 1) hx hb dX1_failedAtGate_7 (by decide) ?_
  refine qc_i (r1 := nI 0) (σ1 := (n, kd, sz, sh, nu, pa, sl, nI 1, (tn + 1), a, g)) (va_runV (As := [.int (nI 1)]) (rest := []) ⟨hx, hb, hml, hown, hts⟩ (kX1_failed l E x T0 n kd sz sh nu pa sl ft ((tn + 1)) a g hI (nI 1)) (cwV 1 hts gX1_failedAtGate_X1_failed rfl rfl rfl (by decide +kernel) ⟨Nat.le_of_ble_eq_true rfl, Nat.le_of_ble_eq_true rfl⟩) (q_preV hK hX hX.1 rfl) rfl rfl hl.1 rfl (lv_room (Nat.le_of_ble_eq_true rfl)) dX1_failedAtGate_8 ⟨Nat.le_of_ble_eq_true rfl, Nat.le_of_ble_eq_true rfl⟩) hS rfl rfl (fun H locs hX hS => ?_)
  exact W.iret (v := nI 0) hx hb hr (fun t ht hW => ⟨⟨nI 0, (n, kd, sz, sh, nu, pa, sl, nI 1, (tn + 1), a, g), rfl, ⟨rfl, rfl⟩, (by show q_X E x T0 (n, kd, sz, sh, nu, pa, sl, nI 1, (tn + 1), a, g) t.heap; rw [ht]; exact hX)⟩, hS.F ht⟩) hS.2.2 dX1_failedAtGate_11
set_option maxRecDepth 20000 in
theorem nX1_broughtThrough_1 : ∀ w ∈ u_ws RX1 TX1 6, w ∈ wsX1_broughtThrough := by decide +kernel
set_option maxHeartbeats 4000000 in
set_option maxRecDepth 100000 in
theorem kX1_broughtThrough_N (l : Launch) (E : q_E) (x T0 : Nat) (n : Nat) (kd sz : Nat → Nat) (sh : Nat → Bool) (nu : Nat → Nat → Int64) (pa : Nat → Nat → Option Nat) (sl : Nat → Option Nat) (ft tn ts tg : Int32) (hI : q_I (n, kd, sz, sh, nu, pa, sl, ft, tn, ts, tg)) (g j : Nat) (hj : j < 12) (hs : sl j = none)  : Met l yX1_broughtThrough wsX1_broughtThrough ({ frames := 2, cells := 0, slots := 0, locals := 44 }) (q_P E (q_X E x T0 (n, kd, sz, sh, nu, pa, sl, ft, tn, ts, tg)) [.ref x, .int (nI g), .int (nI j)]) (q_Wq (q_X E x T0) (q_Ax x T0) (none) (n, kd, sz, sh, nu, pa, sl, nI 2, tn, ts, tg)) 0 0 (q_Ax x T0) := by
  refine Met.ofW (cc := cX1_broughtThrough) (maxL := 4) (ret := (some (.object "DockGates$Thing"))) (by decide) rfl ?_
  intro p e s m args below meth c s₁ B hml hv
  obtain ⟨rfl, hK, hX⟩ := hv
  have hx := B.exec
  have hb := B.bytes
  have hr := B.returns
  have hts := atoms_spec (ws := wsX1_broughtThrough) B.pre
  have hown : s.vm.findClass RX1 = some m.cls := findClass_of_methodNamed B.named
  have hlocks := B.notSynchronized
  have hl := lv_entry ([.ref x, .int (nI g), .int (nI j)]) (n := 4) (Nat.le_of_ble_eq_true rfl)
  rw [lg_entry_eq]
  generalize (lg_sl ([.ref x, .int (nI g), .int (nI j)]) ++ List.replicate (4 - (lg_sl ([.ref x, .int (nI g), .int (nI j)])).length) Slot.unset).toArray = ls at hl ⊢
  have hl : lv_has ls 4 [(0, .ref x), (1, .int (nI g)), (2, .int (nI j))] := hl
  have hS : va_S (q_Ax x T0) s.heap s.heap [] := va_S.rf
  refine lv_aload_n hx hb dX1_broughtThrough_0 rfl (lv_at hl 0 rfl) ?_
  refine qw_get (v := .ref (x + 1)) (ci := 1) (C := RX1) (T := TX1) (N := 6) hx hb hts nX1_broughtThrough_1 hown hK hX.1 rfl 0 (by decide) (hts (.fieldLink RX1 11 "DockGates" "slots" "[LDockGates$Thing;") (by decide +kernel)) rfl rfl dX1_broughtThrough_1 ?_
  refine lv_iload_n hx hb dX1_broughtThrough_4 rfl (lv_at hl 2 rfl) ?_
  refine qx_slotN hx hb hK hX hs hj dX1_broughtThrough_5 ?_
  refine lv_astore_nN (lv' := [(3, .null), (0, .ref x), (1, .int (nI g)), (2, .int (nI j))]) hx hb dX1_broughtThrough_6 rfl hl (by decide) rfl (fun ls hl => ?_)
  refine lv_aload_nN hx hb dX1_broughtThrough_7 rfl (lv_at hl 0 rfl) ?_
  refine lv_ifnonnullN hx hb dX1_broughtThrough_8 ?_
  refine lv_aload_n hx hb dX1_broughtThrough_11 rfl (lv_at hl 1 rfl) ?_
  refine lv_iconst (v := nI 2) hx hb dX1_broughtThrough_12 (by decide) ?_
  refine qc_i (r1 := nI 0) (σ1 := (n, kd, sz, sh, nu, pa, sl, nI 2, tn, ts, tg)) (va_runV (As := [.int (nI 2)]) (rest := []) ⟨hx, hb, hml, hown, hts⟩ (kX1_failed l E x T0 n kd sz sh nu pa sl ft tn ts tg hI (nI 2)) (cwV 1 hts gX1_broughtThrough_X1_failed rfl rfl rfl (by decide +kernel) ⟨Nat.le_of_ble_eq_true rfl, Nat.le_of_ble_eq_true rfl⟩) (q_preV hK hX hX.1 rfl) rfl rfl hl.1 rfl (lv_room (Nat.le_of_ble_eq_true rfl)) dX1_broughtThrough_13 ⟨Nat.le_of_ble_eq_true rfl, Nat.le_of_ble_eq_true rfl⟩) hS rfl rfl (fun H locs hX hS => ?_)
  refine lv_pop hx hb dX1_broughtThrough_16 rfl ?_
  refine lv_null hx hb dX1_broughtThrough_17 ?_
  exact W.aret (v := .null) hx hb hr (Or.inl ⟨_, rfl⟩) (Or.inl rfl) (fun t ht hW => ⟨⟨none, (n, kd, sz, sh, nu, pa, sl, nI 2, tn, ts, tg), rfl, ⟨rfl, rfl⟩, (by show q_X E x T0 (n, kd, sz, sh, nu, pa, sl, nI 2, tn, ts, tg) t.heap; rw [ht]; exact hX)⟩, hS.F ht⟩) hS.2.2 dX1_broughtThrough_18
set_option maxHeartbeats 4000000 in
set_option maxRecDepth 100000 in
theorem kX1_broughtThrough_S (l : Launch) (E : q_E) (x T0 : Nat) (n : Nat) (kd sz : Nat → Nat) (sh : Nat → Bool) (nu : Nat → Nat → Int64) (pa : Nat → Nat → Option Nat) (sl : Nat → Option Nat) (ft tn ts tg : Int32) (hI : q_I (n, kd, sz, sh, nu, pa, sl, ft, tn, ts, tg)) (g j : Nat) (hg : g < 13) (hj : j < 12) (k : Nat) (hk : k < n) (hs : sl j = some k) (hgo : q_go (kd k) g = true)  : Met l yX1_broughtThrough wsX1_broughtThrough ({ frames := 2, cells := 0, slots := 0, locals := 44 }) (q_P E (q_X E x T0 (n, kd, sz, sh, nu, pa, sl, ft, tn, ts, tg)) [.ref x, .int (nI g), .int (nI j)]) (q_Wq (q_X E x T0) (q_Ax x T0) (some (T0 + 3 * k)) (n, kd, sz, sh, nu, pa, sl, ft, tn, ts, tg)) 0 0 (q_Ax x T0) := by
  refine Met.ofW (cc := cX1_broughtThrough) (maxL := 4) (ret := (some (.object "DockGates$Thing"))) (by decide) rfl ?_
  intro p e s m args below meth c s₁ B hml hv
  obtain ⟨rfl, hK, hX⟩ := hv
  have hx := B.exec
  have hb := B.bytes
  have hr := B.returns
  have hts := atoms_spec (ws := wsX1_broughtThrough) B.pre
  have hown : s.vm.findClass RX1 = some m.cls := findClass_of_methodNamed B.named
  have hlocks := B.notSynchronized
  have hl := lv_entry ([.ref x, .int (nI g), .int (nI j)]) (n := 4) (Nat.le_of_ble_eq_true rfl)
  rw [lg_entry_eq]
  generalize (lg_sl ([.ref x, .int (nI g), .int (nI j)]) ++ List.replicate (4 - (lg_sl ([.ref x, .int (nI g), .int (nI j)])).length) Slot.unset).toArray = ls at hl ⊢
  have hl : lv_has ls 4 [(0, .ref x), (1, .int (nI g)), (2, .int (nI j))] := hl
  have hS : va_S (q_Ax x T0) s.heap s.heap [] := va_S.rf
  obtain ⟨ak, bk, dk, wk⟩ := hI.2.1 k hk
  have n60 := hI.1
  try dsimp only at ak bk dk wk n60
  refine lv_aload_n hx hb dX1_broughtThrough_0 rfl (lv_at hl 0 rfl) ?_
  refine qw_get (v := .ref (x + 1)) (ci := 1) (C := RX1) (T := TX1) (N := 6) hx hb hts nX1_broughtThrough_1 hown hK hX.1 rfl 0 (by decide) (hts (.fieldLink RX1 11 "DockGates" "slots" "[LDockGates$Thing;") (by decide +kernel)) rfl rfl dX1_broughtThrough_1 ?_
  refine lv_iload_n hx hb dX1_broughtThrough_4 rfl (lv_at hl 2 rfl) ?_
  refine qx_slotS hx hb hK hX hs hj dX1_broughtThrough_5 ?_
  refine lv_astore_n (lv' := [(3, .ref (T0 + 3 * k)), (0, .ref x), (1, .int (nI g)), (2, .int (nI j))]) hx hb dX1_broughtThrough_6 rfl hl (by decide) rfl (fun ls hl => ?_)
  refine lv_aload_n hx hb dX1_broughtThrough_7 rfl (lv_at hl 0 rfl) ?_
  refine lv_ifnonnull (tgt := 19) hx hb dX1_broughtThrough_8 (by decide) ?_
  refine lv_iload_n hx hb dX1_broughtThrough_19 rfl (lv_at hl 2 rfl) ?_
  refine lv_aload_n hx hb dX1_broughtThrough_20 rfl (lv_at hl 0 rfl) ?_
  refine qc_ri (r1 := q_b true) (W.runS (As := [.int (nI g), .ref (T0 + 3 * k)]) (rest := []) ⟨hx, hb, hml, hown, hts⟩ (kX1_letsThrough_S l E x T0 n kd sz sh nu pa sl ft tn ts tg hI g (by first | omega | decide) k hk) (va_cwS 2 hts gX1_broughtThrough_X1_letsThrough rfl rfl rfl (by decide +kernel) ⟨Nat.le_of_ble_eq_true rfl, Nat.le_of_ble_eq_true rfl⟩) (q_pre hK hX) rfl rfl hl.1 rfl (lv_room (Nat.le_of_ble_eq_true rfl)) dX1_broughtThrough_21 ⟨Nat.le_of_ble_eq_true rfl, Nat.le_of_ble_eq_true rfl⟩) (by rw [hgo]) ?_
  refine ln_b_ne (tgt := 36) hx hb dX1_broughtThrough_24 (by decide) (fun _ => ?_) (fun c_1 => absurd c_1 (by decide))
  refine lv_aload_n hx hb dX1_broughtThrough_36 rfl (lv_at hl 0 rfl) ?_
  exact W.aret (v := .ref (T0 + 3 * k)) hx hb hr (Or.inl ⟨_, rfl⟩) (Or.inr ⟨_, rfl⟩) (fun t ht hW => ⟨⟨some (T0 + 3 * k), (n, kd, sz, sh, nu, pa, sl, ft, tn, ts, tg), rfl, ⟨rfl, rfl⟩, (by show q_X E x T0 (n, kd, sz, sh, nu, pa, sl, ft, tn, ts, tg) t.heap; rw [ht]; exact hX)⟩, hS.F ht⟩) hS.2.2 dX1_broughtThrough_37
set_option maxHeartbeats 4000000 in
set_option maxRecDepth 100000 in
theorem kX1_broughtThrough_T (l : Launch) (E : q_E) (x T0 : Nat) (n : Nat) (kd sz : Nat → Nat) (sh : Nat → Bool) (nu : Nat → Nat → Int64) (pa : Nat → Nat → Option Nat) (sl : Nat → Option Nat) (ft tn ts tg : Int32) (hI : q_I (n, kd, sz, sh, nu, pa, sl, ft, tn, ts, tg)) (g j : Nat) (hg : g < 13) (hj : j < 12) (k : Nat) (hk : k < n) (hs : sl j = some k) (hgo : q_go (kd k) g = false)  : Met l yX1_broughtThrough wsX1_broughtThrough ({ frames := 2, cells := 0, slots := 0, locals := 44 }) (q_P E (q_X E x T0 (n, kd, sz, sh, nu, pa, sl, ft, tn, ts, tg)) [.ref x, .int (nI g), .int (nI j)]) (q_Wq (q_X E x T0) (q_Ax x T0) (none) (n, kd, sz, sh, nu, pa, sl, nI 1, tn + 1, nI j, nI g)) 0 0 (q_Ax x T0) := by
  refine Met.ofW (cc := cX1_broughtThrough) (maxL := 4) (ret := (some (.object "DockGates$Thing"))) (by decide) rfl ?_
  intro p e s m args below meth c s₁ B hml hv
  obtain ⟨rfl, hK, hX⟩ := hv
  have hx := B.exec
  have hb := B.bytes
  have hr := B.returns
  have hts := atoms_spec (ws := wsX1_broughtThrough) B.pre
  have hown : s.vm.findClass RX1 = some m.cls := findClass_of_methodNamed B.named
  have hlocks := B.notSynchronized
  have hl := lv_entry ([.ref x, .int (nI g), .int (nI j)]) (n := 4) (Nat.le_of_ble_eq_true rfl)
  rw [lg_entry_eq]
  generalize (lg_sl ([.ref x, .int (nI g), .int (nI j)]) ++ List.replicate (4 - (lg_sl ([.ref x, .int (nI g), .int (nI j)])).length) Slot.unset).toArray = ls at hl ⊢
  have hl : lv_has ls 4 [(0, .ref x), (1, .int (nI g)), (2, .int (nI j))] := hl
  have hS : va_S (q_Ax x T0) s.heap s.heap [] := va_S.rf
  obtain ⟨ak, bk, dk, wk⟩ := hI.2.1 k hk
  have n60 := hI.1
  try dsimp only at ak bk dk wk n60
  refine lv_aload_n hx hb dX1_broughtThrough_0 rfl (lv_at hl 0 rfl) ?_
  refine qw_get (v := .ref (x + 1)) (ci := 1) (C := RX1) (T := TX1) (N := 6) hx hb hts nX1_broughtThrough_1 hown hK hX.1 rfl 0 (by decide) (hts (.fieldLink RX1 11 "DockGates" "slots" "[LDockGates$Thing;") (by decide +kernel)) rfl rfl dX1_broughtThrough_1 ?_
  refine lv_iload_n hx hb dX1_broughtThrough_4 rfl (lv_at hl 2 rfl) ?_
  refine qx_slotS hx hb hK hX hs hj dX1_broughtThrough_5 ?_
  refine lv_astore_n (lv' := [(3, .ref (T0 + 3 * k)), (0, .ref x), (1, .int (nI g)), (2, .int (nI j))]) hx hb dX1_broughtThrough_6 rfl hl (by decide) rfl (fun ls hl => ?_)
  refine lv_aload_n hx hb dX1_broughtThrough_7 rfl (lv_at hl 0 rfl) ?_
  refine lv_ifnonnull (tgt := 19) hx hb dX1_broughtThrough_8 (by decide) ?_
  refine lv_iload_n hx hb dX1_broughtThrough_19 rfl (lv_at hl 2 rfl) ?_
  refine lv_aload_n hx hb dX1_broughtThrough_20 rfl (lv_at hl 0 rfl) ?_
  refine qc_ri (r1 := q_b false) (W.runS (As := [.int (nI g), .ref (T0 + 3 * k)]) (rest := []) ⟨hx, hb, hml, hown, hts⟩ (kX1_letsThrough_S l E x T0 n kd sz sh nu pa sl ft tn ts tg hI g (by first | omega | decide) k hk) (va_cwS 2 hts gX1_broughtThrough_X1_letsThrough rfl rfl rfl (by decide +kernel) ⟨Nat.le_of_ble_eq_true rfl, Nat.le_of_ble_eq_true rfl⟩) (q_pre hK hX) rfl rfl hl.1 rfl (lv_room (Nat.le_of_ble_eq_true rfl)) dX1_broughtThrough_21 ⟨Nat.le_of_ble_eq_true rfl, Nat.le_of_ble_eq_true rfl⟩) (by rw [hgo]) ?_
  refine ln_b_ne (tgt := 36) hx hb dX1_broughtThrough_24 (by decide) (fun c_1 => absurd c_1 (by decide)) (fun _ => ?_)
  refine lv_aload_n hx hb dX1_broughtThrough_27 rfl (lv_at hl 1 rfl) ?_
  refine lv_iload_n hx hb dX1_broughtThrough_28 rfl (lv_at hl 3 rfl) ?_
  refine lv_iload_n hx hb dX1_broughtThrough_29 rfl (lv_at hl 2 rfl) ?_
  refine qc_i (r1 := nI 0) (σ1 := (n, kd, sz, sh, nu, pa, sl, nI 1, (tn + 1), nI j, nI g)) (va_runV (As := [.int (nI j), .int (nI g)]) (rest := []) ⟨hx, hb, hml, hown, hts⟩ (kX1_failedAtGate l E x T0 n kd sz sh nu pa sl ft tn ts tg hI (nI j) (nI g)) (cwV 2 hts gX1_broughtThrough_X1_failedAtGate rfl rfl rfl (by decide +kernel) ⟨Nat.le_of_ble_eq_true rfl, Nat.le_of_ble_eq_true rfl⟩) (q_preV hK hX hX.1 rfl) rfl rfl hl.1 rfl (lv_room (Nat.le_of_ble_eq_true rfl)) dX1_broughtThrough_30 ⟨Nat.le_of_ble_eq_true rfl, Nat.le_of_ble_eq_true rfl⟩) hS rfl rfl (fun H locs hX hS => ?_)
  refine lv_pop hx hb dX1_broughtThrough_33 rfl ?_
  refine lv_null hx hb dX1_broughtThrough_34 ?_
  exact W.aret (v := .null) hx hb hr (Or.inl ⟨_, rfl⟩) (Or.inl rfl) (fun t ht hW => ⟨⟨none, (n, kd, sz, sh, nu, pa, sl, nI 1, (tn + 1), nI j, nI g), rfl, ⟨rfl, rfl⟩, (by show q_X E x T0 (n, kd, sz, sh, nu, pa, sl, nI 1, (tn + 1), nI j, nI g) t.heap; rw [ht]; exact hX)⟩, hS.F ht⟩) hS.2.2 dX1_broughtThrough_35
set_option maxRecDepth 20000 in
theorem nX1_rowOfNumbers_0 : ∀ w ∈ u_ws RX0 TX0 6, w ∈ wsX1_rowOfNumbers := by decide +kernel
set_option maxRecDepth 20000 in
theorem nX1_rowOfNumbers_1 : ∀ w ∈ u_ws RX1 TX1 6, w ∈ wsX1_rowOfNumbers := by decide +kernel
set_option maxHeartbeats 4000000 in
set_option maxRecDepth 100000 in
theorem kX1_rowOfNumbers_N (l : Launch) (E : q_E) (x T0 : Nat) (n : Nat) (kd sz : Nat → Nat) (sh : Nat → Bool) (nu : Nat → Nat → Int64) (pa : Nat → Nat → Option Nat) (sl : Nat → Option Nat) (ft tn ts tg : Int32) (hI : q_I (n, kd, sz, sh, nu, pa, sl, ft, tn, ts, tg)) (j : Nat) (hj : j < 12) (hs : sl j = none)  : Met l yX1_rowOfNumbers wsX1_rowOfNumbers ({ frames := 3, cells := 0, slots := 0, locals := 67 }) (q_P E (q_X E x T0 (n, kd, sz, sh, nu, pa, sl, ft, tn, ts, tg)) [.ref x, .int (nI j)]) (q_Wq (q_X E x T0) (q_Ax x T0) (none) (n, kd, sz, sh, nu, pa, sl, nI 2, tn, ts, tg)) 0 0 (q_Ax x T0) := by
  refine Met.ofW (cc := cX1_rowOfNumbers) (maxL := 3) (ret := (some (.object "DockGates$Thing"))) (by decide) rfl ?_
  intro p e s m args below meth c s₁ B hml hv
  obtain ⟨rfl, hK, hX⟩ := hv
  have hx := B.exec
  have hb := B.bytes
  have hr := B.returns
  have hts := atoms_spec (ws := wsX1_rowOfNumbers) B.pre
  have hown : s.vm.findClass RX1 = some m.cls := findClass_of_methodNamed B.named
  have hlocks := B.notSynchronized
  have hl := lv_entry ([.ref x, .int (nI j)]) (n := 3) (Nat.le_of_ble_eq_true rfl)
  rw [lg_entry_eq]
  generalize (lg_sl ([.ref x, .int (nI j)]) ++ List.replicate (3 - (lg_sl ([.ref x, .int (nI j)])).length) Slot.unset).toArray = ls at hl ⊢
  have hl : lv_has ls 3 [(0, .ref x), (1, .int (nI j))] := hl
  have hS : va_S (q_Ax x T0) s.heap s.heap [] := va_S.rf
  refine lv_aload_n hx hb dX1_rowOfNumbers_0 rfl (lv_at hl 0 rfl) ?_
  refine qw_get (v := .ref (x + 1)) (ci := 1) (C := RX1) (T := TX1) (N := 6) hx hb hts nX1_rowOfNumbers_1 hown hK hX.1 rfl 0 (by decide) (hts (.fieldLink RX1 11 "DockGates" "slots" "[LDockGates$Thing;") (by decide +kernel)) rfl rfl dX1_rowOfNumbers_1 ?_
  refine lv_iload_n hx hb dX1_rowOfNumbers_4 rfl (lv_at hl 1 rfl) ?_
  refine qx_slotN hx hb hK hX hs hj dX1_rowOfNumbers_5 ?_
  refine lv_astore_nN (lv' := [(2, .null), (0, .ref x), (1, .int (nI j))]) hx hb dX1_rowOfNumbers_6 rfl hl (by decide) rfl (fun ls hl => ?_)
  refine lv_aload_nN hx hb dX1_rowOfNumbers_7 rfl (lv_at hl 0 rfl) ?_
  refine lv_ifnullN (tgt := 25) hx hb dX1_rowOfNumbers_8 (by decide) ?_
  refine lv_aload_n hx hb dX1_rowOfNumbers_25 rfl (lv_at hl 1 rfl) ?_
  refine lv_iconst (v := nI 2) hx hb dX1_rowOfNumbers_26 (by decide) ?_
  refine lv_iload_n hx hb dX1_rowOfNumbers_27 rfl (lv_at hl 2 rfl) ?_
  refine qc_q (r1 := none) (σ1 := (n, kd, sz, sh, nu, pa, sl, nI 2, tn, ts, tg)) (va_runV (As := [.int (nI 2), .int (nI j)]) (rest := []) ⟨hx, hb, hml, hown, hts⟩ (kX1_broughtThrough_N l E x T0 n kd sz sh nu pa sl ft tn ts tg hI 2 j hj hs) (cwV 2 hts gX1_rowOfNumbers_X1_broughtThrough rfl rfl rfl (by decide +kernel) ⟨Nat.le_of_ble_eq_true rfl, Nat.le_of_ble_eq_true rfl⟩) (q_preV hK hX hX.1 rfl) rfl rfl hl.1 rfl (lv_room (Nat.le_of_ble_eq_true rfl)) dX1_rowOfNumbers_28 ⟨Nat.le_of_ble_eq_true rfl, Nat.le_of_ble_eq_true rfl⟩) hS rfl rfl (fun H locs hX hS => ?_)
  try dsimp only [va_rf]
  exact W.aret (v := .null) hx hb hr (Or.inl ⟨_, rfl⟩) (Or.inl rfl) (fun t ht hW => ⟨⟨none, (n, kd, sz, sh, nu, pa, sl, nI 2, tn, ts, tg), rfl, ⟨rfl, rfl⟩, (by show q_X E x T0 (n, kd, sz, sh, nu, pa, sl, nI 2, tn, ts, tg) t.heap; rw [ht]; exact hX)⟩, hS.F ht⟩) hS.2.2 dX1_rowOfNumbers_31
set_option maxHeartbeats 4000000 in
set_option maxRecDepth 100000 in
theorem kX1_rowOfNumbers_S (l : Launch) (E : q_E) (x T0 : Nat) (n : Nat) (kd sz : Nat → Nat) (sh : Nat → Bool) (nu : Nat → Nat → Int64) (pa : Nat → Nat → Option Nat) (sl : Nat → Option Nat) (ft tn ts tg : Int32) (hI : q_I (n, kd, sz, sh, nu, pa, sl, ft, tn, ts, tg)) (j : Nat) (hj : j < 12) (k : Nat) (hk : k < n) (hs : sl j = some k) (hc : kd k < 3)  : Met l yX1_rowOfNumbers wsX1_rowOfNumbers ({ frames := 3, cells := 0, slots := 0, locals := 67 }) (q_P E (q_X E x T0 (n, kd, sz, sh, nu, pa, sl, ft, tn, ts, tg)) [.ref x, .int (nI j)]) (q_Wq (q_X E x T0) (q_Ax x T0) (some (T0 + 3 * k)) (n, kd, sz, sh, nu, pa, sl, ft, tn, ts, tg)) 0 0 (q_Ax x T0) := by
  refine Met.ofW (cc := cX1_rowOfNumbers) (maxL := 3) (ret := (some (.object "DockGates$Thing"))) (by decide) rfl ?_
  intro p e s m args below meth c s₁ B hml hv
  obtain ⟨rfl, hK, hX⟩ := hv
  have hx := B.exec
  have hb := B.bytes
  have hr := B.returns
  have hts := atoms_spec (ws := wsX1_rowOfNumbers) B.pre
  have hown : s.vm.findClass RX1 = some m.cls := findClass_of_methodNamed B.named
  have hlocks := B.notSynchronized
  have hl := lv_entry ([.ref x, .int (nI j)]) (n := 3) (Nat.le_of_ble_eq_true rfl)
  rw [lg_entry_eq]
  generalize (lg_sl ([.ref x, .int (nI j)]) ++ List.replicate (3 - (lg_sl ([.ref x, .int (nI j)])).length) Slot.unset).toArray = ls at hl ⊢
  have hl : lv_has ls 3 [(0, .ref x), (1, .int (nI j))] := hl
  have hS : va_S (q_Ax x T0) s.heap s.heap [] := va_S.rf
  obtain ⟨ak, bk, dk, wk⟩ := hI.2.1 k hk
  have n60 := hI.1
  try dsimp only at ak bk dk wk n60
  refine lv_aload_n hx hb dX1_rowOfNumbers_0 rfl (lv_at hl 0 rfl) ?_
  refine qw_get (v := .ref (x + 1)) (ci := 1) (C := RX1) (T := TX1) (N := 6) hx hb hts nX1_rowOfNumbers_1 hown hK hX.1 rfl 0 (by decide) (hts (.fieldLink RX1 11 "DockGates" "slots" "[LDockGates$Thing;") (by decide +kernel)) rfl rfl dX1_rowOfNumbers_1 ?_
  refine lv_iload_n hx hb dX1_rowOfNumbers_4 rfl (lv_at hl 1 rfl) ?_
  refine qx_slotS hx hb hK hX hs hj dX1_rowOfNumbers_5 ?_
  refine lv_astore_n (lv' := [(2, .ref (T0 + 3 * k)), (0, .ref x), (1, .int (nI j))]) hx hb dX1_rowOfNumbers_6 rfl hl (by decide) rfl (fun ls hl => ?_)
  refine lv_aload_n hx hb dX1_rowOfNumbers_7 rfl (lv_at hl 0 rfl) ?_
  refine lv_ifnull hx hb dX1_rowOfNumbers_8 ?_
  refine lv_aload_n hx hb dX1_rowOfNumbers_11 rfl (lv_at hl 0 rfl) ?_
  refine qw_get (v := .int (nI (kd k))) (ci := 0) (C := RX0) (T := TX0) (N := 6) hx hb hts nX1_rowOfNumbers_0 hown hK (hX.2.2.1 k hk).1 rfl 1 (by decide) (hts (.fieldLink RX1 79 "DockGates$Thing" "kind" "I") (by decide +kernel)) rfl rfl dX1_rowOfNumbers_12 ?_
  refine qc_ri (r1 := q_b true) (W.runS (As := [.int (nI (kd k))]) (rest := []) ⟨hx, hb, hml, hown, hts⟩ (kX1_holdsNumbers l (kd k) (by omega)) (va_cwS 1 hts gX1_rowOfNumbers_X1_holdsNumbers rfl rfl rfl (by decide +kernel) ⟨Nat.le_of_ble_eq_true rfl, Nat.le_of_ble_eq_true rfl⟩) preEq rfl rfl hl.1 rfl (lv_room (Nat.le_of_ble_eq_true rfl)) dX1_rowOfNumbers_15 ⟨Nat.le_of_ble_eq_true rfl, Nat.le_of_ble_eq_true rfl⟩) (congrArg q_b (decide_eq_true hc)) ?_
  refine ln_b_eq (tgt := 25) hx hb dX1_rowOfNumbers_18 (by decide) (fun c_1 => absurd c_1 (by decide)) (fun _ => ?_)
  refine lv_aload_n hx hb dX1_rowOfNumbers_21 rfl (lv_at hl 0 rfl) ?_
  refine lv_goto (tgt := 31) hx hb dX1_rowOfNumbers_22 (by decide) ?_
  exact W.aret (v := .ref (T0 + 3 * k)) hx hb hr (Or.inl ⟨_, rfl⟩) (Or.inr ⟨_, rfl⟩) (fun t ht hW => ⟨⟨some (T0 + 3 * k), (n, kd, sz, sh, nu, pa, sl, ft, tn, ts, tg), rfl, ⟨rfl, rfl⟩, (by show q_X E x T0 (n, kd, sz, sh, nu, pa, sl, ft, tn, ts, tg) t.heap; rw [ht]; exact hX)⟩, hS.F ht⟩) hS.2.2 dX1_rowOfNumbers_31
set_option maxHeartbeats 4000000 in
set_option maxRecDepth 100000 in
theorem kX1_rowOfNumbers_T (l : Launch) (E : q_E) (x T0 : Nat) (n : Nat) (kd sz : Nat → Nat) (sh : Nat → Bool) (nu : Nat → Nat → Int64) (pa : Nat → Nat → Option Nat) (sl : Nat → Option Nat) (ft tn ts tg : Int32) (hI : q_I (n, kd, sz, sh, nu, pa, sl, ft, tn, ts, tg)) (j : Nat) (hj : j < 12) (k : Nat) (hk : k < n) (hs : sl j = some k) (hc : ¬ kd k < 3)  : Met l yX1_rowOfNumbers wsX1_rowOfNumbers ({ frames := 3, cells := 0, slots := 0, locals := 67 }) (q_P E (q_X E x T0 (n, kd, sz, sh, nu, pa, sl, ft, tn, ts, tg)) [.ref x, .int (nI j)]) (q_Wq (q_X E x T0) (q_Ax x T0) (none) (n, kd, sz, sh, nu, pa, sl, nI 1, tn + 1, nI j, nI 2)) 0 0 (q_Ax x T0) := by
  refine Met.ofW (cc := cX1_rowOfNumbers) (maxL := 3) (ret := (some (.object "DockGates$Thing"))) (by decide) rfl ?_
  intro p e s m args below meth c s₁ B hml hv
  obtain ⟨rfl, hK, hX⟩ := hv
  have hx := B.exec
  have hb := B.bytes
  have hr := B.returns
  have hts := atoms_spec (ws := wsX1_rowOfNumbers) B.pre
  have hown : s.vm.findClass RX1 = some m.cls := findClass_of_methodNamed B.named
  have hlocks := B.notSynchronized
  have hl := lv_entry ([.ref x, .int (nI j)]) (n := 3) (Nat.le_of_ble_eq_true rfl)
  rw [lg_entry_eq]
  generalize (lg_sl ([.ref x, .int (nI j)]) ++ List.replicate (3 - (lg_sl ([.ref x, .int (nI j)])).length) Slot.unset).toArray = ls at hl ⊢
  have hl : lv_has ls 3 [(0, .ref x), (1, .int (nI j))] := hl
  have hS : va_S (q_Ax x T0) s.heap s.heap [] := va_S.rf
  obtain ⟨ak, bk, dk, wk⟩ := hI.2.1 k hk
  have n60 := hI.1
  try dsimp only at ak bk dk wk n60
  refine lv_aload_n hx hb dX1_rowOfNumbers_0 rfl (lv_at hl 0 rfl) ?_
  refine qw_get (v := .ref (x + 1)) (ci := 1) (C := RX1) (T := TX1) (N := 6) hx hb hts nX1_rowOfNumbers_1 hown hK hX.1 rfl 0 (by decide) (hts (.fieldLink RX1 11 "DockGates" "slots" "[LDockGates$Thing;") (by decide +kernel)) rfl rfl dX1_rowOfNumbers_1 ?_
  refine lv_iload_n hx hb dX1_rowOfNumbers_4 rfl (lv_at hl 1 rfl) ?_
  refine qx_slotS hx hb hK hX hs hj dX1_rowOfNumbers_5 ?_
  refine lv_astore_n (lv' := [(2, .ref (T0 + 3 * k)), (0, .ref x), (1, .int (nI j))]) hx hb dX1_rowOfNumbers_6 rfl hl (by decide) rfl (fun ls hl => ?_)
  refine lv_aload_n hx hb dX1_rowOfNumbers_7 rfl (lv_at hl 0 rfl) ?_
  refine lv_ifnull hx hb dX1_rowOfNumbers_8 ?_
  refine lv_aload_n hx hb dX1_rowOfNumbers_11 rfl (lv_at hl 0 rfl) ?_
  refine qw_get (v := .int (nI (kd k))) (ci := 0) (C := RX0) (T := TX0) (N := 6) hx hb hts nX1_rowOfNumbers_0 hown hK (hX.2.2.1 k hk).1 rfl 1 (by decide) (hts (.fieldLink RX1 79 "DockGates$Thing" "kind" "I") (by decide +kernel)) rfl rfl dX1_rowOfNumbers_12 ?_
  refine qc_ri (r1 := q_b false) (W.runS (As := [.int (nI (kd k))]) (rest := []) ⟨hx, hb, hml, hown, hts⟩ (kX1_holdsNumbers l (kd k) (by omega)) (va_cwS 1 hts gX1_rowOfNumbers_X1_holdsNumbers rfl rfl rfl (by decide +kernel) ⟨Nat.le_of_ble_eq_true rfl, Nat.le_of_ble_eq_true rfl⟩) preEq rfl rfl hl.1 rfl (lv_room (Nat.le_of_ble_eq_true rfl)) dX1_rowOfNumbers_15 ⟨Nat.le_of_ble_eq_true rfl, Nat.le_of_ble_eq_true rfl⟩) (congrArg q_b (decide_eq_false hc)) ?_
  refine ln_b_eq (tgt := 25) hx hb dX1_rowOfNumbers_18 (by decide) (fun _ => ?_) (fun c_1 => absurd c_1 (by decide))
  refine lv_aload_n hx hb dX1_rowOfNumbers_25 rfl (lv_at hl 1 rfl) ?_
  refine lv_iconst (v := nI 2) hx hb dX1_rowOfNumbers_26 (by decide) ?_
  refine lv_iload_n hx hb dX1_rowOfNumbers_27 rfl (lv_at hl 2 rfl) ?_
  have g_2 : q_go (kd k) 2 = false := q_goF (by omega)
  refine qc_q (r1 := none) (σ1 := (n, kd, sz, sh, nu, pa, sl, nI 1, (tn + 1), nI j, nI 2)) (va_runV (As := [.int (nI 2), .int (nI j)]) (rest := []) ⟨hx, hb, hml, hown, hts⟩ (kX1_broughtThrough_T l E x T0 n kd sz sh nu pa sl ft tn ts tg hI 2 j (by first | omega | decide) hj k hk hs g_2) (cwV 2 hts gX1_rowOfNumbers_X1_broughtThrough rfl rfl rfl (by decide +kernel) ⟨Nat.le_of_ble_eq_true rfl, Nat.le_of_ble_eq_true rfl⟩) (q_preV hK hX hX.1 rfl) rfl rfl hl.1 rfl (lv_room (Nat.le_of_ble_eq_true rfl)) dX1_rowOfNumbers_28 ⟨Nat.le_of_ble_eq_true rfl, Nat.le_of_ble_eq_true rfl⟩) hS rfl rfl (fun H locs hX hS => ?_)
  try dsimp only [va_rf]
  exact W.aret (v := .null) hx hb hr (Or.inl ⟨_, rfl⟩) (Or.inl rfl) (fun t ht hW => ⟨⟨none, (n, kd, sz, sh, nu, pa, sl, nI 1, (tn + 1), nI j, nI 2), rfl, ⟨rfl, rfl⟩, (by show q_X E x T0 (n, kd, sz, sh, nu, pa, sl, nI 1, (tn + 1), nI j, nI 2) t.heap; rw [ht]; exact hX)⟩, hS.F ht⟩) hS.2.2 dX1_rowOfNumbers_31
set_option maxRecDepth 20000 in
theorem nX1_rowOfThings_0 : ∀ w ∈ u_ws RX0 TX0 6, w ∈ wsX1_rowOfThings := by decide +kernel
set_option maxRecDepth 20000 in
theorem nX1_rowOfThings_1 : ∀ w ∈ u_ws RX1 TX1 6, w ∈ wsX1_rowOfThings := by decide +kernel
set_option maxHeartbeats 4000000 in
set_option maxRecDepth 100000 in
theorem kX1_rowOfThings_N (l : Launch) (E : q_E) (x T0 : Nat) (n : Nat) (kd sz : Nat → Nat) (sh : Nat → Bool) (nu : Nat → Nat → Int64) (pa : Nat → Nat → Option Nat) (sl : Nat → Option Nat) (ft tn ts tg : Int32) (hI : q_I (n, kd, sz, sh, nu, pa, sl, ft, tn, ts, tg)) (j : Nat) (hj : j < 12) (hs : sl j = none)  : Met l yX1_rowOfThings wsX1_rowOfThings ({ frames := 3, cells := 0, slots := 0, locals := 67 }) (q_P E (q_X E x T0 (n, kd, sz, sh, nu, pa, sl, ft, tn, ts, tg)) [.ref x, .int (nI j)]) (q_Wq (q_X E x T0) (q_Ax x T0) (none) (n, kd, sz, sh, nu, pa, sl, nI 2, tn, ts, tg)) 0 0 (q_Ax x T0) := by
  refine Met.ofW (cc := cX1_rowOfThings) (maxL := 3) (ret := (some (.object "DockGates$Thing"))) (by decide) rfl ?_
  intro p e s m args below meth c s₁ B hml hv
  obtain ⟨rfl, hK, hX⟩ := hv
  have hx := B.exec
  have hb := B.bytes
  have hr := B.returns
  have hts := atoms_spec (ws := wsX1_rowOfThings) B.pre
  have hown : s.vm.findClass RX1 = some m.cls := findClass_of_methodNamed B.named
  have hlocks := B.notSynchronized
  have hl := lv_entry ([.ref x, .int (nI j)]) (n := 3) (Nat.le_of_ble_eq_true rfl)
  rw [lg_entry_eq]
  generalize (lg_sl ([.ref x, .int (nI j)]) ++ List.replicate (3 - (lg_sl ([.ref x, .int (nI j)])).length) Slot.unset).toArray = ls at hl ⊢
  have hl : lv_has ls 3 [(0, .ref x), (1, .int (nI j))] := hl
  have hS : va_S (q_Ax x T0) s.heap s.heap [] := va_S.rf
  refine lv_aload_n hx hb dX1_rowOfThings_0 rfl (lv_at hl 0 rfl) ?_
  refine qw_get (v := .ref (x + 1)) (ci := 1) (C := RX1) (T := TX1) (N := 6) hx hb hts nX1_rowOfThings_1 hown hK hX.1 rfl 0 (by decide) (hts (.fieldLink RX1 11 "DockGates" "slots" "[LDockGates$Thing;") (by decide +kernel)) rfl rfl dX1_rowOfThings_1 ?_
  refine lv_iload_n hx hb dX1_rowOfThings_4 rfl (lv_at hl 1 rfl) ?_
  refine qx_slotN hx hb hK hX hs hj dX1_rowOfThings_5 ?_
  refine lv_astore_nN (lv' := [(2, .null), (0, .ref x), (1, .int (nI j))]) hx hb dX1_rowOfThings_6 rfl hl (by decide) rfl (fun ls hl => ?_)
  refine lv_aload_nN hx hb dX1_rowOfThings_7 rfl (lv_at hl 0 rfl) ?_
  refine lv_ifnullN (tgt := 25) hx hb dX1_rowOfThings_8 (by decide) ?_
  refine lv_aload_n hx hb dX1_rowOfThings_25 rfl (lv_at hl 1 rfl) ?_
  refine lv_bipush (v := nI 6) hx hb dX1_rowOfThings_26 (by decide) ?_
  refine lv_iload_n hx hb dX1_rowOfThings_28 rfl (lv_at hl 2 rfl) ?_
  refine qc_q (r1 := none) (σ1 := (n, kd, sz, sh, nu, pa, sl, nI 2, tn, ts, tg)) (va_runV (As := [.int (nI 6), .int (nI j)]) (rest := []) ⟨hx, hb, hml, hown, hts⟩ (kX1_broughtThrough_N l E x T0 n kd sz sh nu pa sl ft tn ts tg hI 6 j hj hs) (cwV 2 hts gX1_rowOfThings_X1_broughtThrough rfl rfl rfl (by decide +kernel) ⟨Nat.le_of_ble_eq_true rfl, Nat.le_of_ble_eq_true rfl⟩) (q_preV hK hX hX.1 rfl) rfl rfl hl.1 rfl (lv_room (Nat.le_of_ble_eq_true rfl)) dX1_rowOfThings_29 ⟨Nat.le_of_ble_eq_true rfl, Nat.le_of_ble_eq_true rfl⟩) hS rfl rfl (fun H locs hX hS => ?_)
  try dsimp only [va_rf]
  exact W.aret (v := .null) hx hb hr (Or.inl ⟨_, rfl⟩) (Or.inl rfl) (fun t ht hW => ⟨⟨none, (n, kd, sz, sh, nu, pa, sl, nI 2, tn, ts, tg), rfl, ⟨rfl, rfl⟩, (by show q_X E x T0 (n, kd, sz, sh, nu, pa, sl, nI 2, tn, ts, tg) t.heap; rw [ht]; exact hX)⟩, hS.F ht⟩) hS.2.2 dX1_rowOfThings_32
set_option maxHeartbeats 4000000 in
set_option maxRecDepth 100000 in
theorem kX1_rowOfThings_S (l : Launch) (E : q_E) (x T0 : Nat) (n : Nat) (kd sz : Nat → Nat) (sh : Nat → Bool) (nu : Nat → Nat → Int64) (pa : Nat → Nat → Option Nat) (sl : Nat → Option Nat) (ft tn ts tg : Int32) (hI : q_I (n, kd, sz, sh, nu, pa, sl, ft, tn, ts, tg)) (j : Nat) (hj : j < 12) (k : Nat) (hk : k < n) (hs : sl j = some k) (hc : 3 ≤ kd k ∧ kd k < 9)  : Met l yX1_rowOfThings wsX1_rowOfThings ({ frames := 3, cells := 0, slots := 0, locals := 67 }) (q_P E (q_X E x T0 (n, kd, sz, sh, nu, pa, sl, ft, tn, ts, tg)) [.ref x, .int (nI j)]) (q_Wq (q_X E x T0) (q_Ax x T0) (some (T0 + 3 * k)) (n, kd, sz, sh, nu, pa, sl, ft, tn, ts, tg)) 0 0 (q_Ax x T0) := by
  refine Met.ofW (cc := cX1_rowOfThings) (maxL := 3) (ret := (some (.object "DockGates$Thing"))) (by decide) rfl ?_
  intro p e s m args below meth c s₁ B hml hv
  obtain ⟨rfl, hK, hX⟩ := hv
  have hx := B.exec
  have hb := B.bytes
  have hr := B.returns
  have hts := atoms_spec (ws := wsX1_rowOfThings) B.pre
  have hown : s.vm.findClass RX1 = some m.cls := findClass_of_methodNamed B.named
  have hlocks := B.notSynchronized
  have hl := lv_entry ([.ref x, .int (nI j)]) (n := 3) (Nat.le_of_ble_eq_true rfl)
  rw [lg_entry_eq]
  generalize (lg_sl ([.ref x, .int (nI j)]) ++ List.replicate (3 - (lg_sl ([.ref x, .int (nI j)])).length) Slot.unset).toArray = ls at hl ⊢
  have hl : lv_has ls 3 [(0, .ref x), (1, .int (nI j))] := hl
  have hS : va_S (q_Ax x T0) s.heap s.heap [] := va_S.rf
  obtain ⟨ak, bk, dk, wk⟩ := hI.2.1 k hk
  have n60 := hI.1
  try dsimp only at ak bk dk wk n60
  refine lv_aload_n hx hb dX1_rowOfThings_0 rfl (lv_at hl 0 rfl) ?_
  refine qw_get (v := .ref (x + 1)) (ci := 1) (C := RX1) (T := TX1) (N := 6) hx hb hts nX1_rowOfThings_1 hown hK hX.1 rfl 0 (by decide) (hts (.fieldLink RX1 11 "DockGates" "slots" "[LDockGates$Thing;") (by decide +kernel)) rfl rfl dX1_rowOfThings_1 ?_
  refine lv_iload_n hx hb dX1_rowOfThings_4 rfl (lv_at hl 1 rfl) ?_
  refine qx_slotS hx hb hK hX hs hj dX1_rowOfThings_5 ?_
  refine lv_astore_n (lv' := [(2, .ref (T0 + 3 * k)), (0, .ref x), (1, .int (nI j))]) hx hb dX1_rowOfThings_6 rfl hl (by decide) rfl (fun ls hl => ?_)
  refine lv_aload_n hx hb dX1_rowOfThings_7 rfl (lv_at hl 0 rfl) ?_
  refine lv_ifnull hx hb dX1_rowOfThings_8 ?_
  refine lv_aload_n hx hb dX1_rowOfThings_11 rfl (lv_at hl 0 rfl) ?_
  refine qw_get (v := .int (nI (kd k))) (ci := 0) (C := RX0) (T := TX0) (N := 6) hx hb hts nX1_rowOfThings_0 hown hK (hX.2.2.1 k hk).1 rfl 1 (by decide) (hts (.fieldLink RX1 79 "DockGates$Thing" "kind" "I") (by decide +kernel)) rfl rfl dX1_rowOfThings_12 ?_
  refine qc_ri (r1 := q_b true) (W.runS (As := [.int (nI (kd k))]) (rest := []) ⟨hx, hb, hml, hown, hts⟩ (kX1_holdsThings l (kd k) (by omega)) (va_cwS 1 hts gX1_rowOfThings_X1_holdsThings rfl rfl rfl (by decide +kernel) ⟨Nat.le_of_ble_eq_true rfl, Nat.le_of_ble_eq_true rfl⟩) preEq rfl rfl hl.1 rfl (lv_room (Nat.le_of_ble_eq_true rfl)) dX1_rowOfThings_15 ⟨Nat.le_of_ble_eq_true rfl, Nat.le_of_ble_eq_true rfl⟩) (congrArg q_b (decide_eq_true hc)) ?_
  refine ln_b_eq (tgt := 25) hx hb dX1_rowOfThings_18 (by decide) (fun c_1 => absurd c_1 (by decide)) (fun _ => ?_)
  refine lv_aload_n hx hb dX1_rowOfThings_21 rfl (lv_at hl 0 rfl) ?_
  refine lv_goto (tgt := 32) hx hb dX1_rowOfThings_22 (by decide) ?_
  exact W.aret (v := .ref (T0 + 3 * k)) hx hb hr (Or.inl ⟨_, rfl⟩) (Or.inr ⟨_, rfl⟩) (fun t ht hW => ⟨⟨some (T0 + 3 * k), (n, kd, sz, sh, nu, pa, sl, ft, tn, ts, tg), rfl, ⟨rfl, rfl⟩, (by show q_X E x T0 (n, kd, sz, sh, nu, pa, sl, ft, tn, ts, tg) t.heap; rw [ht]; exact hX)⟩, hS.F ht⟩) hS.2.2 dX1_rowOfThings_32
set_option maxHeartbeats 4000000 in
set_option maxRecDepth 100000 in
theorem kX1_rowOfThings_T (l : Launch) (E : q_E) (x T0 : Nat) (n : Nat) (kd sz : Nat → Nat) (sh : Nat → Bool) (nu : Nat → Nat → Int64) (pa : Nat → Nat → Option Nat) (sl : Nat → Option Nat) (ft tn ts tg : Int32) (hI : q_I (n, kd, sz, sh, nu, pa, sl, ft, tn, ts, tg)) (j : Nat) (hj : j < 12) (k : Nat) (hk : k < n) (hs : sl j = some k) (hc : ¬ (3 ≤ kd k ∧ kd k < 9))  : Met l yX1_rowOfThings wsX1_rowOfThings ({ frames := 3, cells := 0, slots := 0, locals := 67 }) (q_P E (q_X E x T0 (n, kd, sz, sh, nu, pa, sl, ft, tn, ts, tg)) [.ref x, .int (nI j)]) (q_Wq (q_X E x T0) (q_Ax x T0) (none) (n, kd, sz, sh, nu, pa, sl, nI 1, tn + 1, nI j, nI 6)) 0 0 (q_Ax x T0) := by
  refine Met.ofW (cc := cX1_rowOfThings) (maxL := 3) (ret := (some (.object "DockGates$Thing"))) (by decide) rfl ?_
  intro p e s m args below meth c s₁ B hml hv
  obtain ⟨rfl, hK, hX⟩ := hv
  have hx := B.exec
  have hb := B.bytes
  have hr := B.returns
  have hts := atoms_spec (ws := wsX1_rowOfThings) B.pre
  have hown : s.vm.findClass RX1 = some m.cls := findClass_of_methodNamed B.named
  have hlocks := B.notSynchronized
  have hl := lv_entry ([.ref x, .int (nI j)]) (n := 3) (Nat.le_of_ble_eq_true rfl)
  rw [lg_entry_eq]
  generalize (lg_sl ([.ref x, .int (nI j)]) ++ List.replicate (3 - (lg_sl ([.ref x, .int (nI j)])).length) Slot.unset).toArray = ls at hl ⊢
  have hl : lv_has ls 3 [(0, .ref x), (1, .int (nI j))] := hl
  have hS : va_S (q_Ax x T0) s.heap s.heap [] := va_S.rf
  obtain ⟨ak, bk, dk, wk⟩ := hI.2.1 k hk
  have n60 := hI.1
  try dsimp only at ak bk dk wk n60
  refine lv_aload_n hx hb dX1_rowOfThings_0 rfl (lv_at hl 0 rfl) ?_
  refine qw_get (v := .ref (x + 1)) (ci := 1) (C := RX1) (T := TX1) (N := 6) hx hb hts nX1_rowOfThings_1 hown hK hX.1 rfl 0 (by decide) (hts (.fieldLink RX1 11 "DockGates" "slots" "[LDockGates$Thing;") (by decide +kernel)) rfl rfl dX1_rowOfThings_1 ?_
  refine lv_iload_n hx hb dX1_rowOfThings_4 rfl (lv_at hl 1 rfl) ?_
  refine qx_slotS hx hb hK hX hs hj dX1_rowOfThings_5 ?_
  refine lv_astore_n (lv' := [(2, .ref (T0 + 3 * k)), (0, .ref x), (1, .int (nI j))]) hx hb dX1_rowOfThings_6 rfl hl (by decide) rfl (fun ls hl => ?_)
  refine lv_aload_n hx hb dX1_rowOfThings_7 rfl (lv_at hl 0 rfl) ?_
  refine lv_ifnull hx hb dX1_rowOfThings_8 ?_
  refine lv_aload_n hx hb dX1_rowOfThings_11 rfl (lv_at hl 0 rfl) ?_
  refine qw_get (v := .int (nI (kd k))) (ci := 0) (C := RX0) (T := TX0) (N := 6) hx hb hts nX1_rowOfThings_0 hown hK (hX.2.2.1 k hk).1 rfl 1 (by decide) (hts (.fieldLink RX1 79 "DockGates$Thing" "kind" "I") (by decide +kernel)) rfl rfl dX1_rowOfThings_12 ?_
  refine qc_ri (r1 := q_b false) (W.runS (As := [.int (nI (kd k))]) (rest := []) ⟨hx, hb, hml, hown, hts⟩ (kX1_holdsThings l (kd k) (by omega)) (va_cwS 1 hts gX1_rowOfThings_X1_holdsThings rfl rfl rfl (by decide +kernel) ⟨Nat.le_of_ble_eq_true rfl, Nat.le_of_ble_eq_true rfl⟩) preEq rfl rfl hl.1 rfl (lv_room (Nat.le_of_ble_eq_true rfl)) dX1_rowOfThings_15 ⟨Nat.le_of_ble_eq_true rfl, Nat.le_of_ble_eq_true rfl⟩) (congrArg q_b (decide_eq_false hc)) ?_
  refine ln_b_eq (tgt := 25) hx hb dX1_rowOfThings_18 (by decide) (fun _ => ?_) (fun c_1 => absurd c_1 (by decide))
  refine lv_aload_n hx hb dX1_rowOfThings_25 rfl (lv_at hl 1 rfl) ?_
  refine lv_bipush (v := nI 6) hx hb dX1_rowOfThings_26 (by decide) ?_
  refine lv_iload_n hx hb dX1_rowOfThings_28 rfl (lv_at hl 2 rfl) ?_
  have g_2 : q_go (kd k) 6 = false := q_goF (by omega)
  refine qc_q (r1 := none) (σ1 := (n, kd, sz, sh, nu, pa, sl, nI 1, (tn + 1), nI j, nI 6)) (va_runV (As := [.int (nI 6), .int (nI j)]) (rest := []) ⟨hx, hb, hml, hown, hts⟩ (kX1_broughtThrough_T l E x T0 n kd sz sh nu pa sl ft tn ts tg hI 6 j (by first | omega | decide) hj k hk hs g_2) (cwV 2 hts gX1_rowOfThings_X1_broughtThrough rfl rfl rfl (by decide +kernel) ⟨Nat.le_of_ble_eq_true rfl, Nat.le_of_ble_eq_true rfl⟩) (q_preV hK hX hX.1 rfl) rfl rfl hl.1 rfl (lv_room (Nat.le_of_ble_eq_true rfl)) dX1_rowOfThings_29 ⟨Nat.le_of_ble_eq_true rfl, Nat.le_of_ble_eq_true rfl⟩) hS rfl rfl (fun H locs hX hS => ?_)
  try dsimp only [va_rf]
  exact W.aret (v := .null) hx hb hr (Or.inl ⟨_, rfl⟩) (Or.inl rfl) (fun t ht hW => ⟨⟨none, (n, kd, sz, sh, nu, pa, sl, nI 1, (tn + 1), nI j, nI 6), rfl, ⟨rfl, rfl⟩, (by show q_X E x T0 (n, kd, sz, sh, nu, pa, sl, nI 1, (tn + 1), nI j, nI 6) t.heap; rw [ht]; exact hX)⟩, hS.F ht⟩) hS.2.2 dX1_rowOfThings_32
