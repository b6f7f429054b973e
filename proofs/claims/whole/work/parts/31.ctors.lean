/-! ===== the constructors (written by program) ===== -/
set_option maxRecDepth 20000 in
theorem nX0_init_0 : ∀ w ∈ u_ws RX0 TX0 6, w ∈ wsX0_init := by decide +kernel
set_option maxHeartbeats 4000000 in
set_option maxRecDepth 100000 in
theorem kX0_init (l : Launch) (E : q_E) (a : Nat) (k kk z : Nat) (hk : kk < 12) (hz8 : kk < 9 → z ≤ 8) (hzm : z ≤ 1000000) : Met l yX0_init wsX0_init ({ frames := 1, cells := 2, slots := 8, locals := 20 }) (q_PN E (fun H => q_ob E 0 a [.int 0, .int 0, .null, .null, .int 0, .int 0] H ∧ H.size = a + 1) [.ref a, .int (nI k), .int (nI kk), .int (nI z)]) (va_Qv (fun _ : Unit => True) (fun _ t => q_new E a k kk z t.heap) (fun q => a ≤ q)) 2 8 (fun q => a ≤ q) := by
  refine Met.ofW (cc := cX0_init) (maxL := 6) (ret := none) (by decide) rfl ?_
  intro p e s m args below meth c s₁ B hml hv
  obtain ⟨rfl, hK, hN, hO, hZ⟩ := hv
  have hx := B.exec
  have hb := B.bytes
  have hr := B.returns
  have hts := atoms_spec (ws := wsX0_init) B.pre
  have hown : s.vm.findClass RX0 = some m.cls := findClass_of_methodNamed B.named
  have hlocks := B.notSynchronized
  have hl := lv_entry ([.ref a, .int (nI k), .int (nI kk), .int (nI z)]) (n := 6) (Nat.le_of_ble_eq_true rfl)
  rw [lg_entry_eq]
  generalize (lg_sl ([.ref a, .int (nI k), .int (nI kk), .int (nI z)]) ++ List.replicate (6 - (lg_sl ([.ref a, .int (nI k), .int (nI kk), .int (nI z)])).length) Slot.unset).toArray = ls at hl ⊢
  have hl : lv_has ls 6 [(0, .ref a), (1, .int (nI k)), (2, .int (nI kk)), (3, .int (nI z))] := hl
  have hin2 : meth.name = "<init>" := (name_of_methodNamed B.named B.method).1
  have hS : va_S (fun q => a ≤ q) s.heap s.heap [] := va_S.rf
  rcases (show kk < 3 ∨ (3 ≤ kk ∧ kk < 9) ∨ 9 ≤ kk by omega) with hc | hc | hc
  · have ea : q_am kk z = 0 := by unfold q_am; rw [if_pos (by omega)]
    have en : q_nl kk z = z := by unfold q_nl; rw [if_pos (by omega)]
    have ep : q_pl kk z = 0 := by unfold q_pl; rw [if_neg (by omega)]
    refine lv_aload_n hx hb dX0_init_0 rfl (lv_at hl 0 rfl) ?_
    refine W.objInit hx hb hown (hts (.methodLink RX0 1 objectInit) (by decide +kernel)) (hts (.instanceMethod objectInit) (by decide +kernel)) (hts _ (List.mem_cons_of_mem _ (List.mem_append_left _ (List.mem_of_getElem? (i := 2) rfl)))) rfl (by rw [hml]; exact hl.1) rfl dX0_init_1 (Nat.le_of_ble_eq_true rfl) (Nat.le_of_ble_eq_true rfl) ?_
    refine W.eq (g2 := F0 m 4 ls []) rfl ?_
    refine lv_aload_n hx hb dX0_init_4 rfl (lv_at hl 0 rfl) ?_
    refine lv_iload_n hx hb dX0_init_5 rfl (lv_at hl 1 rfl) ?_
    refine qw_putF (ci := 0) (C := RX0) (T := TX0) (N := 6) hx hb hts nX0_init_0 tyX0 tyX0_ok nmX0 hown hK hO hS (Nat.le_refl a) rfl 0 (by decide) (hts (.fieldLink RX0 7 "DockGates$Thing" "number" "I") (by decide +kernel)) rfl rfl hin2 rfl rfl rfl (Nat.le_of_ble_eq_true rfl) dX0_init_6 (fun H locs hO hz hq hS => ?_)
    have hO : q_ob E 0 a [.int (nI k), .int 0, .null, .null, .int 0, .int 0] H := hO
    have hZ : Array.size H = a + 1 := hz.trans hZ
    refine lv_aload_n hx hb dX0_init_9 rfl (lv_at hl 0 rfl) ?_
    refine lv_iload_n hx hb dX0_init_10 rfl (lv_at hl 2 rfl) ?_
    refine qw_putF (ci := 0) (C := RX0) (T := TX0) (N := 6) hx hb hts nX0_init_0 tyX0 tyX0_ok nmX0 hown hK hO hS (Nat.le_refl a) rfl 1 (by decide) (hts (.fieldLink RX0 13 "DockGates$Thing" "kind" "I") (by decide +kernel)) rfl rfl hin2 rfl rfl rfl (Nat.le_of_ble_eq_true rfl) dX0_init_11 (fun H locs hO hz hq hS => ?_)
    have hO : q_ob E 0 a [.int (nI k), .int (nI kk), .null, .null, .int 0, .int 0] H := hO
    have hZ : Array.size H = a + 1 := hz.trans hZ
    refine lv_iload_n hx hb dX0_init_14 rfl (lv_at hl 2 rfl) ?_
    refine qc_ri (r1 := q_b true) (va_runSN (As := [.int (nI kk)]) (rest := []) ⟨hx, hb, hml, hown, hts⟩ (kX1_holdsNumbers l kk (by omega)) ⟨va_cnB 1 hts gX0_init_X1_holdsNumbers_n16 rfl rfl rfl hN.1 (hts (.initialized RX1) (by decide +kernel)) (by decide +kernel) ⟨Nat.le_of_ble_eq_true rfl, Nat.le_of_ble_eq_true rfl⟩, hts (.static yX1_holdsNumbers) (by decide +kernel), trivial⟩ preEq rfl rfl hl.1 rfl (lv_room (Nat.le_of_ble_eq_true rfl)) dX0_init_15 ⟨Nat.le_of_ble_eq_true rfl, Nat.le_of_ble_eq_true rfl⟩).run (congrArg q_b (decide_eq_true (show kk < 3 by omega))) ?_
    refine lv_istore (lv' := [(4, .int (q_b true)), (0, .ref a), (1, .int (nI k)), (2, .int (nI kk)), (3, .int (nI z))]) hx hb dX0_init_18 hl (by decide) rfl (fun ls hl => ?_)
    refine lv_iload_n hx hb dX0_init_20 rfl (lv_at hl 3 rfl) ?_
    refine qc_ri (r1 := q_b false) (va_runSN (As := [.int (nI kk)]) (rest := []) ⟨hx, hb, hml, hown, hts⟩ (kX1_holdsThings l kk (by omega)) ⟨va_cnB 1 hts gX0_init_X1_holdsThings_n22 rfl rfl rfl hN.2.1 (hts (.initialized RX1) (by decide +kernel)) (by decide +kernel) ⟨Nat.le_of_ble_eq_true rfl, Nat.le_of_ble_eq_true rfl⟩, hts (.static yX1_holdsThings) (by decide +kernel), trivial⟩ preEq rfl rfl hl.1 rfl (lv_room (Nat.le_of_ble_eq_true rfl)) dX0_init_21 ⟨Nat.le_of_ble_eq_true rfl, Nat.le_of_ble_eq_true rfl⟩).run (congrArg q_b (decide_eq_false (show ¬ (3 ≤ kk ∧ kk < 9) by omega))) ?_
    refine lv_istore (lv' := [(5, .int (q_b false)), (4, .int (q_b true)), (0, .ref a), (1, .int (nI k)), (2, .int (nI kk)), (3, .int (nI z))]) hx hb dX0_init_24 hl (by decide) rfl (fun ls hl => ?_)
    refine lv_aload_n hx hb dX0_init_26 rfl (lv_at hl 2 rfl) ?_
    refine lv_iload hx hb dX0_init_27 (lv_at hl 1 rfl) ?_
    refine ln_b_eq (tgt := 36) hx hb dX0_init_29 (by decide) (fun c_1 => absurd c_1 (by decide)) (fun _ => ?_)
    refine lv_iload_n hx hb dX0_init_32 rfl (lv_at hl 5 rfl) ?_
    refine lv_goto (tgt := 37) hx hb dX0_init_33 (by decide) ?_
    refine qw_newj hx hb (hts (.arrayClass .long) (by decide +kernel)) hK (by omega) (Nat.le_of_ble_eq_true rfl) (by show _ ≤ 8; omega) dX0_init_37 (fun H1 hA1 hz1 hq1 => ?_)
    rw [hZ] at hA1 hz1 hq1 ⊢
    have hS := q_Sgrow hS (by omega) (fun q h => hq1 q (by omega))
    have hO := hO.kept (hq1 _ (by omega))
    clear hZ
    have hZ : Array.size H1 = a + 2 := hz1
    generalize H1 = H at hS hO hZ hA1  ⊢
    refine qw_putF (ci := 0) (C := RX0) (T := TX0) (N := 6) hx hb hts nX0_init_0 tyX0 tyX0_ok nmX0 hown hK hO hS (Nat.le_refl a) rfl 2 (by decide) (hts (.fieldLink RX0 25 "DockGates$Thing" "numbers" "[J") (by decide +kernel)) rfl rfl hin2 rfl rfl rfl (Nat.le_of_ble_eq_true rfl) dX0_init_39 (fun H locs hO hz hq hS => ?_)
    have hO : q_ob E 0 a [.int (nI k), .int (nI kk), .ref (a + 1), .null, .int 0, .int 0] H := hO
    have hA1 : q_ja E (a + 1) z (fun _ => 0) H := (hq _ (by omega)).trans hA1
    have hZ : Array.size H = a + 2 := hz.trans hZ
    refine lv_aload_n hx hb dX0_init_42 rfl (lv_at hl 2 rfl) ?_
    refine lv_iload hx hb dX0_init_43 (lv_at hl 0 rfl) ?_
    refine ln_b_eq (tgt := 52) hx hb dX0_init_45 (by decide) (fun _ => ?_) (fun c_2 => absurd c_2 (by decide))
    refine lv_iconst (v := nI 0) hx hb dX0_init_52 (by decide) ?_
    refine qw_newt hx hb hown (hts (.classLink RX0 8 RX0) (by decide +kernel)) hN.2.2 hK (by omega) (Nat.le_of_ble_eq_true rfl) (by show _ ≤ 8; omega) dX0_init_53 (fun H1 hA2 hz1 hq1 => ?_)
    rw [hZ] at hA2 hz1 hq1 ⊢
    have hS := q_Sgrow hS (by omega) (fun q h => hq1 q (by omega))
    have hO := hO.kept (hq1 _ (by omega))
    have hA1 : q_ja E (a + 1) z (fun _ => 0) H1 := (hq1 _ (by omega)).trans hA1
    clear hZ
    have hZ : Array.size H1 = a + 3 := hz1
    generalize H1 = H at hS hO hZ hA2 hA1 ⊢
    refine qw_putF (ci := 0) (C := RX0) (T := TX0) (N := 6) hx hb hts nX0_init_0 tyX0 tyX0_ok nmX0 hown hK hO hS (Nat.le_refl a) rfl 3 (by decide) (hts (.fieldLink RX0 29 "DockGates$Thing" "parts" "[LDockGates$Thing;") (by decide +kernel)) rfl rfl hin2 rfl rfl rfl (Nat.le_of_ble_eq_true rfl) dX0_init_56 (fun H locs hO hz hq hS => ?_)
    have hO : q_ob E 0 a [.int (nI k), .int (nI kk), .ref (a + 1), .ref (a + 2), .int 0, .int 0] H := hO
    have hA1 : q_ja E (a + 1) z (fun _ => 0) H := (hq _ (by omega)).trans hA1
    have hA2 : q_ta E (a + 2) 0 (fun _ => none) H := (hq _ (by omega)).trans hA2
    have hZ : Array.size H = a + 3 := hz.trans hZ
    refine lv_aload_n hx hb dX0_init_59 rfl (lv_at hl 2 rfl) ?_
    refine lv_iload hx hb dX0_init_60 (lv_at hl 1 rfl) ?_
    refine ln_b_ne (tgt := 70) hx hb dX0_init_62 (by decide) (fun _ => ?_) (fun c_3 => absurd c_3 (by decide))
    refine lv_iconst (v := nI 0) hx hb dX0_init_70 (by decide) ?_
    refine lv_goto (tgt := 75) hx hb dX0_init_71 (by decide) ?_
    refine qw_put (ci := 0) (C := RX0) (T := TX0) (N := 6) hx hb hts nX0_init_0 tyX0 tyX0_ok nmX0 hown hK hO hS (Nat.le_refl a) rfl 4 (by decide) (hts (.fieldLink RX0 33 "DockGates$Thing" "amount" "I") (by decide +kernel)) rfl rfl rfl rfl (Nat.le_of_ble_eq_true rfl) dX0_init_75 (fun H locs hO hz hq hS => ?_)
    have hO : q_ob E 0 a [.int (nI k), .int (nI kk), .ref (a + 1), .ref (a + 2), .int (nI 0), .int 0] H := hO
    have hA1 : q_ja E (a + 1) z (fun _ => 0) H := (hq _ (by omega)).trans hA1
    have hA2 : q_ta E (a + 2) 0 (fun _ => none) H := (hq _ (by omega)).trans hA2
    have hZ : Array.size H = a + 3 := hz.trans hZ
    refine lv_aload_n hx hb dX0_init_78 rfl (lv_at hl 2 rfl) ?_
    refine lv_iconst (v := nI 0) hx hb dX0_init_79 (by decide) ?_
    refine qw_put (ci := 0) (C := RX0) (T := TX0) (N := 6) hx hb hts nX0_init_0 tyX0 tyX0_ok nmX0 hown hK hO hS (Nat.le_refl a) rfl 5 (by decide) (hts (.fieldLink RX0 36 "DockGates$Thing" "shut" "Z") (by decide +kernel)) rfl rfl rfl rfl (Nat.le_of_ble_eq_true rfl) dX0_init_80 (fun H locs hO hz hq hS => ?_)
    have hO : q_ob E 0 a [.int (nI k), .int (nI kk), .ref (a + 1), .ref (a + 2), .int (nI 0), .int (nI 0)] H := hO
    have hA1 : q_ja E (a + 1) z (fun _ => 0) H := (hq _ (by omega)).trans hA1
    have hA2 : q_ta E (a + 2) 0 (fun _ => none) H := (hq _ (by omega)).trans hA2
    have hZ : Array.size H = a + 3 := hz.trans hZ
    refine W.widen (k := 2) (n := 8) (by omega) (by omega) ?_
    exact W.vret hx hb hr (fun t ht hW => ⟨⟨(), rfl, trivial, by show q_new E a k kk z t.heap; rw [ht]; unfold q_new; rw [ea, en, ep]; exact ⟨hO, hA1, hA2, hZ⟩⟩, hS.F ht⟩) hS.2.2 dX0_init_83
  · have ea : q_am kk z = 0 := by unfold q_am; rw [if_pos (by omega)]
    have en : q_nl kk z = 0 := by unfold q_nl; rw [if_neg (by omega)]
    have ep : q_pl kk z = z := by unfold q_pl; rw [if_pos (by omega)]
    refine lv_aload_n hx hb dX0_init_0 rfl (lv_at hl 0 rfl) ?_
    refine W.objInit hx hb hown (hts (.methodLink RX0 1 objectInit) (by decide +kernel)) (hts (.instanceMethod objectInit) (by decide +kernel)) (hts _ (List.mem_cons_of_mem _ (List.mem_append_left _ (List.mem_of_getElem? (i := 2) rfl)))) rfl (by rw [hml]; exact hl.1) rfl dX0_init_1 (Nat.le_of_ble_eq_true rfl) (Nat.le_of_ble_eq_true rfl) ?_
    refine W.eq (g2 := F0 m 4 ls []) rfl ?_
    refine lv_aload_n hx hb dX0_init_4 rfl (lv_at hl 0 rfl) ?_
    refine lv_iload_n hx hb dX0_init_5 rfl (lv_at hl 1 rfl) ?_
    refine qw_putF (ci := 0) (C := RX0) (T := TX0) (N := 6) hx hb hts nX0_init_0 tyX0 tyX0_ok nmX0 hown hK hO hS (Nat.le_refl a) rfl 0 (by decide) (hts (.fieldLink RX0 7 "DockGates$Thing" "number" "I") (by decide +kernel)) rfl rfl hin2 rfl rfl rfl (Nat.le_of_ble_eq_true rfl) dX0_init_6 (fun H locs hO hz hq hS => ?_)
    have hO : q_ob E 0 a [.int (nI k), .int 0, .null, .null, .int 0, .int 0] H := hO
    have hZ : Array.size H = a + 1 := hz.trans hZ
    refine lv_aload_n hx hb dX0_init_9 rfl (lv_at hl 0 rfl) ?_
    refine lv_iload_n hx hb dX0_init_10 rfl (lv_at hl 2 rfl) ?_
    refine qw_putF (ci := 0) (C := RX0) (T := TX0) (N := 6) hx hb hts nX0_init_0 tyX0 tyX0_ok nmX0 hown hK hO hS (Nat.le_refl a) rfl 1 (by decide) (hts (.fieldLink RX0 13 "DockGates$Thing" "kind" "I") (by decide +kernel)) rfl rfl hin2 rfl rfl rfl (Nat.le_of_ble_eq_true rfl) dX0_init_11 (fun H locs hO hz hq hS => ?_)
    have hO : q_ob E 0 a [.int (nI k), .int (nI kk), .null, .null, .int 0, .int 0] H := hO
    have hZ : Array.size H = a + 1 := hz.trans hZ
    refine lv_iload_n hx hb dX0_init_14 rfl (lv_at hl 2 rfl) ?_
    refine qc_ri (r1 := q_b false) (va_runSN (As := [.int (nI kk)]) (rest := []) ⟨hx, hb, hml, hown, hts⟩ (kX1_holdsNumbers l kk (by omega)) ⟨va_cnB 1 hts gX0_init_X1_holdsNumbers_n16 rfl rfl rfl hN.1 (hts (.initialized RX1) (by decide +kernel)) (by decide +kernel) ⟨Nat.le_of_ble_eq_true rfl, Nat.le_of_ble_eq_true rfl⟩, hts (.static yX1_holdsNumbers) (by decide +kernel), trivial⟩ preEq rfl rfl hl.1 rfl (lv_room (Nat.le_of_ble_eq_true rfl)) dX0_init_15 ⟨Nat.le_of_ble_eq_true rfl, Nat.le_of_ble_eq_true rfl⟩).run (congrArg q_b (decide_eq_false (show ¬ kk < 3 by omega))) ?_
    refine lv_istore (lv' := [(4, .int (q_b false)), (0, .ref a), (1, .int (nI k)), (2, .int (nI kk)), (3, .int (nI z))]) hx hb dX0_init_18 hl (by decide) rfl (fun ls hl => ?_)
    refine lv_iload_n hx hb dX0_init_20 rfl (lv_at hl 3 rfl) ?_
    refine qc_ri (r1 := q_b true) (va_runSN (As := [.int (nI kk)]) (rest := []) ⟨hx, hb, hml, hown, hts⟩ (kX1_holdsThings l kk (by omega)) ⟨va_cnB 1 hts gX0_init_X1_holdsThings_n22 rfl rfl rfl hN.2.1 (hts (.initialized RX1) (by decide +kernel)) (by decide +kernel) ⟨Nat.le_of_ble_eq_true rfl, Nat.le_of_ble_eq_true rfl⟩, hts (.static yX1_holdsThings) (by decide +kernel), trivial⟩ preEq rfl rfl hl.1 rfl (lv_room (Nat.le_of_ble_eq_true rfl)) dX0_init_21 ⟨Nat.le_of_ble_eq_true rfl, Nat.le_of_ble_eq_true rfl⟩).run (congrArg q_b (decide_eq_true (show (3 ≤ kk ∧ kk < 9) by omega))) ?_
    refine lv_istore (lv' := [(5, .int (q_b true)), (4, .int (q_b false)), (0, .ref a), (1, .int (nI k)), (2, .int (nI kk)), (3, .int (nI z))]) hx hb dX0_init_24 hl (by decide) rfl (fun ls hl => ?_)
    refine lv_aload_n hx hb dX0_init_26 rfl (lv_at hl 2 rfl) ?_
    refine lv_iload hx hb dX0_init_27 (lv_at hl 1 rfl) ?_
    refine ln_b_eq (tgt := 36) hx hb dX0_init_29 (by decide) (fun _ => ?_) (fun c_4 => absurd c_4 (by decide))
    refine lv_iconst (v := nI 0) hx hb dX0_init_36 (by decide) ?_
    refine qw_newj hx hb (hts (.arrayClass .long) (by decide +kernel)) hK (by omega) (Nat.le_of_ble_eq_true rfl) (by show _ ≤ 8; omega) dX0_init_37 (fun H1 hA1 hz1 hq1 => ?_)
    rw [hZ] at hA1 hz1 hq1 ⊢
    have hS := q_Sgrow hS (by omega) (fun q h => hq1 q (by omega))
    have hO := hO.kept (hq1 _ (by omega))
    clear hZ
    have hZ : Array.size H1 = a + 2 := hz1
    generalize H1 = H at hS hO hZ hA1  ⊢
    refine qw_putF (ci := 0) (C := RX0) (T := TX0) (N := 6) hx hb hts nX0_init_0 tyX0 tyX0_ok nmX0 hown hK hO hS (Nat.le_refl a) rfl 2 (by decide) (hts (.fieldLink RX0 25 "DockGates$Thing" "numbers" "[J") (by decide +kernel)) rfl rfl hin2 rfl rfl rfl (Nat.le_of_ble_eq_true rfl) dX0_init_39 (fun H locs hO hz hq hS => ?_)
    have hO : q_ob E 0 a [.int (nI k), .int (nI kk), .ref (a + 1), .null, .int 0, .int 0] H := hO
    have hA1 : q_ja E (a + 1) 0 (fun _ => 0) H := (hq _ (by omega)).trans hA1
    have hZ : Array.size H = a + 2 := hz.trans hZ
    refine lv_aload_n hx hb dX0_init_42 rfl (lv_at hl 2 rfl) ?_
    refine lv_iload hx hb dX0_init_43 (lv_at hl 0 rfl) ?_
    refine ln_b_eq (tgt := 52) hx hb dX0_init_45 (by decide) (fun c_5 => absurd c_5 (by decide)) (fun _ => ?_)
    refine lv_iload_n hx hb dX0_init_48 rfl (lv_at hl 5 rfl) ?_
    refine lv_goto (tgt := 53) hx hb dX0_init_49 (by decide) ?_
    refine qw_newt hx hb hown (hts (.classLink RX0 8 RX0) (by decide +kernel)) hN.2.2 hK (by omega) (Nat.le_of_ble_eq_true rfl) (by show _ ≤ 8; omega) dX0_init_53 (fun H1 hA2 hz1 hq1 => ?_)
    rw [hZ] at hA2 hz1 hq1 ⊢
    have hS := q_Sgrow hS (by omega) (fun q h => hq1 q (by omega))
    have hO := hO.kept (hq1 _ (by omega))
    have hA1 : q_ja E (a + 1) 0 (fun _ => 0) H1 := (hq1 _ (by omega)).trans hA1
    clear hZ
    have hZ : Array.size H1 = a + 3 := hz1
    generalize H1 = H at hS hO hZ hA2 hA1 ⊢
    refine qw_putF (ci := 0) (C := RX0) (T := TX0) (N := 6) hx hb hts nX0_init_0 tyX0 tyX0_ok nmX0 hown hK hO hS (Nat.le_refl a) rfl 3 (by decide) (hts (.fieldLink RX0 29 "DockGates$Thing" "parts" "[LDockGates$Thing;") (by decide +kernel)) rfl rfl hin2 rfl rfl rfl (Nat.le_of_ble_eq_true rfl) dX0_init_56 (fun H locs hO hz hq hS => ?_)
    have hO : q_ob E 0 a [.int (nI k), .int (nI kk), .ref (a + 1), .ref (a + 2), .int 0, .int 0] H := hO
    have hA1 : q_ja E (a + 1) 0 (fun _ => 0) H := (hq _ (by omega)).trans hA1
    have hA2 : q_ta E (a + 2) z (fun _ => none) H := (hq _ (by omega)).trans hA2
    have hZ : Array.size H = a + 3 := hz.trans hZ
    refine lv_aload_n hx hb dX0_init_59 rfl (lv_at hl 2 rfl) ?_
    refine lv_iload hx hb dX0_init_60 (lv_at hl 1 rfl) ?_
    refine ln_b_ne (tgt := 70) hx hb dX0_init_62 (by decide) (fun c_6 => absurd c_6 (by decide)) (fun _ => ?_)
    refine lv_iload hx hb dX0_init_65 (lv_at hl 0 rfl) ?_
    refine ln_b_eq (tgt := 74) hx hb dX0_init_67 (by decide) (fun c_7 => absurd c_7 (by decide)) (fun _ => ?_)
    refine lv_iconst (v := nI 0) hx hb dX0_init_70 (by decide) ?_
    refine lv_goto (tgt := 75) hx hb dX0_init_71 (by decide) ?_
    refine qw_put (ci := 0) (C := RX0) (T := TX0) (N := 6) hx hb hts nX0_init_0 tyX0 tyX0_ok nmX0 hown hK hO hS (Nat.le_refl a) rfl 4 (by decide) (hts (.fieldLink RX0 33 "DockGates$Thing" "amount" "I") (by decide +kernel)) rfl rfl rfl rfl (Nat.le_of_ble_eq_true rfl) dX0_init_75 (fun H locs hO hz hq hS => ?_)
    have hO : q_ob E 0 a [.int (nI k), .int (nI kk), .ref (a + 1), .ref (a + 2), .int (nI 0), .int 0] H := hO
    have hA1 : q_ja E (a + 1) 0 (fun _ => 0) H := (hq _ (by omega)).trans hA1
    have hA2 : q_ta E (a + 2) z (fun _ => none) H := (hq _ (by omega)).trans hA2
    have hZ : Array.size H = a + 3 := hz.trans hZ
    refine lv_aload_n hx hb dX0_init_78 rfl (lv_at hl 2 rfl) ?_
    refine lv_iconst (v := nI 0) hx hb dX0_init_79 (by decide) ?_
    refine qw_put (ci := 0) (C := RX0) (T := TX0) (N := 6) hx hb hts nX0_init_0 tyX0 tyX0_ok nmX0 hown hK hO hS (Nat.le_refl a) rfl 5 (by decide) (hts (.fieldLink RX0 36 "DockGates$Thing" "shut" "Z") (by decide +kernel)) rfl rfl rfl rfl (Nat.le_of_ble_eq_true rfl) dX0_init_80 (fun H locs hO hz hq hS => ?_)
    have hO : q_ob E 0 a [.int (nI k), .int (nI kk), .ref (a + 1), .ref (a + 2), .int (nI 0), .int (nI 0)] H := hO
    have hA1 : q_ja E (a + 1) 0 (fun _ => 0) H := (hq _ (by omega)).trans hA1
    have hA2 : q_ta E (a + 2) z (fun _ => none) H := (hq _ (by omega)).trans hA2
    have hZ : Array.size H = a + 3 := hz.trans hZ
    refine W.widen (k := 2) (n := 8) (by omega) (by omega) ?_
    exact W.vret hx hb hr (fun t ht hW => ⟨⟨(), rfl, trivial, by show q_new E a k kk z t.heap; rw [ht]; unfold q_new; rw [ea, en, ep]; exact ⟨hO, hA1, hA2, hZ⟩⟩, hS.F ht⟩) hS.2.2 dX0_init_83
  · have ea : q_am kk z = z := by unfold q_am; rw [if_neg (by omega)]
    have en : q_nl kk z = 0 := by unfold q_nl; rw [if_neg (by omega)]
    have ep : q_pl kk z = 0 := by unfold q_pl; rw [if_neg (by omega)]
    refine lv_aload_n hx hb dX0_init_0 rfl (lv_at hl 0 rfl) ?_
    refine W.objInit hx hb hown (hts (.methodLink RX0 1 objectInit) (by decide +kernel)) (hts (.instanceMethod objectInit) (by decide +kernel)) (hts _ (List.mem_cons_of_mem _ (List.mem_append_left _ (List.mem_of_getElem? (i := 2) rfl)))) rfl (by rw [hml]; exact hl.1) rfl dX0_init_1 (Nat.le_of_ble_eq_true rfl) (Nat.le_of_ble_eq_true rfl) ?_
    refine W.eq (g2 := F0 m 4 ls []) rfl ?_
    refine lv_aload_n hx hb dX0_init_4 rfl (lv_at hl 0 rfl) ?_
    refine lv_iload_n hx hb dX0_init_5 rfl (lv_at hl 1 rfl) ?_
    refine qw_putF (ci := 0) (C := RX0) (T := TX0) (N := 6) hx hb hts nX0_init_0 tyX0 tyX0_ok nmX0 hown hK hO hS (Nat.le_refl a) rfl 0 (by decide) (hts (.fieldLink RX0 7 "DockGates$Thing" "number" "I") (by decide +kernel)) rfl rfl hin2 rfl rfl rfl (Nat.le_of_ble_eq_true rfl) dX0_init_6 (fun H locs hO hz hq hS => ?_)
    have hO : q_ob E 0 a [.int (nI k), .int 0, .null, .null, .int 0, .int 0] H := hO
    have hZ : Array.size H = a + 1 := hz.trans hZ
    refine lv_aload_n hx hb dX0_init_9 rfl (lv_at hl 0 rfl) ?_
    refine lv_iload_n hx hb dX0_init_10 rfl (lv_at hl 2 rfl) ?_
    refine qw_putF (ci := 0) (C := RX0) (T := TX0) (N := 6) hx hb hts nX0_init_0 tyX0 tyX0_ok nmX0 hown hK hO hS (Nat.le_refl a) rfl 1 (by decide) (hts (.fieldLink RX0 13 "DockGates$Thing" "kind" "I") (by decide +kernel)) rfl rfl hin2 rfl rfl rfl (Nat.le_of_ble_eq_true rfl) dX0_init_11 (fun H locs hO hz hq hS => ?_)
    have hO : q_ob E 0 a [.int (nI k), .int (nI kk), .null, .null, .int 0, .int 0] H := hO
    have hZ : Array.size H = a + 1 := hz.trans hZ
    refine lv_iload_n hx hb dX0_init_14 rfl (lv_at hl 2 rfl) ?_
    refine qc_ri (r1 := q_b false) (va_runSN (As := [.int (nI kk)]) (rest := []) ⟨hx, hb, hml, hown, hts⟩ (kX1_holdsNumbers l kk (by omega)) ⟨va_cnB 1 hts gX0_init_X1_holdsNumbers_n16 rfl rfl rfl hN.1 (hts (.initialized RX1) (by decide +kernel)) (by decide +kernel) ⟨Nat.le_of_ble_eq_true rfl, Nat.le_of_ble_eq_true rfl⟩, hts (.static yX1_holdsNumbers) (by decide +kernel), trivial⟩ preEq rfl rfl hl.1 rfl (lv_room (Nat.le_of_ble_eq_true rfl)) dX0_init_15 ⟨Nat.le_of_ble_eq_true rfl, Nat.le_of_ble_eq_true rfl⟩).run (congrArg q_b (decide_eq_false (show ¬ kk < 3 by omega))) ?_
    refine lv_istore (lv' := [(4, .int (q_b false)), (0, .ref a), (1, .int (nI k)), (2, .int (nI kk)), (3, .int (nI z))]) hx hb dX0_init_18 hl (by decide) rfl (fun ls hl => ?_)
    refine lv_iload_n hx hb dX0_init_20 rfl (lv_at hl 3 rfl) ?_
    refine qc_ri (r1 := q_b false) (va_runSN (As := [.int (nI kk)]) (rest := []) ⟨hx, hb, hml, hown, hts⟩ (kX1_holdsThings l kk (by omega)) ⟨va_cnB 1 hts gX0_init_X1_holdsThings_n22 rfl rfl rfl hN.2.1 (hts (.initialized RX1) (by decide +kernel)) (by decide +kernel) ⟨Nat.le_of_ble_eq_true rfl, Nat.le_of_ble_eq_true rfl⟩, hts (.static yX1_holdsThings) (by decide +kernel), trivial⟩ preEq rfl rfl hl.1 rfl (lv_room (Nat.le_of_ble_eq_true rfl)) dX0_init_21 ⟨Nat.le_of_ble_eq_true rfl, Nat.le_of_ble_eq_true rfl⟩).run (congrArg q_b (decide_eq_false (show ¬ (3 ≤ kk ∧ kk < 9) by omega))) ?_
    refine lv_istore (lv' := [(5, .int (q_b false)), (4, .int (q_b false)), (0, .ref a), (1, .int (nI k)), (2, .int (nI kk)), (3, .int (nI z))]) hx hb dX0_init_24 hl (by decide) rfl (fun ls hl => ?_)
    refine lv_aload_n hx hb dX0_init_26 rfl (lv_at hl 2 rfl) ?_
    refine lv_iload hx hb dX0_init_27 (lv_at hl 1 rfl) ?_
    refine ln_b_eq (tgt := 36) hx hb dX0_init_29 (by decide) (fun _ => ?_) (fun c_8 => absurd c_8 (by decide))
    refine lv_iconst (v := nI 0) hx hb dX0_init_36 (by decide) ?_
    refine qw_newj hx hb (hts (.arrayClass .long) (by decide +kernel)) hK (by omega) (Nat.le_of_ble_eq_true rfl) (by show _ ≤ 8; omega) dX0_init_37 (fun H1 hA1 hz1 hq1 => ?_)
    rw [hZ] at hA1 hz1 hq1 ⊢
    have hS := q_Sgrow hS (by omega) (fun q h => hq1 q (by omega))
    have hO := hO.kept (hq1 _ (by omega))
    clear hZ
    have hZ : Array.size H1 = a + 2 := hz1
    generalize H1 = H at hS hO hZ hA1  ⊢
    refine qw_putF (ci := 0) (C := RX0) (T := TX0) (N := 6) hx hb hts nX0_init_0 tyX0 tyX0_ok nmX0 hown hK hO hS (Nat.le_refl a) rfl 2 (by decide) (hts (.fieldLink RX0 25 "DockGates$Thing" "numbers" "[J") (by decide +kernel)) rfl rfl hin2 rfl rfl rfl (Nat.le_of_ble_eq_true rfl) dX0_init_39 (fun H locs hO hz hq hS => ?_)
    have hO : q_ob E 0 a [.int (nI k), .int (nI kk), .ref (a + 1), .null, .int 0, .int 0] H := hO
    have hA1 : q_ja E (a + 1) 0 (fun _ => 0) H := (hq _ (by omega)).trans hA1
    have hZ : Array.size H = a + 2 := hz.trans hZ
    refine lv_aload_n hx hb dX0_init_42 rfl (lv_at hl 2 rfl) ?_
    refine lv_iload hx hb dX0_init_43 (lv_at hl 0 rfl) ?_
    refine ln_b_eq (tgt := 52) hx hb dX0_init_45 (by decide) (fun _ => ?_) (fun c_9 => absurd c_9 (by decide))
    refine lv_iconst (v := nI 0) hx hb dX0_init_52 (by decide) ?_
    refine qw_newt hx hb hown (hts (.classLink RX0 8 RX0) (by decide +kernel)) hN.2.2 hK (by omega) (Nat.le_of_ble_eq_true rfl) (by show _ ≤ 8; omega) dX0_init_53 (fun H1 hA2 hz1 hq1 => ?_)
    rw [hZ] at hA2 hz1 hq1 ⊢
    have hS := q_Sgrow hS (by omega) (fun q h => hq1 q (by omega))
    have hO := hO.kept (hq1 _ (by omega))
    have hA1 : q_ja E (a + 1) 0 (fun _ => 0) H1 := (hq1 _ (by omega)).trans hA1
    clear hZ
    have hZ : Array.size H1 = a + 3 := hz1
    generalize H1 = H at hS hO hZ hA2 hA1 ⊢
    refine qw_putF (ci := 0) (C := RX0) (T := TX0) (N := 6) hx hb hts nX0_init_0 tyX0 tyX0_ok nmX0 hown hK hO hS (Nat.le_refl a) rfl 3 (by decide) (hts (.fieldLink RX0 29 "DockGates$Thing" "parts" "[LDockGates$Thing;") (by decide +kernel)) rfl rfl hin2 rfl rfl rfl (Nat.le_of_ble_eq_true rfl) dX0_init_56 (fun H locs hO hz hq hS => ?_)
    have hO : q_ob E 0 a [.int (nI k), .int (nI kk), .ref (a + 1), .ref (a + 2), .int 0, .int 0] H := hO
    have hA1 : q_ja E (a + 1) 0 (fun _ => 0) H := (hq _ (by omega)).trans hA1
    have hA2 : q_ta E (a + 2) 0 (fun _ => none) H := (hq _ (by omega)).trans hA2
    have hZ : Array.size H = a + 3 := hz.trans hZ
    refine lv_aload_n hx hb dX0_init_59 rfl (lv_at hl 2 rfl) ?_
    refine lv_iload hx hb dX0_init_60 (lv_at hl 1 rfl) ?_
    refine ln_b_ne (tgt := 70) hx hb dX0_init_62 (by decide) (fun c_10 => absurd c_10 (by decide)) (fun _ => ?_)
    refine lv_iload hx hb dX0_init_65 (lv_at hl 0 rfl) ?_
    refine ln_b_eq (tgt := 74) hx hb dX0_init_67 (by decide) (fun _ => ?_) (fun c_11 => absurd c_11 (by decide))
    refine lv_iload_n hx hb dX0_init_74 rfl (lv_at hl 5 rfl) ?_
    refine qw_put (ci := 0) (C := RX0) (T := TX0) (N := 6) hx hb hts nX0_init_0 tyX0 tyX0_ok nmX0 hown hK hO hS (Nat.le_refl a) rfl 4 (by decide) (hts (.fieldLink RX0 33 "DockGates$Thing" "amount" "I") (by decide +kernel)) rfl rfl rfl rfl (Nat.le_of_ble_eq_true rfl) dX0_init_75 (fun H locs hO hz hq hS => ?_)
    have hO : q_ob E 0 a [.int (nI k), .int (nI kk), .ref (a + 1), .ref (a + 2), .int (nI z), .int 0] H := hO
    have hA1 : q_ja E (a + 1) 0 (fun _ => 0) H := (hq _ (by omega)).trans hA1
    have hA2 : q_ta E (a + 2) 0 (fun _ => none) H := (hq _ (by omega)).trans hA2
    have hZ : Array.size H = a + 3 := hz.trans hZ
    refine lv_aload_n hx hb dX0_init_78 rfl (lv_at hl 2 rfl) ?_
    refine lv_iconst (v := nI 0) hx hb dX0_init_79 (by decide) ?_
    refine qw_put (ci := 0) (C := RX0) (T := TX0) (N := 6) hx hb hts nX0_init_0 tyX0 tyX0_ok nmX0 hown hK hO hS (Nat.le_refl a) rfl 5 (by decide) (hts (.fieldLink RX0 36 "DockGates$Thing" "shut" "Z") (by decide +kernel)) rfl rfl rfl rfl (Nat.le_of_ble_eq_true rfl) dX0_init_80 (fun H locs hO hz hq hS => ?_)
    have hO : q_ob E 0 a [.int (nI k), .int (nI kk), .ref (a + 1), .ref (a + 2), .int (nI z), .int (nI 0)] H := hO
    have hA1 : q_ja E (a + 1) 0 (fun _ => 0) H := (hq _ (by omega)).trans hA1
    have hA2 : q_ta E (a + 2) 0 (fun _ => none) H := (hq _ (by omega)).trans hA2
    have hZ : Array.size H = a + 3 := hz.trans hZ
    refine W.widen (k := 2) (n := 8) (by omega) (by omega) ?_
    exact W.vret hx hb hr (fun t ht hW => ⟨⟨(), rfl, trivial, by show q_new E a k kk z t.heap; rw [ht]; unfold q_new; rw [ea, en, ep]; exact ⟨hO, hA1, hA2, hZ⟩⟩, hS.F ht⟩) hS.2.2 dX0_init_83
set_option maxRecDepth 20000 in
theorem nX1_init_1 : ∀ w ∈ u_ws RX1 TX1 6, w ∈ wsX1_init := by decide +kernel
set_option maxHeartbeats 4000000 in
set_option maxRecDepth 100000 in
theorem kX1_init (l : Launch) (E : q_E) (a : Nat)  : Met l yX1_init wsX1_init ({ frames := 1, cells := 1, slots := 12, locals := 12 }) (q_PN E (fun H => q_ob E 1 a [.null, .int 0, .int 0, .int 0, .int 0, .int 0] H ∧ H.size = a + 1) [.ref a]) (va_Qv (fun _ : Unit => True) (fun _ t => q_x0 E a t.heap) (fun q => a ≤ q)) 1 12 (fun q => a ≤ q) := by
  refine Met.ofW (cc := cX1_init) (maxL := 1) (ret := none) (by decide) rfl ?_
  intro p e s m args below meth c s₁ B hml hv
  obtain ⟨rfl, hK, hN, hO, hZ⟩ := hv
  have hx := B.exec
  have hb := B.bytes
  have hr := B.returns
  have hts := atoms_spec (ws := wsX1_init) B.pre
  have hown : s.vm.findClass RX1 = some m.cls := findClass_of_methodNamed B.named
  have hlocks := B.notSynchronized
  have hl := lv_entry ([.ref a]) (n := 1) (Nat.le_of_ble_eq_true rfl)
  rw [lg_entry_eq]
  generalize (lg_sl ([.ref a]) ++ List.replicate (1 - (lg_sl ([.ref a])).length) Slot.unset).toArray = ls at hl ⊢
  have hl : lv_has ls 1 [(0, .ref a)] := hl
  have hin2 : meth.name = "<init>" := (name_of_methodNamed B.named B.method).1
  have hS : va_S (fun q => a ≤ q) s.heap s.heap [] := va_S.rf
  refine lv_aload_n hx hb dX1_init_0 rfl (lv_at hl 0 rfl) ?_
  refine W.objInit hx hb hown (hts (.methodLink RX1 1 objectInit) (by decide +kernel)) (hts (.instanceMethod objectInit) (by decide +kernel)) (hts _ (List.mem_cons_of_mem _ (List.mem_append_left _ (List.mem_of_getElem? (i := 2) rfl)))) rfl (by rw [hml]; exact hl.1) rfl dX1_init_1 (Nat.le_of_ble_eq_true rfl) (Nat.le_of_ble_eq_true rfl) ?_
  refine W.eq (g2 := F0 m 4 ls []) rfl ?_
  refine lv_aload_n hx hb dX1_init_4 rfl (lv_at hl 0 rfl) ?_
  refine lv_bipush (v := nI 12) hx hb dX1_init_5 (by decide) ?_
  refine qw_newt hx hb hown (hts (.classLink RX1 9 RX0) (by decide +kernel)) hN.2.2 hK (by omega) (Nat.le_of_ble_eq_true rfl) (Nat.le_of_ble_eq_true rfl) dX1_init_7 (fun H1 hA1 hz1 hq1 => ?_)
  rw [hZ] at hA1 hz1 hq1 ⊢
  have hS := q_Sgrow hS (by omega) (fun q h => hq1 q (by omega))
  have hO := hO.kept (hq1 _ (by omega))
  clear hZ
  have hZ : Array.size H1 = a + 2 := hz1
  generalize H1 = H at hS hO hZ hA1  ⊢
  refine qw_putF (ci := 1) (C := RX1) (T := TX1) (N := 6) hx hb hts nX1_init_1 tyX1 tyX1_ok nmX1 hown hK hO hS (Nat.le_refl a) rfl 0 (by decide) (hts (.fieldLink RX1 11 "DockGates" "slots" "[LDockGates$Thing;") (by decide +kernel)) rfl rfl hin2 rfl rfl rfl (Nat.le_of_ble_eq_true rfl) dX1_init_10 (fun H locs hO hz hq hS => ?_)
  have hO : q_ob E 1 a [.ref (a + 1), .int 0, .int 0, .int 0, .int 0, .int 0] H := hO
  have hA1 : q_ta E (a + 1) 12 (fun _ => none) H := (hq _ (by omega)).trans hA1
  have hZ : Array.size H = a + 2 := hz.trans hZ
  refine lv_aload_n hx hb dX1_init_13 rfl (lv_at hl 0 rfl) ?_
  refine lv_iconst (v := nI 0) hx hb dX1_init_14 (by decide) ?_
  refine qw_put (ci := 1) (C := RX1) (T := TX1) (N := 6) hx hb hts nX1_init_1 tyX1 tyX1_ok nmX1 hown hK hO hS (Nat.le_refl a) rfl 1 (by decide) (hts (.fieldLink RX1 15 "DockGates" "made" "I") (by decide +kernel)) rfl rfl rfl rfl (Nat.le_of_ble_eq_true rfl) dX1_init_15 (fun H locs hO hz hq hS => ?_)
  have hO : q_ob E 1 a [.ref (a + 1), .int (nI 0), .int 0, .int 0, .int 0, .int 0] H := hO
  have hA1 : q_ta E (a + 1) 12 (fun _ => none) H := (hq _ (by omega)).trans hA1
  have hZ : Array.size H = a + 2 := hz.trans hZ
  refine lv_aload_n hx hb dX1_init_18 rfl (lv_at hl 0 rfl) ?_
  refine lv_iconst (v := nI 0) hx hb dX1_init_19 (by decide) ?_
  refine qw_put (ci := 1) (C := RX1) (T := TX1) (N := 6) hx hb hts nX1_init_1 tyX1 tyX1_ok nmX1 hown hK hO hS (Nat.le_refl a) rfl 2 (by decide) (hts (.fieldLink RX1 19 "DockGates" "latestFault" "I") (by decide +kernel)) rfl rfl rfl rfl (Nat.le_of_ble_eq_true rfl) dX1_init_20 (fun H locs hO hz hq hS => ?_)
  have hO : q_ob E 1 a [.ref (a + 1), .int (nI 0), .int (nI 0), .int 0, .int 0, .int 0] H := hO
  have hA1 : q_ta E (a + 1) 12 (fun _ => none) H := (hq _ (by omega)).trans hA1
  have hZ : Array.size H = a + 2 := hz.trans hZ
  refine lv_aload_n hx hb dX1_init_23 rfl (lv_at hl 0 rfl) ?_
  refine lv_iconst (v := nI 0) hx hb dX1_init_24 (by decide) ?_
  refine qw_put (ci := 1) (C := RX1) (T := TX1) (N := 6) hx hb hts nX1_init_1 tyX1 tyX1_ok nmX1 hown hK hO hS (Nat.le_refl a) rfl 3 (by decide) (hts (.fieldLink RX1 22 "DockGates" "turns" "I") (by decide +kernel)) rfl rfl rfl rfl (Nat.le_of_ble_eq_true rfl) dX1_init_25 (fun H locs hO hz hq hS => ?_)
  have hO : q_ob E 1 a [.ref (a + 1), .int (nI 0), .int (nI 0), .int (nI 0), .int 0, .int 0] H := hO
  have hA1 : q_ta E (a + 1) 12 (fun _ => none) H := (hq _ (by omega)).trans hA1
  have hZ : Array.size H = a + 2 := hz.trans hZ
  refine lv_aload_n hx hb dX1_init_28 rfl (lv_at hl 0 rfl) ?_
  refine lv_iconst (v := (-1)) hx hb dX1_init_29 (by decide) ?_
  refine qw_put (ci := 1) (C := RX1) (T := TX1) (N := 6) hx hb hts nX1_init_1 tyX1 tyX1_ok nmX1 hown hK hO hS (Nat.le_refl a) rfl 4 (by decide) (hts (.fieldLink RX1 25 "DockGates" "turnedSlot" "I") (by decide +kernel)) rfl rfl rfl rfl (Nat.le_of_ble_eq_true rfl) dX1_init_30 (fun H locs hO hz hq hS => ?_)
  have hO : q_ob E 1 a [.ref (a + 1), .int (nI 0), .int (nI 0), .int (nI 0), .int ((-1)), .int 0] H := hO
  have hA1 : q_ta E (a + 1) 12 (fun _ => none) H := (hq _ (by omega)).trans hA1
  have hZ : Array.size H = a + 2 := hz.trans hZ
  refine lv_aload_n hx hb dX1_init_33 rfl (lv_at hl 0 rfl) ?_
  refine lv_iconst (v := (-1)) hx hb dX1_init_34 (by decide) ?_
  refine qw_put (ci := 1) (C := RX1) (T := TX1) (N := 6) hx hb hts nX1_init_1 tyX1 tyX1_ok nmX1 hown hK hO hS (Nat.le_refl a) rfl 5 (by decide) (hts (.fieldLink RX1 28 "DockGates" "turnedGate" "I") (by decide +kernel)) rfl rfl rfl rfl (Nat.le_of_ble_eq_true rfl) dX1_init_35 (fun H locs hO hz hq hS => ?_)
  have hO : q_ob E 1 a [.ref (a + 1), .int (nI 0), .int (nI 0), .int (nI 0), .int ((-1)), .int ((-1))] H := hO
  have hA1 : q_ta E (a + 1) 12 (fun _ => none) H := (hq _ (by omega)).trans hA1
  have hZ : Array.size H = a + 2 := hz.trans hZ
  exact W.vret hx hb hr (fun t ht hW => ⟨⟨(), rfl, trivial, by show q_x0 E a t.heap; rw [ht]; exact ⟨hO, hA1, hZ⟩⟩, hS.F ht⟩) hS.2.2 dX1_init_38
set_option maxRecDepth 20000 in
theorem nX2_init_2 : ∀ w ∈ u_ws RX2 TX2 10, w ∈ wsX2_init := by decide +kernel
set_option maxHeartbeats 4000000 in
set_option maxRecDepth 100000 in
theorem kX2_init (l : Launch) (E : q_E) (a : Nat)  : Met l yX2_init wsX2_init ({ frames := 1, cells := 5, slots := 672, locals := 12 }) (q_P E (fun H => q_ob E 2 a [.int 0, .null, .null, .null, .null, .null, .int 0, .int 0, .int 0, .int 0] H ∧ H.size = a + 1) [.ref a]) (va_Qv (fun _ : Unit => True) (fun _ t => q_M E a (a + 6) q_s0 t.heap) (fun q => a ≤ q)) 5 672 (fun q => a ≤ q) := by
  refine Met.ofW (cc := cX2_init) (maxL := 2) (ret := none) (by decide) rfl ?_
  intro p e s m args below meth c s₁ B hml hv
  obtain ⟨rfl, hK, hO, hZ⟩ := hv
  have hx := B.exec
  have hb := B.bytes
  have hr := B.returns
  have hts := atoms_spec (ws := wsX2_init) B.pre
  have hown : s.vm.findClass RX2 = some m.cls := findClass_of_methodNamed B.named
  have hlocks := B.notSynchronized
  have hl := lv_entry ([.ref a]) (n := 2) (Nat.le_of_ble_eq_true rfl)
  rw [lg_entry_eq]
  generalize (lg_sl ([.ref a]) ++ List.replicate (2 - (lg_sl ([.ref a])).length) Slot.unset).toArray = ls at hl ⊢
  have hl : lv_has ls 2 [(0, .ref a)] := hl
  have hin2 : meth.name = "<init>" := (name_of_methodNamed B.named B.method).1
  have hS : va_S (fun q => a ≤ q) s.heap s.heap [] := va_S.rf
  refine lv_aload_n hx hb dX2_init_0 rfl (lv_at hl 0 rfl) ?_
  refine W.objInit hx hb hown (hts (.methodLink RX2 1 objectInit) (by decide +kernel)) (hts (.instanceMethod objectInit) (by decide +kernel)) (hts _ (List.mem_cons_of_mem _ (List.mem_append_left _ (List.mem_of_getElem? (i := 2) rfl)))) rfl (by rw [hml]; exact hl.1) rfl dX2_init_1 (Nat.le_of_ble_eq_true rfl) (Nat.le_of_ble_eq_true rfl) ?_
  refine W.eq (g2 := F0 m 4 ls []) rfl ?_
  refine lv_aload_n hx hb dX2_init_4 rfl (lv_at hl 0 rfl) ?_
  refine lv_bipush (v := nI 60) hx hb dX2_init_5 (by decide) ?_
  refine qw_newi hx hb (hts (.arrayClass .int) (by decide +kernel)) hK (by omega) (Nat.le_of_ble_eq_true rfl) (Nat.le_of_ble_eq_true rfl) dX2_init_7 (fun H1 hA1 hz1 hq1 => ?_)
  rw [hZ] at hA1 hz1 hq1 ⊢
  have hS := q_Sgrow hS (by omega) (fun q h => hq1 q (by omega))
  have hO := hO.kept (hq1 _ (by omega))
  clear hZ
  have hZ : Array.size H1 = a + 2 := hz1
  generalize H1 = H at hS hO hZ hA1  ⊢
  refine qw_putF (ci := 2) (C := RX2) (T := TX2) (N := 10) hx hb hts nX2_init_2 tyX2 tyX2_ok nmX2 hown hK hO hS (Nat.le_refl a) rfl 1 (by decide) (hts (.fieldLink RX2 7 "DockGatesModel" "kind" "[I") (by decide +kernel)) rfl rfl hin2 rfl rfl rfl (Nat.le_of_ble_eq_true rfl) dX2_init_9 (fun H locs hO hz hq hS => ?_)
  have hO : q_ob E 2 a [.int 0, .ref (a + 1), .null, .null, .null, .null, .int 0, .int 0, .int 0, .int 0] H := hO
  have hA1 : q_ia E (a + 1) 60 (fun _ => 0) H := (hq _ (by omega)).trans hA1
  have hZ : Array.size H = a + 2 := hz.trans hZ
  refine lv_aload_n hx hb dX2_init_12 rfl (lv_at hl 0 rfl) ?_
  refine lv_bipush (v := nI 60) hx hb dX2_init_13 (by decide) ?_
  refine qw_newi hx hb (hts (.arrayClass .int) (by decide +kernel)) hK (by omega) (Nat.le_of_ble_eq_true rfl) (Nat.le_of_ble_eq_true rfl) dX2_init_15 (fun H1 hA2 hz1 hq1 => ?_)
  rw [hZ] at hA2 hz1 hq1 ⊢
  have hS := q_Sgrow hS (by omega) (fun q h => hq1 q (by omega))
  have hO := hO.kept (hq1 _ (by omega))
  have hA1 : q_ia E (a + 1) 60 (fun _ => 0) H1 := (hq1 _ (by omega)).trans hA1
  clear hZ
  have hZ : Array.size H1 = a + 3 := hz1
  generalize H1 = H at hS hO hZ hA2 hA1 ⊢
  refine qw_putF (ci := 2) (C := RX2) (T := TX2) (N := 10) hx hb hts nX2_init_2 tyX2 tyX2_ok nmX2 hown hK hO hS (Nat.le_refl a) rfl 2 (by decide) (hts (.fieldLink RX2 13 "DockGatesModel" "size" "[I") (by decide +kernel)) rfl rfl hin2 rfl rfl rfl (Nat.le_of_ble_eq_true rfl) dX2_init_17 (fun H locs hO hz hq hS => ?_)
  have hO : q_ob E 2 a [.int 0, .ref (a + 1), .ref (a + 2), .null, .null, .null, .int 0, .int 0, .int 0, .int 0] H := hO
  have hA1 : q_ia E (a + 1) 60 (fun _ => 0) H := (hq _ (by omega)).trans hA1
  have hA2 : q_ia E (a + 2) 60 (fun _ => 0) H := (hq _ (by omega)).trans hA2
  have hZ : Array.size H = a + 3 := hz.trans hZ
  refine lv_aload_n hx hb dX2_init_20 rfl (lv_at hl 0 rfl) ?_
  refine lv_bipush (v := nI 60) hx hb dX2_init_21 (by decide) ?_
  refine qw_newz hx hb (hts (.arrayClass .boolean) (by decide +kernel)) hK (by omega) (Nat.le_of_ble_eq_true rfl) (Nat.le_of_ble_eq_true rfl) dX2_init_23 (fun H1 hA3 hz1 hq1 => ?_)
  rw [hZ] at hA3 hz1 hq1 ⊢
  have hS := q_Sgrow hS (by omega) (fun q h => hq1 q (by omega))
  have hO := hO.kept (hq1 _ (by omega))
  have hA1 : q_ia E (a + 1) 60 (fun _ => 0) H1 := (hq1 _ (by omega)).trans hA1
  have hA2 : q_ia E (a + 2) 60 (fun _ => 0) H1 := (hq1 _ (by omega)).trans hA2
  clear hZ
  have hZ : Array.size H1 = a + 4 := hz1
  generalize H1 = H at hS hO hZ hA3 hA1 hA2 ⊢
  refine qw_putF (ci := 2) (C := RX2) (T := TX2) (N := 10) hx hb hts nX2_init_2 tyX2 tyX2_ok nmX2 hown hK hO hS (Nat.le_refl a) rfl 3 (by decide) (hts (.fieldLink RX2 16 "DockGatesModel" "isShut" "[Z") (by decide +kernel)) rfl rfl hin2 rfl rfl rfl (Nat.le_of_ble_eq_true rfl) dX2_init_25 (fun H locs hO hz hq hS => ?_)
  have hO : q_ob E 2 a [.int 0, .ref (a + 1), .ref (a + 2), .ref (a + 3), .null, .null, .int 0, .int 0, .int 0, .int 0] H := hO
  have hA1 : q_ia E (a + 1) 60 (fun _ => 0) H := (hq _ (by omega)).trans hA1
  have hA2 : q_ia E (a + 2) 60 (fun _ => 0) H := (hq _ (by omega)).trans hA2
  have hA3 : q_za E (a + 3) 60 (fun _ => 0) H := (hq _ (by omega)).trans hA3
  have hZ : Array.size H = a + 4 := hz.trans hZ
  refine lv_aload_n hx hb dX2_init_28 rfl (lv_at hl 0 rfl) ?_
  refine lv_sipush (v := nI 480) hx hb dX2_init_29 (by decide) ?_
  refine qw_newj hx hb (hts (.arrayClass .long) (by decide +kernel)) hK (by omega) (Nat.le_of_ble_eq_true rfl) (Nat.le_of_ble_eq_true rfl) dX2_init_32 (fun H1 hA4 hz1 hq1 => ?_)
  rw [hZ] at hA4 hz1 hq1 ⊢
  have hS := q_Sgrow hS (by omega) (fun q h => hq1 q (by omega))
  have hO := hO.kept (hq1 _ (by omega))
  have hA1 : q_ia E (a + 1) 60 (fun _ => 0) H1 := (hq1 _ (by omega)).trans hA1
  have hA2 : q_ia E (a + 2) 60 (fun _ => 0) H1 := (hq1 _ (by omega)).trans hA2
  have hA3 : q_za E (a + 3) 60 (fun _ => 0) H1 := (hq1 _ (by omega)).trans hA3
  clear hZ
  have hZ : Array.size H1 = a + 5 := hz1
  generalize H1 = H at hS hO hZ hA4 hA1 hA2 hA3 ⊢
  refine qw_putF (ci := 2) (C := RX2) (T := TX2) (N := 10) hx hb hts nX2_init_2 tyX2 tyX2_ok nmX2 hown hK hO hS (Nat.le_refl a) rfl 4 (by decide) (hts (.fieldLink RX2 20 "DockGatesModel" "cell" "[J") (by decide +kernel)) rfl rfl hin2 rfl rfl rfl (Nat.le_of_ble_eq_true rfl) dX2_init_34 (fun H locs hO hz hq hS => ?_)
  have hO : q_ob E 2 a [.int 0, .ref (a + 1), .ref (a + 2), .ref (a + 3), .ref (a + 4), .null, .int 0, .int 0, .int 0, .int 0] H := hO
  have hA1 : q_ia E (a + 1) 60 (fun _ => 0) H := (hq _ (by omega)).trans hA1
  have hA2 : q_ia E (a + 2) 60 (fun _ => 0) H := (hq _ (by omega)).trans hA2
  have hA3 : q_za E (a + 3) 60 (fun _ => 0) H := (hq _ (by omega)).trans hA3
  have hA4 : q_ja E (a + 4) 480 (fun _ => 0) H := (hq _ (by omega)).trans hA4
  have hZ : Array.size H = a + 5 := hz.trans hZ
  refine lv_aload_n hx hb dX2_init_37 rfl (lv_at hl 0 rfl) ?_
  refine lv_bipush (v := nI 12) hx hb dX2_init_38 (by decide) ?_
  refine qw_newi hx hb (hts (.arrayClass .int) (by decide +kernel)) hK (by omega) (Nat.le_of_ble_eq_true rfl) (Nat.le_of_ble_eq_true rfl) dX2_init_40 (fun H1 hA5 hz1 hq1 => ?_)
  rw [hZ] at hA5 hz1 hq1 ⊢
  have hS := q_Sgrow hS (by omega) (fun q h => hq1 q (by omega))
  have hO := hO.kept (hq1 _ (by omega))
  have hA1 : q_ia E (a + 1) 60 (fun _ => 0) H1 := (hq1 _ (by omega)).trans hA1
  have hA2 : q_ia E (a + 2) 60 (fun _ => 0) H1 := (hq1 _ (by omega)).trans hA2
  have hA3 : q_za E (a + 3) 60 (fun _ => 0) H1 := (hq1 _ (by omega)).trans hA3
  have hA4 : q_ja E (a + 4) 480 (fun _ => 0) H1 := (hq1 _ (by omega)).trans hA4
  clear hZ
  have hZ : Array.size H1 = a + 6 := hz1
  generalize H1 = H at hS hO hZ hA5 hA1 hA2 hA3 hA4 ⊢
  refine qw_putF (ci := 2) (C := RX2) (T := TX2) (N := 10) hx hb hts nX2_init_2 tyX2 tyX2_ok nmX2 hown hK hO hS (Nat.le_refl a) rfl 5 (by decide) (hts (.fieldLink RX2 24 "DockGatesModel" "slots" "[I") (by decide +kernel)) rfl rfl hin2 rfl rfl rfl (Nat.le_of_ble_eq_true rfl) dX2_init_42 (fun H locs hO hz hq hS => ?_)
  have hO : q_ob E 2 a [.int 0, .ref (a + 1), .ref (a + 2), .ref (a + 3), .ref (a + 4), .ref (a + 5), .int 0, .int 0, .int 0, .int 0] H := hO
  have hA1 : q_ia E (a + 1) 60 (fun _ => 0) H := (hq _ (by omega)).trans hA1
  have hA2 : q_ia E (a + 2) 60 (fun _ => 0) H := (hq _ (by omega)).trans hA2
  have hA3 : q_za E (a + 3) 60 (fun _ => 0) H := (hq _ (by omega)).trans hA3
  have hA4 : q_ja E (a + 4) 480 (fun _ => 0) H := (hq _ (by omega)).trans hA4
  have hA5 : q_ia E (a + 5) 12 (fun _ => 0) H := (hq _ (by omega)).trans hA5
  have hZ : Array.size H = a + 6 := hz.trans hZ
  refine lv_aload_n hx hb dX2_init_45 rfl (lv_at hl 0 rfl) ?_
  refine lv_iconst (v := (-1)) hx hb dX2_init_46 (by decide) ?_
  refine qw_put (ci := 2) (C := RX2) (T := TX2) (N := 10) hx hb hts nX2_init_2 tyX2 tyX2_ok nmX2 hown hK hO hS (Nat.le_refl a) rfl 8 (by decide) (hts (.fieldLink RX2 27 "DockGatesModel" "turnedSlot" "I") (by decide +kernel)) rfl rfl rfl rfl (Nat.le_of_ble_eq_true rfl) dX2_init_47 (fun H locs hO hz hq hS => ?_)
  have hO : q_ob E 2 a [.int 0, .ref (a + 1), .ref (a + 2), .ref (a + 3), .ref (a + 4), .ref (a + 5), .int 0, .int 0, .int ((-1)), .int 0] H := hO
  have hA1 : q_ia E (a + 1) 60 (fun _ => 0) H := (hq _ (by omega)).trans hA1
  have hA2 : q_ia E (a + 2) 60 (fun _ => 0) H := (hq _ (by omega)).trans hA2
  have hA3 : q_za E (a + 3) 60 (fun _ => 0) H := (hq _ (by omega)).trans hA3
  have hA4 : q_ja E (a + 4) 480 (fun _ => 0) H := (hq _ (by omega)).trans hA4
  have hA5 : q_ia E (a + 5) 12 (fun _ => 0) H := (hq _ (by omega)).trans hA5
  have hZ : Array.size H = a + 6 := hz.trans hZ
  refine lv_aload_n hx hb dX2_init_50 rfl (lv_at hl 0 rfl) ?_
  refine lv_iconst (v := (-1)) hx hb dX2_init_51 (by decide) ?_
  refine qw_put (ci := 2) (C := RX2) (T := TX2) (N := 10) hx hb hts nX2_init_2 tyX2 tyX2_ok nmX2 hown hK hO hS (Nat.le_refl a) rfl 9 (by decide) (hts (.fieldLink RX2 31 "DockGatesModel" "turnedGate" "I") (by decide +kernel)) rfl rfl rfl rfl (Nat.le_of_ble_eq_true rfl) dX2_init_52 (fun H locs hO hz hq hS => ?_)
  have hO : q_ob E 2 a [.int 0, .ref (a + 1), .ref (a + 2), .ref (a + 3), .ref (a + 4), .ref (a + 5), .int 0, .int 0, .int ((-1)), .int ((-1))] H := hO
  have hA1 : q_ia E (a + 1) 60 (fun _ => 0) H := (hq _ (by omega)).trans hA1
  have hA2 : q_ia E (a + 2) 60 (fun _ => 0) H := (hq _ (by omega)).trans hA2
  have hA3 : q_za E (a + 3) 60 (fun _ => 0) H := (hq _ (by omega)).trans hA3
  have hA4 : q_ja E (a + 4) 480 (fun _ => 0) H := (hq _ (by omega)).trans hA4
  have hA5 : q_ia E (a + 5) 12 (fun _ => 0) H := (hq _ (by omega)).trans hA5
  have hZ : Array.size H = a + 6 := hz.trans hZ
  refine lv_iconst (v := nI 0) hx hb dX2_init_55 (by decide) ?_
  refine lv_istore_n (lv' := [(1, .int (nI 0)), (0, .ref a)]) hx hb dX2_init_56 rfl hl (by decide) rfl (fun ls hl => ?_)
  obtain ⟨i, ei⟩ : ∃ i : Nat, i = 0 := ⟨_, rfl⟩
  refine qw_name (P := fun H locs => q_ob E 2 a [.int 0, .ref (a + 1), .ref (a + 2), .ref (a + 3), .ref (a + 4), .ref (a + 5), .int 0, .int 0, .int ((-1)), .int ((-1))] H ∧ q_ia E (a + 1) 60 (fun _ => 0) H ∧ q_ia E (a + 2) 60 (fun _ => 0) H ∧ q_za E (a + 3) 60 (fun _ => 0) H ∧ q_ja E (a + 4) 480 (fun _ => 0) H ∧ q_ia E (a + 5) 12 (fun q => if q < i then -1 else 0) H ∧ Array.size H = a + 6 ∧ va_S (fun q => a ≤ q) s.heap H locs) (by subst ei; exact ⟨hO, hA1, hA2, hA3, hA4, q_ia_congr hA5 (fun q _ => by simp), hZ, hS⟩) (fun H locs hMS => ?_)
  clear hO hA1 hA2 hA3 hA4 hA5 hZ hS
  obtain ⟨hO, hA1, hA2, hA3, hA4, hA5, hZ, hS⟩ := hMS
  have hl : lv_has ls 2 [(0, .ref a), (1, .int (nI i))] := by subst ei; exact lv_sub hl [1, 0] rfl
  generalize els : ls = lz at hl ⊢
  clear els
  obtain ⟨d, hd⟩ : ∃ d, i + d = 12 := ⟨12 - i, by omega⟩
  clear ei
  induction d generalizing i H locs lz with
  | zero =>
    refine lv_iload_n hx hb dX2_init_57 rfl (lv_at hl 1 rfl) ?_
    refine lv_bipush (v := nI 12) hx hb dX2_init_58 (by decide) ?_
    refine ln_cmp_ge (tgt := 76) hx hb (by omega) (by omega) dX2_init_60 (by decide) (fun _ => ?_) (fun c_1 => absurd c_1 (by omega))
    have hA5 := q_ia_congr hA5 (g := fun j => q_eI (q_s0.2.2.2.2.2.2.1 j)) (fun q hq5 => by rw [if_pos (by omega)]; rfl)
    exact W.vret hx hb hr (fun t ht hW => ⟨⟨(), rfl, trivial, by show q_M E a (a + 6) q_s0 t.heap; rw [ht]; exact ⟨hO, hA1, hA2, hA3, q_ja_congr hA4 (fun _ _ => rfl), hA5, hZ⟩⟩, hS.F ht⟩) hS.2.2 dX2_init_76
  | succ d ih =>
    refine lv_iload_n hx hb dX2_init_57 rfl (lv_at hl 1 rfl) ?_
    refine lv_bipush (v := nI 12) hx hb dX2_init_58 (by decide) ?_
    refine ln_cmp_ge (tgt := 76) hx hb (by omega) (by omega) dX2_init_60 (by decide) (fun c_2 => absurd c_2 (by omega)) (fun _ => ?_)
    refine lv_aload_n hx hb dX2_init_63 rfl (lv_at hl 0 rfl) ?_
    refine qw_get (v := .ref (a + 5)) (ci := 2) (C := RX2) (T := TX2) (N := 10) hx hb hts nX2_init_2 hown hK hO rfl 5 (by decide) (hts (.fieldLink RX2 24 "DockGatesModel" "slots" "[I") (by decide +kernel)) rfl rfl dX2_init_64 ?_
    refine lv_iload_n hx hb dX2_init_67 rfl (lv_at hl 1 rfl) ?_
    refine lv_iconst (v := (-1)) hx hb dX2_init_68 (by decide) ?_
    refine qw_iast (A := fun q => a ≤ q) hx hb hK hA5 hS (Nat.le_add_right a 5) (by omega) (by decide) dX2_init_69 (fun H locs hA5 hz hq hS => ?_)
    have hO := hO.kept (hq _ (by omega))
    have hA1 : q_ia E (a + 1) 60 (fun _ => 0) H := (hq _ (by omega)).trans hA1
    have hA2 : q_ia E (a + 2) 60 (fun _ => 0) H := (hq _ (by omega)).trans hA2
    have hA3 : q_za E (a + 3) 60 (fun _ => 0) H := (hq _ (by omega)).trans hA3
    have hA4 : q_ja E (a + 4) 480 (fun _ => 0) H := (hq _ (by omega)).trans hA4
    have hZ : Array.size H = a + 6 := hz.trans hZ
    have hA5 : q_ia E (a + 5) 12 (fun q => if q < i + 1 then -1 else 0) H := q_ia_congr hA5 (fun q _ => by by_cases e : q = i <;> simp [va_up, e] <;> (try split) <;> (try split) <;> first | rfl | omega)
    refine lv_iinc (v := nI (i + 1)) (lv' := [(1, .int (nI (i + 1))), (0, .ref a)]) hx hb dX2_init_70 hl (k := 1) rfl (nI_1 _) (by decide) rfl (fun ls hl => ?_)
    refine lv_goto (tgt := 57) hx hb dX2_init_73 (by decide) ?_
    exact ih (i + 1) H locs hO hA1 hA2 hA3 hA4 hA5 hZ hS ls (lv_sub hl [1, 0] rfl) (by omega)
