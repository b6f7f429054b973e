/-! ===== the class: methods that only read (written by program) ===== -/
set_option maxRecDepth 20000 in
theorem nX1_numberOf_0 : ∀ w ∈ u_ws RX0 TX0 6, w ∈ wsX1_numberOf := by decide +kernel
set_option maxHeartbeats 4000000 in
set_option maxRecDepth 100000 in
theorem kX1_numberOf_N (l : Launch) (E : q_E) (x T0 : Nat) (n : Nat) (kd sz : Nat → Nat) (sh : Nat → Bool) (nu : Nat → Nat → Int64) (pa : Nat → Nat → Option Nat) (sl : Nat → Option Nat) (ft tn ts tg : Int32) (hI : q_I (n, kd, sz, sh, nu, pa, sl, ft, tn, ts, tg))   : Met l yX1_numberOf wsX1_numberOf ({ frames := 0, cells := 0, slots := 0, locals := 0 }) (q_P E (q_X E x T0 (n, kd, sz, sh, nu, pa, sl, ft, tn, ts, tg)) [.null]) (vp_Si (fun rr => rr = (-1))) 0 0 (fun _ => False) := by
  refine Met.ofW (cc := cX1_numberOf) (maxL := 1) (ret := (some .int)) (by decide) rfl ?_
  intro p e s m args below meth c s₁ B hml hv
  obtain ⟨rfl, hK, hX⟩ := hv
  have hx := B.exec
  have hb := B.bytes
  have hr := B.returns
  have hts := atoms_spec (ws := wsX1_numberOf) B.pre
  have hown : s.vm.findClass RX1 = some m.cls := findClass_of_methodNamed B.named
  have hlocks := B.notSynchronized
  have hl := lv_entry ([.null]) (n := 1) (Nat.le_of_ble_eq_true rfl)
  rw [lg_entry_eq]
  generalize (lg_sl ([.null]) ++ List.replicate (1 - (lg_sl ([.null])).length) Slot.unset).toArray = ls at hl ⊢
  have hl : lv_has ls 1 [(0, .null)] := hl
  refine lv_aload_nN hx hb dX1_numberOf_0 rfl (lv_at hl 0 rfl) ?_
  refine lv_ifnonnullN hx hb dX1_numberOf_1 ?_
  refine lv_iconst (v := (-1)) hx hb dX1_numberOf_4 (by decide) ?_
  refine lv_goto (tgt := 12) hx hb dX1_numberOf_5 (by decide) ?_
  exact W.iret (v := ((-1))) hx hb hr (fun t ht hW => ⟨_, rfl, rfl, ht⟩) (fun _ h => absurd h List.not_mem_nil) dX1_numberOf_12
set_option maxHeartbeats 4000000 in
set_option maxRecDepth 100000 in
theorem kX1_numberOf_S (l : Launch) (E : q_E) (x T0 : Nat) (n : Nat) (kd sz : Nat → Nat) (sh : Nat → Bool) (nu : Nat → Nat → Int64) (pa : Nat → Nat → Option Nat) (sl : Nat → Option Nat) (ft tn ts tg : Int32) (hI : q_I (n, kd, sz, sh, nu, pa, sl, ft, tn, ts, tg)) (k : Nat) (hk : k < n)  : Met l yX1_numberOf wsX1_numberOf ({ frames := 0, cells := 0, slots := 0, locals := 0 }) (q_P E (q_X E x T0 (n, kd, sz, sh, nu, pa, sl, ft, tn, ts, tg)) [.ref (T0 + 3 * k)]) (vp_Si (fun rr => rr = nI k)) 0 0 (fun _ => False) := by
  refine Met.ofW (cc := cX1_numberOf) (maxL := 1) (ret := (some .int)) (by decide) rfl ?_
  intro p e s m args below meth c s₁ B hml hv
  obtain ⟨rfl, hK, hX⟩ := hv
  have hx := B.exec
  have hb := B.bytes
  have hr := B.returns
  have hts := atoms_spec (ws := wsX1_numberOf) B.pre
  have hown : s.vm.findClass RX1 = some m.cls := findClass_of_methodNamed B.named
  have hlocks := B.notSynchronized
  have hl := lv_entry ([.ref (T0 + 3 * k)]) (n := 1) (Nat.le_of_ble_eq_true rfl)
  rw [lg_entry_eq]
  generalize (lg_sl ([.ref (T0 + 3 * k)]) ++ List.replicate (1 - (lg_sl ([.ref (T0 + 3 * k)])).length) Slot.unset).toArray = ls at hl ⊢
  have hl : lv_has ls 1 [(0, .ref (T0 + 3 * k))] := hl
  obtain ⟨ak, bk, dk, wk⟩ := hI.2.1 k hk
  have n60 := hI.1
  try dsimp only at ak bk dk wk n60
  refine lv_aload_n hx hb dX1_numberOf_0 rfl (lv_at hl 0 rfl) ?_
  refine lv_ifnonnull (tgt := 8) hx hb dX1_numberOf_1 (by decide) ?_
  refine lv_aload_n hx hb dX1_numberOf_8 rfl (lv_at hl 0 rfl) ?_
  refine qw_get (v := .int (nI k)) (ci := 0) (C := RX0) (T := TX0) (N := 6) hx hb hts nX1_numberOf_0 hown hK (hX.2.2.1 k hk).1 rfl 0 (by decide) (hts (.fieldLink RX1 123 "DockGates$Thing" "number" "I") (by decide +kernel)) rfl rfl dX1_numberOf_9 ?_
  exact W.iret (v := nI k) hx hb hr (fun t ht hW => ⟨_, rfl, rfl, ht⟩) (fun _ h => absurd h List.not_mem_nil) dX1_numberOf_12
set_option maxRecDepth 20000 in
theorem nX1_letsThrough_0 : ∀ w ∈ u_ws RX0 TX0 6, w ∈ wsX1_letsThrough := by decide +kernel
set_option maxHeartbeats 4000000 in
set_option maxRecDepth 100000 in
theorem kX1_letsThrough_N (l : Launch) (E : q_E) (x T0 : Nat) (n : Nat) (kd sz : Nat → Nat) (sh : Nat → Bool) (nu : Nat → Nat → Int64) (pa : Nat → Nat → Option Nat) (sl : Nat → Option Nat) (ft tn ts tg : Int32) (hI : q_I (n, kd, sz, sh, nu, pa, sl, ft, tn, ts, tg)) (g : Nat)  : Met l yX1_letsThrough wsX1_letsThrough ({ frames := 0, cells := 0, slots := 0, locals := 0 }) (q_P E (q_X E x T0 (n, kd, sz, sh, nu, pa, sl, ft, tn, ts, tg)) [.int (nI g), .null]) (vp_Si (fun rr => rr = q_b false)) 0 0 (fun _ => False) := by
  refine Met.ofW (cc := cX1_letsThrough) (maxL := 3) (ret := (some .boolean)) (by decide) rfl ?_
  intro p e s m args below meth c s₁ B hml hv
  obtain ⟨rfl, hK, hX⟩ := hv
  have hx := B.exec
  have hb := B.bytes
  have hr := B.returns
  have hts := atoms_spec (ws := wsX1_letsThrough) B.pre
  have hown : s.vm.findClass RX1 = some m.cls := findClass_of_methodNamed B.named
  have hlocks := B.notSynchronized
  have hl := lv_entry ([.int (nI g), .null]) (n := 3) (Nat.le_of_ble_eq_true rfl)
  rw [lg_entry_eq]
  generalize (lg_sl ([.int (nI g), .null]) ++ List.replicate (3 - (lg_sl ([.int (nI g), .null])).length) Slot.unset).toArray = ls at hl ⊢
  have hl : lv_has ls 3 [(0, .int (nI g)), (1, .null)] := hl
  refine lv_aload_nN hx hb dX1_letsThrough_0 rfl (lv_at hl 1 rfl) ?_
  refine lv_ifnonnullN hx hb dX1_letsThrough_1 ?_
  refine lv_iconst (v := nI 0) hx hb dX1_letsThrough_4 (by decide) ?_
  exact W.zret (v := nI 0) hx hb hr rfl (fun t ht hW => ⟨_, rfl, rfl, ht⟩) (fun _ h => absurd h List.not_mem_nil) dX1_letsThrough_5
set_option maxHeartbeats 4000000 in
set_option maxRecDepth 100000 in
theorem kX1_letsThrough_S (l : Launch) (E : q_E) (x T0 : Nat) (n : Nat) (kd sz : Nat → Nat) (sh : Nat → Bool) (nu : Nat → Nat → Int64) (pa : Nat → Nat → Option Nat) (sl : Nat → Option Nat) (ft tn ts tg : Int32) (hI : q_I (n, kd, sz, sh, nu, pa, sl, ft, tn, ts, tg)) (g : Nat) (hg : g < 13) (k : Nat) (hk : k < n)  : Met l yX1_letsThrough wsX1_letsThrough ({ frames := 0, cells := 0, slots := 0, locals := 0 }) (q_P E (q_X E x T0 (n, kd, sz, sh, nu, pa, sl, ft, tn, ts, tg)) [.int (nI g), .ref (T0 + 3 * k)]) (vp_Si (fun rr => rr = q_b (q_go (kd k) g))) 0 0 (fun _ => False) := by
  refine Met.ofW (cc := cX1_letsThrough) (maxL := 3) (ret := (some .boolean)) (by decide) rfl ?_
  intro p e s m args below meth c s₁ B hml hv
  obtain ⟨rfl, hK, hX⟩ := hv
  have hx := B.exec
  have hb := B.bytes
  have hr := B.returns
  have hts := atoms_spec (ws := wsX1_letsThrough) B.pre
  have hown : s.vm.findClass RX1 = some m.cls := findClass_of_methodNamed B.named
  have hlocks := B.notSynchronized
  have hl := lv_entry ([.int (nI g), .ref (T0 + 3 * k)]) (n := 3) (Nat.le_of_ble_eq_true rfl)
  rw [lg_entry_eq]
  generalize (lg_sl ([.int (nI g), .ref (T0 + 3 * k)]) ++ List.replicate (3 - (lg_sl ([.int (nI g), .ref (T0 + 3 * k)])).length) Slot.unset).toArray = ls at hl ⊢
  have hl : lv_has ls 3 [(0, .int (nI g)), (1, .ref (T0 + 3 * k))] := hl
  obtain ⟨ak, bk, dk, wk⟩ := hI.2.1 k hk
  have n60 := hI.1
  try dsimp only at ak bk dk wk n60
  refine lv_aload_n hx hb dX1_letsThrough_0 rfl (lv_at hl 1 rfl) ?_
  refine lv_ifnonnull (tgt := 6) hx hb dX1_letsThrough_1 (by decide) ?_
  refine lv_aload_n hx hb dX1_letsThrough_6 rfl (lv_at hl 1 rfl) ?_
  refine qw_get (v := .int (nI (kd k))) (ci := 0) (C := RX0) (T := TX0) (N := 6) hx hb hts nX1_letsThrough_0 hown hK (hX.2.2.1 k hk).1 rfl 1 (by decide) (hts (.fieldLink RX1 79 "DockGates$Thing" "kind" "I") (by decide +kernel)) rfl rfl dX1_letsThrough_7 ?_
  refine lv_istore_n (lv' := [(2, .int (nI (kd k))), (0, .int (nI g)), (1, .ref (T0 + 3 * k))]) hx hb dX1_letsThrough_10 rfl hl (by decide) rfl (fun ls hl => ?_)
  refine lv_iload_n hx hb dX1_letsThrough_11 rfl (lv_at hl 0 rfl) ?_
  refine lv_iload_n hx hb dX1_letsThrough_12 rfl (lv_at hl 1 rfl) ?_
  refine ln_cmp_ne (tgt := 18) hx hb (by omega) (by omega) dX1_letsThrough_13 (by decide) (fun c_1 => ?_) (fun c_1 => ?_)
  · refine lv_iload_n hx hb dX1_letsThrough_18 rfl (lv_at hl 1 rfl) ?_
    have c_2 : g = 4 ∨ g = 6 ∨ g = 7 ∨ g = 9 ∨ g = 12 ∨ (¬ g = 4 ∧ ¬ g = 6 ∧ ¬ g = 7 ∧ ¬ g = 9 ∧ ¬ g = 12) := by omega
    rcases c_2 with c_2 | c_2 | c_2 | c_2 | c_2 | c_2
    · refine q_tIn (v := 4) (tgt := 68) (off := 49) hx hb c_2 dX1_letsThrough_19 (by decide) (by decide) (by decide) (by decide) ?_
      refine lv_iload_n hx hb dX1_letsThrough_68 rfl (lv_at hl 0 rfl) ?_
      refine lv_iconst (v := nI 5) hx hb dX1_letsThrough_69 (by decide) ?_
      refine ln_cmp_ne (tgt := 77) hx hb (by omega) (by omega) dX1_letsThrough_70 (by decide) (fun c_3 => ?_) (fun c_3 => ?_)
      · refine lv_iconst (v := nI 0) hx hb dX1_letsThrough_77 (by decide) ?_
        exact W.zret (v := nI 0) hx hb hr rfl (fun t ht hW => ⟨_, rfl, (q_b0 (by unfold q_go; simp only [decide_eq_false_iff_not]; omega)), ht⟩) (fun _ h => absurd h List.not_mem_nil) dX1_letsThrough_78
      · refine lv_iconst (v := nI 1) hx hb dX1_letsThrough_73 (by decide) ?_
        refine lv_goto (tgt := 78) hx hb dX1_letsThrough_74 (by decide) ?_
        exact W.zret (v := nI 1) hx hb hr rfl (fun t ht hW => ⟨_, rfl, (q_b1 (by unfold q_go; simp only [decide_eq_true_eq]; omega)), ht⟩) (fun _ h => absurd h List.not_mem_nil) dX1_letsThrough_78
    · refine q_tIn (v := 6) (tgt := 79) (off := 60) hx hb c_2 dX1_letsThrough_19 (by decide) (by decide) (by decide) (by decide) ?_
      refine lv_iload_n hx hb dX1_letsThrough_79 rfl (lv_at hl 0 rfl) ?_
      refine lv_iconst (v := nI 5) hx hb dX1_letsThrough_80 (by decide) ?_
      refine ln_cmp_eq (tgt := 89) hx hb (by omega) (by omega) dX1_letsThrough_81 (by decide) (fun c_4 => ?_) (fun c_4 => ?_)
      · refine lv_iconst (v := nI 1) hx hb dX1_letsThrough_89 (by decide) ?_
        refine lv_goto (tgt := 94) hx hb dX1_letsThrough_90 (by decide) ?_
        exact W.zret (v := nI 1) hx hb hr rfl (fun t ht hW => ⟨_, rfl, (q_b1 (by unfold q_go; simp only [decide_eq_true_eq]; omega)), ht⟩) (fun _ h => absurd h List.not_mem_nil) dX1_letsThrough_94
      · refine lv_iload_n hx hb dX1_letsThrough_84 rfl (lv_at hl 0 rfl) ?_
        refine lv_iconst (v := nI 4) hx hb dX1_letsThrough_85 (by decide) ?_
        refine ln_cmp_ne (tgt := 93) hx hb (by omega) (by omega) dX1_letsThrough_86 (by decide) (fun c_5 => ?_) (fun c_5 => ?_)
        · refine lv_iconst (v := nI 0) hx hb dX1_letsThrough_93 (by decide) ?_
          exact W.zret (v := nI 0) hx hb hr rfl (fun t ht hW => ⟨_, rfl, (q_b0 (by unfold q_go; simp only [decide_eq_false_iff_not]; omega)), ht⟩) (fun _ h => absurd h List.not_mem_nil) dX1_letsThrough_94
        · refine lv_iconst (v := nI 1) hx hb dX1_letsThrough_89 (by decide) ?_
          refine lv_goto (tgt := 94) hx hb dX1_letsThrough_90 (by decide) ?_
          exact W.zret (v := nI 1) hx hb hr rfl (fun t ht hW => ⟨_, rfl, (q_b1 (by unfold q_go; simp only [decide_eq_true_eq]; omega)), ht⟩) (fun _ h => absurd h List.not_mem_nil) dX1_letsThrough_94
    · refine q_tIn (v := 7) (tgt := 95) (off := 76) hx hb c_2 dX1_letsThrough_19 (by decide) (by decide) (by decide) (by decide) ?_
      refine lv_iload_n hx hb dX1_letsThrough_95 rfl (lv_at hl 0 rfl) ?_
      refine lv_bipush (v := nI 8) hx hb dX1_letsThrough_96 (by decide) ?_
      refine ln_cmp_ne (tgt := 105) hx hb (by omega) (by omega) dX1_letsThrough_98 (by decide) (fun c_6 => ?_) (fun c_6 => ?_)
      · refine lv_iconst (v := nI 0) hx hb dX1_letsThrough_105 (by decide) ?_
        exact W.zret (v := nI 0) hx hb hr rfl (fun t ht hW => ⟨_, rfl, (q_b0 (by unfold q_go; simp only [decide_eq_false_iff_not]; omega)), ht⟩) (fun _ h => absurd h List.not_mem_nil) dX1_letsThrough_106
      · refine lv_iconst (v := nI 1) hx hb dX1_letsThrough_101 (by decide) ?_
        refine lv_goto (tgt := 106) hx hb dX1_letsThrough_102 (by decide) ?_
        exact W.zret (v := nI 1) hx hb hr rfl (fun t ht hW => ⟨_, rfl, (q_b1 (by unfold q_go; simp only [decide_eq_true_eq]; omega)), ht⟩) (fun _ h => absurd h List.not_mem_nil) dX1_letsThrough_106
    · refine q_tIn (v := 9) (tgt := 107) (off := 88) hx hb c_2 dX1_letsThrough_19 (by decide) (by decide) (by decide) (by decide) ?_
      refine lv_iload_n hx hb dX1_letsThrough_107 rfl (lv_at hl 0 rfl) ?_
      refine lv_bipush (v := nI 10) hx hb dX1_letsThrough_108 (by decide) ?_
      refine ln_cmp_ne (tgt := 117) hx hb (by omega) (by omega) dX1_letsThrough_110 (by decide) (fun c_7 => ?_) (fun c_7 => ?_)
      · refine lv_iconst (v := nI 0) hx hb dX1_letsThrough_117 (by decide) ?_
        exact W.zret (v := nI 0) hx hb hr rfl (fun t ht hW => ⟨_, rfl, (q_b0 (by unfold q_go; simp only [decide_eq_false_iff_not]; omega)), ht⟩) (fun _ h => absurd h List.not_mem_nil) dX1_letsThrough_118
      · refine lv_iconst (v := nI 1) hx hb dX1_letsThrough_113 (by decide) ?_
        refine lv_goto (tgt := 118) hx hb dX1_letsThrough_114 (by decide) ?_
        exact W.zret (v := nI 1) hx hb hr rfl (fun t ht hW => ⟨_, rfl, (q_b1 (by unfold q_go; simp only [decide_eq_true_eq]; omega)), ht⟩) (fun _ h => absurd h List.not_mem_nil) dX1_letsThrough_118
    · refine q_tIn (v := 12) (tgt := 119) (off := 100) hx hb c_2 dX1_letsThrough_19 (by decide) (by decide) (by decide) (by decide) ?_
      refine lv_iload_n hx hb dX1_letsThrough_119 rfl (lv_at hl 0 rfl) ?_
      refine lv_bipush (v := nI 9) hx hb dX1_letsThrough_120 (by decide) ?_
      refine ln_cmp_eq (tgt := 137) hx hb (by omega) (by omega) dX1_letsThrough_122 (by decide) (fun c_8 => ?_) (fun c_8 => ?_)
      · refine lv_iconst (v := nI 1) hx hb dX1_letsThrough_137 (by decide) ?_
        refine lv_goto (tgt := 142) hx hb dX1_letsThrough_138 (by decide) ?_
        exact W.zret (v := nI 1) hx hb hr rfl (fun t ht hW => ⟨_, rfl, (q_b1 (by unfold q_go; simp only [decide_eq_true_eq]; omega)), ht⟩) (fun _ h => absurd h List.not_mem_nil) dX1_letsThrough_142
      · refine lv_iload_n hx hb dX1_letsThrough_125 rfl (lv_at hl 0 rfl) ?_
        refine lv_bipush (v := nI 10) hx hb dX1_letsThrough_126 (by decide) ?_
        refine ln_cmp_eq (tgt := 137) hx hb (by omega) (by omega) dX1_letsThrough_128 (by decide) (fun c_9 => ?_) (fun c_9 => ?_)
        · refine lv_iconst (v := nI 1) hx hb dX1_letsThrough_137 (by decide) ?_
          refine lv_goto (tgt := 142) hx hb dX1_letsThrough_138 (by decide) ?_
          exact W.zret (v := nI 1) hx hb hr rfl (fun t ht hW => ⟨_, rfl, (q_b1 (by unfold q_go; simp only [decide_eq_true_eq]; omega)), ht⟩) (fun _ h => absurd h List.not_mem_nil) dX1_letsThrough_142
        · refine lv_iload_n hx hb dX1_letsThrough_131 rfl (lv_at hl 0 rfl) ?_
          refine lv_bipush (v := nI 11) hx hb dX1_letsThrough_132 (by decide) ?_
          refine ln_cmp_ne (tgt := 141) hx hb (by omega) (by omega) dX1_letsThrough_134 (by decide) (fun c_10 => ?_) (fun c_10 => ?_)
          · refine lv_iconst (v := nI 0) hx hb dX1_letsThrough_141 (by decide) ?_
            exact W.zret (v := nI 0) hx hb hr rfl (fun t ht hW => ⟨_, rfl, (q_b0 (by unfold q_go; simp only [decide_eq_false_iff_not]; omega)), ht⟩) (fun _ h => absurd h List.not_mem_nil) dX1_letsThrough_142
          · refine lv_iconst (v := nI 1) hx hb dX1_letsThrough_137 (by decide) ?_
            refine lv_goto (tgt := 142) hx hb dX1_letsThrough_138 (by decide) ?_
            exact W.zret (v := nI 1) hx hb hr rfl (fun t ht hW => ⟨_, rfl, (q_b1 (by unfold q_go; simp only [decide_eq_true_eq]; omega)), ht⟩) (fun _ h => absurd h List.not_mem_nil) dX1_letsThrough_142
    · obtain ⟨c_2_4, c_2_6, c_2_7, c_2_9, c_2_12⟩ := c_2
      have c_11 : g = 5 ∨ g = 8 ∨ g = 10 ∨ g = 11 ∨ ((g : Int) < 4 ∨ 12 < (g : Int)) := by omega
      rcases c_11 with c_11 | c_11 | c_11 | c_11 | c_11
      · refine q_tIn (v := 5) (tgt := 143) (off := 124) hx hb c_11 dX1_letsThrough_19 (by decide) (by decide) (by decide) (by decide) ?_
        refine lv_iconst (v := nI 0) hx hb dX1_letsThrough_143 (by decide) ?_
        exact W.zret (v := nI 0) hx hb hr rfl (fun t ht hW => ⟨_, rfl, (q_b0 (by unfold q_go; simp only [decide_eq_false_iff_not]; omega)), ht⟩) (fun _ h => absurd h List.not_mem_nil) dX1_letsThrough_144
      · refine q_tIn (v := 8) (tgt := 143) (off := 124) hx hb c_11 dX1_letsThrough_19 (by decide) (by decide) (by decide) (by decide) ?_
        refine lv_iconst (v := nI 0) hx hb dX1_letsThrough_143 (by decide) ?_
        exact W.zret (v := nI 0) hx hb hr rfl (fun t ht hW => ⟨_, rfl, (q_b0 (by unfold q_go; simp only [decide_eq_false_iff_not]; omega)), ht⟩) (fun _ h => absurd h List.not_mem_nil) dX1_letsThrough_144
      · refine q_tIn (v := 10) (tgt := 143) (off := 124) hx hb c_11 dX1_letsThrough_19 (by decide) (by decide) (by decide) (by decide) ?_
        refine lv_iconst (v := nI 0) hx hb dX1_letsThrough_143 (by decide) ?_
        exact W.zret (v := nI 0) hx hb hr rfl (fun t ht hW => ⟨_, rfl, (q_b0 (by unfold q_go; simp only [decide_eq_false_iff_not]; omega)), ht⟩) (fun _ h => absurd h List.not_mem_nil) dX1_letsThrough_144
      · refine q_tIn (v := 11) (tgt := 143) (off := 124) hx hb c_11 dX1_letsThrough_19 (by decide) (by decide) (by decide) (by decide) ?_
        refine lv_iconst (v := nI 0) hx hb dX1_letsThrough_143 (by decide) ?_
        exact W.zret (v := nI 0) hx hb hr rfl (fun t ht hW => ⟨_, rfl, (q_b0 (by unfold q_go; simp only [decide_eq_false_iff_not]; omega)), ht⟩) (fun _ h => absurd h List.not_mem_nil) dX1_letsThrough_144
      · refine q_tOut (tgt := 143) hx hb (by omega) dX1_letsThrough_19 c_11 (by decide) ?_
        refine lv_iconst (v := nI 0) hx hb dX1_letsThrough_143 (by decide) ?_
        exact W.zret (v := nI 0) hx hb hr rfl (fun t ht hW => ⟨_, rfl, (q_b0 (by unfold q_go; simp only [decide_eq_false_iff_not]; omega)), ht⟩) (fun _ h => absurd h List.not_mem_nil) dX1_letsThrough_144
  · refine lv_iconst (v := nI 1) hx hb dX1_letsThrough_16 (by decide) ?_
    exact W.zret (v := nI 1) hx hb hr rfl (fun t ht hW => ⟨_, rfl, (q_b1 (by unfold q_go; simp only [decide_eq_true_eq]; omega)), ht⟩) (fun _ h => absurd h List.not_mem_nil) dX1_letsThrough_17
set_option maxRecDepth 20000 in
theorem nX1_lidOf_0 : ∀ w ∈ u_ws RX0 TX0 6, w ∈ wsX1_lidOf := by decide +kernel
set_option maxHeartbeats 4000000 in
set_option maxRecDepth 100000 in
theorem kX1_lidOf (l : Launch) (E : q_E) (x T0 : Nat) (n : Nat) (kd sz : Nat → Nat) (sh : Nat → Bool) (nu : Nat → Nat → Int64) (pa : Nat → Nat → Option Nat) (sl : Nat → Option Nat) (ft tn ts tg : Int32) (hI : q_I (n, kd, sz, sh, nu, pa, sl, ft, tn, ts, tg)) (k : Nat) (hk : k < n)  : Met l yX1_lidOf wsX1_lidOf ({ frames := 0, cells := 0, slots := 0, locals := 0 }) (q_P E (q_X E x T0 (n, kd, sz, sh, nu, pa, sl, ft, tn, ts, tg)) [.ref (T0 + 3 * k)]) (vp_Si (fun rr => rr = nI (if sh k then 1 else 0))) 0 0 (fun _ => False) := by
  refine Met.ofW (cc := cX1_lidOf) (maxL := 1) (ret := (some .int)) (by decide) rfl ?_
  intro p e s m args below meth c s₁ B hml hv
  obtain ⟨rfl, hK, hX⟩ := hv
  have hx := B.exec
  have hb := B.bytes
  have hr := B.returns
  have hts := atoms_spec (ws := wsX1_lidOf) B.pre
  have hown : s.vm.findClass RX1 = some m.cls := findClass_of_methodNamed B.named
  have hlocks := B.notSynchronized
  have hl := lv_entry ([.ref (T0 + 3 * k)]) (n := 1) (Nat.le_of_ble_eq_true rfl)
  rw [lg_entry_eq]
  generalize (lg_sl ([.ref (T0 + 3 * k)]) ++ List.replicate (1 - (lg_sl ([.ref (T0 + 3 * k)])).length) Slot.unset).toArray = ls at hl ⊢
  have hl : lv_has ls 1 [(0, .ref (T0 + 3 * k))] := hl
  obtain ⟨ak, bk, dk, wk⟩ := hI.2.1 k hk
  have n60 := hI.1
  try dsimp only at ak bk dk wk n60
  refine lv_aload_n hx hb dX1_lidOf_0 rfl (lv_at hl 0 rfl) ?_
  refine qw_get (v := .int (q_b (sh k))) (ci := 0) (C := RX0) (T := TX0) (N := 6) hx hb hts nX1_lidOf_0 hown hK (hX.2.2.1 k hk).1 rfl 5 (by decide) (hts (.fieldLink RX1 109 "DockGates$Thing" "shut" "Z") (by decide +kernel)) rfl rfl dX1_lidOf_1 ?_
  refine ln_b_eq (tgt := 11) hx hb dX1_lidOf_4 (by decide) (fun c_1 => ?_) (fun c_1 => ?_)
  · refine lv_iconst (v := nI 0) hx hb dX1_lidOf_11 (by decide) ?_
    exact W.iret (v := nI 0) hx hb hr (fun t ht hW => ⟨_, rfl, (q_c (by simp [c_1])), ht⟩) (fun _ h => absurd h List.not_mem_nil) dX1_lidOf_12
  · refine lv_iconst (v := nI 1) hx hb dX1_lidOf_7 (by decide) ?_
    refine lv_goto (tgt := 12) hx hb dX1_lidOf_8 (by decide) ?_
    exact W.iret (v := nI 1) hx hb hr (fun t ht hW => ⟨_, rfl, (q_c (by simp [c_1])), ht⟩) (fun _ h => absurd h List.not_mem_nil) dX1_lidOf_12
set_option maxRecDepth 20000 in
theorem nX1_toldByLoad_0 : ∀ w ∈ u_ws RX0 TX0 6, w ∈ wsX1_toldByLoad := by decide +kernel
set_option maxHeartbeats 4000000 in
set_option maxRecDepth 100000 in
theorem kX1_toldByLoad_T (l : Launch) (E : q_E) (x T0 : Nat) (n : Nat) (kd sz : Nat → Nat) (sh : Nat → Bool) (nu : Nat → Nat → Int64) (pa : Nat → Nat → Option Nat) (sl : Nat → Option Nat) (ft tn ts tg : Int32) (hI : q_I (n, kd, sz, sh, nu, pa, sl, ft, tn, ts, tg)) (k : Nat) (hk : k < n)  : Met l yX1_toldByLoad wsX1_toldByLoad ({ frames := 1, cells := 0, slots := 0, locals := 20 }) (q_P E (q_X E x T0 (n, kd, sz, sh, nu, pa, sl, ft, tn, ts, tg)) [.ref (T0 + 3 * k), .int (nI 10)]) (vp_Si (fun rr => rr = nI (if sh k then 1 else 0))) 0 0 (fun _ => False) := by
  refine Met.ofW (cc := cX1_toldByLoad) (maxL := 2) (ret := (some .int)) (by decide) rfl ?_
  intro p e s m args below meth c s₁ B hml hv
  obtain ⟨rfl, hK, hX⟩ := hv
  have hx := B.exec
  have hb := B.bytes
  have hr := B.returns
  have hts := atoms_spec (ws := wsX1_toldByLoad) B.pre
  have hown : s.vm.findClass RX1 = some m.cls := findClass_of_methodNamed B.named
  have hlocks := B.notSynchronized
  have hl := lv_entry ([.ref (T0 + 3 * k), .int (nI 10)]) (n := 2) (Nat.le_of_ble_eq_true rfl)
  rw [lg_entry_eq]
  generalize (lg_sl ([.ref (T0 + 3 * k), .int (nI 10)]) ++ List.replicate (2 - (lg_sl ([.ref (T0 + 3 * k), .int (nI 10)])).length) Slot.unset).toArray = ls at hl ⊢
  have hl : lv_has ls 2 [(0, .ref (T0 + 3 * k)), (1, .int (nI 10))] := hl
  obtain ⟨ak, bk, dk, wk⟩ := hI.2.1 k hk
  have n60 := hI.1
  try dsimp only at ak bk dk wk n60
  refine lv_iload_n hx hb dX1_toldByLoad_0 rfl (lv_at hl 1 rfl) ?_
  refine q_lk (v := 10) (tgt := 28) (off := 27) hx hb rfl dX1_toldByLoad_1 (by decide) (by decide) (by decide) ?_
  refine lv_aload_n hx hb dX1_toldByLoad_28 rfl (lv_at hl 0 rfl) ?_
  refine qc_ri (r1 := nI (if sh k then 1 else 0)) (W.runS (As := [.ref (T0 + 3 * k)]) (rest := []) ⟨hx, hb, hml, hown, hts⟩ (kX1_lidOf l E x T0 n kd sz sh nu pa sl ft tn ts tg hI k hk) (va_cwS 1 hts gX1_toldByLoad_X1_lidOf rfl rfl rfl (by decide +kernel) ⟨Nat.le_of_ble_eq_true rfl, Nat.le_of_ble_eq_true rfl⟩) (q_pre hK hX) rfl rfl hl.1 rfl (lv_room (Nat.le_of_ble_eq_true rfl)) dX1_toldByLoad_29 ⟨Nat.le_of_ble_eq_true rfl, Nat.le_of_ble_eq_true rfl⟩) rfl ?_
  exact W.iret (v := nI (if sh k then 1 else 0)) hx hb hr (fun t ht hW => ⟨_, rfl, rfl, ht⟩) (fun _ h => absurd h List.not_mem_nil) dX1_toldByLoad_32
set_option maxHeartbeats 4000000 in
set_option maxRecDepth 100000 in
theorem kX1_toldByLoad_W (l : Launch) (E : q_E) (x T0 : Nat) (n : Nat) (kd sz : Nat → Nat) (sh : Nat → Bool) (nu : Nat → Nat → Int64) (pa : Nat → Nat → Option Nat) (sl : Nat → Option Nat) (ft tn ts tg : Int32) (hI : q_I (n, kd, sz, sh, nu, pa, sl, ft, tn, ts, tg)) (k : Nat) (hk : k < n) (h9 : 9 ≤ kd k)  : Met l yX1_toldByLoad wsX1_toldByLoad ({ frames := 1, cells := 0, slots := 0, locals := 20 }) (q_P E (q_X E x T0 (n, kd, sz, sh, nu, pa, sl, ft, tn, ts, tg)) [.ref (T0 + 3 * k), .int (nI 12)]) (vp_Si (fun rr => rr = nI (q_w kd sz sh k))) 0 0 (fun _ => False) := by
  refine Met.ofW (cc := cX1_toldByLoad) (maxL := 2) (ret := (some .int)) (by decide) rfl ?_
  intro p e s m args below meth c s₁ B hml hv
  obtain ⟨rfl, hK, hX⟩ := hv
  have hx := B.exec
  have hb := B.bytes
  have hr := B.returns
  have hts := atoms_spec (ws := wsX1_toldByLoad) B.pre
  have hown : s.vm.findClass RX1 = some m.cls := findClass_of_methodNamed B.named
  have hlocks := B.notSynchronized
  have hl := lv_entry ([.ref (T0 + 3 * k), .int (nI 12)]) (n := 2) (Nat.le_of_ble_eq_true rfl)
  rw [lg_entry_eq]
  generalize (lg_sl ([.ref (T0 + 3 * k), .int (nI 12)]) ++ List.replicate (2 - (lg_sl ([.ref (T0 + 3 * k), .int (nI 12)])).length) Slot.unset).toArray = ls at hl ⊢
  have hl : lv_has ls 2 [(0, .ref (T0 + 3 * k)), (1, .int (nI 12))] := hl
  obtain ⟨ak, bk, dk, wk⟩ := hI.2.1 k hk
  have n60 := hI.1
  try dsimp only at ak bk dk wk n60
  refine lv_iload_n hx hb dX1_toldByLoad_0 rfl (lv_at hl 1 rfl) ?_
  refine q_lk (v := 12) (tgt := 33) (off := 32) hx hb rfl dX1_toldByLoad_1 (by decide) (by decide) (by decide) ?_
  refine lv_aload_n hx hb dX1_toldByLoad_33 rfl (lv_at hl 0 rfl) ?_
  refine qw_get (v := .int (nI (kd k))) (ci := 0) (C := RX0) (T := TX0) (N := 6) hx hb hts nX1_toldByLoad_0 hown hK (hX.2.2.1 k hk).1 rfl 1 (by decide) (hts (.fieldLink RX1 79 "DockGates$Thing" "kind" "I") (by decide +kernel)) rfl rfl dX1_toldByLoad_34 ?_
  refine lv_bipush (v := nI 11) hx hb dX1_toldByLoad_37 (by decide) ?_
  refine ln_cmp_ne (tgt := 51) hx hb (by omega) (by omega) dX1_toldByLoad_39 (by decide) (fun c_1 => ?_) (fun c_1 => ?_)
  · refine lv_aload_n hx hb dX1_toldByLoad_51 rfl (lv_at hl 0 rfl) ?_
    refine qw_get (v := .int (nI (q_am (kd k) (sz k)))) (ci := 0) (C := RX0) (T := TX0) (N := 6) hx hb hts nX1_toldByLoad_0 hown hK (hX.2.2.1 k hk).1 rfl 4 (by decide) (hts (.fieldLink RX1 114 "DockGates$Thing" "amount" "I") (by decide +kernel)) rfl rfl dX1_toldByLoad_52 ?_
    refine lv_aload_n hx hb dX1_toldByLoad_55 rfl (lv_at hl 0 rfl) ?_
    refine qc_ri (r1 := nI (if sh k then 1 else 0)) (W.runS (As := [.ref (T0 + 3 * k)]) (rest := [.int (nI (q_am (kd k) (sz k)))]) ⟨hx, hb, hml, hown, hts⟩ (kX1_lidOf l E x T0 n kd sz sh nu pa sl ft tn ts tg hI k hk) (va_cwS 1 hts gX1_toldByLoad_X1_lidOf rfl rfl rfl (by decide +kernel) ⟨Nat.le_of_ble_eq_true rfl, Nat.le_of_ble_eq_true rfl⟩) (q_pre hK hX) rfl rfl hl.1 rfl (lv_room (Nat.le_of_ble_eq_true rfl)) dX1_toldByLoad_56 ⟨Nat.le_of_ble_eq_true rfl, Nat.le_of_ble_eq_true rfl⟩) rfl ?_
    refine ln_add hx hb dX1_toldByLoad_59 ?_
    exact W.iret (v := nI ((q_am (kd k) (sz k)) + (if sh k then 1 else 0))) hx hb hr (fun t ht hW => ⟨_, rfl, (q_c (by simp only [q_am9 h9]; unfold q_w; simp [c_1])), ht⟩) (fun _ h => absurd h List.not_mem_nil) dX1_toldByLoad_60
  · refine lv_iconst (v := nI 2) hx hb dX1_toldByLoad_42 (by decide) ?_
    refine lv_aload_n hx hb dX1_toldByLoad_43 rfl (lv_at hl 0 rfl) ?_
    refine qw_get (v := .int (nI (q_am (kd k) (sz k)))) (ci := 0) (C := RX0) (T := TX0) (N := 6) hx hb hts nX1_toldByLoad_0 hown hK (hX.2.2.1 k hk).1 rfl 4 (by decide) (hts (.fieldLink RX1 114 "DockGates$Thing" "amount" "I") (by decide +kernel)) rfl rfl dX1_toldByLoad_44 ?_
    refine ln_mul hx hb dX1_toldByLoad_47 ?_
    refine lv_goto (tgt := 60) hx hb dX1_toldByLoad_48 (by decide) ?_
    exact W.iret (v := nI (2 * (q_am (kd k) (sz k)))) hx hb hr (fun t ht hW => ⟨_, rfl, (q_c (by simp only [q_am9 h9]; unfold q_w; simp [c_1])), ht⟩) (fun _ h => absurd h List.not_mem_nil) dX1_toldByLoad_60
set_option maxHeartbeats 4000000 in
set_option maxRecDepth 100000 in
theorem kX1_toldByLoad_A (l : Launch) (E : q_E) (x T0 : Nat) (n : Nat) (kd sz : Nat → Nat) (sh : Nat → Bool) (nu : Nat → Nat → Int64) (pa : Nat → Nat → Option Nat) (sl : Nat → Option Nat) (ft tn ts tg : Int32) (hI : q_I (n, kd, sz, sh, nu, pa, sl, ft, tn, ts, tg)) (k g : Nat) (hk : k < n) (h9 : 9 ≤ kd k) (hg : g = 9 ∨ g = 11)  : Met l yX1_toldByLoad wsX1_toldByLoad ({ frames := 1, cells := 0, slots := 0, locals := 20 }) (q_P E (q_X E x T0 (n, kd, sz, sh, nu, pa, sl, ft, tn, ts, tg)) [.ref (T0 + 3 * k), .int (nI g)]) (vp_Si (fun rr => rr = nI (sz k))) 0 0 (fun _ => False) := by
  refine Met.ofW (cc := cX1_toldByLoad) (maxL := 2) (ret := (some .int)) (by decide) rfl ?_
  intro p e s m args below meth c s₁ B hml hv
  obtain ⟨rfl, hK, hX⟩ := hv
  have hx := B.exec
  have hb := B.bytes
  have hr := B.returns
  have hts := atoms_spec (ws := wsX1_toldByLoad) B.pre
  have hown : s.vm.findClass RX1 = some m.cls := findClass_of_methodNamed B.named
  have hlocks := B.notSynchronized
  have hl := lv_entry ([.ref (T0 + 3 * k), .int (nI g)]) (n := 2) (Nat.le_of_ble_eq_true rfl)
  rw [lg_entry_eq]
  generalize (lg_sl ([.ref (T0 + 3 * k), .int (nI g)]) ++ List.replicate (2 - (lg_sl ([.ref (T0 + 3 * k), .int (nI g)])).length) Slot.unset).toArray = ls at hl ⊢
  have hl : lv_has ls 2 [(0, .ref (T0 + 3 * k)), (1, .int (nI g))] := hl
  obtain ⟨ak, bk, dk, wk⟩ := hI.2.1 k hk
  have n60 := hI.1
  try dsimp only at ak bk dk wk n60
  refine lv_iload_n hx hb dX1_toldByLoad_0 rfl (lv_at hl 1 rfl) ?_
  have c_1 : g = 10 ∨ g = 12 ∨ (¬ g = 10 ∧ ¬ g = 12) := by omega
  rcases c_1 with c_1 | c_1 | c_1
  · refine q_lk (v := 10) (tgt := 28) (off := 27) hx hb c_1 dX1_toldByLoad_1 (by decide) (by decide) (by decide) ?_
    refine lv_aload_n hx hb dX1_toldByLoad_28 rfl (lv_at hl 0 rfl) ?_
    refine qc_ri (r1 := nI (if sh k then 1 else 0)) (W.runS (As := [.ref (T0 + 3 * k)]) (rest := []) ⟨hx, hb, hml, hown, hts⟩ (kX1_lidOf l E x T0 n kd sz sh nu pa sl ft tn ts tg hI k hk) (va_cwS 1 hts gX1_toldByLoad_X1_lidOf rfl rfl rfl (by decide +kernel) ⟨Nat.le_of_ble_eq_true rfl, Nat.le_of_ble_eq_true rfl⟩) (q_pre hK hX) rfl rfl hl.1 rfl (lv_room (Nat.le_of_ble_eq_true rfl)) dX1_toldByLoad_29 ⟨Nat.le_of_ble_eq_true rfl, Nat.le_of_ble_eq_true rfl⟩) rfl ?_
    exact W.iret (v := nI (if sh k then 1 else 0)) hx hb hr (fun t ht hW => ⟨_, rfl, (by omega), ht⟩) (fun _ h => absurd h List.not_mem_nil) dX1_toldByLoad_32
  · refine q_lk (v := 12) (tgt := 33) (off := 32) hx hb c_1 dX1_toldByLoad_1 (by decide) (by decide) (by decide) ?_
    refine lv_aload_n hx hb dX1_toldByLoad_33 rfl (lv_at hl 0 rfl) ?_
    refine qw_get (v := .int (nI (kd k))) (ci := 0) (C := RX0) (T := TX0) (N := 6) hx hb hts nX1_toldByLoad_0 hown hK (hX.2.2.1 k hk).1 rfl 1 (by decide) (hts (.fieldLink RX1 79 "DockGates$Thing" "kind" "I") (by decide +kernel)) rfl rfl dX1_toldByLoad_34 ?_
    refine lv_bipush (v := nI 11) hx hb dX1_toldByLoad_37 (by decide) ?_
    refine ln_cmp_ne (tgt := 51) hx hb (by omega) (by omega) dX1_toldByLoad_39 (by decide) (fun c_2 => ?_) (fun c_2 => ?_)
    · refine lv_aload_n hx hb dX1_toldByLoad_51 rfl (lv_at hl 0 rfl) ?_
      refine qw_get (v := .int (nI (q_am (kd k) (sz k)))) (ci := 0) (C := RX0) (T := TX0) (N := 6) hx hb hts nX1_toldByLoad_0 hown hK (hX.2.2.1 k hk).1 rfl 4 (by decide) (hts (.fieldLink RX1 114 "DockGates$Thing" "amount" "I") (by decide +kernel)) rfl rfl dX1_toldByLoad_52 ?_
      refine lv_aload_n hx hb dX1_toldByLoad_55 rfl (lv_at hl 0 rfl) ?_
      refine qc_ri (r1 := nI (if sh k then 1 else 0)) (W.runS (As := [.ref (T0 + 3 * k)]) (rest := [.int (nI (q_am (kd k) (sz k)))]) ⟨hx, hb, hml, hown, hts⟩ (kX1_lidOf l E x T0 n kd sz sh nu pa sl ft tn ts tg hI k hk) (va_cwS 1 hts gX1_toldByLoad_X1_lidOf rfl rfl rfl (by decide +kernel) ⟨Nat.le_of_ble_eq_true rfl, Nat.le_of_ble_eq_true rfl⟩) (q_pre hK hX) rfl rfl hl.1 rfl (lv_room (Nat.le_of_ble_eq_true rfl)) dX1_toldByLoad_56 ⟨Nat.le_of_ble_eq_true rfl, Nat.le_of_ble_eq_true rfl⟩) rfl ?_
      refine ln_add hx hb dX1_toldByLoad_59 ?_
      exact W.iret (v := nI ((q_am (kd k) (sz k)) + (if sh k then 1 else 0))) hx hb hr (fun t ht hW => ⟨_, rfl, (by omega), ht⟩) (fun _ h => absurd h List.not_mem_nil) dX1_toldByLoad_60
    · refine lv_iconst (v := nI 2) hx hb dX1_toldByLoad_42 (by decide) ?_
      refine lv_aload_n hx hb dX1_toldByLoad_43 rfl (lv_at hl 0 rfl) ?_
      refine qw_get (v := .int (nI (q_am (kd k) (sz k)))) (ci := 0) (C := RX0) (T := TX0) (N := 6) hx hb hts nX1_toldByLoad_0 hown hK (hX.2.2.1 k hk).1 rfl 4 (by decide) (hts (.fieldLink RX1 114 "DockGates$Thing" "amount" "I") (by decide +kernel)) rfl rfl dX1_toldByLoad_44 ?_
      refine ln_mul hx hb dX1_toldByLoad_47 ?_
      refine lv_goto (tgt := 60) hx hb dX1_toldByLoad_48 (by decide) ?_
      exact W.iret (v := nI (2 * (q_am (kd k) (sz k)))) hx hb hr (fun t ht hW => ⟨_, rfl, (by omega), ht⟩) (fun _ h => absurd h List.not_mem_nil) dX1_toldByLoad_60
  · obtain ⟨c_1_10, c_1_12⟩ := c_1
    refine q_lkd (tgt := 61) hx hb (by omega) dX1_toldByLoad_1 (by decide) (by simp [Op.lookupswitch.offset_cons, Op.lookupswitch.offset, show ¬ (10 : Int) = (g : Nat) by omega, show ¬ (12 : Int) = (g : Nat) by omega]) (by decide) ?_
    refine lv_aload_n hx hb dX1_toldByLoad_61 rfl (lv_at hl 0 rfl) ?_
    refine qw_get (v := .int (nI (q_am (kd k) (sz k)))) (ci := 0) (C := RX0) (T := TX0) (N := 6) hx hb hts nX1_toldByLoad_0 hown hK (hX.2.2.1 k hk).1 rfl 4 (by decide) (hts (.fieldLink RX1 114 "DockGates$Thing" "amount" "I") (by decide +kernel)) rfl rfl dX1_toldByLoad_62 ?_
    exact W.iret (v := nI (q_am (kd k) (sz k))) hx hb hr (fun t ht hW => ⟨_, rfl, (q_c (q_am9 h9)), ht⟩) (fun _ h => absurd h List.not_mem_nil) dX1_toldByLoad_65
set_option maxRecDepth 20000 in
theorem nX1_lacksPart_0 : ∀ w ∈ u_ws RX0 TX0 6, w ∈ wsX1_lacksPart := by decide +kernel
set_option maxHeartbeats 4000000 in
set_option maxRecDepth 100000 in
theorem kX1_lacksPart (l : Launch) (E : q_E) (x T0 : Nat) (n : Nat) (kd sz : Nat → Nat) (sh : Nat → Bool) (nu : Nat → Nat → Int64) (pa : Nat → Nat → Option Nat) (sl : Nat → Option Nat) (ft tn ts tg : Int32) (hI : q_I (n, kd, sz, sh, nu, pa, sl, ft, tn, ts, tg)) (k : Nat) (hk : k < n)  : Met l yX1_lacksPart wsX1_lacksPart ({ frames := 0, cells := 0, slots := 0, locals := 0 }) (q_P E (q_X E x T0 (n, kd, sz, sh, nu, pa, sl, ft, tn, ts, tg)) [.ref (T0 + 3 * k)]) (vp_Si (fun rr => rr = q_b (q_ho1 kd sz pa k))) 0 0 (fun _ => False) := by
  refine Met.ofW (cc := cX1_lacksPart) (maxL := 5) (ret := (some .boolean)) (by decide) rfl ?_
  intro p e s m args below meth c s₁ B hml hv
  obtain ⟨rfl, hK, hX⟩ := hv
  have hx := B.exec
  have hb := B.bytes
  have hr := B.returns
  have hts := atoms_spec (ws := wsX1_lacksPart) B.pre
  have hown : s.vm.findClass RX1 = some m.cls := findClass_of_methodNamed B.named
  have hlocks := B.notSynchronized
  have hl := lv_entry ([.ref (T0 + 3 * k)]) (n := 5) (Nat.le_of_ble_eq_true rfl)
  rw [lg_entry_eq]
  generalize (lg_sl ([.ref (T0 + 3 * k)]) ++ List.replicate (5 - (lg_sl ([.ref (T0 + 3 * k)])).length) Slot.unset).toArray = ls at hl ⊢
  have hl : lv_has ls 5 [(0, .ref (T0 + 3 * k))] := hl
  obtain ⟨ak, bk, dk, wk⟩ := hI.2.1 k hk
  have n60 := hI.1
  try dsimp only at ak bk dk wk n60
  have hpl := q_pl_le (kd k) (sz k)
  refine lv_aload_n hx hb dX1_lacksPart_0 rfl (lv_at hl 0 rfl) ?_
  refine qw_get (v := .ref (T0 + 3 * k + 2)) (ci := 0) (C := RX0) (T := TX0) (N := 6) hx hb hts nX1_lacksPart_0 hown hK (hX.2.2.1 k hk).1 rfl 3 (by decide) (hts (.fieldLink RX1 96 "DockGates$Thing" "parts" "[LDockGates$Thing;") (by decide +kernel)) rfl rfl dX1_lacksPart_1 ?_
  refine lv_astore_n (lv' := [(1, .ref (T0 + 3 * k + 2)), (0, .ref (T0 + 3 * k))]) hx hb dX1_lacksPart_4 rfl hl (by decide) rfl (fun ls hl => ?_)
  refine lv_aload_n hx hb dX1_lacksPart_5 rfl (lv_at hl 0 rfl) ?_
  refine qw_tlen (n := q_pl (kd k) (sz k)) hx hb hK (hX.2.2.1 k hk).2.2 dX1_lacksPart_6 ?_
  refine lv_istore_n (lv' := [(2, .int (nI (q_pl (kd k) (sz k)))), (1, .ref (T0 + 3 * k + 2)), (0, .ref (T0 + 3 * k))]) hx hb dX1_lacksPart_7 rfl hl (by decide) rfl (fun ls hl => ?_)
  refine lv_iconst (v := nI 0) hx hb dX1_lacksPart_8 (by decide) ?_
  refine lv_istore_n (lv' := [(3, .int (nI 0)), (2, .int (nI (q_pl (kd k) (sz k)))), (1, .ref (T0 + 3 * k + 2)), (0, .ref (T0 + 3 * k))]) hx hb dX1_lacksPart_9 rfl hl (by decide) rfl (fun ls hl => ?_)
  obtain ⟨i, ei⟩ : ∃ i : Nat, i = 0 := ⟨_, rfl⟩
  have hl : lv_has ls 5 [(0, .ref (T0 + 3 * k)), (1, .ref (T0 + 3 * k + 2)), (2, .int (nI (q_pl (kd k) (sz k)))), (3, .int (nI i))] := by subst ei; exact lv_sub hl [3, 2, 1, 0] rfl
  generalize els : ls = lz at hl ⊢
  clear els
  have hin : q_h1 (pa k) i = false := by subst ei; exact rfl
  obtain ⟨d, hd⟩ : ∃ d, i + d = q_pl (kd k) (sz k) := ⟨q_pl (kd k) (sz k) - i, by omega⟩
  clear ei
  induction d generalizing i lz with
  | zero =>
    refine lv_iload_n hx hb dX1_lacksPart_10 rfl (lv_at hl 3 rfl) ?_
    refine lv_iload_n hx hb dX1_lacksPart_11 rfl (lv_at hl 2 rfl) ?_
    refine ln_cmp_ge (tgt := 33) hx hb (by omega) (by omega) dX1_lacksPart_12 (by decide) (fun _ => ?_) (fun c_1 => absurd c_1 (by omega))
    refine lv_iconst (v := nI 0) hx hb dX1_lacksPart_33 (by decide) ?_
    exact W.zret (v := nI 0) hx hb hr rfl (fun t ht hW => ⟨_, rfl, (q_b0 (by unfold q_ho1; rw [← hd]; exact hin)), ht⟩) (fun _ h => absurd h List.not_mem_nil) dX1_lacksPart_34
  | succ d ih =>
    refine lv_iload_n hx hb dX1_lacksPart_10 rfl (lv_at hl 3 rfl) ?_
    refine lv_iload_n hx hb dX1_lacksPart_11 rfl (lv_at hl 2 rfl) ?_
    refine ln_cmp_ge (tgt := 33) hx hb (by omega) (by omega) dX1_lacksPart_12 (by decide) (fun c_2 => absurd c_2 (by omega)) (fun _ => ?_)
    refine lv_aload_n hx hb dX1_lacksPart_15 rfl (lv_at hl 1 rfl) ?_
    refine lv_iload_n hx hb dX1_lacksPart_16 rfl (lv_at hl 3 rfl) ?_
    refine qx_part hx hb hK hX hI hk (show i < q_pl (kd k) (sz k) by omega) dX1_lacksPart_17 (fun s_3 => ?_) (fun j_3 hj_3 oj_3 s_3 => ?_)
    · try dsimp only at s_3
      refine lv_astoreN (lv' := [(4, .null), (0, .ref (T0 + 3 * k)), (1, .ref (T0 + 3 * k + 2)), (2, .int (nI (q_pl (kd k) (sz k)))), (3, .int (nI i))]) hx hb dX1_lacksPart_18 hl (by decide) rfl (fun ls hl => ?_)
      refine lv_aloadN hx hb dX1_lacksPart_20 (lv_at hl 0 rfl) ?_
      refine lv_ifnonnullN hx hb dX1_lacksPart_22 ?_
      refine lv_iconst (v := nI 1) hx hb dX1_lacksPart_25 (by decide) ?_
      exact W.zret (v := nI 1) hx hb hr rfl (fun t ht hW => ⟨_, rfl, (q_b1 (q_h1_t s_3 (by omega))), ht⟩) (fun _ h => absurd h List.not_mem_nil) dX1_lacksPart_26
    · try dsimp only at s_3 hj_3 oj_3
      unfold q_ok at oj_3
      obtain ⟨aj_3, bj_3, dj_3, wj_3⟩ := hI.2.1 j_3 hj_3
      have n60 := hI.1
      try dsimp only at aj_3 bj_3 dj_3 wj_3 n60
      refine lv_astore (lv' := [(4, .ref (T0 + 3 * j_3)), (0, .ref (T0 + 3 * k)), (1, .ref (T0 + 3 * k + 2)), (2, .int (nI (q_pl (kd k) (sz k)))), (3, .int (nI i))]) hx hb dX1_lacksPart_18 hl (by decide) rfl (fun ls hl => ?_)
      refine lv_aload hx hb dX1_lacksPart_20 (lv_at hl 0 rfl) ?_
      refine lv_ifnonnull (tgt := 27) hx hb dX1_lacksPart_22 (by decide) ?_
      refine lv_iinc (v := nI (i + 1)) (lv' := [(3, .int (nI (i + 1))), (4, .ref (T0 + 3 * j_3)), (0, .ref (T0 + 3 * k)), (1, .ref (T0 + 3 * k + 2)), (2, .int (nI (q_pl (kd k) (sz k))))]) hx hb dX1_lacksPart_27 hl (k := 4) rfl (nI_1 _) (by decide) rfl (fun ls hl => ?_)
      refine lv_goto (tgt := 10) hx hb dX1_lacksPart_30 (by decide) ?_
      exact ih (i + 1) ls (lv_sub hl [2, 3, 4, 0] rfl) (by simp [q_h1, hin, s_3]) (by omega) 
set_option maxRecDepth 20000 in
theorem nX1_hasHole_0 : ∀ w ∈ u_ws RX0 TX0 6, w ∈ wsX1_hasHole := by decide +kernel
set_option maxHeartbeats 4000000 in
set_option maxRecDepth 100000 in
theorem kX1_hasHole (l : Launch) (E : q_E) (x T0 : Nat) (n : Nat) (kd sz : Nat → Nat) (sh : Nat → Bool) (nu : Nat → Nat → Int64) (pa : Nat → Nat → Option Nat) (sl : Nat → Option Nat) (ft tn ts tg : Int32) (hI : q_I (n, kd, sz, sh, nu, pa, sl, ft, tn, ts, tg)) (k : Nat) (hk : k < n)  : Met l yX1_hasHole wsX1_hasHole ({ frames := 1, cells := 0, slots := 0, locals := 24 }) (q_P E (q_X E x T0 (n, kd, sz, sh, nu, pa, sl, ft, tn, ts, tg)) [.ref (T0 + 3 * k)]) (vp_Si (fun rr => rr = q_b (q_ho2 kd sz pa k))) 0 0 (fun _ => False) := by
  refine Met.ofW (cc := cX1_hasHole) (maxL := 5) (ret := (some .boolean)) (by decide) rfl ?_
  intro p e s m args below meth c s₁ B hml hv
  obtain ⟨rfl, hK, hX⟩ := hv
  have hx := B.exec
  have hb := B.bytes
  have hr := B.returns
  have hts := atoms_spec (ws := wsX1_hasHole) B.pre
  have hown : s.vm.findClass RX1 = some m.cls := findClass_of_methodNamed B.named
  have hlocks := B.notSynchronized
  have hl := lv_entry ([.ref (T0 + 3 * k)]) (n := 5) (Nat.le_of_ble_eq_true rfl)
  rw [lg_entry_eq]
  generalize (lg_sl ([.ref (T0 + 3 * k)]) ++ List.replicate (5 - (lg_sl ([.ref (T0 + 3 * k)])).length) Slot.unset).toArray = ls at hl ⊢
  have hl : lv_has ls 5 [(0, .ref (T0 + 3 * k))] := hl
  obtain ⟨ak, bk, dk, wk⟩ := hI.2.1 k hk
  have n60 := hI.1
  try dsimp only at ak bk dk wk n60
  have hpl := q_pl_le (kd k) (sz k)
  refine lv_aload_n hx hb dX1_hasHole_0 rfl (lv_at hl 0 rfl) ?_
  refine qw_get (v := .ref (T0 + 3 * k + 2)) (ci := 0) (C := RX0) (T := TX0) (N := 6) hx hb hts nX1_hasHole_0 hown hK (hX.2.2.1 k hk).1 rfl 3 (by decide) (hts (.fieldLink RX1 96 "DockGates$Thing" "parts" "[LDockGates$Thing;") (by decide +kernel)) rfl rfl dX1_hasHole_1 ?_
  refine lv_astore_n (lv' := [(1, .ref (T0 + 3 * k + 2)), (0, .ref (T0 + 3 * k))]) hx hb dX1_hasHole_4 rfl hl (by decide) rfl (fun ls hl => ?_)
  refine lv_aload_n hx hb dX1_hasHole_5 rfl (lv_at hl 0 rfl) ?_
  refine qw_tlen (n := q_pl (kd k) (sz k)) hx hb hK (hX.2.2.1 k hk).2.2 dX1_hasHole_6 ?_
  refine lv_istore_n (lv' := [(2, .int (nI (q_pl (kd k) (sz k)))), (1, .ref (T0 + 3 * k + 2)), (0, .ref (T0 + 3 * k))]) hx hb dX1_hasHole_7 rfl hl (by decide) rfl (fun ls hl => ?_)
  refine lv_iconst (v := nI 0) hx hb dX1_hasHole_8 (by decide) ?_
  refine lv_istore_n (lv' := [(3, .int (nI 0)), (2, .int (nI (q_pl (kd k) (sz k)))), (1, .ref (T0 + 3 * k + 2)), (0, .ref (T0 + 3 * k))]) hx hb dX1_hasHole_9 rfl hl (by decide) rfl (fun ls hl => ?_)
  obtain ⟨i, ei⟩ : ∃ i : Nat, i = 0 := ⟨_, rfl⟩
  have hl : lv_has ls 5 [(0, .ref (T0 + 3 * k)), (1, .ref (T0 + 3 * k + 2)), (2, .int (nI (q_pl (kd k) (sz k)))), (3, .int (nI i))] := by subst ei; exact lv_sub hl [3, 2, 1, 0] rfl
  generalize els : ls = lz at hl ⊢
  clear els
  have hin : q_h2 (q_ho1 kd sz pa) (pa k) i = false := by subst ei; exact rfl
  obtain ⟨d, hd⟩ : ∃ d, i + d = q_pl (kd k) (sz k) := ⟨q_pl (kd k) (sz k) - i, by omega⟩
  clear ei
  induction d generalizing i lz with
  | zero =>
    refine lv_iload_n hx hb dX1_hasHole_10 rfl (lv_at hl 3 rfl) ?_
    refine lv_iload_n hx hb dX1_hasHole_11 rfl (lv_at hl 2 rfl) ?_
    refine ln_cmp_ge (tgt := 41) hx hb (by omega) (by omega) dX1_hasHole_12 (by decide) (fun _ => ?_) (fun c_1 => absurd c_1 (by omega))
    refine lv_iconst (v := nI 0) hx hb dX1_hasHole_41 (by decide) ?_
    exact W.zret (v := nI 0) hx hb hr rfl (fun t ht hW => ⟨_, rfl, (q_b0 (by unfold q_ho2; rw [← hd]; exact hin)), ht⟩) (fun _ h => absurd h List.not_mem_nil) dX1_hasHole_42
  | succ d ih =>
    refine lv_iload_n hx hb dX1_hasHole_10 rfl (lv_at hl 3 rfl) ?_
    refine lv_iload_n hx hb dX1_hasHole_11 rfl (lv_at hl 2 rfl) ?_
    refine ln_cmp_ge (tgt := 41) hx hb (by omega) (by omega) dX1_hasHole_12 (by decide) (fun c_2 => absurd c_2 (by omega)) (fun _ => ?_)
    refine lv_aload_n hx hb dX1_hasHole_15 rfl (lv_at hl 1 rfl) ?_
    refine lv_iload_n hx hb dX1_hasHole_16 rfl (lv_at hl 3 rfl) ?_
    refine qx_part hx hb hK hX hI hk (show i < q_pl (kd k) (sz k) by omega) dX1_hasHole_17 (fun s_3 => ?_) (fun j_3 hj_3 oj_3 s_3 => ?_)
    · try dsimp only at s_3
      refine lv_astoreN (lv' := [(4, .null), (0, .ref (T0 + 3 * k)), (1, .ref (T0 + 3 * k + 2)), (2, .int (nI (q_pl (kd k) (sz k)))), (3, .int (nI i))]) hx hb dX1_hasHole_18 hl (by decide) rfl (fun ls hl => ?_)
      refine lv_aloadN hx hb dX1_hasHole_20 (lv_at hl 0 rfl) ?_
      refine lv_ifnullN (tgt := 33) hx hb dX1_hasHole_22 (by decide) ?_
      refine lv_iconst (v := nI 1) hx hb dX1_hasHole_33 (by decide) ?_
      exact W.zret (v := nI 1) hx hb hr rfl (fun t ht hW => ⟨_, rfl, (q_b1 (q_h2_t (Or.inl s_3) (by omega))), ht⟩) (fun _ h => absurd h List.not_mem_nil) dX1_hasHole_34
    · try dsimp only at s_3 hj_3 oj_3
      unfold q_ok at oj_3
      obtain ⟨aj_3, bj_3, dj_3, wj_3⟩ := hI.2.1 j_3 hj_3
      have n60 := hI.1
      try dsimp only at aj_3 bj_3 dj_3 wj_3 n60
      refine lv_astore (lv' := [(4, .ref (T0 + 3 * j_3)), (0, .ref (T0 + 3 * k)), (1, .ref (T0 + 3 * k + 2)), (2, .int (nI (q_pl (kd k) (sz k)))), (3, .int (nI i))]) hx hb dX1_hasHole_18 hl (by decide) rfl (fun ls hl => ?_)
      refine lv_aload hx hb dX1_hasHole_20 (lv_at hl 0 rfl) ?_
      refine lv_ifnull hx hb dX1_hasHole_22 ?_
      refine lv_aload hx hb dX1_hasHole_25 (lv_at hl 0 rfl) ?_
      refine qc_ri (r1 := q_b (q_ho1 kd sz pa j_3)) (W.runS (As := [.ref (T0 + 3 * j_3)]) (rest := []) ⟨hx, hb, hml, hown, hts⟩ (kX1_lacksPart l E x T0 n kd sz sh nu pa sl ft tn ts tg hI j_3 hj_3) (va_cwS 1 hts gX1_hasHole_X1_lacksPart rfl rfl rfl (by decide +kernel) ⟨Nat.le_of_ble_eq_true rfl, Nat.le_of_ble_eq_true rfl⟩) (q_pre hK hX) rfl rfl hl.1 rfl (lv_room (Nat.le_of_ble_eq_true rfl)) dX1_hasHole_27 ⟨Nat.le_of_ble_eq_true rfl, Nat.le_of_ble_eq_true rfl⟩) rfl ?_
      refine ln_b_eq (tgt := 35) hx hb dX1_hasHole_30 (by decide) (fun c_4 => ?_) (fun c_4 => ?_)
      · refine lv_iinc (v := nI (i + 1)) (lv' := [(3, .int (nI (i + 1))), (4, .ref (T0 + 3 * j_3)), (0, .ref (T0 + 3 * k)), (1, .ref (T0 + 3 * k + 2)), (2, .int (nI (q_pl (kd k) (sz k))))]) hx hb dX1_hasHole_35 hl (k := 4) rfl (nI_1 _) (by decide) rfl (fun ls hl => ?_)
        refine lv_goto (tgt := 10) hx hb dX1_hasHole_38 (by decide) ?_
        exact ih (i + 1) ls (lv_sub hl [2, 3, 4, 0] rfl) (by simp [q_h2, hin, s_3, c_4]) (by omega) 
      · refine lv_iconst (v := nI 1) hx hb dX1_hasHole_33 (by decide) ?_
        exact W.zret (v := nI 1) hx hb hr rfl (fun t ht hW => ⟨_, rfl, (q_b1 (q_h2_t (Or.inr ⟨j_3, s_3, c_4⟩) (by omega))), ht⟩) (fun _ h => absurd h List.not_mem_nil) dX1_hasHole_34
set_option maxRecDepth 20000 in
theorem nX1_sumOfNumbers_0 : ∀ w ∈ u_ws RX0 TX0 6, w ∈ wsX1_sumOfNumbers := by decide +kernel
set_option maxHeartbeats 4000000 in
set_option maxRecDepth 100000 in
theorem kX1_sumOfNumbers (l : Launch) (E : q_E) (x T0 : Nat) (n : Nat) (kd sz : Nat → Nat) (sh : Nat → Bool) (nu : Nat → Nat → Int64) (pa : Nat → Nat → Option Nat) (sl : Nat → Option Nat) (ft tn ts tg : Int32) (hI : q_I (n, kd, sz, sh, nu, pa, sl, ft, tn, ts, tg)) (k : Nat) (hk : k < n)  : Met l yX1_sumOfNumbers wsX1_sumOfNumbers ({ frames := 0, cells := 0, slots := 0, locals := 0 }) (q_P E (q_X E x T0 (n, kd, sz, sh, nu, pa, sl, ft, tn, ts, tg)) [.ref (T0 + 3 * k)]) (vp_Sl (fun rr => rr = q_num kd sz nu k)) 0 0 (fun _ => False) := by
  refine Met.ofW (cc := cX1_sumOfNumbers) (maxL := 8) (ret := (some .long)) (by decide) rfl ?_
  intro p e s m args below meth c s₁ B hml hv
  obtain ⟨rfl, hK, hX⟩ := hv
  have hx := B.exec
  have hb := B.bytes
  have hr := B.returns
  have hts := atoms_spec (ws := wsX1_sumOfNumbers) B.pre
  have hown : s.vm.findClass RX1 = some m.cls := findClass_of_methodNamed B.named
  have hlocks := B.notSynchronized
  have hl := lv_entry ([.ref (T0 + 3 * k)]) (n := 8) (Nat.le_of_ble_eq_true rfl)
  rw [lg_entry_eq]
  generalize (lg_sl ([.ref (T0 + 3 * k)]) ++ List.replicate (8 - (lg_sl ([.ref (T0 + 3 * k)])).length) Slot.unset).toArray = ls at hl ⊢
  have hl : lv_has ls 8 [(0, .ref (T0 + 3 * k))] := hl
  obtain ⟨ak, bk, dk, wk⟩ := hI.2.1 k hk
  have n60 := hI.1
  try dsimp only at ak bk dk wk n60
  have hnl := q_nl_le (kd k) (sz k)
  refine lv_lconst (v := 0) hx hb dX1_sumOfNumbers_0 (by decide) ?_
  refine lv_lstore_n (lv' := [(1, .long 0), (0, .ref (T0 + 3 * k))]) hx hb dX1_sumOfNumbers_1 rfl hl (by decide) rfl (fun ls hl => ?_)
  refine lv_aload_n hx hb dX1_sumOfNumbers_2 rfl (lv_at hl 1 rfl) ?_
  refine qw_get (v := .ref (T0 + 3 * k + 1)) (ci := 0) (C := RX0) (T := TX0) (N := 6) hx hb hts nX1_sumOfNumbers_0 hown hK (hX.2.2.1 k hk).1 rfl 2 (by decide) (hts (.fieldLink RX1 75 "DockGates$Thing" "numbers" "[J") (by decide +kernel)) rfl rfl dX1_sumOfNumbers_3 ?_
  refine lv_astore_n (lv' := [(3, .ref (T0 + 3 * k + 1)), (1, .long 0), (0, .ref (T0 + 3 * k))]) hx hb dX1_sumOfNumbers_6 rfl hl (by decide) rfl (fun ls hl => ?_)
  refine lv_aload_n hx hb dX1_sumOfNumbers_7 rfl (lv_at hl 0 rfl) ?_
  refine qw_jlen (n := q_nl (kd k) (sz k)) hx hb hK (hX.2.2.1 k hk).2.1 dX1_sumOfNumbers_8 ?_
  refine lv_istore (lv' := [(4, .int (nI (q_nl (kd k) (sz k)))), (3, .ref (T0 + 3 * k + 1)), (1, .long 0), (0, .ref (T0 + 3 * k))]) hx hb dX1_sumOfNumbers_9 hl (by decide) rfl (fun ls hl => ?_)
  refine lv_iconst (v := nI 0) hx hb dX1_sumOfNumbers_11 (by decide) ?_
  refine lv_istore (lv' := [(5, .int (nI 0)), (4, .int (nI (q_nl (kd k) (sz k)))), (3, .ref (T0 + 3 * k + 1)), (1, .long 0), (0, .ref (T0 + 3 * k))]) hx hb dX1_sumOfNumbers_12 hl (by decide) rfl (fun ls hl => ?_)
  obtain ⟨i, ei⟩ : ∃ i : Nat, i = 0 := ⟨_, rfl⟩
  have hl : lv_has ls 8 [(0, .ref (T0 + 3 * k)), (1, .long (q_sm (nu k) i)), (3, .ref (T0 + 3 * k + 1)), (4, .int (nI (q_nl (kd k) (sz k)))), (5, .int (nI i))] := by subst ei; exact lv_sub hl [4, 3, 2, 1, 0] rfl
  generalize els : ls = lz at hl ⊢
  clear els
  obtain ⟨d, hd⟩ : ∃ d, i + d = q_nl (kd k) (sz k) := ⟨q_nl (kd k) (sz k) - i, by omega⟩
  clear ei
  induction d generalizing i lz with
  | zero =>
    refine lv_iload hx hb dX1_sumOfNumbers_14 (lv_at hl 4 rfl) ?_
    refine lv_iload hx hb dX1_sumOfNumbers_16 (lv_at hl 3 rfl) ?_
    refine ln_cmp_ge (tgt := 38) hx hb (by omega) (by omega) dX1_sumOfNumbers_18 (by decide) (fun _ => ?_) (fun c_1 => absurd c_1 (by omega))
    refine lv_lload_n hx hb dX1_sumOfNumbers_38 rfl (lv_at hl 1 rfl) ?_
    exact W.lret (v := q_sm (nu k) i) hx hb hr (fun t ht hW => ⟨_, rfl, (by unfold q_num; rw [← hd]; rfl), ht⟩) (fun _ h => absurd h List.not_mem_nil) dX1_sumOfNumbers_39
  | succ d ih =>
    refine lv_iload hx hb dX1_sumOfNumbers_14 (lv_at hl 4 rfl) ?_
    refine lv_iload hx hb dX1_sumOfNumbers_16 (lv_at hl 3 rfl) ?_
    refine ln_cmp_ge (tgt := 38) hx hb (by omega) (by omega) dX1_sumOfNumbers_18 (by decide) (fun c_2 => absurd c_2 (by omega)) (fun _ => ?_)
    refine lv_aload_n hx hb dX1_sumOfNumbers_21 rfl (lv_at hl 2 rfl) ?_
    refine lv_iload hx hb dX1_sumOfNumbers_22 (lv_at hl 4 rfl) ?_
    refine qw_lald (n := q_nl (kd k) (sz k)) (f := nu k) hx hb hK (hX.2.2.1 k hk).2.1 (by omega) (by omega) dX1_sumOfNumbers_24 ?_
    refine lv_lstore (lv' := [(6, .long (nu k i)), (0, .ref (T0 + 3 * k)), (1, .long (q_sm (nu k) i)), (3, .ref (T0 + 3 * k + 1)), (4, .int (nI (q_nl (kd k) (sz k)))), (5, .int (nI i))]) hx hb dX1_sumOfNumbers_25 hl (by decide) rfl (fun ls hl => ?_)
    refine lv_lload_n hx hb dX1_sumOfNumbers_27 rfl (lv_at hl 2 rfl) ?_
    refine lv_lload hx hb dX1_sumOfNumbers_28 (lv_at hl 0 rfl) ?_
    refine lv_ladd hx hb dX1_sumOfNumbers_30 ?_
    refine lv_lstore_n (lv' := [(1, .long ((q_sm (nu k) i) + (nu k i))), (6, .long (nu k i)), (0, .ref (T0 + 3 * k)), (3, .ref (T0 + 3 * k + 1)), (4, .int (nI (q_nl (kd k) (sz k)))), (5, .int (nI i))]) hx hb dX1_sumOfNumbers_31 rfl hl (by decide) rfl (fun ls hl => ?_)
    refine lv_iinc (v := nI (i + 1)) (lv' := [(5, .int (nI (i + 1))), (1, .long ((q_sm (nu k) i) + (nu k i))), (6, .long (nu k i)), (0, .ref (T0 + 3 * k)), (3, .ref (T0 + 3 * k + 1)), (4, .int (nI (q_nl (kd k) (sz k))))]) hx hb dX1_sumOfNumbers_32 hl (k := 5) rfl (nI_1 _) (by decide) rfl (fun ls hl => ?_)
    refine lv_goto (tgt := 14) hx hb dX1_sumOfNumbers_35 (by decide) ?_
    exact ih (i + 1) ls (lv_sub hl [3, 1, 4, 5, 0] rfl)  (by omega) 
set_option maxRecDepth 20000 in
theorem nX1_toldByLoads_0 : ∀ w ∈ u_ws RX0 TX0 6, w ∈ wsX1_toldByLoads := by decide +kernel
set_option maxHeartbeats 4000000 in
set_option maxRecDepth 100000 in
theorem kX1_toldByLoads_t (l : Launch) (E : q_E) (x T0 : Nat) (n : Nat) (kd sz : Nat → Nat) (sh : Nat → Bool) (nu : Nat → Nat → Int64) (pa : Nat → Nat → Option Nat) (sl : Nat → Option Nat) (ft tn ts tg : Int32) (hI : q_I (n, kd, sz, sh, nu, pa, sl, ft, tn, ts, tg)) (k : Nat) (hk : k < n) (hkk : 4 ≤ kd k ∧ kd k ≤ 6)  : Met l yX1_toldByLoads wsX1_toldByLoads ({ frames := 2, cells := 0, slots := 0, locals := 41 }) (q_P E (q_X E x T0 (n, kd, sz, sh, nu, pa, sl, ft, tn, ts, tg)) [.ref (T0 + 3 * k), .int (nI 10)]) (vp_Sl (fun rr => rr = lN (q_ins kd sz sh pa true k))) 0 0 (fun _ => False) := by
  refine Met.ofW (cc := cX1_toldByLoads) (maxL := 8) (ret := (some .long)) (by decide) rfl ?_
  intro p e s m args below meth c s₁ B hml hv
  obtain ⟨rfl, hK, hX⟩ := hv
  have hx := B.exec
  have hb := B.bytes
  have hr := B.returns
  have hts := atoms_spec (ws := wsX1_toldByLoads) B.pre
  have hown : s.vm.findClass RX1 = some m.cls := findClass_of_methodNamed B.named
  have hlocks := B.notSynchronized
  have hl := lv_entry ([.ref (T0 + 3 * k), .int (nI 10)]) (n := 8) (Nat.le_of_ble_eq_true rfl)
  rw [lg_entry_eq]
  generalize (lg_sl ([.ref (T0 + 3 * k), .int (nI 10)]) ++ List.replicate (8 - (lg_sl ([.ref (T0 + 3 * k), .int (nI 10)])).length) Slot.unset).toArray = ls at hl ⊢
  have hl : lv_has ls 8 [(0, .ref (T0 + 3 * k)), (1, .int (nI 10))] := hl
  obtain ⟨ak, bk, dk, wk⟩ := hI.2.1 k hk
  have n60 := hI.1
  try dsimp only at ak bk dk wk n60
  have hpl := q_pl_le (kd k) (sz k)
  refine lv_lconst (v := 0) hx hb dX1_toldByLoads_0 (by decide) ?_
  refine lv_lstore_n (lv' := [(2, .long 0), (0, .ref (T0 + 3 * k)), (1, .int (nI 10))]) hx hb dX1_toldByLoads_1 rfl hl (by decide) rfl (fun ls hl => ?_)
  refine lv_aload_n hx hb dX1_toldByLoads_2 rfl (lv_at hl 1 rfl) ?_
  refine qw_get (v := .ref (T0 + 3 * k + 2)) (ci := 0) (C := RX0) (T := TX0) (N := 6) hx hb hts nX1_toldByLoads_0 hown hK (hX.2.2.1 k hk).1 rfl 3 (by decide) (hts (.fieldLink RX1 96 "DockGates$Thing" "parts" "[LDockGates$Thing;") (by decide +kernel)) rfl rfl dX1_toldByLoads_3 ?_
  refine lv_astore (lv' := [(4, .ref (T0 + 3 * k + 2)), (2, .long 0), (0, .ref (T0 + 3 * k)), (1, .int (nI 10))]) hx hb dX1_toldByLoads_6 hl (by decide) rfl (fun ls hl => ?_)
  refine lv_aload hx hb dX1_toldByLoads_8 (lv_at hl 0 rfl) ?_
  refine qw_tlen (n := q_pl (kd k) (sz k)) hx hb hK (hX.2.2.1 k hk).2.2 dX1_toldByLoads_10 ?_
  refine lv_istore (lv' := [(5, .int (nI (q_pl (kd k) (sz k)))), (4, .ref (T0 + 3 * k + 2)), (2, .long 0), (0, .ref (T0 + 3 * k)), (1, .int (nI 10))]) hx hb dX1_toldByLoads_11 hl (by decide) rfl (fun ls hl => ?_)
  refine lv_iconst (v := nI 0) hx hb dX1_toldByLoads_13 (by decide) ?_
  refine lv_istore (lv' := [(6, .int (nI 0)), (5, .int (nI (q_pl (kd k) (sz k)))), (4, .ref (T0 + 3 * k + 2)), (2, .long 0), (0, .ref (T0 + 3 * k)), (1, .int (nI 10))]) hx hb dX1_toldByLoads_14 hl (by decide) rfl (fun ls hl => ?_)
  obtain ⟨i, ei⟩ : ∃ i : Nat, i = 0 := ⟨_, rfl⟩
  have hl : lv_has ls 8 [(0, .ref (T0 + 3 * k)), (1, .int (nI 10)), (2, .long (lN (q_su (q_ld kd sz sh true) (pa k) i))), (4, .ref (T0 + 3 * k + 2)), (5, .int (nI (q_pl (kd k) (sz k)))), (6, .int (nI i))] := by subst ei; exact lv_sub hl [4, 5, 3, 2, 1, 0] rfl
  generalize els : ls = lz at hl ⊢
  clear els
  obtain ⟨d, hd⟩ : ∃ d, i + d = q_pl (kd k) (sz k) := ⟨q_pl (kd k) (sz k) - i, by omega⟩
  clear ei
  induction d generalizing i lz with
  | zero =>
    refine lv_iload hx hb dX1_toldByLoads_16 (lv_at hl 5 rfl) ?_
    refine lv_iload hx hb dX1_toldByLoads_18 (lv_at hl 4 rfl) ?_
    refine ln_cmp_ge (tgt := 51) hx hb (by omega) (by omega) dX1_toldByLoads_20 (by decide) (fun _ => ?_) (fun c_1 => absurd c_1 (by omega))
    refine lv_lload_n hx hb dX1_toldByLoads_51 rfl (lv_at hl 2 rfl) ?_
    exact W.lret (v := lN (q_su (q_ld kd sz sh true) (pa k) i)) hx hb hr (fun t ht hW => ⟨_, rfl, (by unfold q_ins; rw [← hd]; rfl), ht⟩) (fun _ h => absurd h List.not_mem_nil) dX1_toldByLoads_52
  | succ d ih =>
    refine lv_iload hx hb dX1_toldByLoads_16 (lv_at hl 5 rfl) ?_
    refine lv_iload hx hb dX1_toldByLoads_18 (lv_at hl 4 rfl) ?_
    refine ln_cmp_ge (tgt := 51) hx hb (by omega) (by omega) dX1_toldByLoads_20 (by decide) (fun c_2 => absurd c_2 (by omega)) (fun _ => ?_)
    refine lv_aload hx hb dX1_toldByLoads_23 (lv_at hl 3 rfl) ?_
    refine lv_iload hx hb dX1_toldByLoads_25 (lv_at hl 5 rfl) ?_
    refine qx_part hx hb hK hX hI hk (show i < q_pl (kd k) (sz k) by omega) dX1_toldByLoads_27 (fun s_3 => ?_) (fun j_3 hj_3 oj_3 s_3 => ?_)
    · try dsimp only at s_3
      refine lv_astoreN (lv' := [(7, .null), (0, .ref (T0 + 3 * k)), (1, .int (nI 10)), (2, .long (lN (q_su (q_ld kd sz sh true) (pa k) i))), (4, .ref (T0 + 3 * k + 2)), (5, .int (nI (q_pl (kd k) (sz k)))), (6, .int (nI i))]) hx hb dX1_toldByLoads_28 hl (by decide) rfl (fun ls hl => ?_)
      refine lv_aloadN hx hb dX1_toldByLoads_30 (lv_at hl 0 rfl) ?_
      refine lv_ifnullN (tgt := 45) hx hb dX1_toldByLoads_32 (by decide) ?_
      refine lv_iinc (v := nI (i + 1)) (lv' := [(6, .int (nI (i + 1))), (7, .null), (0, .ref (T0 + 3 * k)), (1, .int (nI 10)), (2, .long (lN (q_su (q_ld kd sz sh true) (pa k) i))), (4, .ref (T0 + 3 * k + 2)), (5, .int (nI (q_pl (kd k) (sz k))))]) hx hb dX1_toldByLoads_45 hl (k := 6) rfl (nI_1 _) (by decide) rfl (fun ls hl => ?_)
      refine lv_goto (tgt := 16) hx hb dX1_toldByLoads_48 (by decide) ?_
      exact ih (i + 1) ls (by rw [q_su_n s_3]; exact lv_sub hl [2, 3, 4, 5, 6, 0] rfl)  (by omega) 
    · try dsimp only at s_3 hj_3 oj_3
      unfold q_ok at oj_3
      obtain ⟨aj_3, bj_3, dj_3, wj_3⟩ := hI.2.1 j_3 hj_3
      have n60 := hI.1
      try dsimp only at aj_3 bj_3 dj_3 wj_3 n60
      refine lv_astore (lv' := [(7, .ref (T0 + 3 * j_3)), (0, .ref (T0 + 3 * k)), (1, .int (nI 10)), (2, .long (lN (q_su (q_ld kd sz sh true) (pa k) i))), (4, .ref (T0 + 3 * k + 2)), (5, .int (nI (q_pl (kd k) (sz k)))), (6, .int (nI i))]) hx hb dX1_toldByLoads_28 hl (by decide) rfl (fun ls hl => ?_)
      refine lv_aload hx hb dX1_toldByLoads_30 (lv_at hl 0 rfl) ?_
      refine lv_ifnull hx hb dX1_toldByLoads_32 ?_
      refine lv_lload_n hx hb dX1_toldByLoads_35 rfl (lv_at hl 3 rfl) ?_
      refine lv_aload hx hb dX1_toldByLoads_36 (lv_at hl 0 rfl) ?_
      refine lv_iload_n hx hb dX1_toldByLoads_38 rfl (lv_at hl 2 rfl) ?_
      refine qc_ri (r1 := nI (if sh j_3 then 1 else 0)) (W.runS (As := [.ref (T0 + 3 * j_3), .int (nI 10)]) (rest := [.long (lN (q_su (q_ld kd sz sh true) (pa k) i))]) ⟨hx, hb, hml, hown, hts⟩ (kX1_toldByLoad_T l E x T0 n kd sz sh nu pa sl ft tn ts tg hI j_3 hj_3) (va_cwS 2 hts gX1_toldByLoads_X1_toldByLoad rfl rfl rfl (by decide +kernel) ⟨Nat.le_of_ble_eq_true rfl, Nat.le_of_ble_eq_true rfl⟩) (q_pre hK hX) rfl rfl hl.1 rfl (lv_room (Nat.le_of_ble_eq_true rfl)) dX1_toldByLoads_39 ⟨Nat.le_of_ble_eq_true rfl, Nat.le_of_ble_eq_true rfl⟩) rfl ?_
      have ij_3 : (if sh j_3 then 1 else 0) ≤ 1 := by split <;> omega
      refine lv_i2l (v := lN (if sh j_3 then 1 else 0)) hx hb dX1_toldByLoads_42 (nI_l (by first | omega | (simp; omega))) ?_
      refine ln_ladd hx hb dX1_toldByLoads_43 ?_
      refine lv_lstore_n (lv' := [(2, .long (lN ((q_su (q_ld kd sz sh true) (pa k) i) + (if sh j_3 then 1 else 0)))), (7, .ref (T0 + 3 * j_3)), (0, .ref (T0 + 3 * k)), (1, .int (nI 10)), (4, .ref (T0 + 3 * k + 2)), (5, .int (nI (q_pl (kd k) (sz k)))), (6, .int (nI i))]) hx hb dX1_toldByLoads_44 rfl hl (by decide) rfl (fun ls hl => ?_)
      refine lv_iinc (v := nI (i + 1)) (lv' := [(6, .int (nI (i + 1))), (2, .long (lN ((q_su (q_ld kd sz sh true) (pa k) i) + (if sh j_3 then 1 else 0)))), (7, .ref (T0 + 3 * j_3)), (0, .ref (T0 + 3 * k)), (1, .int (nI 10)), (4, .ref (T0 + 3 * k + 2)), (5, .int (nI (q_pl (kd k) (sz k))))]) hx hb dX1_toldByLoads_45 hl (k := 6) rfl (nI_1 _) (by decide) rfl (fun ls hl => ?_)
      refine lv_goto (tgt := 16) hx hb dX1_toldByLoads_48 (by decide) ?_
      exact ih (i + 1) ls (by rw [q_su_s s_3]; exact lv_sub hl [3, 4, 1, 5, 6, 0] rfl)  (by omega) 
set_option maxHeartbeats 4000000 in
set_option maxRecDepth 100000 in
theorem kX1_toldByLoads_f (l : Launch) (E : q_E) (x T0 : Nat) (n : Nat) (kd sz : Nat → Nat) (sh : Nat → Bool) (nu : Nat → Nat → Int64) (pa : Nat → Nat → Option Nat) (sl : Nat → Option Nat) (ft tn ts tg : Int32) (hI : q_I (n, kd, sz, sh, nu, pa, sl, ft, tn, ts, tg)) (k : Nat) (hk : k < n) (hkk : 4 ≤ kd k ∧ kd k ≤ 6)  : Met l yX1_toldByLoads wsX1_toldByLoads ({ frames := 2, cells := 0, slots := 0, locals := 41 }) (q_P E (q_X E x T0 (n, kd, sz, sh, nu, pa, sl, ft, tn, ts, tg)) [.ref (T0 + 3 * k), .int (nI 12)]) (vp_Sl (fun rr => rr = lN (q_ins kd sz sh pa false k))) 0 0 (fun _ => False) := by
  refine Met.ofW (cc := cX1_toldByLoads) (maxL := 8) (ret := (some .long)) (by decide) rfl ?_
  intro p e s m args below meth c s₁ B hml hv
  obtain ⟨rfl, hK, hX⟩ := hv
  have hx := B.exec
  have hb := B.bytes
  have hr := B.returns
  have hts := atoms_spec (ws := wsX1_toldByLoads) B.pre
  have hown : s.vm.findClass RX1 = some m.cls := findClass_of_methodNamed B.named
  have hlocks := B.notSynchronized
  have hl := lv_entry ([.ref (T0 + 3 * k), .int (nI 12)]) (n := 8) (Nat.le_of_ble_eq_true rfl)
  rw [lg_entry_eq]
  generalize (lg_sl ([.ref (T0 + 3 * k), .int (nI 12)]) ++ List.replicate (8 - (lg_sl ([.ref (T0 + 3 * k), .int (nI 12)])).length) Slot.unset).toArray = ls at hl ⊢
  have hl : lv_has ls 8 [(0, .ref (T0 + 3 * k)), (1, .int (nI 12))] := hl
  obtain ⟨ak, bk, dk, wk⟩ := hI.2.1 k hk
  have n60 := hI.1
  try dsimp only at ak bk dk wk n60
  have hpl := q_pl_le (kd k) (sz k)
  refine lv_lconst (v := 0) hx hb dX1_toldByLoads_0 (by decide) ?_
  refine lv_lstore_n (lv' := [(2, .long 0), (0, .ref (T0 + 3 * k)), (1, .int (nI 12))]) hx hb dX1_toldByLoads_1 rfl hl (by decide) rfl (fun ls hl => ?_)
  refine lv_aload_n hx hb dX1_toldByLoads_2 rfl (lv_at hl 1 rfl) ?_
  refine qw_get (v := .ref (T0 + 3 * k + 2)) (ci := 0) (C := RX0) (T := TX0) (N := 6) hx hb hts nX1_toldByLoads_0 hown hK (hX.2.2.1 k hk).1 rfl 3 (by decide) (hts (.fieldLink RX1 96 "DockGates$Thing" "parts" "[LDockGates$Thing;") (by decide +kernel)) rfl rfl dX1_toldByLoads_3 ?_
  refine lv_astore (lv' := [(4, .ref (T0 + 3 * k + 2)), (2, .long 0), (0, .ref (T0 + 3 * k)), (1, .int (nI 12))]) hx hb dX1_toldByLoads_6 hl (by decide) rfl (fun ls hl => ?_)
  refine lv_aload hx hb dX1_toldByLoads_8 (lv_at hl 0 rfl) ?_
  refine qw_tlen (n := q_pl (kd k) (sz k)) hx hb hK (hX.2.2.1 k hk).2.2 dX1_toldByLoads_10 ?_
  refine lv_istore (lv' := [(5, .int (nI (q_pl (kd k) (sz k)))), (4, .ref (T0 + 3 * k + 2)), (2, .long 0), (0, .ref (T0 + 3 * k)), (1, .int (nI 12))]) hx hb dX1_toldByLoads_11 hl (by decide) rfl (fun ls hl => ?_)
  refine lv_iconst (v := nI 0) hx hb dX1_toldByLoads_13 (by decide) ?_
  refine lv_istore (lv' := [(6, .int (nI 0)), (5, .int (nI (q_pl (kd k) (sz k)))), (4, .ref (T0 + 3 * k + 2)), (2, .long 0), (0, .ref (T0 + 3 * k)), (1, .int (nI 12))]) hx hb dX1_toldByLoads_14 hl (by decide) rfl (fun ls hl => ?_)
  obtain ⟨i, ei⟩ : ∃ i : Nat, i = 0 := ⟨_, rfl⟩
  have hl : lv_has ls 8 [(0, .ref (T0 + 3 * k)), (1, .int (nI 12)), (2, .long (lN (q_su (q_ld kd sz sh false) (pa k) i))), (4, .ref (T0 + 3 * k + 2)), (5, .int (nI (q_pl (kd k) (sz k)))), (6, .int (nI i))] := by subst ei; exact lv_sub hl [4, 5, 3, 2, 1, 0] rfl
  generalize els : ls = lz at hl ⊢
  clear els
  obtain ⟨d, hd⟩ : ∃ d, i + d = q_pl (kd k) (sz k) := ⟨q_pl (kd k) (sz k) - i, by omega⟩
  clear ei
  induction d generalizing i lz with
  | zero =>
    refine lv_iload hx hb dX1_toldByLoads_16 (lv_at hl 5 rfl) ?_
    refine lv_iload hx hb dX1_toldByLoads_18 (lv_at hl 4 rfl) ?_
    refine ln_cmp_ge (tgt := 51) hx hb (by omega) (by omega) dX1_toldByLoads_20 (by decide) (fun _ => ?_) (fun c_1 => absurd c_1 (by omega))
    refine lv_lload_n hx hb dX1_toldByLoads_51 rfl (lv_at hl 2 rfl) ?_
    exact W.lret (v := lN (q_su (q_ld kd sz sh false) (pa k) i)) hx hb hr (fun t ht hW => ⟨_, rfl, (by unfold q_ins; rw [← hd]; rfl), ht⟩) (fun _ h => absurd h List.not_mem_nil) dX1_toldByLoads_52
  | succ d ih =>
    refine lv_iload hx hb dX1_toldByLoads_16 (lv_at hl 5 rfl) ?_
    refine lv_iload hx hb dX1_toldByLoads_18 (lv_at hl 4 rfl) ?_
    refine ln_cmp_ge (tgt := 51) hx hb (by omega) (by omega) dX1_toldByLoads_20 (by decide) (fun c_2 => absurd c_2 (by omega)) (fun _ => ?_)
    refine lv_aload hx hb dX1_toldByLoads_23 (lv_at hl 3 rfl) ?_
    refine lv_iload hx hb dX1_toldByLoads_25 (lv_at hl 5 rfl) ?_
    refine qx_part hx hb hK hX hI hk (show i < q_pl (kd k) (sz k) by omega) dX1_toldByLoads_27 (fun s_3 => ?_) (fun j_3 hj_3 oj_3 s_3 => ?_)
    · try dsimp only at s_3
      refine lv_astoreN (lv' := [(7, .null), (0, .ref (T0 + 3 * k)), (1, .int (nI 12)), (2, .long (lN (q_su (q_ld kd sz sh false) (pa k) i))), (4, .ref (T0 + 3 * k + 2)), (5, .int (nI (q_pl (kd k) (sz k)))), (6, .int (nI i))]) hx hb dX1_toldByLoads_28 hl (by decide) rfl (fun ls hl => ?_)
      refine lv_aloadN hx hb dX1_toldByLoads_30 (lv_at hl 0 rfl) ?_
      refine lv_ifnullN (tgt := 45) hx hb dX1_toldByLoads_32 (by decide) ?_
      refine lv_iinc (v := nI (i + 1)) (lv' := [(6, .int (nI (i + 1))), (7, .null), (0, .ref (T0 + 3 * k)), (1, .int (nI 12)), (2, .long (lN (q_su (q_ld kd sz sh false) (pa k) i))), (4, .ref (T0 + 3 * k + 2)), (5, .int (nI (q_pl (kd k) (sz k))))]) hx hb dX1_toldByLoads_45 hl (k := 6) rfl (nI_1 _) (by decide) rfl (fun ls hl => ?_)
      refine lv_goto (tgt := 16) hx hb dX1_toldByLoads_48 (by decide) ?_
      exact ih (i + 1) ls (by rw [q_su_n s_3]; exact lv_sub hl [2, 3, 4, 5, 6, 0] rfl)  (by omega) 
    · try dsimp only at s_3 hj_3 oj_3
      unfold q_ok at oj_3
      obtain ⟨aj_3, bj_3, dj_3, wj_3⟩ := hI.2.1 j_3 hj_3
      have n60 := hI.1
      try dsimp only at aj_3 bj_3 dj_3 wj_3 n60
      refine lv_astore (lv' := [(7, .ref (T0 + 3 * j_3)), (0, .ref (T0 + 3 * k)), (1, .int (nI 12)), (2, .long (lN (q_su (q_ld kd sz sh false) (pa k) i))), (4, .ref (T0 + 3 * k + 2)), (5, .int (nI (q_pl (kd k) (sz k)))), (6, .int (nI i))]) hx hb dX1_toldByLoads_28 hl (by decide) rfl (fun ls hl => ?_)
      refine lv_aload hx hb dX1_toldByLoads_30 (lv_at hl 0 rfl) ?_
      refine lv_ifnull hx hb dX1_toldByLoads_32 ?_
      refine lv_lload_n hx hb dX1_toldByLoads_35 rfl (lv_at hl 3 rfl) ?_
      refine lv_aload hx hb dX1_toldByLoads_36 (lv_at hl 0 rfl) ?_
      refine lv_iload_n hx hb dX1_toldByLoads_38 rfl (lv_at hl 2 rfl) ?_
      refine qc_ri (r1 := nI (q_w kd sz sh j_3)) (W.runS (As := [.ref (T0 + 3 * j_3), .int (nI 12)]) (rest := [.long (lN (q_su (q_ld kd sz sh false) (pa k) i))]) ⟨hx, hb, hml, hown, hts⟩ (kX1_toldByLoad_W l E x T0 n kd sz sh nu pa sl ft tn ts tg hI j_3 hj_3 (by omega)) (va_cwS 2 hts gX1_toldByLoads_X1_toldByLoad rfl rfl rfl (by decide +kernel) ⟨Nat.le_of_ble_eq_true rfl, Nat.le_of_ble_eq_true rfl⟩) (q_pre hK hX) rfl rfl hl.1 rfl (lv_room (Nat.le_of_ble_eq_true rfl)) dX1_toldByLoads_39 ⟨Nat.le_of_ble_eq_true rfl, Nat.le_of_ble_eq_true rfl⟩) rfl ?_
      have ij_3 := q_w_le (kd := kd) (sh := sh) bj_3
      refine lv_i2l (v := lN (q_w kd sz sh j_3)) hx hb dX1_toldByLoads_42 (nI_l (by first | omega | (simp; omega))) ?_
      refine ln_ladd hx hb dX1_toldByLoads_43 ?_
      refine lv_lstore_n (lv' := [(2, .long (lN ((q_su (q_ld kd sz sh false) (pa k) i) + (q_w kd sz sh j_3)))), (7, .ref (T0 + 3 * j_3)), (0, .ref (T0 + 3 * k)), (1, .int (nI 12)), (4, .ref (T0 + 3 * k + 2)), (5, .int (nI (q_pl (kd k) (sz k)))), (6, .int (nI i))]) hx hb dX1_toldByLoads_44 rfl hl (by decide) rfl (fun ls hl => ?_)
      refine lv_iinc (v := nI (i + 1)) (lv' := [(6, .int (nI (i + 1))), (2, .long (lN ((q_su (q_ld kd sz sh false) (pa k) i) + (q_w kd sz sh j_3)))), (7, .ref (T0 + 3 * j_3)), (0, .ref (T0 + 3 * k)), (1, .int (nI 12)), (4, .ref (T0 + 3 * k + 2)), (5, .int (nI (q_pl (kd k) (sz k))))]) hx hb dX1_toldByLoads_45 hl (k := 6) rfl (nI_1 _) (by decide) rfl (fun ls hl => ?_)
      refine lv_goto (tgt := 16) hx hb dX1_toldByLoads_48 (by decide) ?_
      exact ih (i + 1) ls (by rw [q_su_s s_3]; exact lv_sub hl [3, 4, 1, 5, 6, 0] rfl)  (by omega) 
set_option maxHeartbeats 4000000 in
set_option maxRecDepth 100000 in
theorem kX1_toldByRow (l : Launch) (E : q_E) (x T0 : Nat) (n : Nat) (kd sz : Nat → Nat) (sh : Nat → Bool) (nu : Nat → Nat → Int64) (pa : Nat → Nat → Option Nat) (sl : Nat → Option Nat) (ft tn ts tg : Int32) (hI : q_I (n, kd, sz, sh, nu, pa, sl, ft, tn, ts, tg)) (k g : Nat) (hk : k < n) (hg : g < 13) (hh : g < 3 ∨ (4 ≤ kd k ∧ kd k ≤ 6))  : Met l yX1_toldByRow wsX1_toldByRow ({ frames := 3, cells := 0, slots := 0, locals := 68 }) (q_P E (q_X E x T0 (n, kd, sz, sh, nu, pa, sl, ft, tn, ts, tg)) [.ref (T0 + 3 * k), .int (nI g)]) (vp_Sl (fun rr => rr = q_row kd sz sh nu pa k g)) 0 0 (fun _ => False) := by
  refine Met.ofW (cc := cX1_toldByRow) (maxL := 2) (ret := (some .long)) (by decide) rfl ?_
  intro p e s m args below meth c s₁ B hml hv
  obtain ⟨rfl, hK, hX⟩ := hv
  have hx := B.exec
  have hb := B.bytes
  have hr := B.returns
  have hts := atoms_spec (ws := wsX1_toldByRow) B.pre
  have hown : s.vm.findClass RX1 = some m.cls := findClass_of_methodNamed B.named
  have hlocks := B.notSynchronized
  have hl := lv_entry ([.ref (T0 + 3 * k), .int (nI g)]) (n := 2) (Nat.le_of_ble_eq_true rfl)
  rw [lg_entry_eq]
  generalize (lg_sl ([.ref (T0 + 3 * k), .int (nI g)]) ++ List.replicate (2 - (lg_sl ([.ref (T0 + 3 * k), .int (nI g)])).length) Slot.unset).toArray = ls at hl ⊢
  have hl : lv_has ls 2 [(0, .ref (T0 + 3 * k)), (1, .int (nI g))] := hl
  obtain ⟨ak, bk, dk, wk⟩ := hI.2.1 k hk
  have n60 := hI.1
  try dsimp only at ak bk dk wk n60
  refine lv_iload_n hx hb dX1_toldByRow_0 rfl (lv_at hl 1 rfl) ?_
  have c_1 : g = 0 ∨ g = 1 ∨ g = 2 ∨ g = 5 ∨ (¬ g = 0 ∧ ¬ g = 1 ∧ ¬ g = 2 ∧ ¬ g = 5) := by omega
  rcases c_1 with c_1 | c_1 | c_1 | c_1 | c_1
  · refine q_tIn (v := 0) (tgt := 40) (off := 39) hx hb c_1 dX1_toldByRow_1 (by decide) (by decide) (by decide) (by decide) ?_
    refine lv_aload_n hx hb dX1_toldByRow_40 rfl (lv_at hl 0 rfl) ?_
    refine qc_rl (r1 := q_num kd sz nu k) (W.runS (As := [.ref (T0 + 3 * k)]) (rest := []) ⟨hx, hb, hml, hown, hts⟩ (kX1_sumOfNumbers l E x T0 n kd sz sh nu pa sl ft tn ts tg hI k hk) (va_cwS 1 hts gX1_toldByRow_X1_sumOfNumbers rfl rfl rfl (by decide +kernel) ⟨Nat.le_of_ble_eq_true rfl, Nat.le_of_ble_eq_true rfl⟩) (q_pre hK hX) rfl rfl hl.1 rfl (lv_room (Nat.le_of_ble_eq_true rfl)) dX1_toldByRow_41 ⟨Nat.le_of_ble_eq_true rfl, Nat.le_of_ble_eq_true rfl⟩) rfl ?_
    refine lv_l2i hx hb dX1_toldByRow_44 rfl ?_
    refine lv_i2l hx hb dX1_toldByRow_45 rfl ?_
    exact W.lret (v := Int32.toInt64 ((Int64.toInt32 (q_num kd sz nu k)))) hx hb hr (fun t ht hW => ⟨_, rfl, (by subst c_1; rfl), ht⟩) (fun _ h => absurd h List.not_mem_nil) dX1_toldByRow_46
  · refine q_tIn (v := 1) (tgt := 40) (off := 39) hx hb c_1 dX1_toldByRow_1 (by decide) (by decide) (by decide) (by decide) ?_
    refine lv_aload_n hx hb dX1_toldByRow_40 rfl (lv_at hl 0 rfl) ?_
    refine qc_rl (r1 := q_num kd sz nu k) (W.runS (As := [.ref (T0 + 3 * k)]) (rest := []) ⟨hx, hb, hml, hown, hts⟩ (kX1_sumOfNumbers l E x T0 n kd sz sh nu pa sl ft tn ts tg hI k hk) (va_cwS 1 hts gX1_toldByRow_X1_sumOfNumbers rfl rfl rfl (by decide +kernel) ⟨Nat.le_of_ble_eq_true rfl, Nat.le_of_ble_eq_true rfl⟩) (q_pre hK hX) rfl rfl hl.1 rfl (lv_room (Nat.le_of_ble_eq_true rfl)) dX1_toldByRow_41 ⟨Nat.le_of_ble_eq_true rfl, Nat.le_of_ble_eq_true rfl⟩) rfl ?_
    refine lv_l2i hx hb dX1_toldByRow_44 rfl ?_
    refine lv_i2l hx hb dX1_toldByRow_45 rfl ?_
    exact W.lret (v := Int32.toInt64 ((Int64.toInt32 (q_num kd sz nu k)))) hx hb hr (fun t ht hW => ⟨_, rfl, (by subst c_1; rfl), ht⟩) (fun _ h => absurd h List.not_mem_nil) dX1_toldByRow_46
  · refine q_tIn (v := 2) (tgt := 47) (off := 46) hx hb c_1 dX1_toldByRow_1 (by decide) (by decide) (by decide) (by decide) ?_
    refine lv_aload_n hx hb dX1_toldByRow_47 rfl (lv_at hl 0 rfl) ?_
    refine qc_rl (r1 := q_num kd sz nu k) (W.runS (As := [.ref (T0 + 3 * k)]) (rest := []) ⟨hx, hb, hml, hown, hts⟩ (kX1_sumOfNumbers l E x T0 n kd sz sh nu pa sl ft tn ts tg hI k hk) (va_cwS 1 hts gX1_toldByRow_X1_sumOfNumbers rfl rfl rfl (by decide +kernel) ⟨Nat.le_of_ble_eq_true rfl, Nat.le_of_ble_eq_true rfl⟩) (q_pre hK hX) rfl rfl hl.1 rfl (lv_room (Nat.le_of_ble_eq_true rfl)) dX1_toldByRow_48 ⟨Nat.le_of_ble_eq_true rfl, Nat.le_of_ble_eq_true rfl⟩) rfl ?_
    exact W.lret (v := q_num kd sz nu k) hx hb hr (fun t ht hW => ⟨_, rfl, (by subst c_1; rfl), ht⟩) (fun _ h => absurd h List.not_mem_nil) dX1_toldByRow_51
  · refine q_tIn (v := 5) (tgt := 52) (off := 51) hx hb c_1 dX1_toldByRow_1 (by decide) (by decide) (by decide) (by decide) ?_
    refine lv_aload_n hx hb dX1_toldByRow_52 rfl (lv_at hl 0 rfl) ?_
    refine lv_bipush (v := nI 10) hx hb dX1_toldByRow_53 (by decide) ?_
    refine qc_rl (r1 := lN (q_ins kd sz sh pa true k)) (W.runS (As := [.ref (T0 + 3 * k), .int (nI 10)]) (rest := []) ⟨hx, hb, hml, hown, hts⟩ (kX1_toldByLoads_t l E x T0 n kd sz sh nu pa sl ft tn ts tg hI k hk (by omega)) (va_cwS 2 hts gX1_toldByRow_X1_toldByLoads rfl rfl rfl (by decide +kernel) ⟨Nat.le_of_ble_eq_true rfl, Nat.le_of_ble_eq_true rfl⟩) (q_pre hK hX) rfl rfl hl.1 rfl (lv_room (Nat.le_of_ble_eq_true rfl)) dX1_toldByRow_55 ⟨Nat.le_of_ble_eq_true rfl, Nat.le_of_ble_eq_true rfl⟩) rfl ?_
    exact W.lret (v := lN (q_ins kd sz sh pa true k)) hx hb hr (fun t ht hW => ⟨_, rfl, (by subst c_1; rfl), ht⟩) (fun _ h => absurd h List.not_mem_nil) dX1_toldByRow_58
  · obtain ⟨c_1_0, c_1_1, c_1_2, c_1_5⟩ := c_1
    have c_2 : g = 3 ∨ g = 4 ∨ ((g : Int) < 0 ∨ 5 < (g : Int)) := by omega
    rcases c_2 with c_2 | c_2 | c_2
    · refine q_tIn (v := 3) (tgt := 59) (off := 58) hx hb c_2 dX1_toldByRow_1 (by decide) (by decide) (by decide) (by decide) ?_
      refine lv_aload_n hx hb dX1_toldByRow_59 rfl (lv_at hl 0 rfl) ?_
      refine lv_bipush (v := nI 12) hx hb dX1_toldByRow_60 (by decide) ?_
      refine qc_rl (r1 := lN (q_ins kd sz sh pa false k)) (W.runS (As := [.ref (T0 + 3 * k), .int (nI 12)]) (rest := []) ⟨hx, hb, hml, hown, hts⟩ (kX1_toldByLoads_f l E x T0 n kd sz sh nu pa sl ft tn ts tg hI k hk (by omega)) (va_cwS 2 hts gX1_toldByRow_X1_toldByLoads rfl rfl rfl (by decide +kernel) ⟨Nat.le_of_ble_eq_true rfl, Nat.le_of_ble_eq_true rfl⟩) (q_pre hK hX) rfl rfl hl.1 rfl (lv_room (Nat.le_of_ble_eq_true rfl)) dX1_toldByRow_62 ⟨Nat.le_of_ble_eq_true rfl, Nat.le_of_ble_eq_true rfl⟩) rfl ?_
      exact W.lret (v := lN (q_ins kd sz sh pa false k)) hx hb hr (fun t ht hW => ⟨_, rfl, (by subst c_2; rfl), ht⟩) (fun _ h => absurd h List.not_mem_nil) dX1_toldByRow_65
    · refine q_tIn (v := 4) (tgt := 59) (off := 58) hx hb c_2 dX1_toldByRow_1 (by decide) (by decide) (by decide) (by decide) ?_
      refine lv_aload_n hx hb dX1_toldByRow_59 rfl (lv_at hl 0 rfl) ?_
      refine lv_bipush (v := nI 12) hx hb dX1_toldByRow_60 (by decide) ?_
      refine qc_rl (r1 := lN (q_ins kd sz sh pa false k)) (W.runS (As := [.ref (T0 + 3 * k), .int (nI 12)]) (rest := []) ⟨hx, hb, hml, hown, hts⟩ (kX1_toldByLoads_f l E x T0 n kd sz sh nu pa sl ft tn ts tg hI k hk (by omega)) (va_cwS 2 hts gX1_toldByRow_X1_toldByLoads rfl rfl rfl (by decide +kernel) ⟨Nat.le_of_ble_eq_true rfl, Nat.le_of_ble_eq_true rfl⟩) (q_pre hK hX) rfl rfl hl.1 rfl (lv_room (Nat.le_of_ble_eq_true rfl)) dX1_toldByRow_62 ⟨Nat.le_of_ble_eq_true rfl, Nat.le_of_ble_eq_true rfl⟩) rfl ?_
      exact W.lret (v := lN (q_ins kd sz sh pa false k)) hx hb hr (fun t ht hW => ⟨_, rfl, (by subst c_2; rfl), ht⟩) (fun _ h => absurd h List.not_mem_nil) dX1_toldByRow_65
    · refine q_tOut (tgt := 59) hx hb (by omega) dX1_toldByRow_1 c_2 (by decide) ?_
      refine lv_aload_n hx hb dX1_toldByRow_59 rfl (lv_at hl 0 rfl) ?_
      refine lv_bipush (v := nI 12) hx hb dX1_toldByRow_60 (by decide) ?_
      refine qc_rl (r1 := lN (q_ins kd sz sh pa false k)) (W.runS (As := [.ref (T0 + 3 * k), .int (nI 12)]) (rest := []) ⟨hx, hb, hml, hown, hts⟩ (kX1_toldByLoads_f l E x T0 n kd sz sh nu pa sl ft tn ts tg hI k hk (by omega)) (va_cwS 2 hts gX1_toldByRow_X1_toldByLoads rfl rfl rfl (by decide +kernel) ⟨Nat.le_of_ble_eq_true rfl, Nat.le_of_ble_eq_true rfl⟩) (q_pre hK hX) rfl rfl hl.1 rfl (lv_room (Nat.le_of_ble_eq_true rfl)) dX1_toldByRow_62 ⟨Nat.le_of_ble_eq_true rfl, Nat.le_of_ble_eq_true rfl⟩) rfl ?_
      exact W.lret (v := lN (q_ins kd sz sh pa false k)) hx hb hr (fun t ht hW => ⟨_, rfl, (by unfold q_row; rw [if_neg (by omega), if_neg (by omega), if_neg (by omega)]), ht⟩) (fun _ h => absurd h List.not_mem_nil) dX1_toldByRow_65
set_option maxRecDepth 20000 in
theorem nX1_toldByRows_0 : ∀ w ∈ u_ws RX0 TX0 6, w ∈ wsX1_toldByRows := by decide +kernel
set_option maxHeartbeats 4000000 in
set_option maxRecDepth 100000 in
theorem kX1_toldByRows_g (l : Launch) (E : q_E) (x T0 : Nat) (n : Nat) (kd sz : Nat → Nat) (sh : Nat → Bool) (nu : Nat → Nat → Int64) (pa : Nat → Nat → Option Nat) (sl : Nat → Option Nat) (ft tn ts tg : Int32) (hI : q_I (n, kd, sz, sh, nu, pa, sl, ft, tn, ts, tg)) (k : Nat) (hk : k < n) (hkk : kd k = 3)  : Met l yX1_toldByRows wsX1_toldByRows ({ frames := 4, cells := 0, slots := 0, locals := 89 }) (q_P E (q_X E x T0 (n, kd, sz, sh, nu, pa, sl, ft, tn, ts, tg)) [.ref (T0 + 3 * k), .int (nI 0)]) (vp_Sl (fun rr => rr = q_g6 (fun j => Int32.toInt64 (Int64.toInt32 (q_num kd sz nu j))) (pa k) (q_pl (kd k) (sz k)))) 0 0 (fun _ => False) := by
  refine Met.ofW (cc := cX1_toldByRows) (maxL := 8) (ret := (some .long)) (by decide) rfl ?_
  intro p e s m args below meth c s₁ B hml hv
  obtain ⟨rfl, hK, hX⟩ := hv
  have hx := B.exec
  have hb := B.bytes
  have hr := B.returns
  have hts := atoms_spec (ws := wsX1_toldByRows) B.pre
  have hown : s.vm.findClass RX1 = some m.cls := findClass_of_methodNamed B.named
  have hlocks := B.notSynchronized
  have hl := lv_entry ([.ref (T0 + 3 * k), .int (nI 0)]) (n := 8) (Nat.le_of_ble_eq_true rfl)
  rw [lg_entry_eq]
  generalize (lg_sl ([.ref (T0 + 3 * k), .int (nI 0)]) ++ List.replicate (8 - (lg_sl ([.ref (T0 + 3 * k), .int (nI 0)])).length) Slot.unset).toArray = ls at hl ⊢
  have hl : lv_has ls 8 [(0, .ref (T0 + 3 * k)), (1, .int (nI 0))] := hl
  obtain ⟨ak, bk, dk, wk⟩ := hI.2.1 k hk
  have n60 := hI.1
  try dsimp only at ak bk dk wk n60
  have hpl := q_pl_le (kd k) (sz k)
  refine lv_lconst (v := 0) hx hb dX1_toldByRows_0 (by decide) ?_
  refine lv_lstore_n (lv' := [(2, .long 0), (0, .ref (T0 + 3 * k)), (1, .int (nI 0))]) hx hb dX1_toldByRows_1 rfl hl (by decide) rfl (fun ls hl => ?_)
  refine lv_aload_n hx hb dX1_toldByRows_2 rfl (lv_at hl 1 rfl) ?_
  refine qw_get (v := .ref (T0 + 3 * k + 2)) (ci := 0) (C := RX0) (T := TX0) (N := 6) hx hb hts nX1_toldByRows_0 hown hK (hX.2.2.1 k hk).1 rfl 3 (by decide) (hts (.fieldLink RX1 96 "DockGates$Thing" "parts" "[LDockGates$Thing;") (by decide +kernel)) rfl rfl dX1_toldByRows_3 ?_
  refine lv_astore (lv' := [(4, .ref (T0 + 3 * k + 2)), (2, .long 0), (0, .ref (T0 + 3 * k)), (1, .int (nI 0))]) hx hb dX1_toldByRows_6 hl (by decide) rfl (fun ls hl => ?_)
  refine lv_aload hx hb dX1_toldByRows_8 (lv_at hl 0 rfl) ?_
  refine qw_tlen (n := q_pl (kd k) (sz k)) hx hb hK (hX.2.2.1 k hk).2.2 dX1_toldByRows_10 ?_
  refine lv_istore (lv' := [(5, .int (nI (q_pl (kd k) (sz k)))), (4, .ref (T0 + 3 * k + 2)), (2, .long 0), (0, .ref (T0 + 3 * k)), (1, .int (nI 0))]) hx hb dX1_toldByRows_11 hl (by decide) rfl (fun ls hl => ?_)
  refine lv_iconst (v := nI 0) hx hb dX1_toldByRows_13 (by decide) ?_
  refine lv_istore (lv' := [(6, .int (nI 0)), (5, .int (nI (q_pl (kd k) (sz k)))), (4, .ref (T0 + 3 * k + 2)), (2, .long 0), (0, .ref (T0 + 3 * k)), (1, .int (nI 0))]) hx hb dX1_toldByRows_14 hl (by decide) rfl (fun ls hl => ?_)
  obtain ⟨i, ei⟩ : ∃ i : Nat, i = 0 := ⟨_, rfl⟩
  have hl : lv_has ls 8 [(0, .ref (T0 + 3 * k)), (1, .int (nI 0)), (2, .long (q_g6 (fun j => Int32.toInt64 (Int64.toInt32 (q_num kd sz nu j))) (pa k) i)), (4, .ref (T0 + 3 * k + 2)), (5, .int (nI (q_pl (kd k) (sz k)))), (6, .int (nI i))] := by subst ei; exact lv_sub hl [4, 5, 3, 2, 1, 0] rfl
  generalize els : ls = lz at hl ⊢
  clear els
  obtain ⟨d, hd⟩ : ∃ d, i + d = q_pl (kd k) (sz k) := ⟨q_pl (kd k) (sz k) - i, by omega⟩
  clear ei
  induction d generalizing i lz with
  | zero =>
    refine lv_iload hx hb dX1_toldByRows_16 (lv_at hl 5 rfl) ?_
    refine lv_iload hx hb dX1_toldByRows_18 (lv_at hl 4 rfl) ?_
    refine ln_cmp_ge (tgt := 50) hx hb (by omega) (by omega) dX1_toldByRows_20 (by decide) (fun _ => ?_) (fun c_1 => absurd c_1 (by omega))
    refine lv_lload_n hx hb dX1_toldByRows_50 rfl (lv_at hl 2 rfl) ?_
    exact W.lret (v := q_g6 (fun j => Int32.toInt64 (Int64.toInt32 (q_num kd sz nu j))) (pa k) i) hx hb hr (fun t ht hW => ⟨_, rfl, (by rw [← hd]; rfl), ht⟩) (fun _ h => absurd h List.not_mem_nil) dX1_toldByRows_51
  | succ d ih =>
    refine lv_iload hx hb dX1_toldByRows_16 (lv_at hl 5 rfl) ?_
    refine lv_iload hx hb dX1_toldByRows_18 (lv_at hl 4 rfl) ?_
    refine ln_cmp_ge (tgt := 50) hx hb (by omega) (by omega) dX1_toldByRows_20 (by decide) (fun c_2 => absurd c_2 (by omega)) (fun _ => ?_)
    refine lv_aload hx hb dX1_toldByRows_23 (lv_at hl 3 rfl) ?_
    refine lv_iload hx hb dX1_toldByRows_25 (lv_at hl 5 rfl) ?_
    refine qx_part hx hb hK hX hI hk (show i < q_pl (kd k) (sz k) by omega) dX1_toldByRows_27 (fun s_3 => ?_) (fun j_3 hj_3 oj_3 s_3 => ?_)
    · try dsimp only at s_3
      refine lv_astoreN (lv' := [(7, .null), (0, .ref (T0 + 3 * k)), (1, .int (nI 0)), (2, .long (q_g6 (fun j => Int32.toInt64 (Int64.toInt32 (q_num kd sz nu j))) (pa k) i)), (4, .ref (T0 + 3 * k + 2)), (5, .int (nI (q_pl (kd k) (sz k)))), (6, .int (nI i))]) hx hb dX1_toldByRows_28 hl (by decide) rfl (fun ls hl => ?_)
      refine lv_aloadN hx hb dX1_toldByRows_30 (lv_at hl 0 rfl) ?_
      refine lv_ifnullN (tgt := 44) hx hb dX1_toldByRows_32 (by decide) ?_
      refine lv_iinc (v := nI (i + 1)) (lv' := [(6, .int (nI (i + 1))), (7, .null), (0, .ref (T0 + 3 * k)), (1, .int (nI 0)), (2, .long (q_g6 (fun j => Int32.toInt64 (Int64.toInt32 (q_num kd sz nu j))) (pa k) i)), (4, .ref (T0 + 3 * k + 2)), (5, .int (nI (q_pl (kd k) (sz k))))]) hx hb dX1_toldByRows_44 hl (k := 6) rfl (nI_1 _) (by decide) rfl (fun ls hl => ?_)
      refine lv_goto (tgt := 16) hx hb dX1_toldByRows_47 (by decide) ?_
      exact ih (i + 1) ls (by rw [q_g6_n s_3]; exact lv_sub hl [2, 3, 4, 5, 6, 0] rfl)  (by omega) 
    · try dsimp only at s_3 hj_3 oj_3
      unfold q_ok at oj_3
      obtain ⟨aj_3, bj_3, dj_3, wj_3⟩ := hI.2.1 j_3 hj_3
      have n60 := hI.1
      try dsimp only at aj_3 bj_3 dj_3 wj_3 n60
      refine lv_astore (lv' := [(7, .ref (T0 + 3 * j_3)), (0, .ref (T0 + 3 * k)), (1, .int (nI 0)), (2, .long (q_g6 (fun j => Int32.toInt64 (Int64.toInt32 (q_num kd sz nu j))) (pa k) i)), (4, .ref (T0 + 3 * k + 2)), (5, .int (nI (q_pl (kd k) (sz k)))), (6, .int (nI i))]) hx hb dX1_toldByRows_28 hl (by decide) rfl (fun ls hl => ?_)
      refine lv_aload hx hb dX1_toldByRows_30 (lv_at hl 0 rfl) ?_
      refine lv_ifnull hx hb dX1_toldByRows_32 ?_
      refine lv_lload_n hx hb dX1_toldByRows_35 rfl (lv_at hl 3 rfl) ?_
      refine lv_aload hx hb dX1_toldByRows_36 (lv_at hl 0 rfl) ?_
      refine lv_iload_n hx hb dX1_toldByRows_38 rfl (lv_at hl 2 rfl) ?_
      refine qc_rl (r1 := Int32.toInt64 (Int64.toInt32 (q_num kd sz nu j_3))) (W.runS (As := [.ref (T0 + 3 * j_3), .int (nI 0)]) (rest := [.long (q_g6 (fun j => Int32.toInt64 (Int64.toInt32 (q_num kd sz nu j))) (pa k) i)]) ⟨hx, hb, hml, hown, hts⟩ (kX1_toldByRow l E x T0 n kd sz sh nu pa sl ft tn ts tg hI j_3 0 hj_3 (by omega) (by omega)) (va_cwS 2 hts gX1_toldByRows_X1_toldByRow rfl rfl rfl (by decide +kernel) ⟨Nat.le_of_ble_eq_true rfl, Nat.le_of_ble_eq_true rfl⟩) (q_pre hK hX) rfl rfl hl.1 rfl (lv_room (Nat.le_of_ble_eq_true rfl)) dX1_toldByRows_39 ⟨Nat.le_of_ble_eq_true rfl, Nat.le_of_ble_eq_true rfl⟩) rfl ?_
      refine lv_ladd hx hb dX1_toldByRows_42 ?_
      refine lv_lstore_n (lv' := [(2, .long ((q_g6 (fun j => Int32.toInt64 (Int64.toInt32 (q_num kd sz nu j))) (pa k) i) + (Int32.toInt64 (Int64.toInt32 (q_num kd sz nu j_3))))), (7, .ref (T0 + 3 * j_3)), (0, .ref (T0 + 3 * k)), (1, .int (nI 0)), (4, .ref (T0 + 3 * k + 2)), (5, .int (nI (q_pl (kd k) (sz k)))), (6, .int (nI i))]) hx hb dX1_toldByRows_43 rfl hl (by decide) rfl (fun ls hl => ?_)
      refine lv_iinc (v := nI (i + 1)) (lv' := [(6, .int (nI (i + 1))), (2, .long ((q_g6 (fun j => Int32.toInt64 (Int64.toInt32 (q_num kd sz nu j))) (pa k) i) + (Int32.toInt64 (Int64.toInt32 (q_num kd sz nu j_3))))), (7, .ref (T0 + 3 * j_3)), (0, .ref (T0 + 3 * k)), (1, .int (nI 0)), (4, .ref (T0 + 3 * k + 2)), (5, .int (nI (q_pl (kd k) (sz k))))]) hx hb dX1_toldByRows_44 hl (k := 6) rfl (nI_1 _) (by decide) rfl (fun ls hl => ?_)
      refine lv_goto (tgt := 16) hx hb dX1_toldByRows_47 (by decide) ?_
      exact ih (i + 1) ls (by rw [q_g6_s s_3]; exact lv_sub hl [3, 4, 1, 5, 6, 0] rfl)  (by omega) 
set_option maxHeartbeats 4000000 in
set_option maxRecDepth 100000 in
theorem kX1_toldByRows_f (l : Launch) (E : q_E) (x T0 : Nat) (n : Nat) (kd sz : Nat → Nat) (sh : Nat → Bool) (nu : Nat → Nat → Int64) (pa : Nat → Nat → Option Nat) (sl : Nat → Option Nat) (ft tn ts tg : Int32) (hI : q_I (n, kd, sz, sh, nu, pa, sl, ft, tn, ts, tg)) (k : Nat) (hk : k < n) (hkk : kd k = 7 ∨ kd k = 8)  : Met l yX1_toldByRows wsX1_toldByRows ({ frames := 4, cells := 0, slots := 0, locals := 89 }) (q_P E (q_X E x T0 (n, kd, sz, sh, nu, pa, sl, ft, tn, ts, tg)) [.ref (T0 + 3 * k), .int (nI 4)]) (vp_Sl (fun rr => rr = lN (q_rws kd sz sh pa false k))) 0 0 (fun _ => False) := by
  refine Met.ofW (cc := cX1_toldByRows) (maxL := 8) (ret := (some .long)) (by decide) rfl ?_
  intro p e s m args below meth c s₁ B hml hv
  obtain ⟨rfl, hK, hX⟩ := hv
  have hx := B.exec
  have hb := B.bytes
  have hr := B.returns
  have hts := atoms_spec (ws := wsX1_toldByRows) B.pre
  have hown : s.vm.findClass RX1 = some m.cls := findClass_of_methodNamed B.named
  have hlocks := B.notSynchronized
  have hl := lv_entry ([.ref (T0 + 3 * k), .int (nI 4)]) (n := 8) (Nat.le_of_ble_eq_true rfl)
  rw [lg_entry_eq]
  generalize (lg_sl ([.ref (T0 + 3 * k), .int (nI 4)]) ++ List.replicate (8 - (lg_sl ([.ref (T0 + 3 * k), .int (nI 4)])).length) Slot.unset).toArray = ls at hl ⊢
  have hl : lv_has ls 8 [(0, .ref (T0 + 3 * k)), (1, .int (nI 4))] := hl
  obtain ⟨ak, bk, dk, wk⟩ := hI.2.1 k hk
  have n60 := hI.1
  try dsimp only at ak bk dk wk n60
  have hpl := q_pl_le (kd k) (sz k)
  refine lv_lconst (v := 0) hx hb dX1_toldByRows_0 (by decide) ?_
  refine lv_lstore_n (lv' := [(2, .long 0), (0, .ref (T0 + 3 * k)), (1, .int (nI 4))]) hx hb dX1_toldByRows_1 rfl hl (by decide) rfl (fun ls hl => ?_)
  refine lv_aload_n hx hb dX1_toldByRows_2 rfl (lv_at hl 1 rfl) ?_
  refine qw_get (v := .ref (T0 + 3 * k + 2)) (ci := 0) (C := RX0) (T := TX0) (N := 6) hx hb hts nX1_toldByRows_0 hown hK (hX.2.2.1 k hk).1 rfl 3 (by decide) (hts (.fieldLink RX1 96 "DockGates$Thing" "parts" "[LDockGates$Thing;") (by decide +kernel)) rfl rfl dX1_toldByRows_3 ?_
  refine lv_astore (lv' := [(4, .ref (T0 + 3 * k + 2)), (2, .long 0), (0, .ref (T0 + 3 * k)), (1, .int (nI 4))]) hx hb dX1_toldByRows_6 hl (by decide) rfl (fun ls hl => ?_)
  refine lv_aload hx hb dX1_toldByRows_8 (lv_at hl 0 rfl) ?_
  refine qw_tlen (n := q_pl (kd k) (sz k)) hx hb hK (hX.2.2.1 k hk).2.2 dX1_toldByRows_10 ?_
  refine lv_istore (lv' := [(5, .int (nI (q_pl (kd k) (sz k)))), (4, .ref (T0 + 3 * k + 2)), (2, .long 0), (0, .ref (T0 + 3 * k)), (1, .int (nI 4))]) hx hb dX1_toldByRows_11 hl (by decide) rfl (fun ls hl => ?_)
  refine lv_iconst (v := nI 0) hx hb dX1_toldByRows_13 (by decide) ?_
  refine lv_istore (lv' := [(6, .int (nI 0)), (5, .int (nI (q_pl (kd k) (sz k)))), (4, .ref (T0 + 3 * k + 2)), (2, .long 0), (0, .ref (T0 + 3 * k)), (1, .int (nI 4))]) hx hb dX1_toldByRows_14 hl (by decide) rfl (fun ls hl => ?_)
  obtain ⟨i, ei⟩ : ∃ i : Nat, i = 0 := ⟨_, rfl⟩
  have hl : lv_has ls 8 [(0, .ref (T0 + 3 * k)), (1, .int (nI 4)), (2, .long (lN (q_su (q_ins kd sz sh pa false) (pa k) i))), (4, .ref (T0 + 3 * k + 2)), (5, .int (nI (q_pl (kd k) (sz k)))), (6, .int (nI i))] := by subst ei; exact lv_sub hl [4, 5, 3, 2, 1, 0] rfl
  generalize els : ls = lz at hl ⊢
  clear els
  obtain ⟨d, hd⟩ : ∃ d, i + d = q_pl (kd k) (sz k) := ⟨q_pl (kd k) (sz k) - i, by omega⟩
  clear ei
  induction d generalizing i lz with
  | zero =>
    refine lv_iload hx hb dX1_toldByRows_16 (lv_at hl 5 rfl) ?_
    refine lv_iload hx hb dX1_toldByRows_18 (lv_at hl 4 rfl) ?_
    refine ln_cmp_ge (tgt := 50) hx hb (by omega) (by omega) dX1_toldByRows_20 (by decide) (fun _ => ?_) (fun c_1 => absurd c_1 (by omega))
    refine lv_lload_n hx hb dX1_toldByRows_50 rfl (lv_at hl 2 rfl) ?_
    exact W.lret (v := lN (q_su (q_ins kd sz sh pa false) (pa k) i)) hx hb hr (fun t ht hW => ⟨_, rfl, (by unfold q_rws; rw [← hd]; rfl), ht⟩) (fun _ h => absurd h List.not_mem_nil) dX1_toldByRows_51
  | succ d ih =>
    refine lv_iload hx hb dX1_toldByRows_16 (lv_at hl 5 rfl) ?_
    refine lv_iload hx hb dX1_toldByRows_18 (lv_at hl 4 rfl) ?_
    refine ln_cmp_ge (tgt := 50) hx hb (by omega) (by omega) dX1_toldByRows_20 (by decide) (fun c_2 => absurd c_2 (by omega)) (fun _ => ?_)
    refine lv_aload hx hb dX1_toldByRows_23 (lv_at hl 3 rfl) ?_
    refine lv_iload hx hb dX1_toldByRows_25 (lv_at hl 5 rfl) ?_
    refine qx_part hx hb hK hX hI hk (show i < q_pl (kd k) (sz k) by omega) dX1_toldByRows_27 (fun s_3 => ?_) (fun j_3 hj_3 oj_3 s_3 => ?_)
    · try dsimp only at s_3
      refine lv_astoreN (lv' := [(7, .null), (0, .ref (T0 + 3 * k)), (1, .int (nI 4)), (2, .long (lN (q_su (q_ins kd sz sh pa false) (pa k) i))), (4, .ref (T0 + 3 * k + 2)), (5, .int (nI (q_pl (kd k) (sz k)))), (6, .int (nI i))]) hx hb dX1_toldByRows_28 hl (by decide) rfl (fun ls hl => ?_)
      refine lv_aloadN hx hb dX1_toldByRows_30 (lv_at hl 0 rfl) ?_
      refine lv_ifnullN (tgt := 44) hx hb dX1_toldByRows_32 (by decide) ?_
      refine lv_iinc (v := nI (i + 1)) (lv' := [(6, .int (nI (i + 1))), (7, .null), (0, .ref (T0 + 3 * k)), (1, .int (nI 4)), (2, .long (lN (q_su (q_ins kd sz sh pa false) (pa k) i))), (4, .ref (T0 + 3 * k + 2)), (5, .int (nI (q_pl (kd k) (sz k))))]) hx hb dX1_toldByRows_44 hl (k := 6) rfl (nI_1 _) (by decide) rfl (fun ls hl => ?_)
      refine lv_goto (tgt := 16) hx hb dX1_toldByRows_47 (by decide) ?_
      exact ih (i + 1) ls (by rw [q_su_n s_3]; exact lv_sub hl [2, 3, 4, 5, 6, 0] rfl)  (by omega) 
    · try dsimp only at s_3 hj_3 oj_3
      unfold q_ok at oj_3
      obtain ⟨aj_3, bj_3, dj_3, wj_3⟩ := hI.2.1 j_3 hj_3
      have n60 := hI.1
      try dsimp only at aj_3 bj_3 dj_3 wj_3 n60
      refine lv_astore (lv' := [(7, .ref (T0 + 3 * j_3)), (0, .ref (T0 + 3 * k)), (1, .int (nI 4)), (2, .long (lN (q_su (q_ins kd sz sh pa false) (pa k) i))), (4, .ref (T0 + 3 * k + 2)), (5, .int (nI (q_pl (kd k) (sz k)))), (6, .int (nI i))]) hx hb dX1_toldByRows_28 hl (by decide) rfl (fun ls hl => ?_)
      refine lv_aload hx hb dX1_toldByRows_30 (lv_at hl 0 rfl) ?_
      refine lv_ifnull hx hb dX1_toldByRows_32 ?_
      refine lv_lload_n hx hb dX1_toldByRows_35 rfl (lv_at hl 3 rfl) ?_
      refine lv_aload hx hb dX1_toldByRows_36 (lv_at hl 0 rfl) ?_
      refine lv_iload_n hx hb dX1_toldByRows_38 rfl (lv_at hl 2 rfl) ?_
      refine qc_rl (r1 := lN (q_ins kd sz sh pa false j_3)) (W.runS (As := [.ref (T0 + 3 * j_3), .int (nI 4)]) (rest := [.long (lN (q_su (q_ins kd sz sh pa false) (pa k) i))]) ⟨hx, hb, hml, hown, hts⟩ (kX1_toldByRow l E x T0 n kd sz sh nu pa sl ft tn ts tg hI j_3 4 hj_3 (by omega) (by omega)) (va_cwS 2 hts gX1_toldByRows_X1_toldByRow rfl rfl rfl (by decide +kernel) ⟨Nat.le_of_ble_eq_true rfl, Nat.le_of_ble_eq_true rfl⟩) (q_pre hK hX) rfl rfl hl.1 rfl (lv_room (Nat.le_of_ble_eq_true rfl)) dX1_toldByRows_39 ⟨Nat.le_of_ble_eq_true rfl, Nat.le_of_ble_eq_true rfl⟩) rfl ?_
      refine ln_ladd hx hb dX1_toldByRows_42 ?_
      refine lv_lstore_n (lv' := [(2, .long (lN ((q_su (q_ins kd sz sh pa false) (pa k) i) + (q_ins kd sz sh pa false j_3)))), (7, .ref (T0 + 3 * j_3)), (0, .ref (T0 + 3 * k)), (1, .int (nI 4)), (4, .ref (T0 + 3 * k + 2)), (5, .int (nI (q_pl (kd k) (sz k)))), (6, .int (nI i))]) hx hb dX1_toldByRows_43 rfl hl (by decide) rfl (fun ls hl => ?_)
      refine lv_iinc (v := nI (i + 1)) (lv' := [(6, .int (nI (i + 1))), (2, .long (lN ((q_su (q_ins kd sz sh pa false) (pa k) i) + (q_ins kd sz sh pa false j_3)))), (7, .ref (T0 + 3 * j_3)), (0, .ref (T0 + 3 * k)), (1, .int (nI 4)), (4, .ref (T0 + 3 * k + 2)), (5, .int (nI (q_pl (kd k) (sz k))))]) hx hb dX1_toldByRows_44 hl (k := 6) rfl (nI_1 _) (by decide) rfl (fun ls hl => ?_)
      refine lv_goto (tgt := 16) hx hb dX1_toldByRows_47 (by decide) ?_
      exact ih (i + 1) ls (by rw [q_su_s s_3]; exact lv_sub hl [3, 4, 1, 5, 6, 0] rfl)  (by omega) 
set_option maxHeartbeats 4000000 in
set_option maxRecDepth 100000 in
theorem kX1_toldByRows_t (l : Launch) (E : q_E) (x T0 : Nat) (n : Nat) (kd sz : Nat → Nat) (sh : Nat → Bool) (nu : Nat → Nat → Int64) (pa : Nat → Nat → Option Nat) (sl : Nat → Option Nat) (ft tn ts tg : Int32) (hI : q_I (n, kd, sz, sh, nu, pa, sl, ft, tn, ts, tg)) (k : Nat) (hk : k < n) (hkk : kd k = 8)  : Met l yX1_toldByRows wsX1_toldByRows ({ frames := 4, cells := 0, slots := 0, locals := 89 }) (q_P E (q_X E x T0 (n, kd, sz, sh, nu, pa, sl, ft, tn, ts, tg)) [.ref (T0 + 3 * k), .int (nI 5)]) (vp_Sl (fun rr => rr = lN (q_rws kd sz sh pa true k))) 0 0 (fun _ => False) := by
  refine Met.ofW (cc := cX1_toldByRows) (maxL := 8) (ret := (some .long)) (by decide) rfl ?_
  intro p e s m args below meth c s₁ B hml hv
  obtain ⟨rfl, hK, hX⟩ := hv
  have hx := B.exec
  have hb := B.bytes
  have hr := B.returns
  have hts := atoms_spec (ws := wsX1_toldByRows) B.pre
  have hown : s.vm.findClass RX1 = some m.cls := findClass_of_methodNamed B.named
  have hlocks := B.notSynchronized
  have hl := lv_entry ([.ref (T0 + 3 * k), .int (nI 5)]) (n := 8) (Nat.le_of_ble_eq_true rfl)
  rw [lg_entry_eq]
  generalize (lg_sl ([.ref (T0 + 3 * k), .int (nI 5)]) ++ List.replicate (8 - (lg_sl ([.ref (T0 + 3 * k), .int (nI 5)])).length) Slot.unset).toArray = ls at hl ⊢
  have hl : lv_has ls 8 [(0, .ref (T0 + 3 * k)), (1, .int (nI 5))] := hl
  obtain ⟨ak, bk, dk, wk⟩ := hI.2.1 k hk
  have n60 := hI.1
  try dsimp only at ak bk dk wk n60
  have hpl := q_pl_le (kd k) (sz k)
  refine lv_lconst (v := 0) hx hb dX1_toldByRows_0 (by decide) ?_
  refine lv_lstore_n (lv' := [(2, .long 0), (0, .ref (T0 + 3 * k)), (1, .int (nI 5))]) hx hb dX1_toldByRows_1 rfl hl (by decide) rfl (fun ls hl => ?_)
  refine lv_aload_n hx hb dX1_toldByRows_2 rfl (lv_at hl 1 rfl) ?_
  refine qw_get (v := .ref (T0 + 3 * k + 2)) (ci := 0) (C := RX0) (T := TX0) (N := 6) hx hb hts nX1_toldByRows_0 hown hK (hX.2.2.1 k hk).1 rfl 3 (by decide) (hts (.fieldLink RX1 96 "DockGates$Thing" "parts" "[LDockGates$Thing;") (by decide +kernel)) rfl rfl dX1_toldByRows_3 ?_
  refine lv_astore (lv' := [(4, .ref (T0 + 3 * k + 2)), (2, .long 0), (0, .ref (T0 + 3 * k)), (1, .int (nI 5))]) hx hb dX1_toldByRows_6 hl (by decide) rfl (fun ls hl => ?_)
  refine lv_aload hx hb dX1_toldByRows_8 (lv_at hl 0 rfl) ?_
  refine qw_tlen (n := q_pl (kd k) (sz k)) hx hb hK (hX.2.2.1 k hk).2.2 dX1_toldByRows_10 ?_
  refine lv_istore (lv' := [(5, .int (nI (q_pl (kd k) (sz k)))), (4, .ref (T0 + 3 * k + 2)), (2, .long 0), (0, .ref (T0 + 3 * k)), (1, .int (nI 5))]) hx hb dX1_toldByRows_11 hl (by decide) rfl (fun ls hl => ?_)
  refine lv_iconst (v := nI 0) hx hb dX1_toldByRows_13 (by decide) ?_
  refine lv_istore (lv' := [(6, .int (nI 0)), (5, .int (nI (q_pl (kd k) (sz k)))), (4, .ref (T0 + 3 * k + 2)), (2, .long 0), (0, .ref (T0 + 3 * k)), (1, .int (nI 5))]) hx hb dX1_toldByRows_14 hl (by decide) rfl (fun ls hl => ?_)
  obtain ⟨i, ei⟩ : ∃ i : Nat, i = 0 := ⟨_, rfl⟩
  have hl : lv_has ls 8 [(0, .ref (T0 + 3 * k)), (1, .int (nI 5)), (2, .long (lN (q_su (q_ins kd sz sh pa true) (pa k) i))), (4, .ref (T0 + 3 * k + 2)), (5, .int (nI (q_pl (kd k) (sz k)))), (6, .int (nI i))] := by subst ei; exact lv_sub hl [4, 5, 3, 2, 1, 0] rfl
  generalize els : ls = lz at hl ⊢
  clear els
  obtain ⟨d, hd⟩ : ∃ d, i + d = q_pl (kd k) (sz k) := ⟨q_pl (kd k) (sz k) - i, by omega⟩
  clear ei
  induction d generalizing i lz with
  | zero =>
    refine lv_iload hx hb dX1_toldByRows_16 (lv_at hl 5 rfl) ?_
    refine lv_iload hx hb dX1_toldByRows_18 (lv_at hl 4 rfl) ?_
    refine ln_cmp_ge (tgt := 50) hx hb (by omega) (by omega) dX1_toldByRows_20 (by decide) (fun _ => ?_) (fun c_1 => absurd c_1 (by omega))
    refine lv_lload_n hx hb dX1_toldByRows_50 rfl (lv_at hl 2 rfl) ?_
    exact W.lret (v := lN (q_su (q_ins kd sz sh pa true) (pa k) i)) hx hb hr (fun t ht hW => ⟨_, rfl, (by unfold q_rws; rw [← hd]; rfl), ht⟩) (fun _ h => absurd h List.not_mem_nil) dX1_toldByRows_51
  | succ d ih =>
    refine lv_iload hx hb dX1_toldByRows_16 (lv_at hl 5 rfl) ?_
    refine lv_iload hx hb dX1_toldByRows_18 (lv_at hl 4 rfl) ?_
    refine ln_cmp_ge (tgt := 50) hx hb (by omega) (by omega) dX1_toldByRows_20 (by decide) (fun c_2 => absurd c_2 (by omega)) (fun _ => ?_)
    refine lv_aload hx hb dX1_toldByRows_23 (lv_at hl 3 rfl) ?_
    refine lv_iload hx hb dX1_toldByRows_25 (lv_at hl 5 rfl) ?_
    refine qx_part hx hb hK hX hI hk (show i < q_pl (kd k) (sz k) by omega) dX1_toldByRows_27 (fun s_3 => ?_) (fun j_3 hj_3 oj_3 s_3 => ?_)
    · try dsimp only at s_3
      refine lv_astoreN (lv' := [(7, .null), (0, .ref (T0 + 3 * k)), (1, .int (nI 5)), (2, .long (lN (q_su (q_ins kd sz sh pa true) (pa k) i))), (4, .ref (T0 + 3 * k + 2)), (5, .int (nI (q_pl (kd k) (sz k)))), (6, .int (nI i))]) hx hb dX1_toldByRows_28 hl (by decide) rfl (fun ls hl => ?_)
      refine lv_aloadN hx hb dX1_toldByRows_30 (lv_at hl 0 rfl) ?_
      refine lv_ifnullN (tgt := 44) hx hb dX1_toldByRows_32 (by decide) ?_
      refine lv_iinc (v := nI (i + 1)) (lv' := [(6, .int (nI (i + 1))), (7, .null), (0, .ref (T0 + 3 * k)), (1, .int (nI 5)), (2, .long (lN (q_su (q_ins kd sz sh pa true) (pa k) i))), (4, .ref (T0 + 3 * k + 2)), (5, .int (nI (q_pl (kd k) (sz k))))]) hx hb dX1_toldByRows_44 hl (k := 6) rfl (nI_1 _) (by decide) rfl (fun ls hl => ?_)
      refine lv_goto (tgt := 16) hx hb dX1_toldByRows_47 (by decide) ?_
      exact ih (i + 1) ls (by rw [q_su_n s_3]; exact lv_sub hl [2, 3, 4, 5, 6, 0] rfl)  (by omega) 
    · try dsimp only at s_3 hj_3 oj_3
      unfold q_ok at oj_3
      obtain ⟨aj_3, bj_3, dj_3, wj_3⟩ := hI.2.1 j_3 hj_3
      have n60 := hI.1
      try dsimp only at aj_3 bj_3 dj_3 wj_3 n60
      refine lv_astore (lv' := [(7, .ref (T0 + 3 * j_3)), (0, .ref (T0 + 3 * k)), (1, .int (nI 5)), (2, .long (lN (q_su (q_ins kd sz sh pa true) (pa k) i))), (4, .ref (T0 + 3 * k + 2)), (5, .int (nI (q_pl (kd k) (sz k)))), (6, .int (nI i))]) hx hb dX1_toldByRows_28 hl (by decide) rfl (fun ls hl => ?_)
      refine lv_aload hx hb dX1_toldByRows_30 (lv_at hl 0 rfl) ?_
      refine lv_ifnull hx hb dX1_toldByRows_32 ?_
      refine lv_lload_n hx hb dX1_toldByRows_35 rfl (lv_at hl 3 rfl) ?_
      refine lv_aload hx hb dX1_toldByRows_36 (lv_at hl 0 rfl) ?_
      refine lv_iload_n hx hb dX1_toldByRows_38 rfl (lv_at hl 2 rfl) ?_
      refine qc_rl (r1 := lN (q_ins kd sz sh pa true j_3)) (W.runS (As := [.ref (T0 + 3 * j_3), .int (nI 5)]) (rest := [.long (lN (q_su (q_ins kd sz sh pa true) (pa k) i))]) ⟨hx, hb, hml, hown, hts⟩ (kX1_toldByRow l E x T0 n kd sz sh nu pa sl ft tn ts tg hI j_3 5 hj_3 (by omega) (by omega)) (va_cwS 2 hts gX1_toldByRows_X1_toldByRow rfl rfl rfl (by decide +kernel) ⟨Nat.le_of_ble_eq_true rfl, Nat.le_of_ble_eq_true rfl⟩) (q_pre hK hX) rfl rfl hl.1 rfl (lv_room (Nat.le_of_ble_eq_true rfl)) dX1_toldByRows_39 ⟨Nat.le_of_ble_eq_true rfl, Nat.le_of_ble_eq_true rfl⟩) rfl ?_
      refine ln_ladd hx hb dX1_toldByRows_42 ?_
      refine lv_lstore_n (lv' := [(2, .long (lN ((q_su (q_ins kd sz sh pa true) (pa k) i) + (q_ins kd sz sh pa true j_3)))), (7, .ref (T0 + 3 * j_3)), (0, .ref (T0 + 3 * k)), (1, .int (nI 5)), (4, .ref (T0 + 3 * k + 2)), (5, .int (nI (q_pl (kd k) (sz k)))), (6, .int (nI i))]) hx hb dX1_toldByRows_43 rfl hl (by decide) rfl (fun ls hl => ?_)
      refine lv_iinc (v := nI (i + 1)) (lv' := [(6, .int (nI (i + 1))), (2, .long (lN ((q_su (q_ins kd sz sh pa true) (pa k) i) + (q_ins kd sz sh pa true j_3)))), (7, .ref (T0 + 3 * j_3)), (0, .ref (T0 + 3 * k)), (1, .int (nI 5)), (4, .ref (T0 + 3 * k + 2)), (5, .int (nI (q_pl (kd k) (sz k))))]) hx hb dX1_toldByRows_44 hl (k := 6) rfl (nI_1 _) (by decide) rfl (fun ls hl => ?_)
      refine lv_goto (tgt := 16) hx hb dX1_toldByRows_47 (by decide) ?_
      exact ih (i + 1) ls (by rw [q_su_s s_3]; exact lv_sub hl [3, 4, 1, 5, 6, 0] rfl)  (by omega) 
set_option maxHeartbeats 4000000 in
set_option maxRecDepth 100000 in
theorem kX1_toldBy (l : Launch) (E : q_E) (x T0 : Nat) (n : Nat) (kd sz : Nat → Nat) (sh : Nat → Bool) (nu : Nat → Nat → Int64) (pa : Nat → Nat → Option Nat) (sl : Nat → Option Nat) (ft tn ts tg : Int32) (hI : q_I (n, kd, sz, sh, nu, pa, sl, ft, tn, ts, tg)) (k g : Nat) (hk : k < n) (hg : g < 13) (hgo : q_go (kd k) g = true)  : Met l yX1_toldBy wsX1_toldBy ({ frames := 5, cells := 0, slots := 0, locals := 116 }) (q_P E (q_X E x T0 (n, kd, sz, sh, nu, pa, sl, ft, tn, ts, tg)) [.ref (T0 + 3 * k), .int (nI g)]) (vp_Sl (fun rr => rr = q_val kd sz sh nu pa k g)) 0 0 (fun _ => False) := by
  refine Met.ofW (cc := cX1_toldBy) (maxL := 2) (ret := (some .long)) (by decide) rfl ?_
  intro p e s m args below meth c s₁ B hml hv
  obtain ⟨rfl, hK, hX⟩ := hv
  have hx := B.exec
  have hb := B.bytes
  have hr := B.returns
  have hts := atoms_spec (ws := wsX1_toldBy) B.pre
  have hown : s.vm.findClass RX1 = some m.cls := findClass_of_methodNamed B.named
  have hlocks := B.notSynchronized
  have hl := lv_entry ([.ref (T0 + 3 * k), .int (nI g)]) (n := 2) (Nat.le_of_ble_eq_true rfl)
  rw [lg_entry_eq]
  generalize (lg_sl ([.ref (T0 + 3 * k), .int (nI g)]) ++ List.replicate (2 - (lg_sl ([.ref (T0 + 3 * k), .int (nI g)])).length) Slot.unset).toArray = ls at hl ⊢
  have hl : lv_has ls 2 [(0, .ref (T0 + 3 * k)), (1, .int (nI g))] := hl
  obtain ⟨ak, bk, dk, wk⟩ := hI.2.1 k hk
  have n60 := hI.1
  try dsimp only at ak bk dk wk n60
  have hg2 := q_gofacts hgo
  refine lv_iload_n hx hb dX1_toldBy_0 rfl (lv_at hl 1 rfl) ?_
  have c_1 : g = 3 ∨ g = 7 ∨ g = 8 ∨ g = 9 ∨ g = 10 ∨ g = 11 ∨ g = 12 ∨ (¬ g = 3 ∧ ¬ g = 7 ∧ ¬ g = 8 ∧ ¬ g = 9 ∧ ¬ g = 10 ∧ ¬ g = 11 ∧ ¬ g = 12) := by omega
  rcases c_1 with c_1 | c_1 | c_1 | c_1 | c_1 | c_1 | c_1 | c_1
  · refine q_tIn (v := 3) (tgt := 56) (off := 55) hx hb c_1 dX1_toldBy_1 (by decide) (by decide) (by decide) (by decide) ?_
    refine lv_aload_n hx hb dX1_toldBy_56 rfl (lv_at hl 0 rfl) ?_
    refine lv_iconst (v := nI 0) hx hb dX1_toldBy_57 (by decide) ?_
    refine qc_rl (r1 := q_g6 (fun j => Int32.toInt64 (Int64.toInt32 (q_num kd sz nu j))) (pa k) (q_pl (kd k) (sz k))) (W.runS (As := [.ref (T0 + 3 * k), .int (nI 0)]) (rest := []) ⟨hx, hb, hml, hown, hts⟩ (kX1_toldByRows_g l E x T0 n kd sz sh nu pa sl ft tn ts tg hI k hk (by omega)) (va_cwS 2 hts gX1_toldBy_X1_toldByRows rfl rfl rfl (by decide +kernel) ⟨Nat.le_of_ble_eq_true rfl, Nat.le_of_ble_eq_true rfl⟩) (q_pre hK hX) rfl rfl hl.1 rfl (lv_room (Nat.le_of_ble_eq_true rfl)) dX1_toldBy_58 ⟨Nat.le_of_ble_eq_true rfl, Nat.le_of_ble_eq_true rfl⟩) rfl ?_
    refine lv_l2i hx hb dX1_toldBy_61 rfl ?_
    refine lv_i2l hx hb dX1_toldBy_62 rfl ?_
    exact W.lret (v := Int32.toInt64 ((Int64.toInt32 (q_g6 (fun j => Int32.toInt64 (Int64.toInt32 (q_num kd sz nu j))) (pa k) (q_pl (kd k) (sz k)))))) hx hb hr (fun t ht hW => ⟨_, rfl, (by subst c_1; show _ = Int32.toInt64 (q_grd kd sz nu pa k); unfold q_grd; rw [← q_g6_32]), ht⟩) (fun _ h => absurd h List.not_mem_nil) dX1_toldBy_63
  · refine q_tIn (v := 7) (tgt := 64) (off := 63) hx hb c_1 dX1_toldBy_1 (by decide) (by decide) (by decide) (by decide) ?_
    refine lv_aload_n hx hb dX1_toldBy_64 rfl (lv_at hl 0 rfl) ?_
    refine lv_iconst (v := nI 4) hx hb dX1_toldBy_65 (by decide) ?_
    refine qc_rl (r1 := lN (q_rws kd sz sh pa false k)) (W.runS (As := [.ref (T0 + 3 * k), .int (nI 4)]) (rest := []) ⟨hx, hb, hml, hown, hts⟩ (kX1_toldByRows_f l E x T0 n kd sz sh nu pa sl ft tn ts tg hI k hk (by omega)) (va_cwS 2 hts gX1_toldBy_X1_toldByRows rfl rfl rfl (by decide +kernel) ⟨Nat.le_of_ble_eq_true rfl, Nat.le_of_ble_eq_true rfl⟩) (q_pre hK hX) rfl rfl hl.1 rfl (lv_room (Nat.le_of_ble_eq_true rfl)) dX1_toldBy_66 ⟨Nat.le_of_ble_eq_true rfl, Nat.le_of_ble_eq_true rfl⟩) rfl ?_
    exact W.lret (v := lN (q_rws kd sz sh pa false k)) hx hb hr (fun t ht hW => ⟨_, rfl, (by subst c_1; rfl), ht⟩) (fun _ h => absurd h List.not_mem_nil) dX1_toldBy_69
  · refine q_tIn (v := 8) (tgt := 70) (off := 69) hx hb c_1 dX1_toldBy_1 (by decide) (by decide) (by decide) (by decide) ?_
    refine lv_aload_n hx hb dX1_toldBy_70 rfl (lv_at hl 0 rfl) ?_
    refine lv_iconst (v := nI 5) hx hb dX1_toldBy_71 (by decide) ?_
    refine qc_rl (r1 := lN (q_rws kd sz sh pa true k)) (W.runS (As := [.ref (T0 + 3 * k), .int (nI 5)]) (rest := []) ⟨hx, hb, hml, hown, hts⟩ (kX1_toldByRows_t l E x T0 n kd sz sh nu pa sl ft tn ts tg hI k hk (by omega)) (va_cwS 2 hts gX1_toldBy_X1_toldByRows rfl rfl rfl (by decide +kernel) ⟨Nat.le_of_ble_eq_true rfl, Nat.le_of_ble_eq_true rfl⟩) (q_pre hK hX) rfl rfl hl.1 rfl (lv_room (Nat.le_of_ble_eq_true rfl)) dX1_toldBy_72 ⟨Nat.le_of_ble_eq_true rfl, Nat.le_of_ble_eq_true rfl⟩) rfl ?_
    exact W.lret (v := lN (q_rws kd sz sh pa true k)) hx hb hr (fun t ht hW => ⟨_, rfl, (by subst c_1; rfl), ht⟩) (fun _ h => absurd h List.not_mem_nil) dX1_toldBy_75
  · refine q_tIn (v := 9) (tgt := 76) (off := 75) hx hb c_1 dX1_toldBy_1 (by decide) (by decide) (by decide) (by decide) ?_
    refine lv_aload_n hx hb dX1_toldBy_76 rfl (lv_at hl 0 rfl) ?_
    refine lv_iload_n hx hb dX1_toldBy_77 rfl (lv_at hl 1 rfl) ?_
    refine qc_ri (r1 := nI (sz k)) (W.runS (As := [.ref (T0 + 3 * k), .int (nI g)]) (rest := []) ⟨hx, hb, hml, hown, hts⟩ (kX1_toldByLoad_A l E x T0 n kd sz sh nu pa sl ft tn ts tg hI k g hk (by omega) (by omega)) (va_cwS 2 hts gX1_toldBy_X1_toldByLoad rfl rfl rfl (by decide +kernel) ⟨Nat.le_of_ble_eq_true rfl, Nat.le_of_ble_eq_true rfl⟩) (q_pre hK hX) rfl rfl hl.1 rfl (lv_room (Nat.le_of_ble_eq_true rfl)) dX1_toldBy_78 ⟨Nat.le_of_ble_eq_true rfl, Nat.le_of_ble_eq_true rfl⟩) rfl ?_
    refine lv_i2l (v := lN (sz k)) hx hb dX1_toldBy_81 (nI_l (by first | omega | (simp; omega))) ?_
    exact W.lret (v := lN (sz k)) hx hb hr (fun t ht hW => ⟨_, rfl, (by subst c_1; rfl), ht⟩) (fun _ h => absurd h List.not_mem_nil) dX1_toldBy_82
  · refine q_tIn (v := 10) (tgt := 76) (off := 75) hx hb c_1 dX1_toldBy_1 (by decide) (by decide) (by decide) (by decide) ?_
    refine lv_aload_n hx hb dX1_toldBy_76 rfl (lv_at hl 0 rfl) ?_
    refine lv_iload_n hx hb dX1_toldBy_77 rfl (lv_at hl 1 rfl) ?_
    subst c_1
    refine qc_ri (r1 := nI (if sh k then 1 else 0)) (W.runS (As := [.ref (T0 + 3 * k), .int (nI 10)]) (rest := []) ⟨hx, hb, hml, hown, hts⟩ (kX1_toldByLoad_T l E x T0 n kd sz sh nu pa sl ft tn ts tg hI k hk) (va_cwS 2 hts gX1_toldBy_X1_toldByLoad rfl rfl rfl (by decide +kernel) ⟨Nat.le_of_ble_eq_true rfl, Nat.le_of_ble_eq_true rfl⟩) (q_pre hK hX) rfl rfl hl.1 rfl (lv_room (Nat.le_of_ble_eq_true rfl)) dX1_toldBy_78 ⟨Nat.le_of_ble_eq_true rfl, Nat.le_of_ble_eq_true rfl⟩) rfl ?_
    have ik : (if sh k then 1 else 0) ≤ 1 := by split <;> omega
    refine lv_i2l (v := lN (if sh k then 1 else 0)) hx hb dX1_toldBy_81 (nI_l (by first | omega | (simp; omega))) ?_
    exact W.lret (v := lN (if sh k then 1 else 0)) hx hb hr (fun t ht hW => ⟨_, rfl, rfl, ht⟩) (fun _ h => absurd h List.not_mem_nil) dX1_toldBy_82
  · refine q_tIn (v := 11) (tgt := 76) (off := 75) hx hb c_1 dX1_toldBy_1 (by decide) (by decide) (by decide) (by decide) ?_
    refine lv_aload_n hx hb dX1_toldBy_76 rfl (lv_at hl 0 rfl) ?_
    refine lv_iload_n hx hb dX1_toldBy_77 rfl (lv_at hl 1 rfl) ?_
    refine qc_ri (r1 := nI (sz k)) (W.runS (As := [.ref (T0 + 3 * k), .int (nI g)]) (rest := []) ⟨hx, hb, hml, hown, hts⟩ (kX1_toldByLoad_A l E x T0 n kd sz sh nu pa sl ft tn ts tg hI k g hk (by omega) (by omega)) (va_cwS 2 hts gX1_toldBy_X1_toldByLoad rfl rfl rfl (by decide +kernel) ⟨Nat.le_of_ble_eq_true rfl, Nat.le_of_ble_eq_true rfl⟩) (q_pre hK hX) rfl rfl hl.1 rfl (lv_room (Nat.le_of_ble_eq_true rfl)) dX1_toldBy_78 ⟨Nat.le_of_ble_eq_true rfl, Nat.le_of_ble_eq_true rfl⟩) rfl ?_
    refine lv_i2l (v := lN (sz k)) hx hb dX1_toldBy_81 (nI_l (by first | omega | (simp; omega))) ?_
    exact W.lret (v := lN (sz k)) hx hb hr (fun t ht hW => ⟨_, rfl, (by subst c_1; rfl), ht⟩) (fun _ h => absurd h List.not_mem_nil) dX1_toldBy_82
  · refine q_tIn (v := 12) (tgt := 76) (off := 75) hx hb c_1 dX1_toldBy_1 (by decide) (by decide) (by decide) (by decide) ?_
    refine lv_aload_n hx hb dX1_toldBy_76 rfl (lv_at hl 0 rfl) ?_
    refine lv_iload_n hx hb dX1_toldBy_77 rfl (lv_at hl 1 rfl) ?_
    subst c_1
    refine qc_ri (r1 := nI (q_w kd sz sh k)) (W.runS (As := [.ref (T0 + 3 * k), .int (nI 12)]) (rest := []) ⟨hx, hb, hml, hown, hts⟩ (kX1_toldByLoad_W l E x T0 n kd sz sh nu pa sl ft tn ts tg hI k hk (by omega)) (va_cwS 2 hts gX1_toldBy_X1_toldByLoad rfl rfl rfl (by decide +kernel) ⟨Nat.le_of_ble_eq_true rfl, Nat.le_of_ble_eq_true rfl⟩) (q_pre hK hX) rfl rfl hl.1 rfl (lv_room (Nat.le_of_ble_eq_true rfl)) dX1_toldBy_78 ⟨Nat.le_of_ble_eq_true rfl, Nat.le_of_ble_eq_true rfl⟩) rfl ?_
    have ik := q_w_le (kd := kd) (sh := sh) bk
    refine lv_i2l (v := lN (q_w kd sz sh k)) hx hb dX1_toldBy_81 (nI_l (by first | omega | (simp; omega))) ?_
    exact W.lret (v := lN (q_w kd sz sh k)) hx hb hr (fun t ht hW => ⟨_, rfl, rfl, ht⟩) (fun _ h => absurd h List.not_mem_nil) dX1_toldBy_82
  · obtain ⟨c_1_3, c_1_7, c_1_8, c_1_9, c_1_10, c_1_11, c_1_12⟩ := c_1
    have c_2 : g = 4 ∨ g = 5 ∨ g = 6 ∨ ((g : Int) < 3 ∨ 12 < (g : Int)) := by omega
    rcases c_2 with c_2 | c_2 | c_2 | c_2
    · refine q_tIn (v := 4) (tgt := 83) (off := 82) hx hb c_2 dX1_toldBy_1 (by decide) (by decide) (by decide) (by decide) ?_
      refine lv_aload_n hx hb dX1_toldBy_83 rfl (lv_at hl 0 rfl) ?_
      refine lv_iload_n hx hb dX1_toldBy_84 rfl (lv_at hl 1 rfl) ?_
      refine qc_rl (r1 := q_row kd sz sh nu pa k g) (W.runS (As := [.ref (T0 + 3 * k), .int (nI g)]) (rest := []) ⟨hx, hb, hml, hown, hts⟩ (kX1_toldByRow l E x T0 n kd sz sh nu pa sl ft tn ts tg hI k g hk (by omega) (by omega)) (va_cwS 2 hts gX1_toldBy_X1_toldByRow rfl rfl rfl (by decide +kernel) ⟨Nat.le_of_ble_eq_true rfl, Nat.le_of_ble_eq_true rfl⟩) (q_pre hK hX) rfl rfl hl.1 rfl (lv_room (Nat.le_of_ble_eq_true rfl)) dX1_toldBy_85 ⟨Nat.le_of_ble_eq_true rfl, Nat.le_of_ble_eq_true rfl⟩) rfl ?_
      exact W.lret (v := q_row kd sz sh nu pa k g) hx hb hr (fun t ht hW => ⟨_, rfl, (by subst c_2; rfl), ht⟩) (fun _ h => absurd h List.not_mem_nil) dX1_toldBy_88
    · refine q_tIn (v := 5) (tgt := 83) (off := 82) hx hb c_2 dX1_toldBy_1 (by decide) (by decide) (by decide) (by decide) ?_
      refine lv_aload_n hx hb dX1_toldBy_83 rfl (lv_at hl 0 rfl) ?_
      refine lv_iload_n hx hb dX1_toldBy_84 rfl (lv_at hl 1 rfl) ?_
      refine qc_rl (r1 := q_row kd sz sh nu pa k g) (W.runS (As := [.ref (T0 + 3 * k), .int (nI g)]) (rest := []) ⟨hx, hb, hml, hown, hts⟩ (kX1_toldByRow l E x T0 n kd sz sh nu pa sl ft tn ts tg hI k g hk (by omega) (by omega)) (va_cwS 2 hts gX1_toldBy_X1_toldByRow rfl rfl rfl (by decide +kernel) ⟨Nat.le_of_ble_eq_true rfl, Nat.le_of_ble_eq_true rfl⟩) (q_pre hK hX) rfl rfl hl.1 rfl (lv_room (Nat.le_of_ble_eq_true rfl)) dX1_toldBy_85 ⟨Nat.le_of_ble_eq_true rfl, Nat.le_of_ble_eq_true rfl⟩) rfl ?_
      exact W.lret (v := q_row kd sz sh nu pa k g) hx hb hr (fun t ht hW => ⟨_, rfl, (by subst c_2; rfl), ht⟩) (fun _ h => absurd h List.not_mem_nil) dX1_toldBy_88
    · refine q_tIn (v := 6) (tgt := 83) (off := 82) hx hb c_2 dX1_toldBy_1 (by decide) (by decide) (by decide) (by decide) ?_
      refine lv_aload_n hx hb dX1_toldBy_83 rfl (lv_at hl 0 rfl) ?_
      refine lv_iload_n hx hb dX1_toldBy_84 rfl (lv_at hl 1 rfl) ?_
      refine qc_rl (r1 := q_row kd sz sh nu pa k g) (W.runS (As := [.ref (T0 + 3 * k), .int (nI g)]) (rest := []) ⟨hx, hb, hml, hown, hts⟩ (kX1_toldByRow l E x T0 n kd sz sh nu pa sl ft tn ts tg hI k g hk (by omega) (by omega)) (va_cwS 2 hts gX1_toldBy_X1_toldByRow rfl rfl rfl (by decide +kernel) ⟨Nat.le_of_ble_eq_true rfl, Nat.le_of_ble_eq_true rfl⟩) (q_pre hK hX) rfl rfl hl.1 rfl (lv_room (Nat.le_of_ble_eq_true rfl)) dX1_toldBy_85 ⟨Nat.le_of_ble_eq_true rfl, Nat.le_of_ble_eq_true rfl⟩) rfl ?_
      exact W.lret (v := q_row kd sz sh nu pa k g) hx hb hr (fun t ht hW => ⟨_, rfl, (by subst c_2; rfl), ht⟩) (fun _ h => absurd h List.not_mem_nil) dX1_toldBy_88
    · refine q_tOut (tgt := 83) hx hb (by omega) dX1_toldBy_1 c_2 (by decide) ?_
      refine lv_aload_n hx hb dX1_toldBy_83 rfl (lv_at hl 0 rfl) ?_
      refine lv_iload_n hx hb dX1_toldBy_84 rfl (lv_at hl 1 rfl) ?_
      refine qc_rl (r1 := q_row kd sz sh nu pa k g) (W.runS (As := [.ref (T0 + 3 * k), .int (nI g)]) (rest := []) ⟨hx, hb, hml, hown, hts⟩ (kX1_toldByRow l E x T0 n kd sz sh nu pa sl ft tn ts tg hI k g hk (by omega) (by omega)) (va_cwS 2 hts gX1_toldBy_X1_toldByRow rfl rfl rfl (by decide +kernel) ⟨Nat.le_of_ble_eq_true rfl, Nat.le_of_ble_eq_true rfl⟩) (q_pre hK hX) rfl rfl hl.1 rfl (lv_room (Nat.le_of_ble_eq_true rfl)) dX1_toldBy_85 ⟨Nat.le_of_ble_eq_true rfl, Nat.le_of_ble_eq_true rfl⟩) rfl ?_
      exact W.lret (v := q_row kd sz sh nu pa k g) hx hb hr (fun t ht hW => ⟨_, rfl, (by rcases (show g = 0 ∨ g = 1 ∨ g = 2 by omega) with h | h | h <;> subst h <;> rfl), ht⟩) (fun _ h => absurd h List.not_mem_nil) dX1_toldBy_88
