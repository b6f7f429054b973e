/-! ===== the static methods that touch no heap (written by program) ===== -/
theorem q_bt {P : Prop} [Decidable P] (h : P) : nI 1 = q_b (decide P) := by simp only [q_b, decide_eq_true h, if_true]; decide
theorem q_bf {P : Prop} [Decidable P] (h : ¬ P) : nI 0 = q_b (decide P) := by simp only [q_b, decide_eq_false h]; decide
theorem q_b1 {b : Bool} (h : b = true) : nI 1 = q_b b := by subst h; decide
theorem q_b0 {b : Bool} (h : b = false) : nI 0 = q_b b := by subst h; decide
theorem q_nbb (b : Bool) : narrow .boolean (.int (q_b b)) = .int (q_b b) := by cases b <;> rfl
theorem q_fbb (b : Bool) : fits .boolean (.int (q_b b)) = true := by cases b <;> rfl
theorem q_in0 (x : Int32) {n : Nat} (hn : n + 1 < 2 ^ 31) : decide (nI 0 ≤ x ∧ x ≤ nI n) = (q_ix x (n + 1)).isSome := by
  rcases q_ix_or x hn with ⟨j, hj, rfl⟩ | h
  · rw [q_ix_in hj (by omega)]
    simp only [Option.isSome_some, decide_eq_true_eq]
    exact ⟨nI_le (by omega) (by omega), nI_le (by omega) (by omega)⟩
  · rw [h]
    simp only [Option.isSome_none, decide_eq_false_iff_not]
    intro q
    rcases pk_ix x hn with h1 | h1 | ⟨j, hj, rfl⟩
    · exact absurd q.1 (by rw [nI_0]; exact Int32.not_le.mpr h1)
    · exact absurd (Int32.le_trans h1 q.2) (fun z => by have := (nI_leI hn (by omega)).mp z; omega)
    · rw [q_ix_in hj (by omega)] at h; cases h
theorem q_in1 (x : Int32) {z : Nat} (hz : z < 2 ^ 31) : decide (nI 0 ≤ x ∧ x ≤ nI z - nI 1) = (q_ix x z).isSome := by
  cases z with
  | zero =>
    have e : (q_ix x 0).isSome = false := by unfold q_ix; rw [if_pos (Or.inr (Nat.zero_le _))]; rfl
    rw [e]
    simp only [decide_eq_false_iff_not]
    intro q
    exact absurd (Int32.le_trans q.1 q.2) (by decide)
  | succ n => rw [pk_sub (by omega), show n + 1 - 1 = n by omega]; exact q_in0 x hz
set_option maxHeartbeats 4000000 in
set_option maxRecDepth 100000 in
theorem kX1_isSlot (l : Launch) (a : Int32)  : Met l yX1_isSlot wsX1_isSlot ({ frames := 0, cells := 0, slots := 0, locals := 0 }) (fun vv _ => vv = [.int a].toArray) (vp_Si (fun rr => rr = q_b (q_ix a 12).isSome)) 0 0 (fun _ => False) := by
  refine Met.ofW (cc := cX1_isSlot) (maxL := 1) (ret := (some .boolean)) (by decide) rfl ?_
  intro p e s m args below meth c s₁ B hml hv
  have hv : args = [.int a].toArray := hv
  subst hv
  have hx := B.exec
  have hb := B.bytes
  have hr := B.returns
  have hts := atoms_spec (ws := wsX1_isSlot) B.pre
  have hown : s.vm.findClass RX1 = some m.cls := findClass_of_methodNamed B.named
  have hlocks := B.notSynchronized
  have hl := lv_entry ([.int a]) (n := 1) (Nat.le_of_ble_eq_true rfl)
  rw [lg_entry_eq]
  generalize (lg_sl ([.int a]) ++ List.replicate (1 - (lg_sl ([.int a])).length) Slot.unset).toArray = ls at hl ⊢
  have hl : lv_has ls 1 [(0, .int a)] := hl
  refine lv_iload_n hx hb dX1_isSlot_0 rfl (lv_at hl 0 rfl) ?_
  refine lv_if_lt (tgt := 14) hx hb dX1_isSlot_1 (by decide) (fun c_1 => ?_) (fun c_1 => ?_)
  · refine lv_iconst (v := nI 0) hx hb dX1_isSlot_14 (by decide) ?_
    exact W.zret (v := nI 0) hx hb hr rfl (fun t ht hW => ⟨_, rfl, (by rw [q_ix_neg c_1]; decide), ht⟩) (fun _ h => absurd h List.not_mem_nil) dX1_isSlot_15
  · refine lv_iload_n hx hb dX1_isSlot_4 rfl (lv_at hl 0 rfl) ?_
    refine lv_bipush (v := nI 12) hx hb dX1_isSlot_5 (by decide) ?_
    refine lv_icmp_ge (tgt := 14) hx hb dX1_isSlot_7 (by decide) (fun c_2 => ?_) (fun c_2 => ?_)
    · refine lv_iconst (v := nI 0) hx hb dX1_isSlot_14 (by decide) ?_
      exact W.zret (v := nI 0) hx hb hr rfl (fun t ht hW => ⟨_, rfl, (by first | (rw [q_ix_big (by decide) c_2]; decide) | (obtain ⟨j, hj, rfl⟩ := q_ix_of (by decide) c_1 c_2; rw [q_ix_in hj (by decide)]; rfl)), ht⟩) (fun _ h => absurd h List.not_mem_nil) dX1_isSlot_15
    · refine lv_iconst (v := nI 1) hx hb dX1_isSlot_10 (by decide) ?_
      refine lv_goto (tgt := 15) hx hb dX1_isSlot_11 (by decide) ?_
      exact W.zret (v := nI 1) hx hb hr rfl (fun t ht hW => ⟨_, rfl, (by first | (rw [q_ix_big (by decide) c_2]; decide) | (obtain ⟨j, hj, rfl⟩ := q_ix_of (by decide) c_1 c_2; rw [q_ix_in hj (by decide)]; rfl)), ht⟩) (fun _ h => absurd h List.not_mem_nil) dX1_isSlot_15
set_option maxHeartbeats 4000000 in
set_option maxRecDepth 100000 in
theorem kX1_isGate (l : Launch) (a : Int32)  : Met l yX1_isGate wsX1_isGate ({ frames := 0, cells := 0, slots := 0, locals := 0 }) (fun vv _ => vv = [.int a].toArray) (vp_Si (fun rr => rr = q_b (q_ix a 13).isSome)) 0 0 (fun _ => False) := by
  refine Met.ofW (cc := cX1_isGate) (maxL := 1) (ret := (some .boolean)) (by decide) rfl ?_
  intro p e s m args below meth c s₁ B hml hv
  have hv : args = [.int a].toArray := hv
  subst hv
  have hx := B.exec
  have hb := B.bytes
  have hr := B.returns
  have hts := atoms_spec (ws := wsX1_isGate) B.pre
  have hown : s.vm.findClass RX1 = some m.cls := findClass_of_methodNamed B.named
  have hlocks := B.notSynchronized
  have hl := lv_entry ([.int a]) (n := 1) (Nat.le_of_ble_eq_true rfl)
  rw [lg_entry_eq]
  generalize (lg_sl ([.int a]) ++ List.replicate (1 - (lg_sl ([.int a])).length) Slot.unset).toArray = ls at hl ⊢
  have hl : lv_has ls 1 [(0, .int a)] := hl
  refine lv_iload_n hx hb dX1_isGate_0 rfl (lv_at hl 0 rfl) ?_
  refine lv_if_lt (tgt := 14) hx hb dX1_isGate_1 (by decide) (fun c_1 => ?_) (fun c_1 => ?_)
  · refine lv_iconst (v := nI 0) hx hb dX1_isGate_14 (by decide) ?_
    exact W.zret (v := nI 0) hx hb hr rfl (fun t ht hW => ⟨_, rfl, (by rw [q_ix_neg c_1]; decide), ht⟩) (fun _ h => absurd h List.not_mem_nil) dX1_isGate_15
  · refine lv_iload_n hx hb dX1_isGate_4 rfl (lv_at hl 0 rfl) ?_
    refine lv_bipush (v := nI 13) hx hb dX1_isGate_5 (by decide) ?_
    refine lv_icmp_ge (tgt := 14) hx hb dX1_isGate_7 (by decide) (fun c_2 => ?_) (fun c_2 => ?_)
    · refine lv_iconst (v := nI 0) hx hb dX1_isGate_14 (by decide) ?_
      exact W.zret (v := nI 0) hx hb hr rfl (fun t ht hW => ⟨_, rfl, (by first | (rw [q_ix_big (by decide) c_2]; decide) | (obtain ⟨j, hj, rfl⟩ := q_ix_of (by decide) c_1 c_2; rw [q_ix_in hj (by decide)]; rfl)), ht⟩) (fun _ h => absurd h List.not_mem_nil) dX1_isGate_15
    · refine lv_iconst (v := nI 1) hx hb dX1_isGate_10 (by decide) ?_
      refine lv_goto (tgt := 15) hx hb dX1_isGate_11 (by decide) ?_
      exact W.zret (v := nI 1) hx hb hr rfl (fun t ht hW => ⟨_, rfl, (by first | (rw [q_ix_big (by decide) c_2]; decide) | (obtain ⟨j, hj, rfl⟩ := q_ix_of (by decide) c_1 c_2; rw [q_ix_in hj (by decide)]; rfl)), ht⟩) (fun _ h => absurd h List.not_mem_nil) dX1_isGate_15
set_option maxHeartbeats 4000000 in
set_option maxRecDepth 100000 in
theorem kX1_isKind (l : Launch) (a : Int32)  : Met l yX1_isKind wsX1_isKind ({ frames := 0, cells := 0, slots := 0, locals := 0 }) (fun vv _ => vv = [.int a].toArray) (vp_Si (fun rr => rr = q_b (q_ix a 12).isSome)) 0 0 (fun _ => False) := by
  refine Met.ofW (cc := cX1_isKind) (maxL := 1) (ret := (some .boolean)) (by decide) rfl ?_
  intro p e s m args below meth c s₁ B hml hv
  have hv : args = [.int a].toArray := hv
  subst hv
  have hx := B.exec
  have hb := B.bytes
  have hr := B.returns
  have hts := atoms_spec (ws := wsX1_isKind) B.pre
  have hown : s.vm.findClass RX1 = some m.cls := findClass_of_methodNamed B.named
  have hlocks := B.notSynchronized
  have hl := lv_entry ([.int a]) (n := 1) (Nat.le_of_ble_eq_true rfl)
  rw [lg_entry_eq]
  generalize (lg_sl ([.int a]) ++ List.replicate (1 - (lg_sl ([.int a])).length) Slot.unset).toArray = ls at hl ⊢
  have hl : lv_has ls 1 [(0, .int a)] := hl
  refine lv_iload_n hx hb dX1_isKind_0 rfl (lv_at hl 0 rfl) ?_
  refine lv_if_lt (tgt := 14) hx hb dX1_isKind_1 (by decide) (fun c_1 => ?_) (fun c_1 => ?_)
  · refine lv_iconst (v := nI 0) hx hb dX1_isKind_14 (by decide) ?_
    exact W.zret (v := nI 0) hx hb hr rfl (fun t ht hW => ⟨_, rfl, (by rw [q_ix_neg c_1]; decide), ht⟩) (fun _ h => absurd h List.not_mem_nil) dX1_isKind_15
  · refine lv_iload_n hx hb dX1_isKind_4 rfl (lv_at hl 0 rfl) ?_
    refine lv_bipush (v := nI 12) hx hb dX1_isKind_5 (by decide) ?_
    refine lv_icmp_ge (tgt := 14) hx hb dX1_isKind_7 (by decide) (fun c_2 => ?_) (fun c_2 => ?_)
    · refine lv_iconst (v := nI 0) hx hb dX1_isKind_14 (by decide) ?_
      exact W.zret (v := nI 0) hx hb hr rfl (fun t ht hW => ⟨_, rfl, (by first | (rw [q_ix_big (by decide) c_2]; decide) | (obtain ⟨j, hj, rfl⟩ := q_ix_of (by decide) c_1 c_2; rw [q_ix_in hj (by decide)]; rfl)), ht⟩) (fun _ h => absurd h List.not_mem_nil) dX1_isKind_15
    · refine lv_iconst (v := nI 1) hx hb dX1_isKind_10 (by decide) ?_
      refine lv_goto (tgt := 15) hx hb dX1_isKind_11 (by decide) ?_
      exact W.zret (v := nI 1) hx hb hr rfl (fun t ht hW => ⟨_, rfl, (by first | (rw [q_ix_big (by decide) c_2]; decide) | (obtain ⟨j, hj, rfl⟩ := q_ix_of (by decide) c_1 c_2; rw [q_ix_in hj (by decide)]; rfl)), ht⟩) (fun _ h => absurd h List.not_mem_nil) dX1_isKind_15
set_option maxHeartbeats 4000000 in
set_option maxRecDepth 100000 in
theorem kX1_holdsNumbers (l : Launch) (k : Nat) (hk : k < 2 ^ 31) : Met l yX1_holdsNumbers wsX1_holdsNumbers ({ frames := 0, cells := 0, slots := 0, locals := 0 }) (fun vv _ => vv = [.int (nI k)].toArray) (vp_Si (fun rr => rr = q_b (decide (k < 3)))) 0 0 (fun _ => False) := by
  refine Met.ofW (cc := cX1_holdsNumbers) (maxL := 1) (ret := (some .boolean)) (by decide) rfl ?_
  intro p e s m args below meth c s₁ B hml hv
  have hv : args = [.int (nI k)].toArray := hv
  subst hv
  have hx := B.exec
  have hb := B.bytes
  have hr := B.returns
  have hts := atoms_spec (ws := wsX1_holdsNumbers) B.pre
  have hown : s.vm.findClass RX1 = some m.cls := findClass_of_methodNamed B.named
  have hlocks := B.notSynchronized
  have hl := lv_entry ([.int (nI k)]) (n := 1) (Nat.le_of_ble_eq_true rfl)
  rw [lg_entry_eq]
  generalize (lg_sl ([.int (nI k)]) ++ List.replicate (1 - (lg_sl ([.int (nI k)])).length) Slot.unset).toArray = ls at hl ⊢
  have hl : lv_has ls 1 [(0, .int (nI k))] := hl
  refine lv_iload_n hx hb dX1_holdsNumbers_0 rfl (lv_at hl 0 rfl) ?_
  refine ln_if_lt (tgt := 13) hx hb (by omega) dX1_holdsNumbers_1 (by decide) ?_
  refine lv_iload_n hx hb dX1_holdsNumbers_4 rfl (lv_at hl 0 rfl) ?_
  refine lv_iconst (v := nI 2) hx hb dX1_holdsNumbers_5 (by decide) ?_
  refine ln_cmp_gt (tgt := 13) hx hb (by omega) (by omega) dX1_holdsNumbers_6 (by decide) (fun c_2 => ?_) (fun c_2 => ?_)
  · refine lv_iconst (v := nI 0) hx hb dX1_holdsNumbers_13 (by decide) ?_
    exact W.zret (v := nI 0) hx hb hr rfl (fun t ht hW => ⟨_, rfl, (q_bf (by omega)), ht⟩) (fun _ h => absurd h List.not_mem_nil) dX1_holdsNumbers_14
  · refine lv_iconst (v := nI 1) hx hb dX1_holdsNumbers_9 (by decide) ?_
    refine lv_goto (tgt := 14) hx hb dX1_holdsNumbers_10 (by decide) ?_
    exact W.zret (v := nI 1) hx hb hr rfl (fun t ht hW => ⟨_, rfl, (q_bt (by omega)), ht⟩) (fun _ h => absurd h List.not_mem_nil) dX1_holdsNumbers_14
set_option maxHeartbeats 4000000 in
set_option maxRecDepth 100000 in
theorem kX1_holdsThings (l : Launch) (k : Nat) (hk : k < 2 ^ 31) : Met l yX1_holdsThings wsX1_holdsThings ({ frames := 0, cells := 0, slots := 0, locals := 0 }) (fun vv _ => vv = [.int (nI k)].toArray) (vp_Si (fun rr => rr = q_b (decide (3 ≤ k ∧ k < 9)))) 0 0 (fun _ => False) := by
  refine Met.ofW (cc := cX1_holdsThings) (maxL := 1) (ret := (some .boolean)) (by decide) rfl ?_
  intro p e s m args below meth c s₁ B hml hv
  have hv : args = [.int (nI k)].toArray := hv
  subst hv
  have hx := B.exec
  have hb := B.bytes
  have hr := B.returns
  have hts := atoms_spec (ws := wsX1_holdsThings) B.pre
  have hown : s.vm.findClass RX1 = some m.cls := findClass_of_methodNamed B.named
  have hlocks := B.notSynchronized
  have hl := lv_entry ([.int (nI k)]) (n := 1) (Nat.le_of_ble_eq_true rfl)
  rw [lg_entry_eq]
  generalize (lg_sl ([.int (nI k)]) ++ List.replicate (1 - (lg_sl ([.int (nI k)])).length) Slot.unset).toArray = ls at hl ⊢
  have hl : lv_has ls 1 [(0, .int (nI k))] := hl
  refine lv_iload_n hx hb dX1_holdsThings_0 rfl (lv_at hl 0 rfl) ?_
  refine lv_iconst (v := nI 3) hx hb dX1_holdsThings_1 (by decide) ?_
  refine ln_cmp_lt (tgt := 15) hx hb (by omega) (by omega) dX1_holdsThings_2 (by decide) (fun c_1 => ?_) (fun c_1 => ?_)
  · refine lv_iconst (v := nI 0) hx hb dX1_holdsThings_15 (by decide) ?_
    exact W.zret (v := nI 0) hx hb hr rfl (fun t ht hW => ⟨_, rfl, (q_bf (by omega)), ht⟩) (fun _ h => absurd h List.not_mem_nil) dX1_holdsThings_16
  · refine lv_iload_n hx hb dX1_holdsThings_5 rfl (lv_at hl 0 rfl) ?_
    refine lv_bipush (v := nI 8) hx hb dX1_holdsThings_6 (by decide) ?_
    refine ln_cmp_gt (tgt := 15) hx hb (by omega) (by omega) dX1_holdsThings_8 (by decide) (fun c_2 => ?_) (fun c_2 => ?_)
    · refine lv_iconst (v := nI 0) hx hb dX1_holdsThings_15 (by decide) ?_
      exact W.zret (v := nI 0) hx hb hr rfl (fun t ht hW => ⟨_, rfl, (q_bf (by omega)), ht⟩) (fun _ h => absurd h List.not_mem_nil) dX1_holdsThings_16
    · refine lv_iconst (v := nI 1) hx hb dX1_holdsThings_11 (by decide) ?_
      refine lv_goto (tgt := 16) hx hb dX1_holdsThings_12 (by decide) ?_
      exact W.zret (v := nI 1) hx hb hr rfl (fun t ht hW => ⟨_, rfl, (q_bt (by omega)), ht⟩) (fun _ h => absurd h List.not_mem_nil) dX1_holdsThings_16
set_option maxHeartbeats 4000000 in
set_option maxRecDepth 100000 in
theorem kX1_mostOf (l : Launch) (k : Nat) (hk : k < 12) : Met l yX1_mostOf wsX1_mostOf ({ frames := 1, cells := 0, slots := 0, locals := 20 }) (fun vv _ => vv = [.int (nI k)].toArray) (vp_Si (fun rr => rr = nI (if k < 9 then 8 else 1000000))) 0 0 (fun _ => False) := by
  refine Met.ofW (cc := cX1_mostOf) (maxL := 1) (ret := (some .int)) (by decide) rfl ?_
  intro p e s m args below meth c s₁ B hml hv
  have hv : args = [.int (nI k)].toArray := hv
  subst hv
  have hx := B.exec
  have hb := B.bytes
  have hr := B.returns
  have hts := atoms_spec (ws := wsX1_mostOf) B.pre
  have hown : s.vm.findClass RX1 = some m.cls := findClass_of_methodNamed B.named
  have hlocks := B.notSynchronized
  have hl := lv_entry ([.int (nI k)]) (n := 1) (Nat.le_of_ble_eq_true rfl)
  rw [lg_entry_eq]
  generalize (lg_sl ([.int (nI k)]) ++ List.replicate (1 - (lg_sl ([.int (nI k)])).length) Slot.unset).toArray = ls at hl ⊢
  have hl : lv_has ls 1 [(0, .int (nI k))] := hl
  refine lv_iload_n hx hb dX1_mostOf_0 rfl (lv_at hl 0 rfl) ?_
  refine qc_ri (r1 := q_b (decide (k < 3))) (W.runS (As := [.int (nI k)]) (rest := []) ⟨hx, hb, hml, hown, hts⟩ (kX1_holdsNumbers l k (by omega)) (va_cwS 1 hts gX1_mostOf_X1_holdsNumbers rfl rfl rfl (by decide +kernel) ⟨Nat.le_of_ble_eq_true rfl, Nat.le_of_ble_eq_true rfl⟩) preEq rfl rfl hl.1 rfl (lv_room (Nat.le_of_ble_eq_true rfl)) dX1_mostOf_1 ⟨Nat.le_of_ble_eq_true rfl, Nat.le_of_ble_eq_true rfl⟩) rfl ?_
  refine ln_b_ne (tgt := 14) hx hb dX1_mostOf_4 (by decide) (fun c_1 => ?_) (fun c_1 => ?_)
  · have c_1 := of_decide_eq_true c_1
    refine lv_bipush (v := nI 8) hx hb dX1_mostOf_14 (by decide) ?_
    refine lv_goto (tgt := 21) hx hb dX1_mostOf_16 (by decide) ?_
    exact W.iret (v := nI 8) hx hb hr (fun t ht hW => ⟨_, rfl, (q_c (by split <;> omega)), ht⟩) (fun _ h => absurd h List.not_mem_nil) dX1_mostOf_21
  · have c_1 := of_decide_eq_false c_1
    refine lv_iload_n hx hb dX1_mostOf_7 rfl (lv_at hl 0 rfl) ?_
    refine qc_ri (r1 := q_b (decide (3 ≤ k ∧ k < 9))) (W.runS (As := [.int (nI k)]) (rest := []) ⟨hx, hb, hml, hown, hts⟩ (kX1_holdsThings l k (by omega)) (va_cwS 1 hts gX1_mostOf_X1_holdsThings rfl rfl rfl (by decide +kernel) ⟨Nat.le_of_ble_eq_true rfl, Nat.le_of_ble_eq_true rfl⟩) preEq rfl rfl hl.1 rfl (lv_room (Nat.le_of_ble_eq_true rfl)) dX1_mostOf_8 ⟨Nat.le_of_ble_eq_true rfl, Nat.le_of_ble_eq_true rfl⟩) rfl ?_
    refine ln_b_eq (tgt := 19) hx hb dX1_mostOf_11 (by decide) (fun c_2 => ?_) (fun c_2 => ?_)
    · have c_2 := of_decide_eq_false c_2
      refine lv_ldc (v := 1000000) hx hb hown (hts (.constant RX1 113 (1000000)) (by decide +kernel)) dX1_mostOf_19 ?_
      rw [show (1000000 : Int32) = nI 1000000 by decide]
      exact W.iret (v := nI 1000000) hx hb hr (fun t ht hW => ⟨_, rfl, (q_c (by split <;> omega)), ht⟩) (fun _ h => absurd h List.not_mem_nil) dX1_mostOf_21
    · have c_2 := of_decide_eq_true c_2
      refine lv_bipush (v := nI 8) hx hb dX1_mostOf_14 (by decide) ?_
      refine lv_goto (tgt := 21) hx hb dX1_mostOf_16 (by decide) ?_
      exact W.iret (v := nI 8) hx hb hr (fun t ht hW => ⟨_, rfl, (q_c (by split <;> omega)), ht⟩) (fun _ h => absurd h List.not_mem_nil) dX1_mostOf_21
set_option maxHeartbeats 4000000 in
set_option maxRecDepth 100000 in
theorem kX1_gateOfLaying (l : Launch) (k : Nat) (hk : k < 12) : Met l yX1_gateOfLaying wsX1_gateOfLaying ({ frames := 0, cells := 0, slots := 0, locals := 0 }) (fun vv _ => vv = [.int (nI k)].toArray) (vp_Si (fun rr => rr = nI (q_gl k))) 0 0 (fun _ => False) := by
  refine Met.ofW (cc := cX1_gateOfLaying) (maxL := 1) (ret := (some .int)) (by decide) rfl ?_
  intro p e s m args below meth c s₁ B hml hv
  have hv : args = [.int (nI k)].toArray := hv
  subst hv
  have hx := B.exec
  have hb := B.bytes
  have hr := B.returns
  have hts := atoms_spec (ws := wsX1_gateOfLaying) B.pre
  have hown : s.vm.findClass RX1 = some m.cls := findClass_of_methodNamed B.named
  have hlocks := B.notSynchronized
  have hl := lv_entry ([.int (nI k)]) (n := 1) (Nat.le_of_ble_eq_true rfl)
  rw [lg_entry_eq]
  generalize (lg_sl ([.int (nI k)]) ++ List.replicate (1 - (lg_sl ([.int (nI k)])).length) Slot.unset).toArray = ls at hl ⊢
  have hl : lv_has ls 1 [(0, .int (nI k))] := hl
  refine lv_iload_n hx hb dX1_gateOfLaying_0 rfl (lv_at hl 0 rfl) ?_
  have c_1 : k = 3 ∨ k = 7 ∨ k = 8 ∨ (¬ k = 3 ∧ ¬ k = 7 ∧ ¬ k = 8) := by omega
  rcases c_1 with c_1 | c_1 | c_1 | c_1
  · refine q_lk (v := 3) (tgt := 36) (off := 35) hx hb c_1 dX1_gateOfLaying_1 (by decide) (by decide) (by decide) ?_
    refine lv_iconst (v := nI 0) hx hb dX1_gateOfLaying_36 (by decide) ?_
    exact W.iret (v := nI 0) hx hb hr (fun t ht hW => ⟨_, rfl, (q_c (by simp [q_gl, c_1])), ht⟩) (fun _ h => absurd h List.not_mem_nil) dX1_gateOfLaying_37
  · refine q_lk (v := 7) (tgt := 38) (off := 37) hx hb c_1 dX1_gateOfLaying_1 (by decide) (by decide) (by decide) ?_
    refine lv_iconst (v := nI 4) hx hb dX1_gateOfLaying_38 (by decide) ?_
    exact W.iret (v := nI 4) hx hb hr (fun t ht hW => ⟨_, rfl, (q_c (by simp [q_gl, c_1])), ht⟩) (fun _ h => absurd h List.not_mem_nil) dX1_gateOfLaying_39
  · refine q_lk (v := 8) (tgt := 38) (off := 37) hx hb c_1 dX1_gateOfLaying_1 (by decide) (by decide) (by decide) ?_
    refine lv_iconst (v := nI 4) hx hb dX1_gateOfLaying_38 (by decide) ?_
    exact W.iret (v := nI 4) hx hb hr (fun t ht hW => ⟨_, rfl, (q_c (by simp [q_gl, c_1])), ht⟩) (fun _ h => absurd h List.not_mem_nil) dX1_gateOfLaying_39
  · obtain ⟨c_1_3, c_1_7, c_1_8⟩ := c_1
    refine q_lkd (tgt := 40) hx hb (by omega) dX1_gateOfLaying_1 (by decide) (by simp [Op.lookupswitch.offset_cons, Op.lookupswitch.offset, show ¬ (3 : Int) = (k : Nat) by omega, show ¬ (7 : Int) = (k : Nat) by omega, show ¬ (8 : Int) = (k : Nat) by omega]) (by decide) ?_
    refine lv_bipush (v := nI 12) hx hb dX1_gateOfLaying_40 (by decide) ?_
    exact W.iret (v := nI 12) hx hb hr (fun t ht hW => ⟨_, rfl, (q_c (by simp [q_gl, c_1_3, c_1_7, c_1_8])), ht⟩) (fun _ h => absurd h List.not_mem_nil) dX1_gateOfLaying_42
set_option maxHeartbeats 4000000 in
set_option maxRecDepth 100000 in
theorem kX1_gateOfPlaces (l : Launch) (k : Nat) (hk : k < 12) : Met l yX1_gateOfPlaces wsX1_gateOfPlaces ({ frames := 1, cells := 0, slots := 0, locals := 20 }) (fun vv _ => vv = [.int (nI k)].toArray) (vp_Si (fun rr => rr = nI (q_gp k))) 0 0 (fun _ => False) := by
  refine Met.ofW (cc := cX1_gateOfPlaces) (maxL := 1) (ret := (some .int)) (by decide) rfl ?_
  intro p e s m args below meth c s₁ B hml hv
  have hv : args = [.int (nI k)].toArray := hv
  subst hv
  have hx := B.exec
  have hb := B.bytes
  have hr := B.returns
  have hts := atoms_spec (ws := wsX1_gateOfPlaces) B.pre
  have hown : s.vm.findClass RX1 = some m.cls := findClass_of_methodNamed B.named
  have hlocks := B.notSynchronized
  have hl := lv_entry ([.int (nI k)]) (n := 1) (Nat.le_of_ble_eq_true rfl)
  rw [lg_entry_eq]
  generalize (lg_sl ([.int (nI k)]) ++ List.replicate (1 - (lg_sl ([.int (nI k)])).length) Slot.unset).toArray = ls at hl ⊢
  have hl : lv_has ls 1 [(0, .int (nI k))] := hl
  refine lv_iload_n hx hb dX1_gateOfPlaces_0 rfl (lv_at hl 0 rfl) ?_
  have c_1 : k = 4 ∨ k = 5 ∨ k = 8 ∨ (¬ k = 4 ∧ ¬ k = 5 ∧ ¬ k = 8) := by omega
  rcases c_1 with c_1 | c_1 | c_1 | c_1
  · refine q_tIn (v := 4) (tgt := 36) (off := 35) hx hb c_1 dX1_gateOfPlaces_1 (by decide) (by decide) (by decide) (by decide) ?_
    refine lv_bipush (v := nI 9) hx hb dX1_gateOfPlaces_36 (by decide) ?_
    exact W.iret (v := nI 9) hx hb hr (fun t ht hW => ⟨_, rfl, (q_c (by simp [q_gp, c_1])), ht⟩) (fun _ h => absurd h List.not_mem_nil) dX1_gateOfPlaces_38
  · refine q_tIn (v := 5) (tgt := 39) (off := 38) hx hb c_1 dX1_gateOfPlaces_1 (by decide) (by decide) (by decide) (by decide) ?_
    refine lv_bipush (v := nI 10) hx hb dX1_gateOfPlaces_39 (by decide) ?_
    exact W.iret (v := nI 10) hx hb hr (fun t ht hW => ⟨_, rfl, (q_c (by simp [q_gp, c_1])), ht⟩) (fun _ h => absurd h List.not_mem_nil) dX1_gateOfPlaces_41
  · refine q_tIn (v := 8) (tgt := 42) (off := 41) hx hb c_1 dX1_gateOfPlaces_1 (by decide) (by decide) (by decide) (by decide) ?_
    refine lv_iconst (v := nI 5) hx hb dX1_gateOfPlaces_42 (by decide) ?_
    exact W.iret (v := nI 5) hx hb hr (fun t ht hW => ⟨_, rfl, (q_c (by simp [q_gp, c_1])), ht⟩) (fun _ h => absurd h List.not_mem_nil) dX1_gateOfPlaces_43
  · obtain ⟨c_1_4, c_1_5, c_1_8⟩ := c_1
    have c_2 : k = 6 ∨ k = 7 ∨ ((k : Int) < 4 ∨ 8 < (k : Int)) := by omega
    rcases c_2 with c_2 | c_2 | c_2
    · refine q_tIn (v := 6) (tgt := 44) (off := 43) hx hb c_2 dX1_gateOfPlaces_1 (by decide) (by decide) (by decide) (by decide) ?_
      refine lv_iload_n hx hb dX1_gateOfPlaces_44 rfl (lv_at hl 0 rfl) ?_
      refine qc_ri (r1 := nI (q_gl k)) (W.runS (As := [.int (nI k)]) (rest := []) ⟨hx, hb, hml, hown, hts⟩ (kX1_gateOfLaying l k (by omega)) (va_cwS 1 hts gX1_gateOfPlaces_X1_gateOfLaying rfl rfl rfl (by decide +kernel) ⟨Nat.le_of_ble_eq_true rfl, Nat.le_of_ble_eq_true rfl⟩) preEq rfl rfl hl.1 rfl (lv_room (Nat.le_of_ble_eq_true rfl)) dX1_gateOfPlaces_45 ⟨Nat.le_of_ble_eq_true rfl, Nat.le_of_ble_eq_true rfl⟩) rfl ?_
      have hgl := q_gl_lt k
      exact W.iret (v := nI (q_gl k)) hx hb hr (fun t ht hW => ⟨_, rfl, (q_c (by simp only [q_gp]; rw [if_neg (by omega), if_neg (by omega), if_neg (by omega)])), ht⟩) (fun _ h => absurd h List.not_mem_nil) dX1_gateOfPlaces_48
    · refine q_tIn (v := 7) (tgt := 44) (off := 43) hx hb c_2 dX1_gateOfPlaces_1 (by decide) (by decide) (by decide) (by decide) ?_
      refine lv_iload_n hx hb dX1_gateOfPlaces_44 rfl (lv_at hl 0 rfl) ?_
      refine qc_ri (r1 := nI (q_gl k)) (W.runS (As := [.int (nI k)]) (rest := []) ⟨hx, hb, hml, hown, hts⟩ (kX1_gateOfLaying l k (by omega)) (va_cwS 1 hts gX1_gateOfPlaces_X1_gateOfLaying rfl rfl rfl (by decide +kernel) ⟨Nat.le_of_ble_eq_true rfl, Nat.le_of_ble_eq_true rfl⟩) preEq rfl rfl hl.1 rfl (lv_room (Nat.le_of_ble_eq_true rfl)) dX1_gateOfPlaces_45 ⟨Nat.le_of_ble_eq_true rfl, Nat.le_of_ble_eq_true rfl⟩) rfl ?_
      have hgl := q_gl_lt k
      exact W.iret (v := nI (q_gl k)) hx hb hr (fun t ht hW => ⟨_, rfl, (q_c (by simp only [q_gp]; rw [if_neg (by omega), if_neg (by omega), if_neg (by omega)])), ht⟩) (fun _ h => absurd h List.not_mem_nil) dX1_gateOfPlaces_48
    · refine q_tOut (tgt := 44) hx hb (by omega) dX1_gateOfPlaces_1 c_2 (by decide) ?_
      refine lv_iload_n hx hb dX1_gateOfPlaces_44 rfl (lv_at hl 0 rfl) ?_
      refine qc_ri (r1 := nI (q_gl k)) (W.runS (As := [.int (nI k)]) (rest := []) ⟨hx, hb, hml, hown, hts⟩ (kX1_gateOfLaying l k (by omega)) (va_cwS 1 hts gX1_gateOfPlaces_X1_gateOfLaying rfl rfl rfl (by decide +kernel) ⟨Nat.le_of_ble_eq_true rfl, Nat.le_of_ble_eq_true rfl⟩) preEq rfl rfl hl.1 rfl (lv_room (Nat.le_of_ble_eq_true rfl)) dX1_gateOfPlaces_45 ⟨Nat.le_of_ble_eq_true rfl, Nat.le_of_ble_eq_true rfl⟩) rfl ?_
      have hgl := q_gl_lt k
      exact W.iret (v := nI (q_gl k)) hx hb hr (fun t ht hW => ⟨_, rfl, (q_c (by simp only [q_gp]; rw [if_neg (by omega), if_neg (by omega), if_neg (by omega)])), ht⟩) (fun _ h => absurd h List.not_mem_nil) dX1_gateOfPlaces_48
set_option maxHeartbeats 4000000 in
set_option maxRecDepth 100000 in
theorem kX1_narrowed (l : Launch) (k : Nat) (v : Int64) (hk : k < 12) : Met l yX1_narrowed wsX1_narrowed ({ frames := 0, cells := 0, slots := 0, locals := 0 }) (fun vv _ => vv = [.int (nI k), .long v].toArray) (vp_Sl (fun rr => rr = q_nr k v)) 0 0 (fun _ => False) := by
  refine Met.ofW (cc := cX1_narrowed) (maxL := 3) (ret := (some .long)) (by decide) rfl ?_
  intro p e s m args below meth c s₁ B hml hv
  have hv : args = [.int (nI k), .long v].toArray := hv
  subst hv
  have hx := B.exec
  have hb := B.bytes
  have hr := B.returns
  have hts := atoms_spec (ws := wsX1_narrowed) B.pre
  have hown : s.vm.findClass RX1 = some m.cls := findClass_of_methodNamed B.named
  have hlocks := B.notSynchronized
  have hl := lv_entry ([.int (nI k), .long v]) (n := 3) (Nat.le_of_ble_eq_true rfl)
  rw [lg_entry_eq]
  generalize (lg_sl ([.int (nI k), .long v]) ++ List.replicate (3 - (lg_sl ([.int (nI k), .long v])).length) Slot.unset).toArray = ls at hl ⊢
  have hl : lv_has ls 3 [(0, .int (nI k)), (1, .long v)] := hl
  refine lv_iload_n hx hb dX1_narrowed_0 rfl (lv_at hl 0 rfl) ?_
  have c_1 : k = 0 ∨ k = 1 ∨ (¬ k = 0 ∧ ¬ k = 1) := by omega
  rcases c_1 with c_1 | c_1 | c_1
  · refine q_lk (v := 0) (tgt := 28) (off := 27) hx hb c_1 dX1_narrowed_1 (by decide) (by decide) (by decide) ?_
    refine lv_lload_n hx hb dX1_narrowed_28 rfl (lv_at hl 1 rfl) ?_
    refine lv_l2i hx hb dX1_narrowed_29 rfl ?_
    refine lv_i2l hx hb dX1_narrowed_30 rfl ?_
    exact W.lret (v := Int32.toInt64 ((Int64.toInt32 v))) hx hb hr (fun t ht hW => ⟨_, rfl, (by simp [q_nr, c_1]), ht⟩) (fun _ h => absurd h List.not_mem_nil) dX1_narrowed_31
  · refine q_lk (v := 1) (tgt := 32) (off := 31) hx hb c_1 dX1_narrowed_1 (by decide) (by decide) (by decide) ?_
    refine lv_lload_n hx hb dX1_narrowed_32 rfl (lv_at hl 1 rfl) ?_
    refine lv_l2i hx hb dX1_narrowed_33 rfl ?_
    refine lv_i2b hx hb dX1_narrowed_34 rfl ?_
    refine lv_i2l hx hb dX1_narrowed_35 rfl ?_
    exact W.lret (v := Int32.toInt64 ((Int8.toInt32 (Int32.toInt8 ((Int64.toInt32 v)))))) hx hb hr (fun t ht hW => ⟨_, rfl, (by simp [q_nr, c_1]), ht⟩) (fun _ h => absurd h List.not_mem_nil) dX1_narrowed_36
  · obtain ⟨c_1_0, c_1_1⟩ := c_1
    refine q_lkd (tgt := 37) hx hb (by omega) dX1_narrowed_1 (by decide) (by simp [Op.lookupswitch.offset_cons, Op.lookupswitch.offset, show ¬ (0 : Int) = (k : Nat) by omega, show ¬ (1 : Int) = (k : Nat) by omega]) (by decide) ?_
    refine lv_lload_n hx hb dX1_narrowed_37 rfl (lv_at hl 1 rfl) ?_
    exact W.lret (v := v) hx hb hr (fun t ht hW => ⟨_, rfl, (by simp [q_nr, c_1_0, c_1_1]), ht⟩) (fun _ h => absurd h List.not_mem_nil) dX1_narrowed_38
set_option maxHeartbeats 4000000 in
set_option maxRecDepth 100000 in
theorem kX2_isIn (l : Launch) (a lo hi : Int32)  : Met l yX2_isIn wsX2_isIn ({ frames := 0, cells := 0, slots := 0, locals := 0 }) (fun vv _ => vv = [.int a, .int lo, .int hi].toArray) (vp_Si (fun rr => rr = q_b (decide (lo ≤ a ∧ a ≤ hi)))) 0 0 (fun _ => False) := by
  refine Met.ofW (cc := cX2_isIn) (maxL := 3) (ret := (some .boolean)) (by decide) rfl ?_
  intro p e s m args below meth c s₁ B hml hv
  have hv : args = [.int a, .int lo, .int hi].toArray := hv
  subst hv
  have hx := B.exec
  have hb := B.bytes
  have hr := B.returns
  have hts := atoms_spec (ws := wsX2_isIn) B.pre
  have hown : s.vm.findClass RX2 = some m.cls := findClass_of_methodNamed B.named
  have hlocks := B.notSynchronized
  have hl := lv_entry ([.int a, .int lo, .int hi]) (n := 3) (Nat.le_of_ble_eq_true rfl)
  rw [lg_entry_eq]
  generalize (lg_sl ([.int a, .int lo, .int hi]) ++ List.replicate (3 - (lg_sl ([.int a, .int lo, .int hi])).length) Slot.unset).toArray = ls at hl ⊢
  have hl : lv_has ls 3 [(0, .int a), (1, .int lo), (2, .int hi)] := hl
  refine lv_iload_n hx hb dX2_isIn_0 rfl (lv_at hl 0 rfl) ?_
  refine lv_iload_n hx hb dX2_isIn_1 rfl (lv_at hl 1 rfl) ?_
  refine lv_icmp_lt (tgt := 14) hx hb dX2_isIn_2 (by decide) (fun c_1 => ?_) (fun c_1 => ?_)
  · refine lv_iconst (v := nI 0) hx hb dX2_isIn_14 (by decide) ?_
    exact W.zret (v := nI 0) hx hb hr rfl (fun t ht hW => ⟨_, rfl, (q_bf (fun h => absurd c_1 (Int32.not_lt.mpr h.1))), ht⟩) (fun _ h => absurd h List.not_mem_nil) dX2_isIn_15
  · refine lv_iload_n hx hb dX2_isIn_5 rfl (lv_at hl 0 rfl) ?_
    refine lv_iload_n hx hb dX2_isIn_6 rfl (lv_at hl 2 rfl) ?_
    refine lv_icmp_gt (tgt := 14) hx hb dX2_isIn_7 (by decide) (fun c_2 => ?_) (fun c_2 => ?_)
    · refine lv_iconst (v := nI 0) hx hb dX2_isIn_14 (by decide) ?_
      exact W.zret (v := nI 0) hx hb hr rfl (fun t ht hW => ⟨_, rfl, (q_bf (fun h => absurd c_2 (Int32.not_lt.mpr h.2))), ht⟩) (fun _ h => absurd h List.not_mem_nil) dX2_isIn_15
    · refine lv_iconst (v := nI 1) hx hb dX2_isIn_10 (by decide) ?_
      refine lv_goto (tgt := 15) hx hb dX2_isIn_11 (by decide) ?_
      exact W.zret (v := nI 1) hx hb hr rfl (fun t ht hW => ⟨_, rfl, (q_bt ⟨Int32.not_lt.mp c_1, Int32.not_lt.mp c_2⟩), ht⟩) (fun _ h => absurd h List.not_mem_nil) dX2_isIn_15
theorem q_inN {a lo hi : Nat} (h1 : a < 2 ^ 31) (h2 : lo < 2 ^ 31) (h3 : hi < 2 ^ 31) : decide (nI lo ≤ nI a ∧ nI a ≤ nI hi) = decide (lo ≤ a ∧ a ≤ hi) := by
  simp only [nI_leI h2 h1, nI_leI h1 h3]
set_option maxHeartbeats 4000000 in
set_option maxRecDepth 100000 in
theorem kX2_isSlot (l : Launch) (a : Int32)  : Met l yX2_isSlot wsX2_isSlot ({ frames := 1, cells := 0, slots := 0, locals := 22 }) (fun vv _ => vv = [.int a].toArray) (vp_Si (fun rr => rr = q_b (q_ix a 12).isSome)) 0 0 (fun _ => False) := by
  refine Met.ofW (cc := cX2_isSlot) (maxL := 1) (ret := (some .boolean)) (by decide) rfl ?_
  intro p e s m args below meth c s₁ B hml hv
  have hv : args = [.int a].toArray := hv
  subst hv
  have hx := B.exec
  have hb := B.bytes
  have hr := B.returns
  have hts := atoms_spec (ws := wsX2_isSlot) B.pre
  have hown : s.vm.findClass RX2 = some m.cls := findClass_of_methodNamed B.named
  have hlocks := B.notSynchronized
  have hl := lv_entry ([.int a]) (n := 1) (Nat.le_of_ble_eq_true rfl)
  rw [lg_entry_eq]
  generalize (lg_sl ([.int a]) ++ List.replicate (1 - (lg_sl ([.int a])).length) Slot.unset).toArray = ls at hl ⊢
  have hl : lv_has ls 1 [(0, .int a)] := hl
  refine lv_iload_n hx hb dX2_isSlot_0 rfl (lv_at hl 0 rfl) ?_
  refine lv_iconst (v := nI 0) hx hb dX2_isSlot_1 (by decide) ?_
  refine lv_bipush (v := nI 11) hx hb dX2_isSlot_2 (by decide) ?_
  refine qc_ri (r1 := q_b ((q_ix a 12).isSome)) (W.runS (As := [.int a, .int (nI 0), .int (nI 11)]) (rest := []) ⟨hx, hb, hml, hown, hts⟩ (kX2_isIn l a (nI 0) (nI 11)) (va_cwS 3 hts gX2_isSlot_X2_isIn rfl rfl rfl (by decide +kernel) ⟨Nat.le_of_ble_eq_true rfl, Nat.le_of_ble_eq_true rfl⟩) preEq rfl rfl hl.1 rfl (lv_room (Nat.le_of_ble_eq_true rfl)) dX2_isSlot_4 ⟨Nat.le_of_ble_eq_true rfl, Nat.le_of_ble_eq_true rfl⟩) (congrArg q_b (q_in0 _ (by decide))) ?_
  exact W.zret (v := q_b ((q_ix a 12).isSome)) hx hb hr (q_nbb _) (fun t ht hW => ⟨_, rfl, rfl, ht⟩) (fun _ h => absurd h List.not_mem_nil) dX2_isSlot_7
set_option maxHeartbeats 4000000 in
set_option maxRecDepth 100000 in
theorem kX2_holdsThings (l : Launch) (k : Nat) (hk : k < 12) : Met l yX2_holdsThings wsX2_holdsThings ({ frames := 1, cells := 0, slots := 0, locals := 22 }) (fun vv _ => vv = [.int (nI k)].toArray) (vp_Si (fun rr => rr = q_b (decide (3 ≤ k ∧ k < 9)))) 0 0 (fun _ => False) := by
  refine Met.ofW (cc := cX2_holdsThings) (maxL := 1) (ret := (some .boolean)) (by decide) rfl ?_
  intro p e s m args below meth c s₁ B hml hv
  have hv : args = [.int (nI k)].toArray := hv
  subst hv
  have hx := B.exec
  have hb := B.bytes
  have hr := B.returns
  have hts := atoms_spec (ws := wsX2_holdsThings) B.pre
  have hown : s.vm.findClass RX2 = some m.cls := findClass_of_methodNamed B.named
  have hlocks := B.notSynchronized
  have hl := lv_entry ([.int (nI k)]) (n := 1) (Nat.le_of_ble_eq_true rfl)
  rw [lg_entry_eq]
  generalize (lg_sl ([.int (nI k)]) ++ List.replicate (1 - (lg_sl ([.int (nI k)])).length) Slot.unset).toArray = ls at hl ⊢
  have hl : lv_has ls 1 [(0, .int (nI k))] := hl
  refine lv_iload_n hx hb dX2_holdsThings_0 rfl (lv_at hl 0 rfl) ?_
  refine lv_iconst (v := nI 3) hx hb dX2_holdsThings_1 (by decide) ?_
  refine lv_bipush (v := nI 8) hx hb dX2_holdsThings_2 (by decide) ?_
  refine qc_ri (r1 := q_b (decide (3 ≤ k ∧ k ≤ 8))) (W.runS (As := [.int (nI k), .int (nI 3), .int (nI 8)]) (rest := []) ⟨hx, hb, hml, hown, hts⟩ (kX2_isIn l (nI k) (nI 3) (nI 8)) (va_cwS 3 hts gX2_holdsThings_X2_isIn rfl rfl rfl (by decide +kernel) ⟨Nat.le_of_ble_eq_true rfl, Nat.le_of_ble_eq_true rfl⟩) preEq rfl rfl hl.1 rfl (lv_room (Nat.le_of_ble_eq_true rfl)) dX2_holdsThings_4 ⟨Nat.le_of_ble_eq_true rfl, Nat.le_of_ble_eq_true rfl⟩) (by rw [q_inN (by omega) (by omega) (by omega)]) ?_
  exact W.zret (v := q_b (decide (3 ≤ k ∧ k ≤ 8))) hx hb hr (q_nbb _) (fun t ht hW => ⟨_, rfl, (by congr 2; exact propext ⟨fun h => ⟨h.1, by omega⟩, fun h => ⟨h.1, by omega⟩⟩), ht⟩) (fun _ h => absurd h List.not_mem_nil) dX2_holdsThings_7
set_option maxHeartbeats 4000000 in
set_option maxRecDepth 100000 in
theorem kX2_goes (l : Launch) (k g : Nat) (hk : k < 12) (hg : g < 13) : Met l yX2_goes wsX2_goes ({ frames := 0, cells := 0, slots := 0, locals := 0 }) (fun vv _ => vv = [.int (nI k), .int (nI g)].toArray) (vp_Si (fun rr => rr = q_b (q_go k g))) 0 0 (fun _ => False) := by
  refine Met.ofW (cc := cX2_goes) (maxL := 2) (ret := (some .boolean)) (by decide) rfl ?_
  intro p e s m args below meth c s₁ B hml hv
  have hv : args = [.int (nI k), .int (nI g)].toArray := hv
  subst hv
  have hx := B.exec
  have hb := B.bytes
  have hr := B.returns
  have hts := atoms_spec (ws := wsX2_goes) B.pre
  have hown : s.vm.findClass RX2 = some m.cls := findClass_of_methodNamed B.named
  have hlocks := B.notSynchronized
  have hl := lv_entry ([.int (nI k), .int (nI g)]) (n := 2) (Nat.le_of_ble_eq_true rfl)
  rw [lg_entry_eq]
  generalize (lg_sl ([.int (nI k), .int (nI g)]) ++ List.replicate (2 - (lg_sl ([.int (nI k), .int (nI g)])).length) Slot.unset).toArray = ls at hl ⊢
  have hl : lv_has ls 2 [(0, .int (nI k)), (1, .int (nI g))] := hl
  refine lv_iload_n hx hb dX2_goes_0 rfl (lv_at hl 1 rfl) ?_
  refine lv_iload_n hx hb dX2_goes_1 rfl (lv_at hl 0 rfl) ?_
  refine ln_cmp_ne (tgt := 7) hx hb (by omega) (by omega) dX2_goes_2 (by decide) (fun c_1 => ?_) (fun c_1 => ?_)
  · refine lv_iload_n hx hb dX2_goes_7 rfl (lv_at hl 0 rfl) ?_
    have c_2 : k = 4 ∨ k = 5 ∨ k = 8 ∨ k = 9 ∨ k = 10 ∨ k = 11 ∨ (¬ k = 4 ∧ ¬ k = 5 ∧ ¬ k = 8 ∧ ¬ k = 9 ∧ ¬ k = 10 ∧ ¬ k = 11) := by omega
    rcases c_2 with c_2 | c_2 | c_2 | c_2 | c_2 | c_2 | c_2
    · refine q_tIn (v := 4) (tgt := 103) (off := 95) hx hb c_2 dX2_goes_8 (by decide) (by decide) (by decide) (by decide) ?_
      refine lv_iload_n hx hb dX2_goes_103 rfl (lv_at hl 1 rfl) ?_
      refine lv_bipush (v := nI 6) hx hb dX2_goes_104 (by decide) ?_
      refine ln_cmp_ne (tgt := 113) hx hb (by omega) (by omega) dX2_goes_106 (by decide) (fun c_3 => ?_) (fun c_3 => ?_)
      · refine lv_iconst (v := nI 0) hx hb dX2_goes_113 (by decide) ?_
        exact W.zret (v := nI 0) hx hb hr rfl (fun t ht hW => ⟨_, rfl, (q_b0 (by unfold q_go; simp only [decide_eq_false_iff_not]; omega)), ht⟩) (fun _ h => absurd h List.not_mem_nil) dX2_goes_114
      · refine lv_iconst (v := nI 1) hx hb dX2_goes_109 (by decide) ?_
        refine lv_goto (tgt := 114) hx hb dX2_goes_110 (by decide) ?_
        exact W.zret (v := nI 1) hx hb hr rfl (fun t ht hW => ⟨_, rfl, (q_b1 (by unfold q_go; simp only [decide_eq_true_eq]; omega)), ht⟩) (fun _ h => absurd h List.not_mem_nil) dX2_goes_114
    · refine q_tIn (v := 5) (tgt := 86) (off := 78) hx hb c_2 dX2_goes_8 (by decide) (by decide) (by decide) (by decide) ?_
      refine lv_iload_n hx hb dX2_goes_86 rfl (lv_at hl 1 rfl) ?_
      refine lv_iconst (v := nI 4) hx hb dX2_goes_87 (by decide) ?_
      refine ln_cmp_eq (tgt := 97) hx hb (by omega) (by omega) dX2_goes_88 (by decide) (fun c_4 => ?_) (fun c_4 => ?_)
      · refine lv_iconst (v := nI 1) hx hb dX2_goes_97 (by decide) ?_
        refine lv_goto (tgt := 102) hx hb dX2_goes_98 (by decide) ?_
        exact W.zret (v := nI 1) hx hb hr rfl (fun t ht hW => ⟨_, rfl, (q_b1 (by unfold q_go; simp only [decide_eq_true_eq]; omega)), ht⟩) (fun _ h => absurd h List.not_mem_nil) dX2_goes_102
      · refine lv_iload_n hx hb dX2_goes_91 rfl (lv_at hl 1 rfl) ?_
        refine lv_bipush (v := nI 6) hx hb dX2_goes_92 (by decide) ?_
        refine ln_cmp_ne (tgt := 101) hx hb (by omega) (by omega) dX2_goes_94 (by decide) (fun c_5 => ?_) (fun c_5 => ?_)
        · refine lv_iconst (v := nI 0) hx hb dX2_goes_101 (by decide) ?_
          exact W.zret (v := nI 0) hx hb hr rfl (fun t ht hW => ⟨_, rfl, (q_b0 (by unfold q_go; simp only [decide_eq_false_iff_not]; omega)), ht⟩) (fun _ h => absurd h List.not_mem_nil) dX2_goes_102
        · refine lv_iconst (v := nI 1) hx hb dX2_goes_97 (by decide) ?_
          refine lv_goto (tgt := 102) hx hb dX2_goes_98 (by decide) ?_
          exact W.zret (v := nI 1) hx hb hr rfl (fun t ht hW => ⟨_, rfl, (q_b1 (by unfold q_go; simp only [decide_eq_true_eq]; omega)), ht⟩) (fun _ h => absurd h List.not_mem_nil) dX2_goes_102
    · refine q_tIn (v := 8) (tgt := 115) (off := 107) hx hb c_2 dX2_goes_8 (by decide) (by decide) (by decide) (by decide) ?_
      refine lv_iload_n hx hb dX2_goes_115 rfl (lv_at hl 1 rfl) ?_
      refine lv_bipush (v := nI 7) hx hb dX2_goes_116 (by decide) ?_
      refine ln_cmp_ne (tgt := 125) hx hb (by omega) (by omega) dX2_goes_118 (by decide) (fun c_6 => ?_) (fun c_6 => ?_)
      · refine lv_iconst (v := nI 0) hx hb dX2_goes_125 (by decide) ?_
        exact W.zret (v := nI 0) hx hb hr rfl (fun t ht hW => ⟨_, rfl, (q_b0 (by unfold q_go; simp only [decide_eq_false_iff_not]; omega)), ht⟩) (fun _ h => absurd h List.not_mem_nil) dX2_goes_126
      · refine lv_iconst (v := nI 1) hx hb dX2_goes_121 (by decide) ?_
        refine lv_goto (tgt := 126) hx hb dX2_goes_122 (by decide) ?_
        exact W.zret (v := nI 1) hx hb hr rfl (fun t ht hW => ⟨_, rfl, (q_b1 (by unfold q_go; simp only [decide_eq_true_eq]; omega)), ht⟩) (fun _ h => absurd h List.not_mem_nil) dX2_goes_126
    · refine q_tIn (v := 9) (tgt := 74) (off := 66) hx hb c_2 dX2_goes_8 (by decide) (by decide) (by decide) (by decide) ?_
      refine lv_iload_n hx hb dX2_goes_74 rfl (lv_at hl 1 rfl) ?_
      refine lv_bipush (v := nI 12) hx hb dX2_goes_75 (by decide) ?_
      refine ln_cmp_ne (tgt := 84) hx hb (by omega) (by omega) dX2_goes_77 (by decide) (fun c_7 => ?_) (fun c_7 => ?_)
      · refine lv_iconst (v := nI 0) hx hb dX2_goes_84 (by decide) ?_
        exact W.zret (v := nI 0) hx hb hr rfl (fun t ht hW => ⟨_, rfl, (q_b0 (by unfold q_go; simp only [decide_eq_false_iff_not]; omega)), ht⟩) (fun _ h => absurd h List.not_mem_nil) dX2_goes_85
      · refine lv_iconst (v := nI 1) hx hb dX2_goes_80 (by decide) ?_
        refine lv_goto (tgt := 85) hx hb dX2_goes_81 (by decide) ?_
        exact W.zret (v := nI 1) hx hb hr rfl (fun t ht hW => ⟨_, rfl, (q_b1 (by unfold q_go; simp only [decide_eq_true_eq]; omega)), ht⟩) (fun _ h => absurd h List.not_mem_nil) dX2_goes_85
    · refine q_tIn (v := 10) (tgt := 56) (off := 48) hx hb c_2 dX2_goes_8 (by decide) (by decide) (by decide) (by decide) ?_
      refine lv_iload_n hx hb dX2_goes_56 rfl (lv_at hl 1 rfl) ?_
      refine lv_bipush (v := nI 9) hx hb dX2_goes_57 (by decide) ?_
      refine ln_cmp_eq (tgt := 68) hx hb (by omega) (by omega) dX2_goes_59 (by decide) (fun c_8 => ?_) (fun c_8 => ?_)
      · refine lv_iconst (v := nI 1) hx hb dX2_goes_68 (by decide) ?_
        refine lv_goto (tgt := 73) hx hb dX2_goes_69 (by decide) ?_
        exact W.zret (v := nI 1) hx hb hr rfl (fun t ht hW => ⟨_, rfl, (q_b1 (by unfold q_go; simp only [decide_eq_true_eq]; omega)), ht⟩) (fun _ h => absurd h List.not_mem_nil) dX2_goes_73
      · refine lv_iload_n hx hb dX2_goes_62 rfl (lv_at hl 1 rfl) ?_
        refine lv_bipush (v := nI 12) hx hb dX2_goes_63 (by decide) ?_
        refine ln_cmp_ne (tgt := 72) hx hb (by omega) (by omega) dX2_goes_65 (by decide) (fun c_9 => ?_) (fun c_9 => ?_)
        · refine lv_iconst (v := nI 0) hx hb dX2_goes_72 (by decide) ?_
          exact W.zret (v := nI 0) hx hb hr rfl (fun t ht hW => ⟨_, rfl, (q_b0 (by unfold q_go; simp only [decide_eq_false_iff_not]; omega)), ht⟩) (fun _ h => absurd h List.not_mem_nil) dX2_goes_73
        · refine lv_iconst (v := nI 1) hx hb dX2_goes_68 (by decide) ?_
          refine lv_goto (tgt := 73) hx hb dX2_goes_69 (by decide) ?_
          exact W.zret (v := nI 1) hx hb hr rfl (fun t ht hW => ⟨_, rfl, (q_b1 (by unfold q_go; simp only [decide_eq_true_eq]; omega)), ht⟩) (fun _ h => absurd h List.not_mem_nil) dX2_goes_73
    · refine q_tIn (v := 11) (tgt := 74) (off := 66) hx hb c_2 dX2_goes_8 (by decide) (by decide) (by decide) (by decide) ?_
      refine lv_iload_n hx hb dX2_goes_74 rfl (lv_at hl 1 rfl) ?_
      refine lv_bipush (v := nI 12) hx hb dX2_goes_75 (by decide) ?_
      refine ln_cmp_ne (tgt := 84) hx hb (by omega) (by omega) dX2_goes_77 (by decide) (fun c_10 => ?_) (fun c_10 => ?_)
      · refine lv_iconst (v := nI 0) hx hb dX2_goes_84 (by decide) ?_
        exact W.zret (v := nI 0) hx hb hr rfl (fun t ht hW => ⟨_, rfl, (q_b0 (by unfold q_go; simp only [decide_eq_false_iff_not]; omega)), ht⟩) (fun _ h => absurd h List.not_mem_nil) dX2_goes_85
      · refine lv_iconst (v := nI 1) hx hb dX2_goes_80 (by decide) ?_
        refine lv_goto (tgt := 85) hx hb dX2_goes_81 (by decide) ?_
        exact W.zret (v := nI 1) hx hb hr rfl (fun t ht hW => ⟨_, rfl, (q_b1 (by unfold q_go; simp only [decide_eq_true_eq]; omega)), ht⟩) (fun _ h => absurd h List.not_mem_nil) dX2_goes_85
    · obtain ⟨c_2_4, c_2_5, c_2_8, c_2_9, c_2_10, c_2_11⟩ := c_2
      have c_11 : k = 6 ∨ k = 7 ∨ ((k : Int) < 4 ∨ 11 < (k : Int)) := by omega
      rcases c_11 with c_11 | c_11 | c_11
      · refine q_tIn (v := 6) (tgt := 127) (off := 119) hx hb c_11 dX2_goes_8 (by decide) (by decide) (by decide) (by decide) ?_
        refine lv_iconst (v := nI 0) hx hb dX2_goes_127 (by decide) ?_
        exact W.zret (v := nI 0) hx hb hr rfl (fun t ht hW => ⟨_, rfl, (q_b0 (by unfold q_go; simp only [decide_eq_false_iff_not]; omega)), ht⟩) (fun _ h => absurd h List.not_mem_nil) dX2_goes_128
      · refine q_tIn (v := 7) (tgt := 127) (off := 119) hx hb c_11 dX2_goes_8 (by decide) (by decide) (by decide) (by decide) ?_
        refine lv_iconst (v := nI 0) hx hb dX2_goes_127 (by decide) ?_
        exact W.zret (v := nI 0) hx hb hr rfl (fun t ht hW => ⟨_, rfl, (q_b0 (by unfold q_go; simp only [decide_eq_false_iff_not]; omega)), ht⟩) (fun _ h => absurd h List.not_mem_nil) dX2_goes_128
      · refine q_tOut (tgt := 127) hx hb (by omega) dX2_goes_8 c_11 (by decide) ?_
        refine lv_iconst (v := nI 0) hx hb dX2_goes_127 (by decide) ?_
        exact W.zret (v := nI 0) hx hb hr rfl (fun t ht hW => ⟨_, rfl, (q_b0 (by unfold q_go; simp only [decide_eq_false_iff_not]; omega)), ht⟩) (fun _ h => absurd h List.not_mem_nil) dX2_goes_128
  · refine lv_iconst (v := nI 1) hx hb dX2_goes_5 (by decide) ?_
    exact W.zret (v := nI 1) hx hb hr rfl (fun t ht hW => ⟨_, rfl, (q_b1 (by unfold q_go; simp only [decide_eq_true_eq]; omega)), ht⟩) (fun _ h => absurd h List.not_mem_nil) dX2_goes_6
set_option maxHeartbeats 4000000 in
set_option maxRecDepth 100000 in
theorem kX2_canHold (l : Launch) (r k : Nat) (hr2 : r < 12) (hk : k < 12) : Met l yX2_canHold wsX2_canHold ({ frames := 0, cells := 0, slots := 0, locals := 0 }) (fun vv _ => vv = [.int (nI r), .int (nI k)].toArray) (vp_Si (fun rr => rr = q_b (q_ch r k))) 0 0 (fun _ => False) := by
  refine Met.ofW (cc := cX2_canHold) (maxL := 2) (ret := (some .boolean)) (by decide) rfl ?_
  intro p e s m args below meth c s₁ B hml hv
  have hv : args = [.int (nI r), .int (nI k)].toArray := hv
  subst hv
  have hx := B.exec
  have hb := B.bytes
  have hr := B.returns
  have hts := atoms_spec (ws := wsX2_canHold) B.pre
  have hown : s.vm.findClass RX2 = some m.cls := findClass_of_methodNamed B.named
  have hlocks := B.notSynchronized
  have hl := lv_entry ([.int (nI r), .int (nI k)]) (n := 2) (Nat.le_of_ble_eq_true rfl)
  rw [lg_entry_eq]
  generalize (lg_sl ([.int (nI r), .int (nI k)]) ++ List.replicate (2 - (lg_sl ([.int (nI r), .int (nI k)])).length) Slot.unset).toArray = ls at hl ⊢
  have hl : lv_has ls 2 [(0, .int (nI r)), (1, .int (nI k))] := hl
  refine lv_iload_n hx hb dX2_canHold_0 rfl (lv_at hl 0 rfl) ?_
  have c_1 : r = 4 ∨ r = 5 ∨ r = 8 ∨ (¬ r = 4 ∧ ¬ r = 5 ∧ ¬ r = 8) := by omega
  rcases c_1 with c_1 | c_1 | c_1 | c_1
  · refine q_tIn (v := 4) (tgt := 36) (off := 35) hx hb c_1 dX2_canHold_1 (by decide) (by decide) (by decide) (by decide) ?_
    refine lv_iload_n hx hb dX2_canHold_36 rfl (lv_at hl 1 rfl) ?_
    refine lv_bipush (v := nI 11) hx hb dX2_canHold_37 (by decide) ?_
    refine ln_cmp_eq (tgt := 46) hx hb (by omega) (by omega) dX2_canHold_39 (by decide) (fun c_2 => ?_) (fun c_2 => ?_)
    · refine lv_iconst (v := nI 0) hx hb dX2_canHold_46 (by decide) ?_
      exact W.zret (v := nI 0) hx hb hr rfl (fun t ht hW => ⟨_, rfl, (q_b0 (by simp [q_ch, c_1, c_2])), ht⟩) (fun _ h => absurd h List.not_mem_nil) dX2_canHold_47
    · refine lv_iconst (v := nI 1) hx hb dX2_canHold_42 (by decide) ?_
      refine lv_goto (tgt := 47) hx hb dX2_canHold_43 (by decide) ?_
      exact W.zret (v := nI 1) hx hb hr rfl (fun t ht hW => ⟨_, rfl, (q_b1 (by simp [q_ch, c_1, c_2])), ht⟩) (fun _ h => absurd h List.not_mem_nil) dX2_canHold_47
  · refine q_tIn (v := 5) (tgt := 48) (off := 47) hx hb c_1 dX2_canHold_1 (by decide) (by decide) (by decide) (by decide) ?_
    refine lv_iload_n hx hb dX2_canHold_48 rfl (lv_at hl 1 rfl) ?_
    refine lv_bipush (v := nI 10) hx hb dX2_canHold_49 (by decide) ?_
    refine ln_cmp_ne (tgt := 58) hx hb (by omega) (by omega) dX2_canHold_51 (by decide) (fun c_3 => ?_) (fun c_3 => ?_)
    · refine lv_iconst (v := nI 0) hx hb dX2_canHold_58 (by decide) ?_
      exact W.zret (v := nI 0) hx hb hr rfl (fun t ht hW => ⟨_, rfl, (q_b0 (by simp [q_ch, c_1, c_3])), ht⟩) (fun _ h => absurd h List.not_mem_nil) dX2_canHold_59
    · refine lv_iconst (v := nI 1) hx hb dX2_canHold_54 (by decide) ?_
      refine lv_goto (tgt := 59) hx hb dX2_canHold_55 (by decide) ?_
      exact W.zret (v := nI 1) hx hb hr rfl (fun t ht hW => ⟨_, rfl, (q_b1 (by simp [q_ch, c_1, c_3])), ht⟩) (fun _ h => absurd h List.not_mem_nil) dX2_canHold_59
  · refine q_tIn (v := 8) (tgt := 60) (off := 59) hx hb c_1 dX2_canHold_1 (by decide) (by decide) (by decide) (by decide) ?_
    refine lv_iload_n hx hb dX2_canHold_60 rfl (lv_at hl 1 rfl) ?_
    refine lv_iconst (v := nI 5) hx hb dX2_canHold_61 (by decide) ?_
    refine ln_cmp_ne (tgt := 69) hx hb (by omega) (by omega) dX2_canHold_62 (by decide) (fun c_4 => ?_) (fun c_4 => ?_)
    · refine lv_iconst (v := nI 0) hx hb dX2_canHold_69 (by decide) ?_
      exact W.zret (v := nI 0) hx hb hr rfl (fun t ht hW => ⟨_, rfl, (q_b0 (by simp [q_ch, c_1, c_4])), ht⟩) (fun _ h => absurd h List.not_mem_nil) dX2_canHold_70
    · refine lv_iconst (v := nI 1) hx hb dX2_canHold_65 (by decide) ?_
      refine lv_goto (tgt := 70) hx hb dX2_canHold_66 (by decide) ?_
      exact W.zret (v := nI 1) hx hb hr rfl (fun t ht hW => ⟨_, rfl, (q_b1 (by simp [q_ch, c_1, c_4])), ht⟩) (fun _ h => absurd h List.not_mem_nil) dX2_canHold_70
  · obtain ⟨c_1_4, c_1_5, c_1_8⟩ := c_1
    have c_5 : r = 6 ∨ r = 7 ∨ ((r : Int) < 4 ∨ 8 < (r : Int)) := by omega
    rcases c_5 with c_5 | c_5 | c_5
    · refine q_tIn (v := 6) (tgt := 71) (off := 70) hx hb c_5 dX2_canHold_1 (by decide) (by decide) (by decide) (by decide) ?_
      refine lv_iconst (v := nI 1) hx hb dX2_canHold_71 (by decide) ?_
      exact W.zret (v := nI 1) hx hb hr rfl (fun t ht hW => ⟨_, rfl, (q_b1 (by simp [q_ch, c_1_4, c_1_5, c_1_8, c_5])), ht⟩) (fun _ h => absurd h List.not_mem_nil) dX2_canHold_72
    · refine q_tIn (v := 7) (tgt := 71) (off := 70) hx hb c_5 dX2_canHold_1 (by decide) (by decide) (by decide) (by decide) ?_
      refine lv_iconst (v := nI 1) hx hb dX2_canHold_71 (by decide) ?_
      exact W.zret (v := nI 1) hx hb hr rfl (fun t ht hW => ⟨_, rfl, (q_b1 (by simp [q_ch, c_1_4, c_1_5, c_1_8, c_5])), ht⟩) (fun _ h => absurd h List.not_mem_nil) dX2_canHold_72
    · refine q_tOut (tgt := 71) hx hb (by omega) dX2_canHold_1 c_5 (by decide) ?_
      refine lv_iconst (v := nI 1) hx hb dX2_canHold_71 (by decide) ?_
      exact W.zret (v := nI 1) hx hb hr rfl (fun t ht hW => ⟨_, rfl, (q_b1 (by simp [q_ch, c_1_4, c_1_5, c_1_8])), ht⟩) (fun _ h => absurd h List.not_mem_nil) dX2_canHold_72
