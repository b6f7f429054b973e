/-! ===== the law whole: its loop, its start, and the claim ===== -/
set_option maxHeartbeats 4000000 in
set_option maxRecDepth 100000 in
theorem law_loop {p : Program} {l : Launch} {e : Env} {s : State} {m : MethodId} {below : List Frame} {meth : Method} {c : Code} {E : q_E} {b L x : Nat} {xs : Nat → Int32} (hL : L ≤ 2560) (C0 : lw_At p s m meth c b L xs) (hK : q_K E s) (hN : q_N s) (hx0 : s.heap.size ≤ x) : ∀ (d i : Nat), L + 5 ≤ i + 5 * d → i ≤ L → ∀ (σ : q_St), q_I σ → ∀ (H : Heap) (locs : List Loc), q_X E x (x + 8) σ H → q_M E (x + 2) H.size σ H → va_S (fun q : Nat => s.heap.size ≤ q) s.heap H locs → ∀ (ls : Array Slot), lv_has ls 4 [(0, .ref b), (1, .ref x), (2, .ref (x + 2)), (3, .int (nI i))] → W p l e room_1 s m #[Value.ref b] below meth c H locs (8 + 3 * i) (700 + 14 * i) (lw_Z below #[Value.ref b] s) (F0 m 18 ls []) := by
  intro d
  induction d with
  | zero =>
    intro i h1 h2
    omega
  | succ d ih =>
    intro i hd hiL σ hI H locs hX hM hS ls hl
    obtain ⟨hx, hb, hr, hml, hown, hts0, hXs, hbl, hlocks, hgv⟩ := id C0
    have hbA : ¬ (fun q : Nat => s.heap.size ≤ q) b := Nat.not_le.mpr hbl
    refine lv_iload_n hx hb dL_law_18 rfl (lv_at hl 3 rfl) ?_
    refine lv_aload_n hx hb dL_law_19 rfl (lv_at hl 0 rfl) ?_
    refine va_slen hx hb hXs hbl hbA hS dL_law_20 ?_
    refine lv_iconst (v := nI 5) hx hb dL_law_21 (by decide) ?_
    refine lv_isub hx hb dL_law_22 ?_
    refine lv_icmp_gt (tgt := 701) hx hb dL_law_23 (by decide) (fun c1 => ?_) (fun c1 => ?_)
    · refine lv_iconst (v := 1) hx hb dL_law_701 (by decide) ?_
      refine va_forget (fun q hq => hS.2.2 q hq) ?_
      refine W.widen (k := 600000) (n := 7302250) (by omega) (by omega) ?_
      exact lw_ret hx hb hr hlocks dL_law_702
    · have hi : i + 5 ≤ L := q_lim hL (by omega) c1
      refine lv_aload_n hx hb dL_law_26 rfl (lv_at hl 0 rfl) ?_
      refine lv_iload_n hx hb dL_law_27 rfl (lv_at hl 3 rfl) ?_
      refine qw_sld hx hb hXs hbl hbA hS (show i < L by omega) (by omega) dL_law_28 ?_
      refine lv_bipush (v := nI 31) hx hb dL_law_29 (by decide) ?_
      refine lv_iand hx hb dL_law_31 ?_
      obtain ⟨v, hv, ev⟩ := pk_andE (xs i) (m := nI 31) 5 (by decide)
      rw [ev]
      have next : ∀ (σ2 : q_St) (H1 : Heap) (locs1 : List Loc), q_I σ2 → q_X E x (x + 8) σ2 H1 → q_M E (x + 2) H1.size σ2 H1 → va_S (fun q : Nat => s.heap.size ≤ q) s.heap H1 locs1 → W p l e room_1 s m #[Value.ref b] below meth c H1 locs1 (8 + 3 * (i + 5)) (700 + 14 * (i + 5)) (lw_Z below #[Value.ref b] s) (F0 m 695 ls []) := by
        intro σ2 H1 locs1 hI2 hX2 hM2 hS2
        refine lv_iinc (v := nI (i + 5)) (lv' := [(3, .int (nI (i + 5))), (0, .ref b), (1, .ref x), (2, .ref (x + 2))]) hx hb dL_law_695 hl (k := 3) rfl (by rw [show Int32.ofInt 5 = nI 5 by decide, nI_add]) (by decide) rfl (fun ls hl => ?_)
        refine lv_goto (tgt := 18) hx hb dL_law_698 (by decide) ?_
        exact ih (i + 5) (by omega) hi σ2 hI2 H1 locs1 hX2 hM2 hS2 ls (lv_sub hl [1, 2, 3, 0] rfl)
      obtain ⟨n, kd, sz, sh, nu, pa, sl, ft, tn, ts, tg⟩ := σ
      rcases (show v = 0 ∨ v = 1 ∨ v = 2 ∨ v = 3 ∨ v = 4 ∨ v = 5 ∨ v = 6 ∨ v = 7 ∨ v = 8 ∨ v = 9 ∨ v = 10 ∨ v = 11 ∨ v = 12 ∨ v = 13 ∨ v = 14 ∨ v = 15 ∨ v = 16 ∨ 16 < v by omega) with h | h | h | h | h | h | h | h | h | h | h | h | h | h | h | h | h | h
      · refine q_tIn (v := 0) (tgt := 116) (off := 84) hx hb h dL_law_32 (by decide) (by decide) (by decide) (by decide) ?_
        exact law_case_0 hL C0 hK hN hx0 i hi n kd sz sh nu pa sl ft tn ts tg hI hX hM hS hl next
      · refine q_tIn (v := 1) (tgt := 159) (off := 127) hx hb h dL_law_32 (by decide) (by decide) (by decide) (by decide) ?_
        exact law_case_1 hL C0 hK hN hx0 i hi n kd sz sh nu pa sl ft tn ts tg hI hX hM hS hl next
      · refine q_tIn (v := 2) (tgt := 192) (off := 160) hx hb h dL_law_32 (by decide) (by decide) (by decide) (by decide) ?_
        exact law_case_2 hL C0 hK hN hx0 i hi n kd sz sh nu pa sl ft tn ts tg hI hX hM hS hl next
      · refine q_tIn (v := 3) (tgt := 226) (off := 194) hx hb h dL_law_32 (by decide) (by decide) (by decide) (by decide) ?_
        exact law_case_3 hL C0 hK hN hx0 i hi n kd sz sh nu pa sl ft tn ts tg hI hX hM hS hl next
      · refine q_tIn (v := 4) (tgt := 269) (off := 237) hx hb h dL_law_32 (by decide) (by decide) (by decide) (by decide) ?_
        exact law_case_4 hL C0 hK hN hx0 i hi n kd sz sh nu pa sl ft tn ts tg hI hX hM hS hl next
      · refine q_tIn (v := 5) (tgt := 342) (off := 310) hx hb h dL_law_32 (by decide) (by decide) (by decide) (by decide) ?_
        exact law_case_5 hL C0 hK hN hx0 i hi n kd sz sh nu pa sl ft tn ts tg hI hX hM hS hl next
      · refine q_tIn (v := 6) (tgt := 376) (off := 344) hx hb h dL_law_32 (by decide) (by decide) (by decide) (by decide) ?_
        exact law_case_6 hL C0 hK hN hx0 i hi n kd sz sh nu pa sl ft tn ts tg hI hX hM hS hl next
      · refine q_tIn (v := 7) (tgt := 419) (off := 387) hx hb h dL_law_32 (by decide) (by decide) (by decide) (by decide) ?_
        exact law_case_7 hL C0 hK hN hx0 i hi n kd sz sh nu pa sl ft tn ts tg hI hX hM hS hl next
      · refine q_tIn (v := 8) (tgt := 462) (off := 430) hx hb h dL_law_32 (by decide) (by decide) (by decide) (by decide) ?_
        exact law_case_8 hL C0 hK hN hx0 i hi n kd sz sh nu pa sl ft tn ts tg hI hX hM hS hl next
      · refine q_tIn (v := 9) (tgt := 495) (off := 463) hx hb h dL_law_32 (by decide) (by decide) (by decide) (by decide) ?_
        exact law_case_9 hL C0 hK hN hx0 i hi n kd sz sh nu pa sl ft tn ts tg hI hX hM hS hl next
      · refine q_tIn (v := 10) (tgt := 518) (off := 486) hx hb h dL_law_32 (by decide) (by decide) (by decide) (by decide) ?_
        exact law_case_10 hL C0 hK hN hx0 i hi n kd sz sh nu pa sl ft tn ts tg hI hX hM hS hl next
      · refine q_tIn (v := 11) (tgt := 567) (off := 535) hx hb h dL_law_32 (by decide) (by decide) (by decide) (by decide) ?_
        exact law_case_11 hL C0 hK hN hx0 i hi n kd sz sh nu pa sl ft tn ts tg hI hX hM hS hl next
      · refine q_tIn (v := 12) (tgt := 600) (off := 568) hx hb h dL_law_32 (by decide) (by decide) (by decide) (by decide) ?_
        exact law_case_12 hL C0 hK hN hx0 i hi n kd sz sh nu pa sl ft tn ts tg hI hX hM hS hl next
      · refine q_tIn (v := 13) (tgt := 623) (off := 591) hx hb h dL_law_32 (by decide) (by decide) (by decide) (by decide) ?_
        exact law_case_13 hL C0 hK hN hx0 i hi n kd sz sh nu pa sl ft tn ts tg hI hX hM hS hl next
      · refine q_tIn (v := 14) (tgt := 646) (off := 614) hx hb h dL_law_32 (by decide) (by decide) (by decide) (by decide) ?_
        exact law_case_14 hL C0 hK hN hx0 i hi n kd sz sh nu pa sl ft tn ts tg hI hX hM hS hl next
      · refine q_tIn (v := 15) (tgt := 659) (off := 627) hx hb h dL_law_32 (by decide) (by decide) (by decide) (by decide) ?_
        exact law_case_15 hL C0 hK hN hx0 i hi n kd sz sh nu pa sl ft tn ts tg hI hX hM hS hl next
      · refine q_tIn (v := 16) (tgt := 682) (off := 650) hx hb h dL_law_32 (by decide) (by decide) (by decide) (by decide) ?_
        exact law_case_16 hL C0 hK hN hx0 i hi n kd sz sh nu pa sl ft tn ts tg hI hX hM hS hl next
      · refine q_tOut (tgt := 695) hx hb (by omega) dL_law_32 (by omega) (by decide) ?_
        refine W.widen (k := 8 + 3 * (i + 5)) (n := 700 + 14 * (i + 5)) (by omega) (by omega) ?_
        exact next _ _ _ hI hX hM hS
set_option maxHeartbeats 4000000 in
set_option maxRecDepth 100000 in
theorem whole_start {p : Program} {e : Env} {s : State} {m : MethodId} {below : List Frame} {meth : Method} {c : Code} (l : Launch) {b L : Nat} {xs : Nat → Int32} (hL : L ≤ 2560) (C0 : lw_At p s m meth c b L xs) : W p l e room_1 s m #[Value.ref b] below meth c s.heap [] 0 0 (lw_Z below #[Value.ref b] s) (entryFrame m ([Value.ref b] : List Value).toArray 4) := by
  obtain ⟨hx, hb, hr, hml, hown, hts0, hXs, hbl, hlocks, hgv⟩ := id C0
  have hts : ∀ w ∈ wsL_law, w.before #[Value.ref b] s = true := fun w h => hts0 w (wsL_law_in w h)
  have hown : s.vm.findClass RL = some m.cls := hown
  obtain ⟨c0, iS0, hKn0⟩ := u_known (C := RX0) (T := TX0) (N := 6) (n := 6) hts inlX0 (hts (.instantiable RX0 6) (by decide +kernel))
  obtain ⟨c1, iS1, hKn1⟩ := u_known (C := RX1) (T := TX1) (N := 6) (n := 6) hts inlX1 (hts (.instantiable RX1 6) (by decide +kernel))
  obtain ⟨c2, iS2, hKn2⟩ := u_known (C := RX2) (T := TX2) (N := 10) (n := 10) hts inlX2 (hts (.instantiable RX2 10) (by decide +kernel))
  have hAO : (Cond.arrayOver (.object RX0)).before #[Value.ref b] s = true := hts0 (.arrayOver (.object RX0)) (by decide +kernel)
  have hN : q_N s := ⟨va_Nw.of rfl (hts0 (.methodLinkNest RX0 16 yX1_holdsNumbers RX1) (by decide +kernel)), va_Nw.of rfl (hts0 (.methodLinkNest RX0 22 yX1_holdsThings RX1) (by decide +kernel)), va_AO.of hAO⟩
  obtain ⟨cI, kI, pI, i1, i2, i3⟩ := Cond.arrayClass_spec (hts (.arrayClass .int) (by decide +kernel))
  obtain ⟨cJ, kJ, pJ, j1, j2, j3⟩ := Cond.arrayClass_spec (hts (.arrayClass .long) (by decide +kernel))
  obtain ⟨cZ, kZ, pZ, z1, z2, z3⟩ := Cond.arrayClass_spec (hts (.arrayClass .boolean) (by decide +kernel))
  obtain ⟨pT, cT, kT, t1, -, t2, t3, t4⟩ := Cond.arrayOver_spec hAO
  obtain ⟨E, hK⟩ : ∃ E : q_E, q_K E s := by
    refine ⟨((fun k => if k = 0 then c0 else if k = 1 then c1 else c2, fun k => if k = 0 then iS0 else if k = 1 then iS1 else iS2), cI, cJ, cZ, cT), ?_, ?_⟩
    · intro k q hq
      match k, hq with
      | 0, hq => cases hq; exact hKn0
      | 1, hq => cases hq; exact hKn1
      | 2, hq => cases hq; exact hKn2
      | k + 3, hq => simp [vwCl] at hq
    · intro k q hq
      match k, hq with
      | 0, hq => cases hq; exact ⟨fun n z => ⟨fun k h => (by cases h), kI, i2, pI, i3⟩, i1⟩
      | 1, hq => cases hq; exact ⟨fun n z => ⟨fun k h => (by cases h), kJ, j2, pJ, j3⟩, j1⟩
      | 2, hq => cases hq; exact ⟨fun n z => ⟨fun k h => (by cases h), kZ, z2, pZ, z3⟩, z1⟩
      | 3, hq => cases hq; exact ⟨fun n z => ⟨fun k h => (by cases h), kT, t2, pT, t3⟩, kT, pT, t2, t3, t1, t4⟩
      | k + 4, hq => simp at hq
  have hS : va_S (fun q : Nat => s.heap.size ≤ q) s.heap s.heap [] := va_S.rf
  have hl := lv_entry ([.ref b]) (n := 4) (Nat.le_of_ble_eq_true rfl)
  rw [lg_entry_eq]
  generalize (lg_sl ([.ref b]) ++ List.replicate (4 - (lg_sl ([.ref b])).length) Slot.unset).toArray = ls at hl ⊢
  have hl : lv_has ls 4 [(0, .ref b)] := hl
  refine qw_newo (ci := 1) (C := RX1) (T := TX1) (N := 6) (fs := [.null, .int 0, .int 0, .int 0, .int 0, .int 0]) hx hb hts inlX1 tyX1 tyX1_ok hown (hts (.classLink RL 7 RX1) (by decide +kernel)) (hts (.instantiable RX1 6) (by decide +kernel)) (hts (.initialized RX1) (by decide +kernel)) hK rfl (fun j hj => by rcases (show j = 0 ∨ j = 1 ∨ j = 2 ∨ j = 3 ∨ j = 4 ∨ j = 5 by omega) with rfl | rfl | rfl | rfl | rfl | rfl <;> rfl) (Nat.le_of_ble_eq_true rfl) (Nat.le_of_ble_eq_true rfl) dL_law_0 (fun H1 hO hz1 hq1 => ?_)
  have hS1 := q_Sgrow hS (by omega) hq1
  refine lv_dup hx hb dL_law_3 rfl ?_
  refine va_callv (va_runI (As := []) (rest := [.ref (Array.size s.heap)]) ⟨hx, hb, hml, hown, hts⟩ (kX1_init l E (Array.size s.heap)) (cwI 0 hts gL_law_X1_init rfl rfl rfl (hts (.initialized RX1) (by decide +kernel)) (hts (.methodLink RL 9 yX1_init) (by decide +kernel)) (hts (.instanceMethod yX1_init) (by decide +kernel)) rfl (by decide +kernel) ⟨Nat.le_of_ble_eq_true rfl, Nat.le_of_ble_eq_true rfl⟩) (q_preN hK hN ⟨hO, hz1⟩) rfl rfl hl.1 rfl (lv_room (Nat.le_of_ble_eq_true rfl)) dL_law_4 ⟨Nat.le_of_ble_eq_true rfl, Nat.le_of_ble_eq_true rfl⟩) hS1 (fun q _ h => h) (fun q h => h) (fun u t H2 locs2 ht hvm hw hB hz2 hk2 hS => ?_)
  have hB : q_x0 E (Array.size s.heap) H2 := by rw [← ht]; exact hB
  obtain ⟨xO, xT, xZ⟩ := hB
  refine lv_astore_n (lv' := [(1, .ref (Array.size s.heap)), (0, .ref b)]) hx hb dL_law_7 rfl hl (by decide) rfl (fun ls hl => ?_)
  refine qw_newo (ci := 2) (C := RX2) (T := TX2) (N := 10) (fs := [.int 0, .null, .null, .null, .null, .null, .int 0, .int 0, .int 0, .int 0]) hx hb hts inlX2 tyX2 tyX2_ok hown (hts (.classLink RL 10 RX2) (by decide +kernel)) (hts (.instantiable RX2 10) (by decide +kernel)) (hts (.initialized RX2) (by decide +kernel)) hK rfl (fun j hj => by rcases (show j = 0 ∨ j = 1 ∨ j = 2 ∨ j = 3 ∨ j = 4 ∨ j = 5 ∨ j = 6 ∨ j = 7 ∨ j = 8 ∨ j = 9 by omega) with rfl | rfl | rfl | rfl | rfl | rfl | rfl | rfl | rfl | rfl <;> rfl) (Nat.le_of_ble_eq_true rfl) (Nat.le_of_ble_eq_true rfl) dL_law_8 (fun H3 mO mz1 mq1 => ?_)
  rw [xZ] at mO mz1 mq1 ⊢
  have hS3 := q_Sgrow hS (by omega) (fun q h => mq1 q (by omega))
  refine lv_dup hx hb dL_law_11 rfl ?_
  refine va_callv (va_runI (As := []) (rest := [.ref (Array.size s.heap + 2)]) ⟨hx, hb, hml, hown, hts⟩ (kX2_init l E (Array.size s.heap + 2)) (cwI 0 hts gL_law_X2_init rfl rfl rfl (hts (.initialized RX2) (by decide +kernel)) (hts (.methodLink RL 12 yX2_init) (by decide +kernel)) (hts (.instanceMethod yX2_init) (by decide +kernel)) rfl (by decide +kernel) ⟨Nat.le_of_ble_eq_true rfl, Nat.le_of_ble_eq_true rfl⟩) (q_pre hK ⟨mO, mz1⟩) rfl rfl hl.1 rfl (lv_room (Nat.le_of_ble_eq_true rfl)) dL_law_12 ⟨Nat.le_of_ble_eq_true rfl, Nat.le_of_ble_eq_true rfl⟩) hS3 (fun q _ h => Nat.le_trans (Nat.le_add_right _ _) h) (fun q h => Nat.le_trans (Nat.le_add_right _ _) h) (fun u4 t4 H4 locs4 ht4 hvm4 hw4 hB4 hz4 hk4 hS => ?_)
  have hM : q_M E (Array.size s.heap + 2) (Array.size s.heap + 2 + 6) q_s0 H4 := by rw [← ht4]; exact hB4
  have hz5 : H4.size = Array.size s.heap + 2 + 6 := hM.2.2.2.2.2.2
  have hkeep : ∀ q, q < Array.size s.heap + 2 → H4[q]? = H2[q]? := fun q h => (hk4 q (by omega) (Nat.not_le.mpr h)).trans (mq1 q h)
  have hX : q_X E (Array.size s.heap) (Array.size s.heap + 8) q_s0 H4 := ⟨xO.kept (hkeep _ (by omega)), q_ta_congr ((hkeep _ (by omega)).trans xT) (fun _ _ => rfl), fun k hk => absurd hk (Nat.not_lt_zero k), hz5, by omega⟩
  have hM : q_M E (Array.size s.heap + 2) H4.size q_s0 H4 := by rw [hz5]; exact hM
  refine lv_astore_n (lv' := [(2, .ref (Array.size s.heap + 2)), (1, .ref (Array.size s.heap)), (0, .ref b)]) hx hb dL_law_15 rfl hl (by decide) rfl (fun ls hl => ?_)
  refine lv_iconst (v := nI 0) hx hb dL_law_16 (by decide) ?_
  refine lv_istore_n (lv' := [(3, .int (nI 0)), (2, .ref (Array.size s.heap + 2)), (1, .ref (Array.size s.heap)), (0, .ref b)]) hx hb dL_law_17 rfl hl (by decide) rfl (fun ls hl => ?_)
  refine W.widen (k := 8 + 3 * 0) (n := 700 + 14 * 0) (by omega) (by omega) ?_
  exact law_loop hL C0 hK hN (Nat.le_refl _) (L + 1) 0 (by omega) (Nat.zero_le _) q_s0 q_I0 H4 locs4 hX hM hS ls (lv_sub hl [3, 2, 1, 0] rfl)
set_option maxHeartbeats 4000000 in
theorem lw_walk (l : Launch) (b : Addr) (xs : List Int32) : MetFree l x (headSpec (Jvm.Cond.code x code maxLocals ret :: tables_1) room_1) (lw_P b xs) (fun _ _ _ _ _ => True) lw_Q := by
  refine MetFree.of_bodyS (code := code) (maxLocals := maxLocals) (ret := ret) (by decide) ?_ ?_
  · intro args s m h hn
    obtain ⟨meth, c, h1, h2, h3, h4, h5, h6, -, -⟩ := Cond.code_spec hn (atoms_spec (ws := Jvm.Cond.code x code maxLocals ret :: tables_1) h _ List.mem_cons_self)
    exact ⟨meth, c, h1, h2, h3, h4, h5, h6⟩
  · intro p e s m args below meth c s₁ B hml0 hP _
    obtain ⟨rfl, hx, hbd, hgv⟩ := hP
    obtain ⟨scr, harrAt, hlist, hof, hsmall⟩ := hx
    obtain ⟨hcb, hkn, -, -⟩ := State.arrayAt?_spec harrAt
    have hown : s.vm.findClass R_law = some m.cls := findClass_of_methodNamed B.named
    have hts0 : ∀ c ∈ (Jvm.Cond.code x code maxLocals ret :: tables_1), c.before #[Value.ref b] s = true := atoms_spec (ws := Jvm.Cond.code x code maxLocals ret :: tables_1) B.pre
    have hts : ∀ w ∈ lw_tbl, w.before #[Value.ref b] s = true := k2_hts_sels lw_privs (fun w hw => hts0 w (List.mem_cons_of_mem _ hw)) lw_privs_ok
    have hml : c.maxLocals = 4 := B.maxLocals_eq (hts0 _ List.mem_cons_self)
    have X₀ : Stand p l e room_1 s m #[Value.ref b] below meth c s₁ [] 0 0 := Stand.of_body B
    have hh0 : s₁.heap = s.heap := by rw [B.state]; rfl
    have hsz : scr.slots.size = xs.length := by rw [← Array.length_toList, hlist, List.length_map]
    have hval : ∀ j : Nat, j < xs.length → scr.slots[j]? = some (.int (xs.getD j 0)) := fun j hj => by
      rw [← Array.getElem?_toList, hlist]
      simp [hj]
    have hbl : b < s.heap.size := (Array.getElem?_eq_some_iff.mp hcb).1
    have hX : va_X b xs.length (fun j => xs.getD j 0) s s.heap := ⟨scr, hcb, hof, hkn, hsz, hval⟩
    have K : W p l e room_1 s m #[Value.ref b] below meth c s₁.heap [] 0 0 (lw_Z below #[Value.ref b] s) (entryFrame m ([Value.ref b] : List Value).toArray 4) := by
      rw [hh0]
      exact whole_start l hbd ⟨B.exec, B.bytes, B.returns, hml, hown, hts, hX, hbl, B.notSynchronized, hgv⟩
    obtain ⟨t, a1, o, b1, b2, b3⟩ := K s₁ rfl X₀
    exact ⟨t, o, a1, b1, b2, b3⟩
theorem lw_pre_spec {args : Array Value} {s : State} (h : (Jvm.Cond.and given_1 narrow_1).before args s = true) (hr : rest_1_c.before args s = true) : ∃ (b : Addr) (xs : List Int32), lw_P b xs args s := by
  have hs := flat_of_before _ h
  have hq := flat_of_before _ hr
  have hc : (Cond.count 1).before args s = true := hs _ (by decide +kernel)
  have harr : (Cond.arrayOf (.arg 0) .int).before args s = true := hs _ (by decide +kernel)
  have hle : (Cond.le (.length (.arg 0)) (.int 2560)).before args s = true := hs _ (by decide +kernel)
  have hlen : (Cond.isInt (.length (.arg 0))).before args s = true := hq _ (by decide +kernel)
  have hall : (Cond.all (.arg 0) (.isInt (.elem (.arg 0) (.index 0)))).before args s = true := hq _ (by decide +kernel)
  obtain ⟨b, xs, hb, hx⟩ := State.ints_of_pre rfl harr hlen hall
  have hsm : xs.length < 2 ^ 31 := hx.choose_spec.2.2.2
  have hev : (Term.length (.arg 0)).eval args s none [] s = some (.int xs.length.toInt32) := hx.length_eval hb
  have hv := Cond.le_ints hev (show (Term.int 2560).eval args s none [] s = some (.int 2560) from rfl)
  have hd : xs.length.toInt32 ≤ 2560 := by
    simpa [Cond.before, Cond.holds, hv] using hle
  have hN : xs.length ≤ 2560 := (Int32.ofNat_le_ofNat hsm (by decide)).mp (show Int32.ofNat xs.length ≤ Int32.ofNat 2560 from hd)
  exact ⟨b, xs, Cond.one_arg hc (show args[0]? = some (.ref b) from hb), hx, hN, h⟩
theorem lw_comes (l : Launch) : Comes l x (Jvm.Cond.code x code maxLocals ret :: tables_1) room_1 (fun tb e args s => Calls_1 tb e args s ∧ rest_1 tb e args s ∧ Pre_1 tb e args s)
    (fun _ _ args s o t => lw_Q args s o t) := by
  intro p e ha hc hk s m args below hf hfit hheap happ hpre
  obtain ⟨b, xs, hP⟩ := lw_pre_spec hpre.2.2 hpre.2.1
  obtain ⟨k, o, h1, h2, h3, hQ⟩ := lw_walk l b xs p e ha hc hk s m args below hf ((Spec.applies_iff_loose hf).mp happ).1 hP trivial
  exact ⟨k, o, h1, h2, h3, hQ⟩
theorem lw_frame {s t : State} {o : Outcome} {args : Array Value} (h : Framed s o t [] 600000 7302250) :
    Framed s o t (fieldLocs frame_1_writes args s ++ arrayLocs frame_1_arrays args s ++ staticLocs frame_1_statics s) 600000 7302250 := h
theorem lw_limb (L : Cond) (hL : ∀ (args : Array Value) (s t : State), L.after args s (.returned (some (.int 1))) t = true) :
    ArmFor flags0 classFile x code maxLocals ret World_1 tables_1 room_1 Calls_1 rest_1 Pre_1
      (fun tb e a s o t => postC L tb e a s o t ∧ Framed s o t (fieldLocs frame_1_writes a s ++ arrayLocs frame_1_arrays a s ++ staticLocs frame_1_statics s) 600000 7302250) := by
  intro l _ _ _ p e ha hc hk s m args below hf hfit hheap happ hpre
  obtain ⟨k, o, h1, h2, h3, rfl, hF⟩ := lw_comes l p e ha hc hk s m args below hf hfit hheap happ hpre
  exact ⟨k, _, h1, h2, h3, hL args s _, lw_frame hF⟩
theorem i_vc : Claimed_1_1 ∧ Claimed_1_2 := ⟨lw_limb limb_1_1 (fun args s t => by simp [limb_1_1, Cond.after, Cond.holds, Cond.value]), lw_limb limb_1_2 (fun args s t => Cond.after_iff.mpr (by
  first | (rw [show limb_1_2 = Cond.eq .result (.int 1) from rfl, Cond.eq_ints (x := 1) (y := 1) rfl rfl]; simp; done) | (simp [limb_1_2, Cond.value, Term.eval]; done)))⟩

