/-! THE CLAIM OUT OF ONE WALK OF THE LAW'S BODY. Your part is whole_start (and what it stands on); all else here is the same for every law, but numbers. -/
def R_law : String := "DockGatesLaw"
def lw_P (b : Addr) (xs : List Int32) (args : Array Value) (s : State) : Prop := args = #[.ref b] ∧ s.IntsAt b xs ∧ xs.length ≤ 2560 ∧ (Jvm.Cond.and given_1 narrow_1).before args s = true
def lw_Q (_ : Array Value) (s : State) (o : Outcome) (t : State) : Prop := o = .returned (some (.int 1)) ∧ Framed s o t [] 600000 7302250
def lw_Z (below : List Frame) (a : Array Value) (s : State) : State → Prop := fun t => ∃ o, t.status = .running ∧ Ended t below o ∧ lw_Q a s o t
/-- the law's own end, with 1 on the stack, nothing written that was there before, its room as the claim has it -/
theorem lw_ret {p : Program} {l : Launch} {e : Env} {s : State} {m : MethodId} {below : List Frame} {meth : Method} {c : Code} {b : Nat} (hx : p.tables.exec = Jvm.exec) (hb : c.code = code) (hr : meth.sig.returnType = ret) (hlocks : meth.locks = false) {pc : Nat} {H : Heap} {ls : Array Slot} (hdg : decode code pc = .ok (.ireturn, 1)) : W p l e room_1 s m #[Value.ref b] below meth c H [] 600000 7302250 (lw_Z below #[Value.ref b] s) (F0 m pc ls [.int 1]) := by
  intro T hT X
  obtain ⟨fs, hret, hrun, hended, hW, hframe⟩ := X.leave (v := some (.int 1)) (hlocks := hlocks) (fun h => by rw [hr] at h; cases h)
  have hmeth' : T.vm.method? m = some meth := X.method'
  refine ⟨T.setFrames fs, ?_, .returned (some (.int 1)), hrun, hended, rfl, ⟨_, rfl⟩, hW, hframe⟩
  jvm_step X.here [X.here.top, hx, hb, hdg, hmeth', hr, ret, narrow_b1]
  (try refine ⟨rfl, ?_⟩); (try refine ⟨rfl, ?_⟩)
  first | (intro acts; rw [hret _ acts rfl rfl rfl]) | rw [hret _ _ rfl rfl rfl]
  exact Steps.refl _
/-- what holds at the law's entry: the machine, the code, the tables' words (any of lw_tbl by 'hts w (by decide +kernel)'), the script of L ints xs at the cell b, what the Statement gives of the start (any of its parts by flat_of_before) -/
def lw_At (p : Program) (s : State) (m : MethodId) (meth : Method) (c : Code) (b L : Nat) (xs : Nat → Int32) : Prop :=
  p.tables.exec = Jvm.exec ∧ c.code = code ∧ meth.sig.returnType = ret ∧ c.maxLocals = 4 ∧ s.vm.findClass R_law = some m.cls ∧ (∀ w ∈ lw_tbl, w.before #[Value.ref b] s = true) ∧ va_X b L xs s s.heap ∧ b < s.heap.size ∧ meth.locks = false ∧ (Jvm.Cond.and given_1 narrow_1).before #[Value.ref b] s = true
set_option maxHeartbeats 4000000 in
set_option maxRecDepth 100000 in
theorem law_case_0 {p : Program} {l : Launch} {e : Env} {s : State} {m : MethodId} {below : List Frame} {meth : Method} {c : Code} {E : q_E} {b L x : Nat} {xs : Nat → Int32} (hL : L ≤ 2560) (C0 : lw_At p s m meth c b L xs) (hK : q_K E s) (hN : q_N s) (hx0 : s.heap.size ≤ x) (i : Nat) (hi : i + 5 ≤ L) (n : Nat) (kd sz : Nat → Nat) (sh : Nat → Bool) (nu : Nat → Nat → Int64) (pa : Nat → Nat → Option Nat) (sl : Nat → Option Nat) (ft tn ts tg : Int32) (hI : q_I (n, kd, sz, sh, nu, pa, sl, ft, tn, ts, tg)) {H : Heap} {locs : List Loc} (hX : q_X E x (x + 8) (n, kd, sz, sh, nu, pa, sl, ft, tn, ts, tg) H) (hM : q_M E (x + 2) H.size (n, kd, sz, sh, nu, pa, sl, ft, tn, ts, tg) H) (hS : va_S (fun q : Nat => s.heap.size ≤ q) s.heap H locs) {ls : Array Slot} (hl : lv_has ls 4 [(0, .ref b), (1, .ref x), (2, .ref (x + 2)), (3, .int (nI i))])
    (kk : ∀ (σ2 : q_St) (H1 : Heap) (locs1 : List Loc), q_I σ2 → q_X E x (x + 8) σ2 H1 → q_M E (x + 2) H1.size σ2 H1 → va_S (fun q : Nat => s.heap.size ≤ q) s.heap H1 locs1 → W p l e room_1 s m #[Value.ref b] below meth c H1 locs1 (8 + 3 * (i + 5)) (700 + 14 * (i + 5)) (lw_Z below #[Value.ref b] s) (F0 m 695 ls [])) : W p l e room_1 s m #[Value.ref b] below meth c H locs (8 + 3 * i) (700 + 14 * i) (lw_Z below #[Value.ref b] s) (F0 m 116 ls []) := by
  obtain ⟨hx, hb, hr, hml, hown, hts0, hXs, hbl, hlocks, hgv⟩ := C0
  have hts : ∀ w ∈ wsL_law, w.before #[Value.ref b] s = true := fun w h => hts0 w (wsL_law_in w h)
  have hown : s.vm.findClass RL = some m.cls := hown
  have hbA : ¬ (fun q : Nat => s.heap.size ≤ q) b := Nat.not_le.mpr hbl
  refine lv_aload_n hx hb dL_law_116 rfl (lv_at hl 1 rfl) ?_
  refine lv_aload_n hx hb dL_law_117 rfl (lv_at hl 0 rfl) ?_
  refine lv_iload_n hx hb dL_law_118 rfl (lv_at hl 3 rfl) ?_
  refine lv_iconst (v := nI 1) hx hb dL_law_119 (by decide) ?_
  refine ln_add hx hb dL_law_120 ?_
  refine qw_sld hx hb hXs hbl hbA hS (show i + 1 < L by omega) (by omega) dL_law_121 ?_
  refine lv_aload_n hx hb dL_law_122 rfl (lv_at hl 0 rfl) ?_
  refine lv_iload_n hx hb dL_law_123 rfl (lv_at hl 3 rfl) ?_
  refine lv_iconst (v := nI 2) hx hb dL_law_124 (by decide) ?_
  refine ln_add hx hb dL_law_125 ?_
  refine qw_sld hx hb hXs hbl hbA hS (show i + 2 < L by omega) (by omega) dL_law_126 ?_
  refine lv_aload_n hx hb dL_law_127 rfl (lv_at hl 0 rfl) ?_
  refine lv_iload_n hx hb dL_law_128 rfl (lv_at hl 3 rfl) ?_
  refine lv_iconst (v := nI 3) hx hb dL_law_129 (by decide) ?_
  refine ln_add hx hb dL_law_130 ?_
  refine qw_sld hx hb hXs hbl hbA hS (show i + 3 < L by omega) (by omega) dL_law_131 ?_
  refine lc_xi (va_runV (As := [.int (xs (i + 1)), .int (xs (i + 2)), .int (xs (i + 3))]) (rest := []) ⟨hx, hb, hml, hown, hts⟩ (kX1_make l E x (x + 8) n kd sz sh nu pa sl ft tn ts tg hI ((xs (i + 1))) ((xs (i + 2))) ((xs (i + 3)))) (cwV 3 hts gL_law_X1_make rfl rfl rfl (by decide +kernel) ⟨Nat.le_of_ble_eq_true rfl, Nat.le_of_ble_eq_true rfl⟩) (q_preVN hK hN hX hX.1 rfl) rfl rfl hl.1 rfl (lv_room (Nat.le_of_ble_eq_true rfl)) dL_law_132 ⟨by show 8 + 3 * i + 3 ≤ 600000; omega, by show 700 + 14 * i + 14 ≤ 7302250; omega⟩) hS hx0 hX hM (fun H locs hX hM hS => ?_)
  refine lv_aload_n hx hb dL_law_135 rfl (lv_at hl 2 rfl) ?_
  refine lv_aload_n hx hb dL_law_136 rfl (lv_at hl 0 rfl) ?_
  refine lv_iload_n hx hb dL_law_137 rfl (lv_at hl 3 rfl) ?_
  refine lv_iconst (v := nI 1) hx hb dL_law_138 (by decide) ?_
  refine ln_add hx hb dL_law_139 ?_
  refine qw_sld hx hb hXs hbl hbA hS (show i + 1 < L by omega) (by omega) dL_law_140 ?_
  refine lv_aload_n hx hb dL_law_141 rfl (lv_at hl 0 rfl) ?_
  refine lv_iload_n hx hb dL_law_142 rfl (lv_at hl 3 rfl) ?_
  refine lv_iconst (v := nI 2) hx hb dL_law_143 (by decide) ?_
  refine ln_add hx hb dL_law_144 ?_
  refine qw_sld hx hb hXs hbl hbA hS (show i + 2 < L by omega) (by omega) dL_law_145 ?_
  refine lv_aload_n hx hb dL_law_146 rfl (lv_at hl 0 rfl) ?_
  refine lv_iload_n hx hb dL_law_147 rfl (lv_at hl 3 rfl) ?_
  refine lv_iconst (v := nI 3) hx hb dL_law_148 (by decide) ?_
  refine ln_add hx hb dL_law_149 ?_
  refine qw_sld hx hb hXs hbl hbA hS (show i + 3 < L by omega) (by omega) dL_law_150 ?_
  refine lc_mi (va_runV (As := [.int (xs (i + 1)), .int (xs (i + 2)), .int (xs (i + 3))]) (rest := [.int ((f_make (n, kd, sz, sh, nu, pa, sl, ft, tn, ts, tg) ((xs (i + 1))) ((xs (i + 2))) ((xs (i + 3)))).1)]) ⟨hx, hb, hml, hown, hts⟩ (kX2_make l E (x + 2) (Array.size H) n kd sz sh nu pa sl ft tn ts tg hI ((xs (i + 1))) ((xs (i + 2))) ((xs (i + 3)))) (cwV 3 hts gL_law_X2_make rfl rfl rfl (by decide +kernel) ⟨Nat.le_of_ble_eq_true rfl, Nat.le_of_ble_eq_true rfl⟩) (q_preV hK hM hM.1 rfl) rfl rfl hl.1 rfl (lv_room (Nat.le_of_ble_eq_true rfl)) dL_law_151 ⟨by show 8 + 3 * i + 3 + 0 ≤ 600000; omega, by show 700 + 14 * i + 14 + 0 ≤ 7302250; omega⟩) hS hx0 hX (fun H locs hX hM hS => ?_)
  refine lv_icmp_eq (tgt := 695) hx hb dL_law_154 (by decide) (fun _ => ?_) (fun c_1 => absurd rfl c_1)
  refine W.widen (k := 8 + 3 * (i + 5)) (n := 700 + 14 * (i + 5)) (by omega) (by omega) ?_
  exact kk _ _ _ (hI.make ((xs (i + 1))) ((xs (i + 2))) ((xs (i + 3)))) hX hM hS
set_option maxHeartbeats 4000000 in
set_option maxRecDepth 100000 in
theorem law_case_1 {p : Program} {l : Launch} {e : Env} {s : State} {m : MethodId} {below : List Frame} {meth : Method} {c : Code} {E : q_E} {b L x : Nat} {xs : Nat → Int32} (hL : L ≤ 2560) (C0 : lw_At p s m meth c b L xs) (hK : q_K E s) (hN : q_N s) (hx0 : s.heap.size ≤ x) (i : Nat) (hi : i + 5 ≤ L) (n : Nat) (kd sz : Nat → Nat) (sh : Nat → Bool) (nu : Nat → Nat → Int64) (pa : Nat → Nat → Option Nat) (sl : Nat → Option Nat) (ft tn ts tg : Int32) (hI : q_I (n, kd, sz, sh, nu, pa, sl, ft, tn, ts, tg)) {H : Heap} {locs : List Loc} (hX : q_X E x (x + 8) (n, kd, sz, sh, nu, pa, sl, ft, tn, ts, tg) H) (hM : q_M E (x + 2) H.size (n, kd, sz, sh, nu, pa, sl, ft, tn, ts, tg) H) (hS : va_S (fun q : Nat => s.heap.size ≤ q) s.heap H locs) {ls : Array Slot} (hl : lv_has ls 4 [(0, .ref b), (1, .ref x), (2, .ref (x + 2)), (3, .int (nI i))])
    (kk : ∀ (σ2 : q_St) (H1 : Heap) (locs1 : List Loc), q_I σ2 → q_X E x (x + 8) σ2 H1 → q_M E (x + 2) H1.size σ2 H1 → va_S (fun q : Nat => s.heap.size ≤ q) s.heap H1 locs1 → W p l e room_1 s m #[Value.ref b] below meth c H1 locs1 (8 + 3 * (i + 5)) (700 + 14 * (i + 5)) (lw_Z below #[Value.ref b] s) (F0 m 695 ls [])) : W p l e room_1 s m #[Value.ref b] below meth c H locs (8 + 3 * i) (700 + 14 * i) (lw_Z below #[Value.ref b] s) (F0 m 159 ls []) := by
  obtain ⟨hx, hb, hr, hml, hown, hts0, hXs, hbl, hlocks, hgv⟩ := C0
  have hts : ∀ w ∈ wsL_law, w.before #[Value.ref b] s = true := fun w h => hts0 w (wsL_law_in w h)
  have hown : s.vm.findClass RL = some m.cls := hown
  have hbA : ¬ (fun q : Nat => s.heap.size ≤ q) b := Nat.not_le.mpr hbl
  refine lv_aload_n hx hb dL_law_159 rfl (lv_at hl 1 rfl) ?_
  refine lv_aload_n hx hb dL_law_160 rfl (lv_at hl 0 rfl) ?_
  refine lv_iload_n hx hb dL_law_161 rfl (lv_at hl 3 rfl) ?_
  refine lv_iconst (v := nI 1) hx hb dL_law_162 (by decide) ?_
  refine ln_add hx hb dL_law_163 ?_
  refine qw_sld hx hb hXs hbl hbA hS (show i + 1 < L by omega) (by omega) dL_law_164 ?_
  refine lv_aload_n hx hb dL_law_165 rfl (lv_at hl 0 rfl) ?_
  refine lv_iload_n hx hb dL_law_166 rfl (lv_at hl 3 rfl) ?_
  refine lv_iconst (v := nI 2) hx hb dL_law_167 (by decide) ?_
  refine ln_add hx hb dL_law_168 ?_
  refine qw_sld hx hb hXs hbl hbA hS (show i + 2 < L by omega) (by omega) dL_law_169 ?_
  refine lc_xi (va_runV (As := [.int (xs (i + 1)), .int (xs (i + 2))]) (rest := []) ⟨hx, hb, hml, hown, hts⟩ (kX1_fits l E x (x + 8) n kd sz sh nu pa sl ft tn ts tg hI ((xs (i + 1))) ((xs (i + 2)))) (cwV 2 hts gL_law_X1_fits rfl rfl rfl (by decide +kernel) ⟨Nat.le_of_ble_eq_true rfl, Nat.le_of_ble_eq_true rfl⟩) (q_preV hK hX hX.1 rfl) rfl rfl hl.1 rfl (lv_room (Nat.le_of_ble_eq_true rfl)) dL_law_170 ⟨by show 8 + 3 * i + 0 ≤ 600000; omega, by show 700 + 14 * i + 0 ≤ 7302250; omega⟩) hS hx0 hX hM (fun H locs hX hM hS => ?_)
  refine lv_aload_n hx hb dL_law_173 rfl (lv_at hl 2 rfl) ?_
  refine lv_aload_n hx hb dL_law_174 rfl (lv_at hl 0 rfl) ?_
  refine lv_iload_n hx hb dL_law_175 rfl (lv_at hl 3 rfl) ?_
  refine lv_iconst (v := nI 1) hx hb dL_law_176 (by decide) ?_
  refine ln_add hx hb dL_law_177 ?_
  refine qw_sld hx hb hXs hbl hbA hS (show i + 1 < L by omega) (by omega) dL_law_178 ?_
  refine lv_aload_n hx hb dL_law_179 rfl (lv_at hl 0 rfl) ?_
  refine lv_iload_n hx hb dL_law_180 rfl (lv_at hl 3 rfl) ?_
  refine lv_iconst (v := nI 2) hx hb dL_law_181 (by decide) ?_
  refine ln_add hx hb dL_law_182 ?_
  refine qw_sld hx hb hXs hbl hbA hS (show i + 2 < L by omega) (by omega) dL_law_183 ?_
  refine lc_mi (va_runV (As := [.int (xs (i + 1)), .int (xs (i + 2))]) (rest := [.int ((f_fits (n, kd, sz, sh, nu, pa, sl, ft, tn, ts, tg) ((xs (i + 1))) ((xs (i + 2)))).1)]) ⟨hx, hb, hml, hown, hts⟩ (kX2_fits l E (x + 2) (Array.size H) n kd sz sh nu pa sl ft tn ts tg hI ((xs (i + 1))) ((xs (i + 2)))) (cwV 2 hts gL_law_X2_fits rfl rfl rfl (by decide +kernel) ⟨Nat.le_of_ble_eq_true rfl, Nat.le_of_ble_eq_true rfl⟩) (q_preV hK hM hM.1 rfl) rfl rfl hl.1 rfl (lv_room (Nat.le_of_ble_eq_true rfl)) dL_law_184 ⟨by show 8 + 3 * i + 0 + 0 ≤ 600000; omega, by show 700 + 14 * i + 0 + 0 ≤ 7302250; omega⟩) hS hx0 hX (fun H locs hX hM hS => ?_)
  refine lv_icmp_eq (tgt := 695) hx hb dL_law_187 (by decide) (fun _ => ?_) (fun c_1 => absurd rfl c_1)
  refine W.widen (k := 8 + 3 * (i + 5)) (n := 700 + 14 * (i + 5)) (by omega) (by omega) ?_
  exact kk _ _ _ (hI.fits ((xs (i + 1))) ((xs (i + 2)))) hX hM hS
set_option maxHeartbeats 4000000 in
set_option maxRecDepth 100000 in
theorem law_case_2 {p : Program} {l : Launch} {e : Env} {s : State} {m : MethodId} {below : List Frame} {meth : Method} {c : Code} {E : q_E} {b L x : Nat} {xs : Nat → Int32} (hL : L ≤ 2560) (C0 : lw_At p s m meth c b L xs) (hK : q_K E s) (hN : q_N s) (hx0 : s.heap.size ≤ x) (i : Nat) (hi : i + 5 ≤ L) (n : Nat) (kd sz : Nat → Nat) (sh : Nat → Bool) (nu : Nat → Nat → Int64) (pa : Nat → Nat → Option Nat) (sl : Nat → Option Nat) (ft tn ts tg : Int32) (hI : q_I (n, kd, sz, sh, nu, pa, sl, ft, tn, ts, tg)) {H : Heap} {locs : List Loc} (hX : q_X E x (x + 8) (n, kd, sz, sh, nu, pa, sl, ft, tn, ts, tg) H) (hM : q_M E (x + 2) H.size (n, kd, sz, sh, nu, pa, sl, ft, tn, ts, tg) H) (hS : va_S (fun q : Nat => s.heap.size ≤ q) s.heap H locs) {ls : Array Slot} (hl : lv_has ls 4 [(0, .ref b), (1, .ref x), (2, .ref (x + 2)), (3, .int (nI i))])
    (kk : ∀ (σ2 : q_St) (H1 : Heap) (locs1 : List Loc), q_I σ2 → q_X E x (x + 8) σ2 H1 → q_M E (x + 2) H1.size σ2 H1 → va_S (fun q : Nat => s.heap.size ≤ q) s.heap H1 locs1 → W p l e room_1 s m #[Value.ref b] below meth c H1 locs1 (8 + 3 * (i + 5)) (700 + 14 * (i + 5)) (lw_Z below #[Value.ref b] s) (F0 m 695 ls [])) : W p l e room_1 s m #[Value.ref b] below meth c H locs (8 + 3 * i) (700 + 14 * i) (lw_Z below #[Value.ref b] s) (F0 m 192 ls []) := by
  obtain ⟨hx, hb, hr, hml, hown, hts0, hXs, hbl, hlocks, hgv⟩ := C0
  have hts : ∀ w ∈ wsL_law, w.before #[Value.ref b] s = true := fun w h => hts0 w (wsL_law_in w h)
  have hown : s.vm.findClass RL = some m.cls := hown
  have hbA : ¬ (fun q : Nat => s.heap.size ≤ q) b := Nat.not_le.mpr hbl
  refine lv_aload_n hx hb dL_law_192 rfl (lv_at hl 1 rfl) ?_
  refine lv_aload_n hx hb dL_law_193 rfl (lv_at hl 0 rfl) ?_
  refine lv_iload_n hx hb dL_law_194 rfl (lv_at hl 3 rfl) ?_
  refine lv_iconst (v := nI 1) hx hb dL_law_195 (by decide) ?_
  refine ln_add hx hb dL_law_196 ?_
  refine qw_sld hx hb hXs hbl hbA hS (show i + 1 < L by omega) (by omega) dL_law_197 ?_
  refine lv_aload_n hx hb dL_law_198 rfl (lv_at hl 0 rfl) ?_
  refine lv_iload_n hx hb dL_law_199 rfl (lv_at hl 3 rfl) ?_
  refine lv_iconst (v := nI 2) hx hb dL_law_200 (by decide) ?_
  refine ln_add hx hb dL_law_201 ?_
  refine qw_sld hx hb hXs hbl hbA hS (show i + 2 < L by omega) (by omega) dL_law_202 ?_
  refine lc_xl (va_runV (As := [.int (xs (i + 1)), .int (xs (i + 2))]) (rest := []) ⟨hx, hb, hml, hown, hts⟩ (kX1_pass l E x (x + 8) n kd sz sh nu pa sl ft tn ts tg hI ((xs (i + 1))) ((xs (i + 2)))) (cwV 2 hts gL_law_X1_pass rfl rfl rfl (by decide +kernel) ⟨Nat.le_of_ble_eq_true rfl, Nat.le_of_ble_eq_true rfl⟩) (q_preV hK hX hX.1 rfl) rfl rfl hl.1 rfl (lv_room (Nat.le_of_ble_eq_true rfl)) dL_law_203 ⟨by show 8 + 3 * i + 0 ≤ 600000; omega, by show 700 + 14 * i + 0 ≤ 7302250; omega⟩) hS hx0 hX hM (fun H locs hX hM hS => ?_)
  refine lv_aload_n hx hb dL_law_206 rfl (lv_at hl 2 rfl) ?_
  refine lv_aload_n hx hb dL_law_207 rfl (lv_at hl 0 rfl) ?_
  refine lv_iload_n hx hb dL_law_208 rfl (lv_at hl 3 rfl) ?_
  refine lv_iconst (v := nI 1) hx hb dL_law_209 (by decide) ?_
  refine ln_add hx hb dL_law_210 ?_
  refine qw_sld hx hb hXs hbl hbA hS (show i + 1 < L by omega) (by omega) dL_law_211 ?_
  refine lv_aload_n hx hb dL_law_212 rfl (lv_at hl 0 rfl) ?_
  refine lv_iload_n hx hb dL_law_213 rfl (lv_at hl 3 rfl) ?_
  refine lv_iconst (v := nI 2) hx hb dL_law_214 (by decide) ?_
  refine ln_add hx hb dL_law_215 ?_
  refine qw_sld hx hb hXs hbl hbA hS (show i + 2 < L by omega) (by omega) dL_law_216 ?_
  refine lc_ml (va_runV (As := [.int (xs (i + 1)), .int (xs (i + 2))]) (rest := [.long ((f_pass (n, kd, sz, sh, nu, pa, sl, ft, tn, ts, tg) ((xs (i + 1))) ((xs (i + 2)))).1)]) ⟨hx, hb, hml, hown, hts⟩ (kX2_pass l E (x + 2) (Array.size H) n kd sz sh nu pa sl ft tn ts tg hI ((xs (i + 1))) ((xs (i + 2)))) (cwV 2 hts gL_law_X2_pass rfl rfl rfl (by decide +kernel) ⟨Nat.le_of_ble_eq_true rfl, Nat.le_of_ble_eq_true rfl⟩) (q_preV hK hM hM.1 rfl) rfl rfl hl.1 rfl (lv_room (Nat.le_of_ble_eq_true rfl)) dL_law_217 ⟨by show 8 + 3 * i + 0 + 0 ≤ 600000; omega, by show 700 + 14 * i + 0 + 0 ≤ 7302250; omega⟩) hS hx0 hX (fun H locs hX hM hS => ?_)
  refine W.lcmp hx hb dL_law_220 ?_
  rw [lg_same]
  refine lv_if_eq (tgt := 695) hx hb dL_law_221 (by decide) (fun _ => ?_) (fun c_1 => absurd rfl c_1)
  refine W.widen (k := 8 + 3 * (i + 5)) (n := 700 + 14 * (i + 5)) (by omega) (by omega) ?_
  exact kk _ _ _ (hI.pass ((xs (i + 1))) ((xs (i + 2)))) hX hM hS
set_option maxHeartbeats 4000000 in
set_option maxRecDepth 100000 in
theorem law_case_3 {p : Program} {l : Launch} {e : Env} {s : State} {m : MethodId} {below : List Frame} {meth : Method} {c : Code} {E : q_E} {b L x : Nat} {xs : Nat → Int32} (hL : L ≤ 2560) (C0 : lw_At p s m meth c b L xs) (hK : q_K E s) (hN : q_N s) (hx0 : s.heap.size ≤ x) (i : Nat) (hi : i + 5 ≤ L) (n : Nat) (kd sz : Nat → Nat) (sh : Nat → Bool) (nu : Nat → Nat → Int64) (pa : Nat → Nat → Option Nat) (sl : Nat → Option Nat) (ft tn ts tg : Int32) (hI : q_I (n, kd, sz, sh, nu, pa, sl, ft, tn, ts, tg)) {H : Heap} {locs : List Loc} (hX : q_X E x (x + 8) (n, kd, sz, sh, nu, pa, sl, ft, tn, ts, tg) H) (hM : q_M E (x + 2) H.size (n, kd, sz, sh, nu, pa, sl, ft, tn, ts, tg) H) (hS : va_S (fun q : Nat => s.heap.size ≤ q) s.heap H locs) {ls : Array Slot} (hl : lv_has ls 4 [(0, .ref b), (1, .ref x), (2, .ref (x + 2)), (3, .int (nI i))])
    (kk : ∀ (σ2 : q_St) (H1 : Heap) (locs1 : List Loc), q_I σ2 → q_X E x (x + 8) σ2 H1 → q_M E (x + 2) H1.size σ2 H1 → va_S (fun q : Nat => s.heap.size ≤ q) s.heap H1 locs1 → W p l e room_1 s m #[Value.ref b] below meth c H1 locs1 (8 + 3 * (i + 5)) (700 + 14 * (i + 5)) (lw_Z below #[Value.ref b] s) (F0 m 695 ls [])) : W p l e room_1 s m #[Value.ref b] below meth c H locs (8 + 3 * i) (700 + 14 * i) (lw_Z below #[Value.ref b] s) (F0 m 226 ls []) := by
  obtain ⟨hx, hb, hr, hml, hown, hts0, hXs, hbl, hlocks, hgv⟩ := C0
  have hts : ∀ w ∈ wsL_law, w.before #[Value.ref b] s = true := fun w h => hts0 w (wsL_law_in w h)
  have hown : s.vm.findClass RL = some m.cls := hown
  have hbA : ¬ (fun q : Nat => s.heap.size ≤ q) b := Nat.not_le.mpr hbl
  refine lv_aload_n hx hb dL_law_226 rfl (lv_at hl 1 rfl) ?_
  refine lv_aload_n hx hb dL_law_227 rfl (lv_at hl 0 rfl) ?_
  refine lv_iload_n hx hb dL_law_228 rfl (lv_at hl 3 rfl) ?_
  refine lv_iconst (v := nI 1) hx hb dL_law_229 (by decide) ?_
  refine ln_add hx hb dL_law_230 ?_
  refine qw_sld hx hb hXs hbl hbA hS (show i + 1 < L by omega) (by omega) dL_law_231 ?_
  refine lv_aload_n hx hb dL_law_232 rfl (lv_at hl 0 rfl) ?_
  refine lv_iload_n hx hb dL_law_233 rfl (lv_at hl 3 rfl) ?_
  refine lv_iconst (v := nI 2) hx hb dL_law_234 (by decide) ?_
  refine ln_add hx hb dL_law_235 ?_
  refine qw_sld hx hb hXs hbl hbA hS (show i + 2 < L by omega) (by omega) dL_law_236 ?_
  refine lv_aload_n hx hb dL_law_237 rfl (lv_at hl 0 rfl) ?_
  refine lv_iload_n hx hb dL_law_238 rfl (lv_at hl 3 rfl) ?_
  refine lv_iconst (v := nI 3) hx hb dL_law_239 (by decide) ?_
  refine ln_add hx hb dL_law_240 ?_
  refine qw_sld hx hb hXs hbl hbA hS (show i + 3 < L by omega) (by omega) dL_law_241 ?_
  refine lc_xi (va_runV (As := [.int (xs (i + 1)), .int (xs (i + 2)), .int (xs (i + 3))]) (rest := []) ⟨hx, hb, hml, hown, hts⟩ (kX1_seek l E x (x + 8) n kd sz sh nu pa sl ft tn ts tg hI ((xs (i + 1))) ((xs (i + 2))) ((xs (i + 3)))) (cwV 3 hts gL_law_X1_seek rfl rfl rfl (by decide +kernel) ⟨Nat.le_of_ble_eq_true rfl, Nat.le_of_ble_eq_true rfl⟩) (q_preV hK hX hX.1 rfl) rfl rfl hl.1 rfl (lv_room (Nat.le_of_ble_eq_true rfl)) dL_law_242 ⟨by show 8 + 3 * i + 0 ≤ 600000; omega, by show 700 + 14 * i + 0 ≤ 7302250; omega⟩) hS hx0 hX hM (fun H locs hX hM hS => ?_)
  refine lv_aload_n hx hb dL_law_245 rfl (lv_at hl 2 rfl) ?_
  refine lv_aload_n hx hb dL_law_246 rfl (lv_at hl 0 rfl) ?_
  refine lv_iload_n hx hb dL_law_247 rfl (lv_at hl 3 rfl) ?_
  refine lv_iconst (v := nI 1) hx hb dL_law_248 (by decide) ?_
  refine ln_add hx hb dL_law_249 ?_
  refine qw_sld hx hb hXs hbl hbA hS (show i + 1 < L by omega) (by omega) dL_law_250 ?_
  refine lv_aload_n hx hb dL_law_251 rfl (lv_at hl 0 rfl) ?_
  refine lv_iload_n hx hb dL_law_252 rfl (lv_at hl 3 rfl) ?_
  refine lv_iconst (v := nI 2) hx hb dL_law_253 (by decide) ?_
  refine ln_add hx hb dL_law_254 ?_
  refine qw_sld hx hb hXs hbl hbA hS (show i + 2 < L by omega) (by omega) dL_law_255 ?_
  refine lv_aload_n hx hb dL_law_256 rfl (lv_at hl 0 rfl) ?_
  refine lv_iload_n hx hb dL_law_257 rfl (lv_at hl 3 rfl) ?_
  refine lv_iconst (v := nI 3) hx hb dL_law_258 (by decide) ?_
  refine ln_add hx hb dL_law_259 ?_
  refine qw_sld hx hb hXs hbl hbA hS (show i + 3 < L by omega) (by omega) dL_law_260 ?_
  refine lc_mi (va_runV (As := [.int (xs (i + 1)), .int (xs (i + 2)), .int (xs (i + 3))]) (rest := [.int ((f_seek (n, kd, sz, sh, nu, pa, sl, ft, tn, ts, tg) ((xs (i + 1))) ((xs (i + 2))) ((xs (i + 3)))).1)]) ⟨hx, hb, hml, hown, hts⟩ (kX2_seek l E (x + 2) (Array.size H) n kd sz sh nu pa sl ft tn ts tg hI ((xs (i + 1))) ((xs (i + 2))) ((xs (i + 3)))) (cwV 3 hts gL_law_X2_seek rfl rfl rfl (by decide +kernel) ⟨Nat.le_of_ble_eq_true rfl, Nat.le_of_ble_eq_true rfl⟩) (q_preV hK hM hM.1 rfl) rfl rfl hl.1 rfl (lv_room (Nat.le_of_ble_eq_true rfl)) dL_law_261 ⟨by show 8 + 3 * i + 0 + 0 ≤ 600000; omega, by show 700 + 14 * i + 0 + 0 ≤ 7302250; omega⟩) hS hx0 hX (fun H locs hX hM hS => ?_)
  refine lv_icmp_eq (tgt := 695) hx hb dL_law_264 (by decide) (fun _ => ?_) (fun c_1 => absurd rfl c_1)
  refine W.widen (k := 8 + 3 * (i + 5)) (n := 700 + 14 * (i + 5)) (by omega) (by omega) ?_
  exact kk _ _ _ (hI.seek ((xs (i + 1))) ((xs (i + 2))) ((xs (i + 3)))) hX hM hS
set_option maxHeartbeats 4000000 in
set_option maxRecDepth 100000 in
theorem law_case_4 {p : Program} {l : Launch} {e : Env} {s : State} {m : MethodId} {below : List Frame} {meth : Method} {c : Code} {E : q_E} {b L x : Nat} {xs : Nat → Int32} (hL : L ≤ 2560) (C0 : lw_At p s m meth c b L xs) (hK : q_K E s) (hN : q_N s) (hx0 : s.heap.size ≤ x) (i : Nat) (hi : i + 5 ≤ L) (n : Nat) (kd sz : Nat → Nat) (sh : Nat → Bool) (nu : Nat → Nat → Int64) (pa : Nat → Nat → Option Nat) (sl : Nat → Option Nat) (ft tn ts tg : Int32) (hI : q_I (n, kd, sz, sh, nu, pa, sl, ft, tn, ts, tg)) {H : Heap} {locs : List Loc} (hX : q_X E x (x + 8) (n, kd, sz, sh, nu, pa, sl, ft, tn, ts, tg) H) (hM : q_M E (x + 2) H.size (n, kd, sz, sh, nu, pa, sl, ft, tn, ts, tg) H) (hS : va_S (fun q : Nat => s.heap.size ≤ q) s.heap H locs) {ls : Array Slot} (hl : lv_has ls 4 [(0, .ref b), (1, .ref x), (2, .ref (x + 2)), (3, .int (nI i))])
    (kk : ∀ (σ2 : q_St) (H1 : Heap) (locs1 : List Loc), q_I σ2 → q_X E x (x + 8) σ2 H1 → q_M E (x + 2) H1.size σ2 H1 → va_S (fun q : Nat => s.heap.size ≤ q) s.heap H1 locs1 → W p l e room_1 s m #[Value.ref b] below meth c H1 locs1 (8 + 3 * (i + 5)) (700 + 14 * (i + 5)) (lw_Z below #[Value.ref b] s) (F0 m 695 ls [])) : W p l e room_1 s m #[Value.ref b] below meth c H locs (8 + 3 * i) (700 + 14 * i) (lw_Z below #[Value.ref b] s) (F0 m 269 ls []) := by
  obtain ⟨hx, hb, hr, hml, hown, hts0, hXs, hbl, hlocks, hgv⟩ := C0
  have hts : ∀ w ∈ wsL_law, w.before #[Value.ref b] s = true := fun w h => hts0 w (wsL_law_in w h)
  have hown : s.vm.findClass RL = some m.cls := hown
  have hbA : ¬ (fun q : Nat => s.heap.size ≤ q) b := Nat.not_le.mpr hbl
  refine lv_aload_n hx hb dL_law_269 rfl (lv_at hl 1 rfl) ?_
  refine lv_aload_n hx hb dL_law_270 rfl (lv_at hl 0 rfl) ?_
  refine lv_iload_n hx hb dL_law_271 rfl (lv_at hl 3 rfl) ?_
  refine lv_iconst (v := nI 1) hx hb dL_law_272 (by decide) ?_
  refine ln_add hx hb dL_law_273 ?_
  refine qw_sld hx hb hXs hbl hbA hS (show i + 1 < L by omega) (by omega) dL_law_274 ?_
  refine lv_aload_n hx hb dL_law_275 rfl (lv_at hl 0 rfl) ?_
  refine lv_iload_n hx hb dL_law_276 rfl (lv_at hl 3 rfl) ?_
  refine lv_iconst (v := nI 2) hx hb dL_law_277 (by decide) ?_
  refine ln_add hx hb dL_law_278 ?_
  refine qw_sld hx hb hXs hbl hbA hS (show i + 2 < L by omega) (by omega) dL_law_279 ?_
  refine lv_aload_n hx hb dL_law_280 rfl (lv_at hl 0 rfl) ?_
  refine lv_iload_n hx hb dL_law_281 rfl (lv_at hl 3 rfl) ?_
  refine lv_iconst (v := nI 3) hx hb dL_law_282 (by decide) ?_
  refine ln_add hx hb dL_law_283 ?_
  refine qw_sld hx hb hXs hbl hbA hS (show i + 3 < L by omega) (by omega) dL_law_284 ?_
  refine lv_i2l hx hb dL_law_285 rfl ?_
  refine lv_bipush (v := nI 32) hx hb dL_law_286 (by decide) ?_
  refine lv_lshl hx hb dL_law_288 rfl ?_
  refine lv_aload_n hx hb dL_law_289 rfl (lv_at hl 0 rfl) ?_
  refine lv_iload_n hx hb dL_law_290 rfl (lv_at hl 3 rfl) ?_
  refine lv_iconst (v := nI 4) hx hb dL_law_291 (by decide) ?_
  refine ln_add hx hb dL_law_292 ?_
  refine qw_sld hx hb hXs hbl hbA hS (show i + 4 < L by omega) (by omega) dL_law_293 ?_
  refine lv_i2l hx hb dL_law_294 rfl ?_
  refine lv_ldc2 (v := 4294967295) hx hb hown (hts (.constantLong RL 32 (4294967295)) (by decide +kernel)) dL_law_295 ?_
  refine lv_land hx hb dL_law_298 ?_
  refine lv_lor hx hb dL_law_299 ?_
  refine lc_xi (va_runV (As := [.int (xs (i + 1)), .int (xs (i + 2)), .long (((Int32.toInt64 ((xs (i + 3)))) <<< (Int32.toInt64 (nI 32) &&& 63)) ||| ((Int32.toInt64 ((xs (i + 4)))) &&& 4294967295))]) (rest := []) ⟨hx, hb, hml, hown, hts⟩ (kX1_put l E x (x + 8) n kd sz sh nu pa sl ft tn ts tg hI ((xs (i + 1))) ((xs (i + 2))) (((Int32.toInt64 ((xs (i + 3)))) <<< (Int32.toInt64 (nI 32) &&& 63)) ||| ((Int32.toInt64 ((xs (i + 4)))) &&& 4294967295))) (cwV 3 hts gL_law_X1_put rfl rfl rfl (by decide +kernel) ⟨Nat.le_of_ble_eq_true rfl, Nat.le_of_ble_eq_true rfl⟩) (q_preV hK hX hX.1 rfl) rfl rfl hl.1 rfl (lv_room (Nat.le_of_ble_eq_true rfl)) dL_law_300 ⟨by show 8 + 3 * i + 0 ≤ 600000; omega, by show 700 + 14 * i + 0 ≤ 7302250; omega⟩) hS hx0 hX hM (fun H locs hX hM hS => ?_)
  refine lv_aload_n hx hb dL_law_303 rfl (lv_at hl 2 rfl) ?_
  refine lv_aload_n hx hb dL_law_304 rfl (lv_at hl 0 rfl) ?_
  refine lv_iload_n hx hb dL_law_305 rfl (lv_at hl 3 rfl) ?_
  refine lv_iconst (v := nI 1) hx hb dL_law_306 (by decide) ?_
  refine ln_add hx hb dL_law_307 ?_
  refine qw_sld hx hb hXs hbl hbA hS (show i + 1 < L by omega) (by omega) dL_law_308 ?_
  refine lv_aload_n hx hb dL_law_309 rfl (lv_at hl 0 rfl) ?_
  refine lv_iload_n hx hb dL_law_310 rfl (lv_at hl 3 rfl) ?_
  refine lv_iconst (v := nI 2) hx hb dL_law_311 (by decide) ?_
  refine ln_add hx hb dL_law_312 ?_
  refine qw_sld hx hb hXs hbl hbA hS (show i + 2 < L by omega) (by omega) dL_law_313 ?_
  refine lv_aload_n hx hb dL_law_314 rfl (lv_at hl 0 rfl) ?_
  refine lv_iload_n hx hb dL_law_315 rfl (lv_at hl 3 rfl) ?_
  refine lv_iconst (v := nI 3) hx hb dL_law_316 (by decide) ?_
  refine ln_add hx hb dL_law_317 ?_
  refine qw_sld hx hb hXs hbl hbA hS (show i + 3 < L by omega) (by omega) dL_law_318 ?_
  refine lv_i2l hx hb dL_law_319 rfl ?_
  refine lv_bipush (v := nI 32) hx hb dL_law_320 (by decide) ?_
  refine lv_lshl hx hb dL_law_322 rfl ?_
  refine lv_aload_n hx hb dL_law_323 rfl (lv_at hl 0 rfl) ?_
  refine lv_iload_n hx hb dL_law_324 rfl (lv_at hl 3 rfl) ?_
  refine lv_iconst (v := nI 4) hx hb dL_law_325 (by decide) ?_
  refine ln_add hx hb dL_law_326 ?_
  refine qw_sld hx hb hXs hbl hbA hS (show i + 4 < L by omega) (by omega) dL_law_327 ?_
  refine lv_i2l hx hb dL_law_328 rfl ?_
  refine lv_ldc2 (v := 4294967295) hx hb hown (hts (.constantLong RL 32 (4294967295)) (by decide +kernel)) dL_law_329 ?_
  refine lv_land hx hb dL_law_332 ?_
  refine lv_lor hx hb dL_law_333 ?_
  refine lc_mi (va_runV (As := [.int (xs (i + 1)), .int (xs (i + 2)), .long (((Int32.toInt64 ((xs (i + 3)))) <<< (Int32.toInt64 (nI 32) &&& 63)) ||| ((Int32.toInt64 ((xs (i + 4)))) &&& 4294967295))]) (rest := [.int ((f_put (n, kd, sz, sh, nu, pa, sl, ft, tn, ts, tg) ((xs (i + 1))) ((xs (i + 2))) (((Int32.toInt64 ((xs (i + 3)))) <<< (Int32.toInt64 (nI 32) &&& 63)) ||| ((Int32.toInt64 ((xs (i + 4)))) &&& 4294967295))).1)]) ⟨hx, hb, hml, hown, hts⟩ (kX2_put l E (x + 2) (Array.size H) n kd sz sh nu pa sl ft tn ts tg hI ((xs (i + 1))) ((xs (i + 2))) (((Int32.toInt64 ((xs (i + 3)))) <<< (Int32.toInt64 (nI 32) &&& 63)) ||| ((Int32.toInt64 ((xs (i + 4)))) &&& 4294967295))) (cwV 3 hts gL_law_X2_put rfl rfl rfl (by decide +kernel) ⟨Nat.le_of_ble_eq_true rfl, Nat.le_of_ble_eq_true rfl⟩) (q_preV hK hM hM.1 rfl) rfl rfl hl.1 rfl (lv_room (Nat.le_of_ble_eq_true rfl)) dL_law_334 ⟨by show 8 + 3 * i + 0 + 0 ≤ 600000; omega, by show 700 + 14 * i + 0 + 0 ≤ 7302250; omega⟩) hS hx0 hX (fun H locs hX hM hS => ?_)
  refine lv_icmp_eq (tgt := 695) hx hb dL_law_337 (by decide) (fun _ => ?_) (fun c_1 => absurd rfl c_1)
  refine W.widen (k := 8 + 3 * (i + 5)) (n := 700 + 14 * (i + 5)) (by omega) (by omega) ?_
  exact kk _ _ _ (hI.put ((xs (i + 1))) ((xs (i + 2))) (((Int32.toInt64 ((xs (i + 3)))) <<< (Int32.toInt64 (nI 32) &&& 63)) ||| ((Int32.toInt64 ((xs (i + 4)))) &&& 4294967295))) hX hM hS
set_option maxHeartbeats 4000000 in
set_option maxRecDepth 100000 in
theorem law_case_5 {p : Program} {l : Launch} {e : Env} {s : State} {m : MethodId} {below : List Frame} {meth : Method} {c : Code} {E : q_E} {b L x : Nat} {xs : Nat → Int32} (hL : L ≤ 2560) (C0 : lw_At p s m meth c b L xs) (hK : q_K E s) (hN : q_N s) (hx0 : s.heap.size ≤ x) (i : Nat) (hi : i + 5 ≤ L) (n : Nat) (kd sz : Nat → Nat) (sh : Nat → Bool) (nu : Nat → Nat → Int64) (pa : Nat → Nat → Option Nat) (sl : Nat → Option Nat) (ft tn ts tg : Int32) (hI : q_I (n, kd, sz, sh, nu, pa, sl, ft, tn, ts, tg)) {H : Heap} {locs : List Loc} (hX : q_X E x (x + 8) (n, kd, sz, sh, nu, pa, sl, ft, tn, ts, tg) H) (hM : q_M E (x + 2) H.size (n, kd, sz, sh, nu, pa, sl, ft, tn, ts, tg) H) (hS : va_S (fun q : Nat => s.heap.size ≤ q) s.heap H locs) {ls : Array Slot} (hl : lv_has ls 4 [(0, .ref b), (1, .ref x), (2, .ref (x + 2)), (3, .int (nI i))])
    (kk : ∀ (σ2 : q_St) (H1 : Heap) (locs1 : List Loc), q_I σ2 → q_X E x (x + 8) σ2 H1 → q_M E (x + 2) H1.size σ2 H1 → va_S (fun q : Nat => s.heap.size ≤ q) s.heap H1 locs1 → W p l e room_1 s m #[Value.ref b] below meth c H1 locs1 (8 + 3 * (i + 5)) (700 + 14 * (i + 5)) (lw_Z below #[Value.ref b] s) (F0 m 695 ls [])) : W p l e room_1 s m #[Value.ref b] below meth c H locs (8 + 3 * i) (700 + 14 * i) (lw_Z below #[Value.ref b] s) (F0 m 342 ls []) := by
  obtain ⟨hx, hb, hr, hml, hown, hts0, hXs, hbl, hlocks, hgv⟩ := C0
  have hts : ∀ w ∈ wsL_law, w.before #[Value.ref b] s = true := fun w h => hts0 w (wsL_law_in w h)
  have hown : s.vm.findClass RL = some m.cls := hown
  have hbA : ¬ (fun q : Nat => s.heap.size ≤ q) b := Nat.not_le.mpr hbl
  refine lv_aload_n hx hb dL_law_342 rfl (lv_at hl 1 rfl) ?_
  refine lv_aload_n hx hb dL_law_343 rfl (lv_at hl 0 rfl) ?_
  refine lv_iload_n hx hb dL_law_344 rfl (lv_at hl 3 rfl) ?_
  refine lv_iconst (v := nI 1) hx hb dL_law_345 (by decide) ?_
  refine ln_add hx hb dL_law_346 ?_
  refine qw_sld hx hb hXs hbl hbA hS (show i + 1 < L by omega) (by omega) dL_law_347 ?_
  refine lv_aload_n hx hb dL_law_348 rfl (lv_at hl 0 rfl) ?_
  refine lv_iload_n hx hb dL_law_349 rfl (lv_at hl 3 rfl) ?_
  refine lv_iconst (v := nI 2) hx hb dL_law_350 (by decide) ?_
  refine ln_add hx hb dL_law_351 ?_
  refine qw_sld hx hb hXs hbl hbA hS (show i + 2 < L by omega) (by omega) dL_law_352 ?_
  refine lc_xl (va_runV (As := [.int (xs (i + 1)), .int (xs (i + 2))]) (rest := []) ⟨hx, hb, hml, hown, hts⟩ (kX1_get l E x (x + 8) n kd sz sh nu pa sl ft tn ts tg hI ((xs (i + 1))) ((xs (i + 2)))) (cwV 2 hts gL_law_X1_get rfl rfl rfl (by decide +kernel) ⟨Nat.le_of_ble_eq_true rfl, Nat.le_of_ble_eq_true rfl⟩) (q_preV hK hX hX.1 rfl) rfl rfl hl.1 rfl (lv_room (Nat.le_of_ble_eq_true rfl)) dL_law_353 ⟨by show 8 + 3 * i + 0 ≤ 600000; omega, by show 700 + 14 * i + 0 ≤ 7302250; omega⟩) hS hx0 hX hM (fun H locs hX hM hS => ?_)
  refine lv_aload_n hx hb dL_law_356 rfl (lv_at hl 2 rfl) ?_
  refine lv_aload_n hx hb dL_law_357 rfl (lv_at hl 0 rfl) ?_
  refine lv_iload_n hx hb dL_law_358 rfl (lv_at hl 3 rfl) ?_
  refine lv_iconst (v := nI 1) hx hb dL_law_359 (by decide) ?_
  refine ln_add hx hb dL_law_360 ?_
  refine qw_sld hx hb hXs hbl hbA hS (show i + 1 < L by omega) (by omega) dL_law_361 ?_
  refine lv_aload_n hx hb dL_law_362 rfl (lv_at hl 0 rfl) ?_
  refine lv_iload_n hx hb dL_law_363 rfl (lv_at hl 3 rfl) ?_
  refine lv_iconst (v := nI 2) hx hb dL_law_364 (by decide) ?_
  refine ln_add hx hb dL_law_365 ?_
  refine qw_sld hx hb hXs hbl hbA hS (show i + 2 < L by omega) (by omega) dL_law_366 ?_
  refine lc_ml (va_runV (As := [.int (xs (i + 1)), .int (xs (i + 2))]) (rest := [.long ((f_get (n, kd, sz, sh, nu, pa, sl, ft, tn, ts, tg) ((xs (i + 1))) ((xs (i + 2)))).1)]) ⟨hx, hb, hml, hown, hts⟩ (kX2_get l E (x + 2) (Array.size H) n kd sz sh nu pa sl ft tn ts tg hI ((xs (i + 1))) ((xs (i + 2)))) (cwV 2 hts gL_law_X2_get rfl rfl rfl (by decide +kernel) ⟨Nat.le_of_ble_eq_true rfl, Nat.le_of_ble_eq_true rfl⟩) (q_preV hK hM hM.1 rfl) rfl rfl hl.1 rfl (lv_room (Nat.le_of_ble_eq_true rfl)) dL_law_367 ⟨by show 8 + 3 * i + 0 + 0 ≤ 600000; omega, by show 700 + 14 * i + 0 + 0 ≤ 7302250; omega⟩) hS hx0 hX (fun H locs hX hM hS => ?_)
  refine W.lcmp hx hb dL_law_370 ?_
  rw [lg_same]
  refine lv_if_eq (tgt := 695) hx hb dL_law_371 (by decide) (fun _ => ?_) (fun c_1 => absurd rfl c_1)
  refine W.widen (k := 8 + 3 * (i + 5)) (n := 700 + 14 * (i + 5)) (by omega) (by omega) ?_
  exact kk _ _ _ (hI.get ((xs (i + 1))) ((xs (i + 2)))) hX hM hS
set_option maxHeartbeats 4000000 in
set_option maxRecDepth 100000 in
theorem law_case_6 {p : Program} {l : Launch} {e : Env} {s : State} {m : MethodId} {below : List Frame} {meth : Method} {c : Code} {E : q_E} {b L x : Nat} {xs : Nat → Int32} (hL : L ≤ 2560) (C0 : lw_At p s m meth c b L xs) (hK : q_K E s) (hN : q_N s) (hx0 : s.heap.size ≤ x) (i : Nat) (hi : i + 5 ≤ L) (n : Nat) (kd sz : Nat → Nat) (sh : Nat → Bool) (nu : Nat → Nat → Int64) (pa : Nat → Nat → Option Nat) (sl : Nat → Option Nat) (ft tn ts tg : Int32) (hI : q_I (n, kd, sz, sh, nu, pa, sl, ft, tn, ts, tg)) {H : Heap} {locs : List Loc} (hX : q_X E x (x + 8) (n, kd, sz, sh, nu, pa, sl, ft, tn, ts, tg) H) (hM : q_M E (x + 2) H.size (n, kd, sz, sh, nu, pa, sl, ft, tn, ts, tg) H) (hS : va_S (fun q : Nat => s.heap.size ≤ q) s.heap H locs) {ls : Array Slot} (hl : lv_has ls 4 [(0, .ref b), (1, .ref x), (2, .ref (x + 2)), (3, .int (nI i))])
    (kk : ∀ (σ2 : q_St) (H1 : Heap) (locs1 : List Loc), q_I σ2 → q_X E x (x + 8) σ2 H1 → q_M E (x + 2) H1.size σ2 H1 → va_S (fun q : Nat => s.heap.size ≤ q) s.heap H1 locs1 → W p l e room_1 s m #[Value.ref b] below meth c H1 locs1 (8 + 3 * (i + 5)) (700 + 14 * (i + 5)) (lw_Z below #[Value.ref b] s) (F0 m 695 ls [])) : W p l e room_1 s m #[Value.ref b] below meth c H locs (8 + 3 * i) (700 + 14 * i) (lw_Z below #[Value.ref b] s) (F0 m 376 ls []) := by
  obtain ⟨hx, hb, hr, hml, hown, hts0, hXs, hbl, hlocks, hgv⟩ := C0
  have hts : ∀ w ∈ wsL_law, w.before #[Value.ref b] s = true := fun w h => hts0 w (wsL_law_in w h)
  have hown : s.vm.findClass RL = some m.cls := hown
  have hbA : ¬ (fun q : Nat => s.heap.size ≤ q) b := Nat.not_le.mpr hbl
  refine lv_aload_n hx hb dL_law_376 rfl (lv_at hl 1 rfl) ?_
  refine lv_aload_n hx hb dL_law_377 rfl (lv_at hl 0 rfl) ?_
  refine lv_iload_n hx hb dL_law_378 rfl (lv_at hl 3 rfl) ?_
  refine lv_iconst (v := nI 1) hx hb dL_law_379 (by decide) ?_
  refine ln_add hx hb dL_law_380 ?_
  refine qw_sld hx hb hXs hbl hbA hS (show i + 1 < L by omega) (by omega) dL_law_381 ?_
  refine lv_aload_n hx hb dL_law_382 rfl (lv_at hl 0 rfl) ?_
  refine lv_iload_n hx hb dL_law_383 rfl (lv_at hl 3 rfl) ?_
  refine lv_iconst (v := nI 2) hx hb dL_law_384 (by decide) ?_
  refine ln_add hx hb dL_law_385 ?_
  refine qw_sld hx hb hXs hbl hbA hS (show i + 2 < L by omega) (by omega) dL_law_386 ?_
  refine lv_aload_n hx hb dL_law_387 rfl (lv_at hl 0 rfl) ?_
  refine lv_iload_n hx hb dL_law_388 rfl (lv_at hl 3 rfl) ?_
  refine lv_iconst (v := nI 3) hx hb dL_law_389 (by decide) ?_
  refine ln_add hx hb dL_law_390 ?_
  refine qw_sld hx hb hXs hbl hbA hS (show i + 3 < L by omega) (by omega) dL_law_391 ?_
  refine lc_xi (va_runV (As := [.int (xs (i + 1)), .int (xs (i + 2)), .int (xs (i + 3))]) (rest := []) ⟨hx, hb, hml, hown, hts⟩ (kX1_lay l E x (x + 8) n kd sz sh nu pa sl ft tn ts tg hI ((xs (i + 1))) ((xs (i + 2))) ((xs (i + 3)))) (cwV 3 hts gL_law_X1_lay rfl rfl rfl (by decide +kernel) ⟨Nat.le_of_ble_eq_true rfl, Nat.le_of_ble_eq_true rfl⟩) (q_preV hK hX hX.1 rfl) rfl rfl hl.1 rfl (lv_room (Nat.le_of_ble_eq_true rfl)) dL_law_392 ⟨by show 8 + 3 * i + 0 ≤ 600000; omega, by show 700 + 14 * i + 0 ≤ 7302250; omega⟩) hS hx0 hX hM (fun H locs hX hM hS => ?_)
  refine lv_aload_n hx hb dL_law_395 rfl (lv_at hl 2 rfl) ?_
  refine lv_aload_n hx hb dL_law_396 rfl (lv_at hl 0 rfl) ?_
  refine lv_iload_n hx hb dL_law_397 rfl (lv_at hl 3 rfl) ?_
  refine lv_iconst (v := nI 1) hx hb dL_law_398 (by decide) ?_
  refine ln_add hx hb dL_law_399 ?_
  refine qw_sld hx hb hXs hbl hbA hS (show i + 1 < L by omega) (by omega) dL_law_400 ?_
  refine lv_aload_n hx hb dL_law_401 rfl (lv_at hl 0 rfl) ?_
  refine lv_iload_n hx hb dL_law_402 rfl (lv_at hl 3 rfl) ?_
  refine lv_iconst (v := nI 2) hx hb dL_law_403 (by decide) ?_
  refine ln_add hx hb dL_law_404 ?_
  refine qw_sld hx hb hXs hbl hbA hS (show i + 2 < L by omega) (by omega) dL_law_405 ?_
  refine lv_aload_n hx hb dL_law_406 rfl (lv_at hl 0 rfl) ?_
  refine lv_iload_n hx hb dL_law_407 rfl (lv_at hl 3 rfl) ?_
  refine lv_iconst (v := nI 3) hx hb dL_law_408 (by decide) ?_
  refine ln_add hx hb dL_law_409 ?_
  refine qw_sld hx hb hXs hbl hbA hS (show i + 3 < L by omega) (by omega) dL_law_410 ?_
  refine lc_mi (va_runV (As := [.int (xs (i + 1)), .int (xs (i + 2)), .int (xs (i + 3))]) (rest := [.int ((f_lay (n, kd, sz, sh, nu, pa, sl, ft, tn, ts, tg) ((xs (i + 1))) ((xs (i + 2))) ((xs (i + 3)))).1)]) ⟨hx, hb, hml, hown, hts⟩ (kX2_lay l E (x + 2) (Array.size H) n kd sz sh nu pa sl ft tn ts tg hI ((xs (i + 1))) ((xs (i + 2))) ((xs (i + 3)))) (cwV 3 hts gL_law_X2_lay rfl rfl rfl (by decide +kernel) ⟨Nat.le_of_ble_eq_true rfl, Nat.le_of_ble_eq_true rfl⟩) (q_preV hK hM hM.1 rfl) rfl rfl hl.1 rfl (lv_room (Nat.le_of_ble_eq_true rfl)) dL_law_411 ⟨by show 8 + 3 * i + 0 + 0 ≤ 600000; omega, by show 700 + 14 * i + 0 + 0 ≤ 7302250; omega⟩) hS hx0 hX (fun H locs hX hM hS => ?_)
  refine lv_icmp_eq (tgt := 695) hx hb dL_law_414 (by decide) (fun _ => ?_) (fun c_1 => absurd rfl c_1)
  refine W.widen (k := 8 + 3 * (i + 5)) (n := 700 + 14 * (i + 5)) (by omega) (by omega) ?_
  exact kk _ _ _ (hI.lay ((xs (i + 1))) ((xs (i + 2))) ((xs (i + 3)))) hX hM hS
set_option maxHeartbeats 4000000 in
set_option maxRecDepth 100000 in
theorem law_case_7 {p : Program} {l : Launch} {e : Env} {s : State} {m : MethodId} {below : List Frame} {meth : Method} {c : Code} {E : q_E} {b L x : Nat} {xs : Nat → Int32} (hL : L ≤ 2560) (C0 : lw_At p s m meth c b L xs) (hK : q_K E s) (hN : q_N s) (hx0 : s.heap.size ≤ x) (i : Nat) (hi : i + 5 ≤ L) (n : Nat) (kd sz : Nat → Nat) (sh : Nat → Bool) (nu : Nat → Nat → Int64) (pa : Nat → Nat → Option Nat) (sl : Nat → Option Nat) (ft tn ts tg : Int32) (hI : q_I (n, kd, sz, sh, nu, pa, sl, ft, tn, ts, tg)) {H : Heap} {locs : List Loc} (hX : q_X E x (x + 8) (n, kd, sz, sh, nu, pa, sl, ft, tn, ts, tg) H) (hM : q_M E (x + 2) H.size (n, kd, sz, sh, nu, pa, sl, ft, tn, ts, tg) H) (hS : va_S (fun q : Nat => s.heap.size ≤ q) s.heap H locs) {ls : Array Slot} (hl : lv_has ls 4 [(0, .ref b), (1, .ref x), (2, .ref (x + 2)), (3, .int (nI i))])
    (kk : ∀ (σ2 : q_St) (H1 : Heap) (locs1 : List Loc), q_I σ2 → q_X E x (x + 8) σ2 H1 → q_M E (x + 2) H1.size σ2 H1 → va_S (fun q : Nat => s.heap.size ≤ q) s.heap H1 locs1 → W p l e room_1 s m #[Value.ref b] below meth c H1 locs1 (8 + 3 * (i + 5)) (700 + 14 * (i + 5)) (lw_Z below #[Value.ref b] s) (F0 m 695 ls [])) : W p l e room_1 s m #[Value.ref b] below meth c H locs (8 + 3 * i) (700 + 14 * i) (lw_Z below #[Value.ref b] s) (F0 m 419 ls []) := by
  obtain ⟨hx, hb, hr, hml, hown, hts0, hXs, hbl, hlocks, hgv⟩ := C0
  have hts : ∀ w ∈ wsL_law, w.before #[Value.ref b] s = true := fun w h => hts0 w (wsL_law_in w h)
  have hown : s.vm.findClass RL = some m.cls := hown
  have hbA : ¬ (fun q : Nat => s.heap.size ≤ q) b := Nat.not_le.mpr hbl
  refine lv_aload_n hx hb dL_law_419 rfl (lv_at hl 1 rfl) ?_
  refine lv_aload_n hx hb dL_law_420 rfl (lv_at hl 0 rfl) ?_
  refine lv_iload_n hx hb dL_law_421 rfl (lv_at hl 3 rfl) ?_
  refine lv_iconst (v := nI 1) hx hb dL_law_422 (by decide) ?_
  refine ln_add hx hb dL_law_423 ?_
  refine qw_sld hx hb hXs hbl hbA hS (show i + 1 < L by omega) (by omega) dL_law_424 ?_
  refine lv_aload_n hx hb dL_law_425 rfl (lv_at hl 0 rfl) ?_
  refine lv_iload_n hx hb dL_law_426 rfl (lv_at hl 3 rfl) ?_
  refine lv_iconst (v := nI 2) hx hb dL_law_427 (by decide) ?_
  refine ln_add hx hb dL_law_428 ?_
  refine qw_sld hx hb hXs hbl hbA hS (show i + 2 < L by omega) (by omega) dL_law_429 ?_
  refine lv_aload_n hx hb dL_law_430 rfl (lv_at hl 0 rfl) ?_
  refine lv_iload_n hx hb dL_law_431 rfl (lv_at hl 3 rfl) ?_
  refine lv_iconst (v := nI 3) hx hb dL_law_432 (by decide) ?_
  refine ln_add hx hb dL_law_433 ?_
  refine qw_sld hx hb hXs hbl hbA hS (show i + 3 < L by omega) (by omega) dL_law_434 ?_
  refine lc_xi (va_runV (As := [.int (xs (i + 1)), .int (xs (i + 2)), .int (xs (i + 3))]) (rest := []) ⟨hx, hb, hml, hown, hts⟩ (kX1_take l E x (x + 8) n kd sz sh nu pa sl ft tn ts tg hI ((xs (i + 1))) ((xs (i + 2))) ((xs (i + 3)))) (cwV 3 hts gL_law_X1_take rfl rfl rfl (by decide +kernel) ⟨Nat.le_of_ble_eq_true rfl, Nat.le_of_ble_eq_true rfl⟩) (q_preV hK hX hX.1 rfl) rfl rfl hl.1 rfl (lv_room (Nat.le_of_ble_eq_true rfl)) dL_law_435 ⟨by show 8 + 3 * i + 0 ≤ 600000; omega, by show 700 + 14 * i + 0 ≤ 7302250; omega⟩) hS hx0 hX hM (fun H locs hX hM hS => ?_)
  refine lv_aload_n hx hb dL_law_438 rfl (lv_at hl 2 rfl) ?_
  refine lv_aload_n hx hb dL_law_439 rfl (lv_at hl 0 rfl) ?_
  refine lv_iload_n hx hb dL_law_440 rfl (lv_at hl 3 rfl) ?_
  refine lv_iconst (v := nI 1) hx hb dL_law_441 (by decide) ?_
  refine ln_add hx hb dL_law_442 ?_
  refine qw_sld hx hb hXs hbl hbA hS (show i + 1 < L by omega) (by omega) dL_law_443 ?_
  refine lv_aload_n hx hb dL_law_444 rfl (lv_at hl 0 rfl) ?_
  refine lv_iload_n hx hb dL_law_445 rfl (lv_at hl 3 rfl) ?_
  refine lv_iconst (v := nI 2) hx hb dL_law_446 (by decide) ?_
  refine ln_add hx hb dL_law_447 ?_
  refine qw_sld hx hb hXs hbl hbA hS (show i + 2 < L by omega) (by omega) dL_law_448 ?_
  refine lv_aload_n hx hb dL_law_449 rfl (lv_at hl 0 rfl) ?_
  refine lv_iload_n hx hb dL_law_450 rfl (lv_at hl 3 rfl) ?_
  refine lv_iconst (v := nI 3) hx hb dL_law_451 (by decide) ?_
  refine ln_add hx hb dL_law_452 ?_
  refine qw_sld hx hb hXs hbl hbA hS (show i + 3 < L by omega) (by omega) dL_law_453 ?_
  refine lc_mi (va_runV (As := [.int (xs (i + 1)), .int (xs (i + 2)), .int (xs (i + 3))]) (rest := [.int ((f_take (n, kd, sz, sh, nu, pa, sl, ft, tn, ts, tg) ((xs (i + 1))) ((xs (i + 2))) ((xs (i + 3)))).1)]) ⟨hx, hb, hml, hown, hts⟩ (kX2_take l E (x + 2) (Array.size H) n kd sz sh nu pa sl ft tn ts tg hI ((xs (i + 1))) ((xs (i + 2))) ((xs (i + 3)))) (cwV 3 hts gL_law_X2_take rfl rfl rfl (by decide +kernel) ⟨Nat.le_of_ble_eq_true rfl, Nat.le_of_ble_eq_true rfl⟩) (q_preV hK hM hM.1 rfl) rfl rfl hl.1 rfl (lv_room (Nat.le_of_ble_eq_true rfl)) dL_law_454 ⟨by show 8 + 3 * i + 0 + 0 ≤ 600000; omega, by show 700 + 14 * i + 0 + 0 ≤ 7302250; omega⟩) hS hx0 hX (fun H locs hX hM hS => ?_)
  refine lv_icmp_eq (tgt := 695) hx hb dL_law_457 (by decide) (fun _ => ?_) (fun c_1 => absurd rfl c_1)
  refine W.widen (k := 8 + 3 * (i + 5)) (n := 700 + 14 * (i + 5)) (by omega) (by omega) ?_
  exact kk _ _ _ (hI.take ((xs (i + 1))) ((xs (i + 2))) ((xs (i + 3)))) hX hM hS
set_option maxHeartbeats 4000000 in
set_option maxRecDepth 100000 in
theorem law_case_8 {p : Program} {l : Launch} {e : Env} {s : State} {m : MethodId} {below : List Frame} {meth : Method} {c : Code} {E : q_E} {b L x : Nat} {xs : Nat → Int32} (hL : L ≤ 2560) (C0 : lw_At p s m meth c b L xs) (hK : q_K E s) (hN : q_N s) (hx0 : s.heap.size ≤ x) (i : Nat) (hi : i + 5 ≤ L) (n : Nat) (kd sz : Nat → Nat) (sh : Nat → Bool) (nu : Nat → Nat → Int64) (pa : Nat → Nat → Option Nat) (sl : Nat → Option Nat) (ft tn ts tg : Int32) (hI : q_I (n, kd, sz, sh, nu, pa, sl, ft, tn, ts, tg)) {H : Heap} {locs : List Loc} (hX : q_X E x (x + 8) (n, kd, sz, sh, nu, pa, sl, ft, tn, ts, tg) H) (hM : q_M E (x + 2) H.size (n, kd, sz, sh, nu, pa, sl, ft, tn, ts, tg) H) (hS : va_S (fun q : Nat => s.heap.size ≤ q) s.heap H locs) {ls : Array Slot} (hl : lv_has ls 4 [(0, .ref b), (1, .ref x), (2, .ref (x + 2)), (3, .int (nI i))])
    (kk : ∀ (σ2 : q_St) (H1 : Heap) (locs1 : List Loc), q_I σ2 → q_X E x (x + 8) σ2 H1 → q_M E (x + 2) H1.size σ2 H1 → va_S (fun q : Nat => s.heap.size ≤ q) s.heap H1 locs1 → W p l e room_1 s m #[Value.ref b] below meth c H1 locs1 (8 + 3 * (i + 5)) (700 + 14 * (i + 5)) (lw_Z below #[Value.ref b] s) (F0 m 695 ls [])) : W p l e room_1 s m #[Value.ref b] below meth c H locs (8 + 3 * i) (700 + 14 * i) (lw_Z below #[Value.ref b] s) (F0 m 462 ls []) := by
  obtain ⟨hx, hb, hr, hml, hown, hts0, hXs, hbl, hlocks, hgv⟩ := C0
  have hts : ∀ w ∈ wsL_law, w.before #[Value.ref b] s = true := fun w h => hts0 w (wsL_law_in w h)
  have hown : s.vm.findClass RL = some m.cls := hown
  have hbA : ¬ (fun q : Nat => s.heap.size ≤ q) b := Nat.not_le.mpr hbl
  refine lv_aload_n hx hb dL_law_462 rfl (lv_at hl 1 rfl) ?_
  refine lv_aload_n hx hb dL_law_463 rfl (lv_at hl 0 rfl) ?_
  refine lv_iload_n hx hb dL_law_464 rfl (lv_at hl 3 rfl) ?_
  refine lv_iconst (v := nI 1) hx hb dL_law_465 (by decide) ?_
  refine ln_add hx hb dL_law_466 ?_
  refine qw_sld hx hb hXs hbl hbA hS (show i + 1 < L by omega) (by omega) dL_law_467 ?_
  refine lv_aload_n hx hb dL_law_468 rfl (lv_at hl 0 rfl) ?_
  refine lv_iload_n hx hb dL_law_469 rfl (lv_at hl 3 rfl) ?_
  refine lv_iconst (v := nI 2) hx hb dL_law_470 (by decide) ?_
  refine ln_add hx hb dL_law_471 ?_
  refine qw_sld hx hb hXs hbl hbA hS (show i + 2 < L by omega) (by omega) dL_law_472 ?_
  refine lc_xi (va_runV (As := [.int (xs (i + 1)), .int (xs (i + 2))]) (rest := []) ⟨hx, hb, hml, hown, hts⟩ (kX1_share l E x (x + 8) n kd sz sh nu pa sl ft tn ts tg hI ((xs (i + 1))) ((xs (i + 2)))) (cwV 2 hts gL_law_X1_share rfl rfl rfl (by decide +kernel) ⟨Nat.le_of_ble_eq_true rfl, Nat.le_of_ble_eq_true rfl⟩) (q_preV hK hX hX.1 rfl) rfl rfl hl.1 rfl (lv_room (Nat.le_of_ble_eq_true rfl)) dL_law_473 ⟨by show 8 + 3 * i + 0 ≤ 600000; omega, by show 700 + 14 * i + 0 ≤ 7302250; omega⟩) hS hx0 hX hM (fun H locs hX hM hS => ?_)
  refine lv_aload_n hx hb dL_law_476 rfl (lv_at hl 2 rfl) ?_
  refine lv_aload_n hx hb dL_law_477 rfl (lv_at hl 0 rfl) ?_
  refine lv_iload_n hx hb dL_law_478 rfl (lv_at hl 3 rfl) ?_
  refine lv_iconst (v := nI 1) hx hb dL_law_479 (by decide) ?_
  refine ln_add hx hb dL_law_480 ?_
  refine qw_sld hx hb hXs hbl hbA hS (show i + 1 < L by omega) (by omega) dL_law_481 ?_
  refine lv_aload_n hx hb dL_law_482 rfl (lv_at hl 0 rfl) ?_
  refine lv_iload_n hx hb dL_law_483 rfl (lv_at hl 3 rfl) ?_
  refine lv_iconst (v := nI 2) hx hb dL_law_484 (by decide) ?_
  refine ln_add hx hb dL_law_485 ?_
  refine qw_sld hx hb hXs hbl hbA hS (show i + 2 < L by omega) (by omega) dL_law_486 ?_
  refine lc_mi (va_runV (As := [.int (xs (i + 1)), .int (xs (i + 2))]) (rest := [.int ((f_share (n, kd, sz, sh, nu, pa, sl, ft, tn, ts, tg) ((xs (i + 1))) ((xs (i + 2)))).1)]) ⟨hx, hb, hml, hown, hts⟩ (kX2_share l E (x + 2) (Array.size H) n kd sz sh nu pa sl ft tn ts tg hI ((xs (i + 1))) ((xs (i + 2)))) (cwV 2 hts gL_law_X2_share rfl rfl rfl (by decide +kernel) ⟨Nat.le_of_ble_eq_true rfl, Nat.le_of_ble_eq_true rfl⟩) (q_preV hK hM hM.1 rfl) rfl rfl hl.1 rfl (lv_room (Nat.le_of_ble_eq_true rfl)) dL_law_487 ⟨by show 8 + 3 * i + 0 + 0 ≤ 600000; omega, by show 700 + 14 * i + 0 + 0 ≤ 7302250; omega⟩) hS hx0 hX (fun H locs hX hM hS => ?_)
  refine lv_icmp_eq (tgt := 695) hx hb dL_law_490 (by decide) (fun _ => ?_) (fun c_1 => absurd rfl c_1)
  refine W.widen (k := 8 + 3 * (i + 5)) (n := 700 + 14 * (i + 5)) (by omega) (by omega) ?_
  exact kk _ _ _ (hI.share ((xs (i + 1))) ((xs (i + 2)))) hX hM hS
set_option maxHeartbeats 4000000 in
set_option maxRecDepth 100000 in
theorem law_case_9 {p : Program} {l : Launch} {e : Env} {s : State} {m : MethodId} {below : List Frame} {meth : Method} {c : Code} {E : q_E} {b L x : Nat} {xs : Nat → Int32} (hL : L ≤ 2560) (C0 : lw_At p s m meth c b L xs) (hK : q_K E s) (hN : q_N s) (hx0 : s.heap.size ≤ x) (i : Nat) (hi : i + 5 ≤ L) (n : Nat) (kd sz : Nat → Nat) (sh : Nat → Bool) (nu : Nat → Nat → Int64) (pa : Nat → Nat → Option Nat) (sl : Nat → Option Nat) (ft tn ts tg : Int32) (hI : q_I (n, kd, sz, sh, nu, pa, sl, ft, tn, ts, tg)) {H : Heap} {locs : List Loc} (hX : q_X E x (x + 8) (n, kd, sz, sh, nu, pa, sl, ft, tn, ts, tg) H) (hM : q_M E (x + 2) H.size (n, kd, sz, sh, nu, pa, sl, ft, tn, ts, tg) H) (hS : va_S (fun q : Nat => s.heap.size ≤ q) s.heap H locs) {ls : Array Slot} (hl : lv_has ls 4 [(0, .ref b), (1, .ref x), (2, .ref (x + 2)), (3, .int (nI i))])
    (kk : ∀ (σ2 : q_St) (H1 : Heap) (locs1 : List Loc), q_I σ2 → q_X E x (x + 8) σ2 H1 → q_M E (x + 2) H1.size σ2 H1 → va_S (fun q : Nat => s.heap.size ≤ q) s.heap H1 locs1 → W p l e room_1 s m #[Value.ref b] below meth c H1 locs1 (8 + 3 * (i + 5)) (700 + 14 * (i + 5)) (lw_Z below #[Value.ref b] s) (F0 m 695 ls [])) : W p l e room_1 s m #[Value.ref b] below meth c H locs (8 + 3 * i) (700 + 14 * i) (lw_Z below #[Value.ref b] s) (F0 m 495 ls []) := by
  obtain ⟨hx, hb, hr, hml, hown, hts0, hXs, hbl, hlocks, hgv⟩ := C0
  have hts : ∀ w ∈ wsL_law, w.before #[Value.ref b] s = true := fun w h => hts0 w (wsL_law_in w h)
  have hown : s.vm.findClass RL = some m.cls := hown
  have hbA : ¬ (fun q : Nat => s.heap.size ≤ q) b := Nat.not_le.mpr hbl
  refine lv_aload_n hx hb dL_law_495 rfl (lv_at hl 1 rfl) ?_
  refine lv_aload_n hx hb dL_law_496 rfl (lv_at hl 0 rfl) ?_
  refine lv_iload_n hx hb dL_law_497 rfl (lv_at hl 3 rfl) ?_
  refine lv_iconst (v := nI 1) hx hb dL_law_498 (by decide) ?_
  refine ln_add hx hb dL_law_499 ?_
  refine qw_sld hx hb hXs hbl hbA hS (show i + 1 < L by omega) (by omega) dL_law_500 ?_
  refine lc_xi (va_runV (As := [.int (xs (i + 1))]) (rest := []) ⟨hx, hb, hml, hown, hts⟩ (kX1_empty l E x (x + 8) n kd sz sh nu pa sl ft tn ts tg hI ((xs (i + 1)))) (cwV 1 hts gL_law_X1_empty rfl rfl rfl (by decide +kernel) ⟨Nat.le_of_ble_eq_true rfl, Nat.le_of_ble_eq_true rfl⟩) (q_preV hK hX hX.1 rfl) rfl rfl hl.1 rfl (lv_room (Nat.le_of_ble_eq_true rfl)) dL_law_501 ⟨by show 8 + 3 * i + 0 ≤ 600000; omega, by show 700 + 14 * i + 0 ≤ 7302250; omega⟩) hS hx0 hX hM (fun H locs hX hM hS => ?_)
  refine lv_aload_n hx hb dL_law_504 rfl (lv_at hl 2 rfl) ?_
  refine lv_aload_n hx hb dL_law_505 rfl (lv_at hl 0 rfl) ?_
  refine lv_iload_n hx hb dL_law_506 rfl (lv_at hl 3 rfl) ?_
  refine lv_iconst (v := nI 1) hx hb dL_law_507 (by decide) ?_
  refine ln_add hx hb dL_law_508 ?_
  refine qw_sld hx hb hXs hbl hbA hS (show i + 1 < L by omega) (by omega) dL_law_509 ?_
  refine lc_mi (va_runV (As := [.int (xs (i + 1))]) (rest := [.int ((f_empty (n, kd, sz, sh, nu, pa, sl, ft, tn, ts, tg) ((xs (i + 1)))).1)]) ⟨hx, hb, hml, hown, hts⟩ (kX2_empty l E (x + 2) (Array.size H) n kd sz sh nu pa sl ft tn ts tg hI ((xs (i + 1)))) (cwV 1 hts gL_law_X2_empty rfl rfl rfl (by decide +kernel) ⟨Nat.le_of_ble_eq_true rfl, Nat.le_of_ble_eq_true rfl⟩) (q_preV hK hM hM.1 rfl) rfl rfl hl.1 rfl (lv_room (Nat.le_of_ble_eq_true rfl)) dL_law_510 ⟨by show 8 + 3 * i + 0 + 0 ≤ 600000; omega, by show 700 + 14 * i + 0 + 0 ≤ 7302250; omega⟩) hS hx0 hX (fun H locs hX hM hS => ?_)
  refine lv_icmp_eq (tgt := 695) hx hb dL_law_513 (by decide) (fun _ => ?_) (fun c_1 => absurd rfl c_1)
  refine W.widen (k := 8 + 3 * (i + 5)) (n := 700 + 14 * (i + 5)) (by omega) (by omega) ?_
  exact kk _ _ _ (hI.empty ((xs (i + 1)))) hX hM hS
set_option maxHeartbeats 4000000 in
set_option maxRecDepth 100000 in
theorem law_case_10 {p : Program} {l : Launch} {e : Env} {s : State} {m : MethodId} {below : List Frame} {meth : Method} {c : Code} {E : q_E} {b L x : Nat} {xs : Nat → Int32} (hL : L ≤ 2560) (C0 : lw_At p s m meth c b L xs) (hK : q_K E s) (hN : q_N s) (hx0 : s.heap.size ≤ x) (i : Nat) (hi : i + 5 ≤ L) (n : Nat) (kd sz : Nat → Nat) (sh : Nat → Bool) (nu : Nat → Nat → Int64) (pa : Nat → Nat → Option Nat) (sl : Nat → Option Nat) (ft tn ts tg : Int32) (hI : q_I (n, kd, sz, sh, nu, pa, sl, ft, tn, ts, tg)) {H : Heap} {locs : List Loc} (hX : q_X E x (x + 8) (n, kd, sz, sh, nu, pa, sl, ft, tn, ts, tg) H) (hM : q_M E (x + 2) H.size (n, kd, sz, sh, nu, pa, sl, ft, tn, ts, tg) H) (hS : va_S (fun q : Nat => s.heap.size ≤ q) s.heap H locs) {ls : Array Slot} (hl : lv_has ls 4 [(0, .ref b), (1, .ref x), (2, .ref (x + 2)), (3, .int (nI i))])
    (kk : ∀ (σ2 : q_St) (H1 : Heap) (locs1 : List Loc), q_I σ2 → q_X E x (x + 8) σ2 H1 → q_M E (x + 2) H1.size σ2 H1 → va_S (fun q : Nat => s.heap.size ≤ q) s.heap H1 locs1 → W p l e room_1 s m #[Value.ref b] below meth c H1 locs1 (8 + 3 * (i + 5)) (700 + 14 * (i + 5)) (lw_Z below #[Value.ref b] s) (F0 m 695 ls [])) : W p l e room_1 s m #[Value.ref b] below meth c H locs (8 + 3 * i) (700 + 14 * i) (lw_Z below #[Value.ref b] s) (F0 m 518 ls []) := by
  obtain ⟨hx, hb, hr, hml, hown, hts0, hXs, hbl, hlocks, hgv⟩ := C0
  have hts : ∀ w ∈ wsL_law, w.before #[Value.ref b] s = true := fun w h => hts0 w (wsL_law_in w h)
  have hown : s.vm.findClass RL = some m.cls := hown
  have hbA : ¬ (fun q : Nat => s.heap.size ≤ q) b := Nat.not_le.mpr hbl
  refine lv_aload_n hx hb dL_law_518 rfl (lv_at hl 1 rfl) ?_
  refine lv_aload_n hx hb dL_law_519 rfl (lv_at hl 0 rfl) ?_
  refine lv_iload_n hx hb dL_law_520 rfl (lv_at hl 3 rfl) ?_
  refine lv_iconst (v := nI 1) hx hb dL_law_521 (by decide) ?_
  refine ln_add hx hb dL_law_522 ?_
  refine qw_sld hx hb hXs hbl hbA hS (show i + 1 < L by omega) (by omega) dL_law_523 ?_
  refine lv_aload_n hx hb dL_law_524 rfl (lv_at hl 0 rfl) ?_
  refine lv_iload_n hx hb dL_law_525 rfl (lv_at hl 3 rfl) ?_
  refine lv_iconst (v := nI 2) hx hb dL_law_526 (by decide) ?_
  refine ln_add hx hb dL_law_527 ?_
  refine qw_sld hx hb hXs hbl hbA hS (show i + 2 < L by omega) (by omega) dL_law_528 ?_
  refine lv_if_eq (tgt := 536) hx hb dL_law_529 (by decide) (fun c_1 => ?_) (fun c_1 => ?_)
  · refine lv_iconst (v := nI 0) hx hb dL_law_536 (by decide) ?_
    refine lc_xi (va_runV (As := [.int (xs (i + 1)), .int (q_b false)]) (rest := []) ⟨hx, hb, hml, hown, hts⟩ (kX1_lid l E x (x + 8) n kd sz sh nu pa sl ft tn ts tg hI ((xs (i + 1))) false) (cwV 2 hts gL_law_X1_lid rfl rfl rfl (by decide +kernel) ⟨Nat.le_of_ble_eq_true rfl, Nat.le_of_ble_eq_true rfl⟩) (q_preV hK hX hX.1 rfl) rfl rfl hl.1 rfl (lv_room (Nat.le_of_ble_eq_true rfl)) dL_law_537 ⟨by show 8 + 3 * i + 0 ≤ 600000; omega, by show 700 + 14 * i + 0 ≤ 7302250; omega⟩) hS hx0 hX hM (fun H locs hX hM hS => ?_)
    refine lv_aload_n hx hb dL_law_540 rfl (lv_at hl 2 rfl) ?_
    refine lv_aload_n hx hb dL_law_541 rfl (lv_at hl 0 rfl) ?_
    refine lv_iload_n hx hb dL_law_542 rfl (lv_at hl 3 rfl) ?_
    refine lv_iconst (v := nI 1) hx hb dL_law_543 (by decide) ?_
    refine ln_add hx hb dL_law_544 ?_
    refine qw_sld hx hb hXs hbl hbA hS (show i + 1 < L by omega) (by omega) dL_law_545 ?_
    refine lv_aload_n hx hb dL_law_546 rfl (lv_at hl 0 rfl) ?_
    refine lv_iload_n hx hb dL_law_547 rfl (lv_at hl 3 rfl) ?_
    refine lv_iconst (v := nI 2) hx hb dL_law_548 (by decide) ?_
    refine ln_add hx hb dL_law_549 ?_
    refine qw_sld hx hb hXs hbl hbA hS (show i + 2 < L by omega) (by omega) dL_law_550 ?_
    refine lv_if_eq (tgt := 558) hx hb dL_law_551 (by decide) (fun _ => ?_) (fun c_2 => absurd c_1 c_2)
    refine lv_iconst (v := nI 0) hx hb dL_law_558 (by decide) ?_
    refine lc_mi (va_runV (As := [.int (xs (i + 1)), .int (q_b false)]) (rest := [.int ((f_lid (n, kd, sz, sh, nu, pa, sl, ft, tn, ts, tg) ((xs (i + 1))) false).1)]) ⟨hx, hb, hml, hown, hts⟩ (kX2_lid l E (x + 2) (Array.size H) n kd sz sh nu pa sl ft tn ts tg hI ((xs (i + 1))) false) (cwV 2 hts gL_law_X2_lid rfl rfl rfl (by decide +kernel) ⟨Nat.le_of_ble_eq_true rfl, Nat.le_of_ble_eq_true rfl⟩) (q_preV hK hM hM.1 rfl) rfl rfl hl.1 rfl (lv_room (Nat.le_of_ble_eq_true rfl)) dL_law_559 ⟨by show 8 + 3 * i + 0 + 0 ≤ 600000; omega, by show 700 + 14 * i + 0 + 0 ≤ 7302250; omega⟩) hS hx0 hX (fun H locs hX hM hS => ?_)
    refine lv_icmp_eq (tgt := 695) hx hb dL_law_562 (by decide) (fun _ => ?_) (fun c_3 => absurd rfl c_3)
    refine W.widen (k := 8 + 3 * (i + 5)) (n := 700 + 14 * (i + 5)) (by omega) (by omega) ?_
    exact kk _ _ _ (hI.lid ((xs (i + 1))) false) hX hM hS
  · refine lv_iconst (v := nI 1) hx hb dL_law_532 (by decide) ?_
    refine lv_goto (tgt := 537) hx hb dL_law_533 (by decide) ?_
    refine lc_xi (va_runV (As := [.int (xs (i + 1)), .int (q_b true)]) (rest := []) ⟨hx, hb, hml, hown, hts⟩ (kX1_lid l E x (x + 8) n kd sz sh nu pa sl ft tn ts tg hI ((xs (i + 1))) true) (cwV 2 hts gL_law_X1_lid rfl rfl rfl (by decide +kernel) ⟨Nat.le_of_ble_eq_true rfl, Nat.le_of_ble_eq_true rfl⟩) (q_preV hK hX hX.1 rfl) rfl rfl hl.1 rfl (lv_room (Nat.le_of_ble_eq_true rfl)) dL_law_537 ⟨by show 8 + 3 * i + 0 ≤ 600000; omega, by show 700 + 14 * i + 0 ≤ 7302250; omega⟩) hS hx0 hX hM (fun H locs hX hM hS => ?_)
    refine lv_aload_n hx hb dL_law_540 rfl (lv_at hl 2 rfl) ?_
    refine lv_aload_n hx hb dL_law_541 rfl (lv_at hl 0 rfl) ?_
    refine lv_iload_n hx hb dL_law_542 rfl (lv_at hl 3 rfl) ?_
    refine lv_iconst (v := nI 1) hx hb dL_law_543 (by decide) ?_
    refine ln_add hx hb dL_law_544 ?_
    refine qw_sld hx hb hXs hbl hbA hS (show i + 1 < L by omega) (by omega) dL_law_545 ?_
    refine lv_aload_n hx hb dL_law_546 rfl (lv_at hl 0 rfl) ?_
    refine lv_iload_n hx hb dL_law_547 rfl (lv_at hl 3 rfl) ?_
    refine lv_iconst (v := nI 2) hx hb dL_law_548 (by decide) ?_
    refine ln_add hx hb dL_law_549 ?_
    refine qw_sld hx hb hXs hbl hbA hS (show i + 2 < L by omega) (by omega) dL_law_550 ?_
    refine lv_if_eq (tgt := 558) hx hb dL_law_551 (by decide) (fun c_4 => absurd c_4 c_1) (fun _ => ?_)
    refine lv_iconst (v := nI 1) hx hb dL_law_554 (by decide) ?_
    refine lv_goto (tgt := 559) hx hb dL_law_555 (by decide) ?_
    refine lc_mi (va_runV (As := [.int (xs (i + 1)), .int (q_b true)]) (rest := [.int ((f_lid (n, kd, sz, sh, nu, pa, sl, ft, tn, ts, tg) ((xs (i + 1))) true).1)]) ⟨hx, hb, hml, hown, hts⟩ (kX2_lid l E (x + 2) (Array.size H) n kd sz sh nu pa sl ft tn ts tg hI ((xs (i + 1))) true) (cwV 2 hts gL_law_X2_lid rfl rfl rfl (by decide +kernel) ⟨Nat.le_of_ble_eq_true rfl, Nat.le_of_ble_eq_true rfl⟩) (q_preV hK hM hM.1 rfl) rfl rfl hl.1 rfl (lv_room (Nat.le_of_ble_eq_true rfl)) dL_law_559 ⟨by show 8 + 3 * i + 0 + 0 ≤ 600000; omega, by show 700 + 14 * i + 0 + 0 ≤ 7302250; omega⟩) hS hx0 hX (fun H locs hX hM hS => ?_)
    refine lv_icmp_eq (tgt := 695) hx hb dL_law_562 (by decide) (fun _ => ?_) (fun c_5 => absurd rfl c_5)
    refine W.widen (k := 8 + 3 * (i + 5)) (n := 700 + 14 * (i + 5)) (by omega) (by omega) ?_
    exact kk _ _ _ (hI.lid ((xs (i + 1))) true) hX hM hS
set_option maxHeartbeats 4000000 in
set_option maxRecDepth 100000 in
theorem law_case_11 {p : Program} {l : Launch} {e : Env} {s : State} {m : MethodId} {below : List Frame} {meth : Method} {c : Code} {E : q_E} {b L x : Nat} {xs : Nat → Int32} (hL : L ≤ 2560) (C0 : lw_At p s m meth c b L xs) (hK : q_K E s) (hN : q_N s) (hx0 : s.heap.size ≤ x) (i : Nat) (hi : i + 5 ≤ L) (n : Nat) (kd sz : Nat → Nat) (sh : Nat → Bool) (nu : Nat → Nat → Int64) (pa : Nat → Nat → Option Nat) (sl : Nat → Option Nat) (ft tn ts tg : Int32) (hI : q_I (n, kd, sz, sh, nu, pa, sl, ft, tn, ts, tg)) {H : Heap} {locs : List Loc} (hX : q_X E x (x + 8) (n, kd, sz, sh, nu, pa, sl, ft, tn, ts, tg) H) (hM : q_M E (x + 2) H.size (n, kd, sz, sh, nu, pa, sl, ft, tn, ts, tg) H) (hS : va_S (fun q : Nat => s.heap.size ≤ q) s.heap H locs) {ls : Array Slot} (hl : lv_has ls 4 [(0, .ref b), (1, .ref x), (2, .ref (x + 2)), (3, .int (nI i))])
    (kk : ∀ (σ2 : q_St) (H1 : Heap) (locs1 : List Loc), q_I σ2 → q_X E x (x + 8) σ2 H1 → q_M E (x + 2) H1.size σ2 H1 → va_S (fun q : Nat => s.heap.size ≤ q) s.heap H1 locs1 → W p l e room_1 s m #[Value.ref b] below meth c H1 locs1 (8 + 3 * (i + 5)) (700 + 14 * (i + 5)) (lw_Z below #[Value.ref b] s) (F0 m 695 ls [])) : W p l e room_1 s m #[Value.ref b] below meth c H locs (8 + 3 * i) (700 + 14 * i) (lw_Z below #[Value.ref b] s) (F0 m 567 ls []) := by
  obtain ⟨hx, hb, hr, hml, hown, hts0, hXs, hbl, hlocks, hgv⟩ := C0
  have hts : ∀ w ∈ wsL_law, w.before #[Value.ref b] s = true := fun w h => hts0 w (wsL_law_in w h)
  have hown : s.vm.findClass RL = some m.cls := hown
  have hbA : ¬ (fun q : Nat => s.heap.size ≤ q) b := Nat.not_le.mpr hbl
  refine lv_aload_n hx hb dL_law_567 rfl (lv_at hl 1 rfl) ?_
  refine lv_aload_n hx hb dL_law_568 rfl (lv_at hl 0 rfl) ?_
  refine lv_iload_n hx hb dL_law_569 rfl (lv_at hl 3 rfl) ?_
  refine lv_iconst (v := nI 1) hx hb dL_law_570 (by decide) ?_
  refine ln_add hx hb dL_law_571 ?_
  refine qw_sld hx hb hXs hbl hbA hS (show i + 1 < L by omega) (by omega) dL_law_572 ?_
  refine lv_aload_n hx hb dL_law_573 rfl (lv_at hl 0 rfl) ?_
  refine lv_iload_n hx hb dL_law_574 rfl (lv_at hl 3 rfl) ?_
  refine lv_iconst (v := nI 2) hx hb dL_law_575 (by decide) ?_
  refine ln_add hx hb dL_law_576 ?_
  refine qw_sld hx hb hXs hbl hbA hS (show i + 2 < L by omega) (by omega) dL_law_577 ?_
  refine lc_xi (va_runV (As := [.int (xs (i + 1)), .int (xs (i + 2))]) (rest := []) ⟨hx, hb, hml, hown, hts⟩ (kX1_weigh l E x (x + 8) n kd sz sh nu pa sl ft tn ts tg hI ((xs (i + 1))) ((xs (i + 2)))) (cwV 2 hts gL_law_X1_weigh rfl rfl rfl (by decide +kernel) ⟨Nat.le_of_ble_eq_true rfl, Nat.le_of_ble_eq_true rfl⟩) (q_preV hK hX hX.1 rfl) rfl rfl hl.1 rfl (lv_room (Nat.le_of_ble_eq_true rfl)) dL_law_578 ⟨by show 8 + 3 * i + 0 ≤ 600000; omega, by show 700 + 14 * i + 0 ≤ 7302250; omega⟩) hS hx0 hX hM (fun H locs hX hM hS => ?_)
  refine lv_aload_n hx hb dL_law_581 rfl (lv_at hl 2 rfl) ?_
  refine lv_aload_n hx hb dL_law_582 rfl (lv_at hl 0 rfl) ?_
  refine lv_iload_n hx hb dL_law_583 rfl (lv_at hl 3 rfl) ?_
  refine lv_iconst (v := nI 1) hx hb dL_law_584 (by decide) ?_
  refine ln_add hx hb dL_law_585 ?_
  refine qw_sld hx hb hXs hbl hbA hS (show i + 1 < L by omega) (by omega) dL_law_586 ?_
  refine lv_aload_n hx hb dL_law_587 rfl (lv_at hl 0 rfl) ?_
  refine lv_iload_n hx hb dL_law_588 rfl (lv_at hl 3 rfl) ?_
  refine lv_iconst (v := nI 2) hx hb dL_law_589 (by decide) ?_
  refine ln_add hx hb dL_law_590 ?_
  refine qw_sld hx hb hXs hbl hbA hS (show i + 2 < L by omega) (by omega) dL_law_591 ?_
  refine lc_mi (va_runV (As := [.int (xs (i + 1)), .int (xs (i + 2))]) (rest := [.int ((f_weigh (n, kd, sz, sh, nu, pa, sl, ft, tn, ts, tg) ((xs (i + 1))) ((xs (i + 2)))).1)]) ⟨hx, hb, hml, hown, hts⟩ (kX2_weigh l E (x + 2) (Array.size H) n kd sz sh nu pa sl ft tn ts tg hI ((xs (i + 1))) ((xs (i + 2)))) (cwV 2 hts gL_law_X2_weigh rfl rfl rfl (by decide +kernel) ⟨Nat.le_of_ble_eq_true rfl, Nat.le_of_ble_eq_true rfl⟩) (q_preV hK hM hM.1 rfl) rfl rfl hl.1 rfl (lv_room (Nat.le_of_ble_eq_true rfl)) dL_law_592 ⟨by show 8 + 3 * i + 0 + 0 ≤ 600000; omega, by show 700 + 14 * i + 0 + 0 ≤ 7302250; omega⟩) hS hx0 hX (fun H locs hX hM hS => ?_)
  refine lv_icmp_eq (tgt := 695) hx hb dL_law_595 (by decide) (fun _ => ?_) (fun c_1 => absurd rfl c_1)
  refine W.widen (k := 8 + 3 * (i + 5)) (n := 700 + 14 * (i + 5)) (by omega) (by omega) ?_
  exact kk _ _ _ (hI.weigh ((xs (i + 1))) ((xs (i + 2)))) hX hM hS
set_option maxHeartbeats 4000000 in
set_option maxRecDepth 100000 in
theorem law_case_12 {p : Program} {l : Launch} {e : Env} {s : State} {m : MethodId} {below : List Frame} {meth : Method} {c : Code} {E : q_E} {b L x : Nat} {xs : Nat → Int32} (hL : L ≤ 2560) (C0 : lw_At p s m meth c b L xs) (hK : q_K E s) (hN : q_N s) (hx0 : s.heap.size ≤ x) (i : Nat) (hi : i + 5 ≤ L) (n : Nat) (kd sz : Nat → Nat) (sh : Nat → Bool) (nu : Nat → Nat → Int64) (pa : Nat → Nat → Option Nat) (sl : Nat → Option Nat) (ft tn ts tg : Int32) (hI : q_I (n, kd, sz, sh, nu, pa, sl, ft, tn, ts, tg)) {H : Heap} {locs : List Loc} (hX : q_X E x (x + 8) (n, kd, sz, sh, nu, pa, sl, ft, tn, ts, tg) H) (hM : q_M E (x + 2) H.size (n, kd, sz, sh, nu, pa, sl, ft, tn, ts, tg) H) (hS : va_S (fun q : Nat => s.heap.size ≤ q) s.heap H locs) {ls : Array Slot} (hl : lv_has ls 4 [(0, .ref b), (1, .ref x), (2, .ref (x + 2)), (3, .int (nI i))])
    (kk : ∀ (σ2 : q_St) (H1 : Heap) (locs1 : List Loc), q_I σ2 → q_X E x (x + 8) σ2 H1 → q_M E (x + 2) H1.size σ2 H1 → va_S (fun q : Nat => s.heap.size ≤ q) s.heap H1 locs1 → W p l e room_1 s m #[Value.ref b] below meth c H1 locs1 (8 + 3 * (i + 5)) (700 + 14 * (i + 5)) (lw_Z below #[Value.ref b] s) (F0 m 695 ls [])) : W p l e room_1 s m #[Value.ref b] below meth c H locs (8 + 3 * i) (700 + 14 * i) (lw_Z below #[Value.ref b] s) (F0 m 600 ls []) := by
  obtain ⟨hx, hb, hr, hml, hown, hts0, hXs, hbl, hlocks, hgv⟩ := C0
  have hts : ∀ w ∈ wsL_law, w.before #[Value.ref b] s = true := fun w h => hts0 w (wsL_law_in w h)
  have hown : s.vm.findClass RL = some m.cls := hown
  have hbA : ¬ (fun q : Nat => s.heap.size ≤ q) b := Nat.not_le.mpr hbl
  refine lv_aload_n hx hb dL_law_600 rfl (lv_at hl 1 rfl) ?_
  refine lv_aload_n hx hb dL_law_601 rfl (lv_at hl 0 rfl) ?_
  refine lv_iload_n hx hb dL_law_602 rfl (lv_at hl 3 rfl) ?_
  refine lv_iconst (v := nI 1) hx hb dL_law_603 (by decide) ?_
  refine ln_add hx hb dL_law_604 ?_
  refine qw_sld hx hb hXs hbl hbA hS (show i + 1 < L by omega) (by omega) dL_law_605 ?_
  refine lc_xi (va_runV (As := [.int (xs (i + 1))]) (rest := []) ⟨hx, hb, hml, hown, hts⟩ (kX1_size l E x (x + 8) n kd sz sh nu pa sl ft tn ts tg hI ((xs (i + 1)))) (cwV 1 hts gL_law_X1_size rfl rfl rfl (by decide +kernel) ⟨Nat.le_of_ble_eq_true rfl, Nat.le_of_ble_eq_true rfl⟩) (q_preV hK hX hX.1 rfl) rfl rfl hl.1 rfl (lv_room (Nat.le_of_ble_eq_true rfl)) dL_law_606 ⟨by show 8 + 3 * i + 0 ≤ 600000; omega, by show 700 + 14 * i + 0 ≤ 7302250; omega⟩) hS hx0 hX hM (fun H locs hX hM hS => ?_)
  refine lv_aload_n hx hb dL_law_609 rfl (lv_at hl 2 rfl) ?_
  refine lv_aload_n hx hb dL_law_610 rfl (lv_at hl 0 rfl) ?_
  refine lv_iload_n hx hb dL_law_611 rfl (lv_at hl 3 rfl) ?_
  refine lv_iconst (v := nI 1) hx hb dL_law_612 (by decide) ?_
  refine ln_add hx hb dL_law_613 ?_
  refine qw_sld hx hb hXs hbl hbA hS (show i + 1 < L by omega) (by omega) dL_law_614 ?_
  refine lc_mi (va_runV (As := [.int (xs (i + 1))]) (rest := [.int ((f_size (n, kd, sz, sh, nu, pa, sl, ft, tn, ts, tg) ((xs (i + 1)))).1)]) ⟨hx, hb, hml, hown, hts⟩ (kX2_size l E (x + 2) (Array.size H) n kd sz sh nu pa sl ft tn ts tg hI ((xs (i + 1)))) (cwV 1 hts gL_law_X2_size rfl rfl rfl (by decide +kernel) ⟨Nat.le_of_ble_eq_true rfl, Nat.le_of_ble_eq_true rfl⟩) (q_preV hK hM hM.1 rfl) rfl rfl hl.1 rfl (lv_room (Nat.le_of_ble_eq_true rfl)) dL_law_615 ⟨by show 8 + 3 * i + 0 + 0 ≤ 600000; omega, by show 700 + 14 * i + 0 + 0 ≤ 7302250; omega⟩) hS hx0 hX (fun H locs hX hM hS => ?_)
  refine lv_icmp_eq (tgt := 695) hx hb dL_law_618 (by decide) (fun _ => ?_) (fun c_1 => absurd rfl c_1)
  refine W.widen (k := 8 + 3 * (i + 5)) (n := 700 + 14 * (i + 5)) (by omega) (by omega) ?_
  exact kk _ _ _ (hI.size ((xs (i + 1)))) hX hM hS
set_option maxHeartbeats 4000000 in
set_option maxRecDepth 100000 in
theorem law_case_13 {p : Program} {l : Launch} {e : Env} {s : State} {m : MethodId} {below : List Frame} {meth : Method} {c : Code} {E : q_E} {b L x : Nat} {xs : Nat → Int32} (hL : L ≤ 2560) (C0 : lw_At p s m meth c b L xs) (hK : q_K E s) (hN : q_N s) (hx0 : s.heap.size ≤ x) (i : Nat) (hi : i + 5 ≤ L) (n : Nat) (kd sz : Nat → Nat) (sh : Nat → Bool) (nu : Nat → Nat → Int64) (pa : Nat → Nat → Option Nat) (sl : Nat → Option Nat) (ft tn ts tg : Int32) (hI : q_I (n, kd, sz, sh, nu, pa, sl, ft, tn, ts, tg)) {H : Heap} {locs : List Loc} (hX : q_X E x (x + 8) (n, kd, sz, sh, nu, pa, sl, ft, tn, ts, tg) H) (hM : q_M E (x + 2) H.size (n, kd, sz, sh, nu, pa, sl, ft, tn, ts, tg) H) (hS : va_S (fun q : Nat => s.heap.size ≤ q) s.heap H locs) {ls : Array Slot} (hl : lv_has ls 4 [(0, .ref b), (1, .ref x), (2, .ref (x + 2)), (3, .int (nI i))])
    (kk : ∀ (σ2 : q_St) (H1 : Heap) (locs1 : List Loc), q_I σ2 → q_X E x (x + 8) σ2 H1 → q_M E (x + 2) H1.size σ2 H1 → va_S (fun q : Nat => s.heap.size ≤ q) s.heap H1 locs1 → W p l e room_1 s m #[Value.ref b] below meth c H1 locs1 (8 + 3 * (i + 5)) (700 + 14 * (i + 5)) (lw_Z below #[Value.ref b] s) (F0 m 695 ls [])) : W p l e room_1 s m #[Value.ref b] below meth c H locs (8 + 3 * i) (700 + 14 * i) (lw_Z below #[Value.ref b] s) (F0 m 623 ls []) := by
  obtain ⟨hx, hb, hr, hml, hown, hts0, hXs, hbl, hlocks, hgv⟩ := C0
  have hts : ∀ w ∈ wsL_law, w.before #[Value.ref b] s = true := fun w h => hts0 w (wsL_law_in w h)
  have hown : s.vm.findClass RL = some m.cls := hown
  have hbA : ¬ (fun q : Nat => s.heap.size ≤ q) b := Nat.not_le.mpr hbl
  refine lv_aload_n hx hb dL_law_623 rfl (lv_at hl 1 rfl) ?_
  refine lv_aload_n hx hb dL_law_624 rfl (lv_at hl 0 rfl) ?_
  refine lv_iload_n hx hb dL_law_625 rfl (lv_at hl 3 rfl) ?_
  refine lv_iconst (v := nI 1) hx hb dL_law_626 (by decide) ?_
  refine ln_add hx hb dL_law_627 ?_
  refine qw_sld hx hb hXs hbl hbA hS (show i + 1 < L by omega) (by omega) dL_law_628 ?_
  refine qc_ri (r1 := f_at (n, kd, sz, sh, nu, pa, sl, ft, tn, ts, tg) ((xs (i + 1)))) (W.runV (As := [.int (xs (i + 1))]) (rest := []) ⟨hx, hb, hml, hown, hts⟩ (kX1_at l E x (x + 8) n kd sz sh nu pa sl ft tn ts tg hI ((xs (i + 1)))) (cwV 1 hts gL_law_X1_at rfl rfl rfl (by decide +kernel) ⟨Nat.le_of_ble_eq_true rfl, Nat.le_of_ble_eq_true rfl⟩) (q_preV hK hX hX.1 rfl) rfl rfl hl.1 rfl (lv_room (Nat.le_of_ble_eq_true rfl)) dL_law_629 ⟨by show 8 + 3 * i + 0 ≤ 600000; omega, by show 700 + 14 * i + 0 ≤ 7302250; omega⟩) rfl ?_
  refine lv_aload_n hx hb dL_law_632 rfl (lv_at hl 2 rfl) ?_
  refine lv_aload_n hx hb dL_law_633 rfl (lv_at hl 0 rfl) ?_
  refine lv_iload_n hx hb dL_law_634 rfl (lv_at hl 3 rfl) ?_
  refine lv_iconst (v := nI 1) hx hb dL_law_635 (by decide) ?_
  refine ln_add hx hb dL_law_636 ?_
  refine qw_sld hx hb hXs hbl hbA hS (show i + 1 < L by omega) (by omega) dL_law_637 ?_
  refine qc_ri (r1 := f_at (n, kd, sz, sh, nu, pa, sl, ft, tn, ts, tg) ((xs (i + 1)))) (W.runV (As := [.int (xs (i + 1))]) (rest := [.int (f_at (n, kd, sz, sh, nu, pa, sl, ft, tn, ts, tg) ((xs (i + 1))))]) ⟨hx, hb, hml, hown, hts⟩ (kX2_at l E (x + 2) (Array.size H) n kd sz sh nu pa sl ft tn ts tg hI ((xs (i + 1)))) (cwV 1 hts gL_law_X2_at rfl rfl rfl (by decide +kernel) ⟨Nat.le_of_ble_eq_true rfl, Nat.le_of_ble_eq_true rfl⟩) (q_preV hK hM hM.1 rfl) rfl rfl hl.1 rfl (lv_room (Nat.le_of_ble_eq_true rfl)) dL_law_638 ⟨by show 8 + 3 * i + 0 ≤ 600000; omega, by show 700 + 14 * i + 0 ≤ 7302250; omega⟩) rfl ?_
  refine lv_icmp_eq (tgt := 695) hx hb dL_law_641 (by decide) (fun _ => ?_) (fun c_1 => absurd rfl c_1)
  refine W.widen (k := 8 + 3 * (i + 5)) (n := 700 + 14 * (i + 5)) (by omega) (by omega) ?_
  exact kk _ _ _ hI hX hM hS
set_option maxHeartbeats 4000000 in
set_option maxRecDepth 100000 in
theorem law_case_14 {p : Program} {l : Launch} {e : Env} {s : State} {m : MethodId} {below : List Frame} {meth : Method} {c : Code} {E : q_E} {b L x : Nat} {xs : Nat → Int32} (hL : L ≤ 2560) (C0 : lw_At p s m meth c b L xs) (hK : q_K E s) (hN : q_N s) (hx0 : s.heap.size ≤ x) (i : Nat) (hi : i + 5 ≤ L) (n : Nat) (kd sz : Nat → Nat) (sh : Nat → Bool) (nu : Nat → Nat → Int64) (pa : Nat → Nat → Option Nat) (sl : Nat → Option Nat) (ft tn ts tg : Int32) (hI : q_I (n, kd, sz, sh, nu, pa, sl, ft, tn, ts, tg)) {H : Heap} {locs : List Loc} (hX : q_X E x (x + 8) (n, kd, sz, sh, nu, pa, sl, ft, tn, ts, tg) H) (hM : q_M E (x + 2) H.size (n, kd, sz, sh, nu, pa, sl, ft, tn, ts, tg) H) (hS : va_S (fun q : Nat => s.heap.size ≤ q) s.heap H locs) {ls : Array Slot} (hl : lv_has ls 4 [(0, .ref b), (1, .ref x), (2, .ref (x + 2)), (3, .int (nI i))])
    (kk : ∀ (σ2 : q_St) (H1 : Heap) (locs1 : List Loc), q_I σ2 → q_X E x (x + 8) σ2 H1 → q_M E (x + 2) H1.size σ2 H1 → va_S (fun q : Nat => s.heap.size ≤ q) s.heap H1 locs1 → W p l e room_1 s m #[Value.ref b] below meth c H1 locs1 (8 + 3 * (i + 5)) (700 + 14 * (i + 5)) (lw_Z below #[Value.ref b] s) (F0 m 695 ls [])) : W p l e room_1 s m #[Value.ref b] below meth c H locs (8 + 3 * i) (700 + 14 * i) (lw_Z below #[Value.ref b] s) (F0 m 646 ls []) := by
  obtain ⟨hx, hb, hr, hml, hown, hts0, hXs, hbl, hlocks, hgv⟩ := C0
  have hts : ∀ w ∈ wsL_law, w.before #[Value.ref b] s = true := fun w h => hts0 w (wsL_law_in w h)
  have hown : s.vm.findClass RL = some m.cls := hown
  have hbA : ¬ (fun q : Nat => s.heap.size ≤ q) b := Nat.not_le.mpr hbl
  refine lv_aload_n hx hb dL_law_646 rfl (lv_at hl 1 rfl) ?_
  refine qc_ri (r1 := ft) (W.runV (As := []) (rest := []) ⟨hx, hb, hml, hown, hts⟩ (kX1_fault l E x (x + 8) n kd sz sh nu pa sl ft tn ts tg hI ) (cwV 0 hts gL_law_X1_fault rfl rfl rfl (by decide +kernel) ⟨Nat.le_of_ble_eq_true rfl, Nat.le_of_ble_eq_true rfl⟩) (q_preV hK hX hX.1 rfl) rfl rfl hl.1 rfl (lv_room (Nat.le_of_ble_eq_true rfl)) dL_law_647 ⟨by show 8 + 3 * i + 0 ≤ 600000; omega, by show 700 + 14 * i + 0 ≤ 7302250; omega⟩) rfl ?_
  refine lv_aload_n hx hb dL_law_650 rfl (lv_at hl 2 rfl) ?_
  refine qc_ri (r1 := ft) (W.runV (As := []) (rest := [.int ft]) ⟨hx, hb, hml, hown, hts⟩ (kX2_fault l E (x + 2) (Array.size H) n kd sz sh nu pa sl ft tn ts tg hI ) (cwV 0 hts gL_law_X2_fault rfl rfl rfl (by decide +kernel) ⟨Nat.le_of_ble_eq_true rfl, Nat.le_of_ble_eq_true rfl⟩) (q_preV hK hM hM.1 rfl) rfl rfl hl.1 rfl (lv_room (Nat.le_of_ble_eq_true rfl)) dL_law_651 ⟨by show 8 + 3 * i + 0 ≤ 600000; omega, by show 700 + 14 * i + 0 ≤ 7302250; omega⟩) rfl ?_
  refine lv_icmp_eq (tgt := 695) hx hb dL_law_654 (by decide) (fun _ => ?_) (fun c_1 => absurd rfl c_1)
  refine W.widen (k := 8 + 3 * (i + 5)) (n := 700 + 14 * (i + 5)) (by omega) (by omega) ?_
  exact kk _ _ _ hI hX hM hS
set_option maxHeartbeats 4000000 in
set_option maxRecDepth 100000 in
theorem law_case_15 {p : Program} {l : Launch} {e : Env} {s : State} {m : MethodId} {below : List Frame} {meth : Method} {c : Code} {E : q_E} {b L x : Nat} {xs : Nat → Int32} (hL : L ≤ 2560) (C0 : lw_At p s m meth c b L xs) (hK : q_K E s) (hN : q_N s) (hx0 : s.heap.size ≤ x) (i : Nat) (hi : i + 5 ≤ L) (n : Nat) (kd sz : Nat → Nat) (sh : Nat → Bool) (nu : Nat → Nat → Int64) (pa : Nat → Nat → Option Nat) (sl : Nat → Option Nat) (ft tn ts tg : Int32) (hI : q_I (n, kd, sz, sh, nu, pa, sl, ft, tn, ts, tg)) {H : Heap} {locs : List Loc} (hX : q_X E x (x + 8) (n, kd, sz, sh, nu, pa, sl, ft, tn, ts, tg) H) (hM : q_M E (x + 2) H.size (n, kd, sz, sh, nu, pa, sl, ft, tn, ts, tg) H) (hS : va_S (fun q : Nat => s.heap.size ≤ q) s.heap H locs) {ls : Array Slot} (hl : lv_has ls 4 [(0, .ref b), (1, .ref x), (2, .ref (x + 2)), (3, .int (nI i))])
    (kk : ∀ (σ2 : q_St) (H1 : Heap) (locs1 : List Loc), q_I σ2 → q_X E x (x + 8) σ2 H1 → q_M E (x + 2) H1.size σ2 H1 → va_S (fun q : Nat => s.heap.size ≤ q) s.heap H1 locs1 → W p l e room_1 s m #[Value.ref b] below meth c H1 locs1 (8 + 3 * (i + 5)) (700 + 14 * (i + 5)) (lw_Z below #[Value.ref b] s) (F0 m 695 ls [])) : W p l e room_1 s m #[Value.ref b] below meth c H locs (8 + 3 * i) (700 + 14 * i) (lw_Z below #[Value.ref b] s) (F0 m 659 ls []) := by
  obtain ⟨hx, hb, hr, hml, hown, hts0, hXs, hbl, hlocks, hgv⟩ := C0
  have hts : ∀ w ∈ wsL_law, w.before #[Value.ref b] s = true := fun w h => hts0 w (wsL_law_in w h)
  have hown : s.vm.findClass RL = some m.cls := hown
  have hbA : ¬ (fun q : Nat => s.heap.size ≤ q) b := Nat.not_le.mpr hbl
  refine lv_aload_n hx hb dL_law_659 rfl (lv_at hl 1 rfl) ?_
  refine lv_aload_n hx hb dL_law_660 rfl (lv_at hl 0 rfl) ?_
  refine lv_iload_n hx hb dL_law_661 rfl (lv_at hl 3 rfl) ?_
  refine lv_iconst (v := nI 1) hx hb dL_law_662 (by decide) ?_
  refine ln_add hx hb dL_law_663 ?_
  refine qw_sld hx hb hXs hbl hbA hS (show i + 1 < L by omega) (by omega) dL_law_664 ?_
  refine qc_ri (r1 := f_told (n, kd, sz, sh, nu, pa, sl, ft, tn, ts, tg) ((xs (i + 1)))) (W.runV (As := [.int (xs (i + 1))]) (rest := []) ⟨hx, hb, hml, hown, hts⟩ (kX1_told l E x (x + 8) n kd sz sh nu pa sl ft tn ts tg hI ((xs (i + 1)))) (cwV 1 hts gL_law_X1_told rfl rfl rfl (by decide +kernel) ⟨Nat.le_of_ble_eq_true rfl, Nat.le_of_ble_eq_true rfl⟩) (q_preV hK hX hX.1 rfl) rfl rfl hl.1 rfl (lv_room (Nat.le_of_ble_eq_true rfl)) dL_law_665 ⟨by show 8 + 3 * i + 0 ≤ 600000; omega, by show 700 + 14 * i + 0 ≤ 7302250; omega⟩) rfl ?_
  refine lv_aload_n hx hb dL_law_668 rfl (lv_at hl 2 rfl) ?_
  refine lv_aload_n hx hb dL_law_669 rfl (lv_at hl 0 rfl) ?_
  refine lv_iload_n hx hb dL_law_670 rfl (lv_at hl 3 rfl) ?_
  refine lv_iconst (v := nI 1) hx hb dL_law_671 (by decide) ?_
  refine ln_add hx hb dL_law_672 ?_
  refine qw_sld hx hb hXs hbl hbA hS (show i + 1 < L by omega) (by omega) dL_law_673 ?_
  refine qc_ri (r1 := f_told (n, kd, sz, sh, nu, pa, sl, ft, tn, ts, tg) ((xs (i + 1)))) (W.runV (As := [.int (xs (i + 1))]) (rest := [.int (f_told (n, kd, sz, sh, nu, pa, sl, ft, tn, ts, tg) ((xs (i + 1))))]) ⟨hx, hb, hml, hown, hts⟩ (kX2_told l E (x + 2) (Array.size H) n kd sz sh nu pa sl ft tn ts tg hI ((xs (i + 1)))) (cwV 1 hts gL_law_X2_told rfl rfl rfl (by decide +kernel) ⟨Nat.le_of_ble_eq_true rfl, Nat.le_of_ble_eq_true rfl⟩) (q_preV hK hM hM.1 rfl) rfl rfl hl.1 rfl (lv_room (Nat.le_of_ble_eq_true rfl)) dL_law_674 ⟨by show 8 + 3 * i + 0 ≤ 600000; omega, by show 700 + 14 * i + 0 ≤ 7302250; omega⟩) rfl ?_
  refine lv_icmp_eq (tgt := 695) hx hb dL_law_677 (by decide) (fun _ => ?_) (fun c_1 => absurd rfl c_1)
  refine W.widen (k := 8 + 3 * (i + 5)) (n := 700 + 14 * (i + 5)) (by omega) (by omega) ?_
  exact kk _ _ _ hI hX hM hS
set_option maxHeartbeats 4000000 in
set_option maxRecDepth 100000 in
theorem law_case_16 {p : Program} {l : Launch} {e : Env} {s : State} {m : MethodId} {below : List Frame} {meth : Method} {c : Code} {E : q_E} {b L x : Nat} {xs : Nat → Int32} (hL : L ≤ 2560) (C0 : lw_At p s m meth c b L xs) (hK : q_K E s) (hN : q_N s) (hx0 : s.heap.size ≤ x) (i : Nat) (hi : i + 5 ≤ L) (n : Nat) (kd sz : Nat → Nat) (sh : Nat → Bool) (nu : Nat → Nat → Int64) (pa : Nat → Nat → Option Nat) (sl : Nat → Option Nat) (ft tn ts tg : Int32) (hI : q_I (n, kd, sz, sh, nu, pa, sl, ft, tn, ts, tg)) {H : Heap} {locs : List Loc} (hX : q_X E x (x + 8) (n, kd, sz, sh, nu, pa, sl, ft, tn, ts, tg) H) (hM : q_M E (x + 2) H.size (n, kd, sz, sh, nu, pa, sl, ft, tn, ts, tg) H) (hS : va_S (fun q : Nat => s.heap.size ≤ q) s.heap H locs) {ls : Array Slot} (hl : lv_has ls 4 [(0, .ref b), (1, .ref x), (2, .ref (x + 2)), (3, .int (nI i))])
    (kk : ∀ (σ2 : q_St) (H1 : Heap) (locs1 : List Loc), q_I σ2 → q_X E x (x + 8) σ2 H1 → q_M E (x + 2) H1.size σ2 H1 → va_S (fun q : Nat => s.heap.size ≤ q) s.heap H1 locs1 → W p l e room_1 s m #[Value.ref b] below meth c H1 locs1 (8 + 3 * (i + 5)) (700 + 14 * (i + 5)) (lw_Z below #[Value.ref b] s) (F0 m 695 ls [])) : W p l e room_1 s m #[Value.ref b] below meth c H locs (8 + 3 * i) (700 + 14 * i) (lw_Z below #[Value.ref b] s) (F0 m 682 ls []) := by
  obtain ⟨hx, hb, hr, hml, hown, hts0, hXs, hbl, hlocks, hgv⟩ := C0
  have hts : ∀ w ∈ wsL_law, w.before #[Value.ref b] s = true := fun w h => hts0 w (wsL_law_in w h)
  have hown : s.vm.findClass RL = some m.cls := hown
  have hbA : ¬ (fun q : Nat => s.heap.size ≤ q) b := Nat.not_le.mpr hbl
  refine lv_aload_n hx hb dL_law_682 rfl (lv_at hl 1 rfl) ?_
  refine qc_ri (r1 := nI n) (W.runV (As := []) (rest := []) ⟨hx, hb, hml, hown, hts⟩ (kX1_count l E x (x + 8) n kd sz sh nu pa sl ft tn ts tg hI ) (cwV 0 hts gL_law_X1_count rfl rfl rfl (by decide +kernel) ⟨Nat.le_of_ble_eq_true rfl, Nat.le_of_ble_eq_true rfl⟩) (q_preV hK hX hX.1 rfl) rfl rfl hl.1 rfl (lv_room (Nat.le_of_ble_eq_true rfl)) dL_law_683 ⟨by show 8 + 3 * i + 0 ≤ 600000; omega, by show 700 + 14 * i + 0 ≤ 7302250; omega⟩) rfl ?_
  refine lv_aload_n hx hb dL_law_686 rfl (lv_at hl 2 rfl) ?_
  refine qc_ri (r1 := nI n) (W.runV (As := []) (rest := [.int (nI n)]) ⟨hx, hb, hml, hown, hts⟩ (kX2_count l E (x + 2) (Array.size H) n kd sz sh nu pa sl ft tn ts tg hI ) (cwV 0 hts gL_law_X2_count rfl rfl rfl (by decide +kernel) ⟨Nat.le_of_ble_eq_true rfl, Nat.le_of_ble_eq_true rfl⟩) (q_preV hK hM hM.1 rfl) rfl rfl hl.1 rfl (lv_room (Nat.le_of_ble_eq_true rfl)) dL_law_687 ⟨by show 8 + 3 * i + 0 ≤ 600000; omega, by show 700 + 14 * i + 0 ≤ 7302250; omega⟩) rfl ?_
  refine lv_icmp_eq (tgt := 695) hx hb dL_law_690 (by decide) (fun _ => ?_) (fun c_1 => absurd rfl c_1)
  refine W.widen (k := 8 + 3 * (i + 5)) (n := 700 + 14 * (i + 5)) (by omega) (by omega) ?_
  exact kk _ _ _ hI hX hM hS
