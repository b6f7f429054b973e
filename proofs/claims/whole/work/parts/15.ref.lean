/-! ===== words for the reference's walks ===== -/
def q_fh (b : Bool) (ft : Int32) : Int32 := if b then nI 4 else ft
def q_so (kd sz : Nat → Nat) (nu : Nat → Nat → Int64) (t : Nat) : Int64 := if kd t = 2 then q_num kd sz nu t else Int32.toInt64 (Int64.toInt32 (q_num kd sz nu t))
theorem q_fh_n {p : Nat → Option Nat} {i : Nat} {ft : Int32} (h : p i = none) : q_fh (q_h1 p (i + 1)) ft = nI 4 := by simp [q_fh, q_h1, h]
theorem q_fh_s {p : Nat → Option Nat} {i j : Nat} (h : p i = some j) : q_h1 p (i + 1) = q_h1 p i := by simp [q_h1, h]
theorem q_fh2_n {g : Nat → Bool} {p : Nat → Option Nat} {i : Nat} {ft : Int32} (h : p i = none) : q_fh (q_h2 g p (i + 1)) ft = nI 4 := by simp [q_fh, q_h2, h]
theorem q_fh2_s {g : Nat → Bool} {p : Nat → Option Nat} {i j : Nat} {ft : Int32} (h : p i = some j) : q_fh (q_h2 g p (i + 1)) ft = q_fh (g j) (q_fh (q_h2 g p i) ft) := by
  simp only [q_h2, h]
  cases g j <;> cases q_h2 g p i <;> rfl
theorem q_ho1_0 {kd sz : Nat → Nat} {pa : Nat → Nat → Option Nat} {t : Nat} (h : ¬ (3 ≤ kd t ∧ kd t < 9)) : q_ho1 kd sz pa t = false := by unfold q_ho1; rw [q_pl0' h]; rfl
theorem q_ho2_0 {kd sz : Nat → Nat} {pa : Nat → Nat → Option Nat} {t : Nat} (h : ¬ (3 ≤ kd t ∧ kd t < 9)) : q_ho2 kd sz pa t = false := by unfold q_ho2; rw [q_pl0' h]; rfl
theorem q_h12 {g : Nat → Bool} {p : Nat → Option Nat} (h : ∀ i j, p i = some j → g j = false) : ∀ m, q_h2 g p m = q_h1 p m := by
  intro m
  induction m with
  | zero => rfl
  | succ m ih =>
    simp only [q_h2, q_h1, ih]
    cases hp : p m with
    | none => rfl
    | some j => simp [h m j hp]
theorem q_ho12 {n : Nat} {kd sz : Nat → Nat} {sh : Nat → Bool} {nu : Nat → Nat → Int64} {pa : Nat → Nat → Option Nat} {sl : Nat → Option Nat} {ft tn ts tg : Int32} (hI : q_I (n, kd, sz, sh, nu, pa, sl, ft, tn, ts, tg)) {t : Nat} (ht : t < n) (h : 4 ≤ kd t ∧ kd t ≤ 6) : q_ho2 kd sz pa t = q_ho1 kd sz pa t := by
  unfold q_ho2 q_ho1
  refine q_h12 (fun i j hj => ?_) _
  have ho := ((hI.2.1 t ht).2.2.2 i j hj).2
  dsimp only at ho
  unfold q_ok at ho
  exact q_ho1_0 (by omega)
theorem q_ins_le {n : Nat} {kd sz : Nat → Nat} {sh : Nat → Bool} {nu : Nat → Nat → Int64} {pa : Nat → Nat → Option Nat} {sl : Nat → Option Nat} {ft tn ts tg : Int32} (hI : q_I (n, kd, sz, sh, nu, pa, sl, ft, tn, ts, tg)) (b : Bool) {t : Nat} (ht : t < n) : q_ins kd sz sh pa b t ≤ 16000000 := by
  have h0 := q_su_le (f := q_ld kd sz sh b) (p := pa t) (B := 2000000) (fun i j hj => q_ld_le (hI.2.1 j ((hI.2.1 t ht).2.2.2 i j hj).1).2.1) (q_pl (kd t) (sz t))
  have h1 : q_pl (kd t) (sz t) ≤ 8 := by
    unfold q_pl
    split
    · exact (hI.2.1 t ht).2.2.1 (by dsimp only; omega)
    · omega
  unfold q_ins
  omega
theorem q_rws_le {n : Nat} {kd sz : Nat → Nat} {sh : Nat → Bool} {nu : Nat → Nat → Int64} {pa : Nat → Nat → Option Nat} {sl : Nat → Option Nat} {ft tn ts tg : Int32} (hI : q_I (n, kd, sz, sh, nu, pa, sl, ft, tn, ts, tg)) (b : Bool) {t : Nat} (ht : t < n) : q_rws kd sz sh pa b t ≤ 128000000 := by
  have h0 := q_su_le (f := q_ins kd sz sh pa b) (p := pa t) (B := 16000000) (fun i j hj => q_ins_le hI b ((hI.2.1 t ht).2.2.2 i j hj).1) (q_pl (kd t) (sz t))
  have h1 : q_pl (kd t) (sz t) ≤ 8 := by
    unfold q_pl
    split
    · exact (hI.2.1 t ht).2.2.1 (by dsimp only; omega)
    · omega
  unfold q_rws
  omega
theorem q_l2i (x : Int32) : (Int32.toInt64 x).toInt32 = x := by simp
