/-! LAYER 2. Floats: their values in units of 2^-149, no NaN, the lights and what is wanted -/
abbrev fz (a : UInt32) : Int := FP.Core.zval FP.Core.b32 (FP.Core.val32 a)
abbrev fF (a : UInt32) : Prop := FP.Core.FFin a
abbrev fw_m (K : Nat) (a : UInt32) : Prop := a.toNat % 2 ^ 31 < K * 2 ^ 23
theorem fq_nn {r : UInt32} (h : FP.fIsNaN r = false) : os_nn r := by
  have h1 : ¬ (2139095040 < r.toNat % 2 ^ 31) := fun z => by
    have := (FP.Core.isNaN_bits32 r).mpr z
    rw [show FP.Core.fIsNaN r = FP.fIsNaN r from rfl, h] at this
    cases this
  show r &&& 0x7fffffff ≤ 0x7f800000
  rw [UInt32.le_iff_toNat_le, FP.Core.mask_toNat32]
  show r.toNat % 2 ^ 31 ≤ 2139095040
  omega
theorem fq_nnF {r : UInt32} (h : fF r) : os_nn r := fq_nn h.notNaN
theorem fw_F {K : Nat} {a : UInt32} (h : fw_m K a) (hK : K ≤ 255) : fF a := FP.Core.fin_of_lt32 h hK
theorem fw_le {K L : Nat} {a : UInt32} (h : fw_m K a) (hL : K ≤ L) : fw_m L a := Nat.lt_of_lt_of_le h (Nat.mul_le_mul_right _ hL)
theorem fw_add {K : Nat} {a b : UInt32} (ha : fw_m K a) (hb : fw_m K b) (hK : K ≤ 255) : fw_m (K + 2) (FP.fadd a b) := FP.Core.fadd_mag ha hb hK
theorem fw_sub {K : Nat} {a b : UInt32} (ha : fw_m K a) (hb : fw_m K b) (hK : K ≤ 255) : fw_m (K + 2) (FP.fsub a b) := FP.Core.fsub_mag ha hb hK
theorem fq_add {a b : UInt32} (ha : fF a) (hb : fF b) : os_nn (FP.fadd a b) := fq_nn (FP.Core.fadd_out ha.notNaN hb)
theorem fq_sub {a b : UInt32} (ha : fF a) (hb : fF b) : os_nn (FP.fsub a b) := fq_nn (FP.Core.fsub_out ha.notNaN hb)
theorem fq_mul {a b : UInt32} (ha : fF a) (hb : fF b) : os_nn (FP.fmul a b) := fq_nn (FP.Core.fmul_out ha hb)
theorem fq_div {a b : UInt32} (ha : fF a) (hb : fF b) (hz : ¬ FP.Core.FZero b) : os_nn (FP.fdiv a b) := fq_nn (FP.Core.fdiv_out ha.notNaN hb hz)
/-- compares, as the bytecode has them -/
theorem cq_geg (r : Option Ordering) : (0 ≤ Op.cmpValue r CmpOp.g) = (r ≠ some .lt) := by rcases r with _ | (_ | _ | _) <;> simp [Op.cmpValue] <;> decide
theorem cq_gtg (r : Option Ordering) : (0 < Op.cmpValue r CmpOp.g) = (r = some .gt ∨ r = none) := by rcases r with _ | (_ | _ | _) <;> simp [Op.cmpValue] <;> decide
theorem cq_lel (r : Option Ordering) : (Op.cmpValue r CmpOp.l ≤ 0) = (r ≠ some .gt) := by rcases r with _ | (_ | _ | _) <;> simp [Op.cmpValue] <;> decide
theorem cq_ltl (r : Option Ordering) : (Op.cmpValue r CmpOp.l < 0) = (r = some .lt ∨ r = none) := by rcases r with _ | (_ | _ | _) <;> simp [Op.cmpValue] <;> decide
theorem cq_eql (r : Option Ordering) : (Op.cmpValue r CmpOp.l = 0) = (r = some .eq) := by rcases r with _ | (_ | _ | _) <;> simp [Op.cmpValue] <;> decide
theorem fq_lt {a b : UInt32} (ha : fF a) (hb : fF b) : (FP.fcmp a b = some .lt) = (fz a < fz b) :=
  propext ((FP.Core.fcmp_lt (a := a) (b := b)).trans ⟨fun h => h.2.2, fun h => ⟨ha.ne_nan, hb.ne_nan, h⟩⟩)
theorem fq_gt {a b : UInt32} (ha : fF a) (hb : fF b) : (FP.fcmp a b = some .gt) = (fz b < fz a) :=
  propext ((FP.Core.fcmp_gt (a := a) (b := b)).trans ⟨fun h => h.2.2, fun h => ⟨ha.ne_nan, hb.ne_nan, h⟩⟩)
theorem fq_none {a b : UInt32} (ha : fF a) (hb : fF b) : (FP.fcmp a b = none) = False :=
  eq_false fun h => by rcases (FP.Core.fcmp_none a b).mp h with h | h; exact ha.ne_nan h; exact hb.ne_nan h
theorem fq_0 : fF FP.fconst0 := ⟨_, _, _, FP.Core.val32_fconst0⟩
theorem fz_0 : fz FP.fconst0 = 0 := FP.Core.zval32_zero
theorem fq_tiny : fz (0x80000001 : UInt32) = -1 := by decide +kernel
theorem fq_tinyF : FP.Core.val32 (0x80000001 : UInt32) ≠ .nan := by decide +kernel
theorem fq_neF {a : UInt32} (h : fF a) : ∃ s c q, FP.Core.negate (FP.Core.val32 a) = .fin s c q := by
  obtain ⟨s, c, q, h⟩ := h
  exact ⟨!s, c, q, by rw [h]; rfl⟩
theorem fz_sub_le {a b V : UInt32} (ha : fF a) (hb : fF b) (hV : FP.Core.val32 V ≠ .nan) (h : fz a - fz b ≤ fz V) : fz (FP.fsub a b) ≤ fz V := by
  show FP.Core.zval _ (FP.Core.val32 (FP.Core.fsub a b)) ≤ _
  rw [FP.Core.val32_fsub]
  exact FP.Core.sum_le FP.Core.good_b32 ha (fq_neF hb) (FP.Core.val32_fits a) (FP.Core.negate_fits (FP.Core.val32_fits b)) (FP.Core.val32_fits V) hV (by rw [FP.Core.zval_negate]; have h1 : fz a - fz b ≤ fz V := h; unfold fz at h1; omega)
theorem fz_sub_ge {a b V : UInt32} (ha : fF a) (hb : fF b) (hV : FP.Core.val32 V ≠ .nan) (h : fz V ≤ fz a - fz b) : fz V ≤ fz (FP.fsub a b) := by
  show _ ≤ FP.Core.zval _ (FP.Core.val32 (FP.Core.fsub a b))
  rw [FP.Core.val32_fsub]
  exact FP.Core.sum_ge FP.Core.good_b32 ha (fq_neF hb) (FP.Core.val32_fits a) (FP.Core.negate_fits (FP.Core.val32_fits b)) (FP.Core.val32_fits V) hV (by rw [FP.Core.zval_negate]; have h1 : fz V ≤ fz a - fz b := h; unfold fz at h1; omega)
theorem fz_add_le {a b V : UInt32} (ha : fF a) (hb : fF b) (hV : FP.Core.val32 V ≠ .nan) (h : fz a + fz b ≤ fz V) : fz (FP.fadd a b) ≤ fz V := by
  show FP.Core.zval _ (FP.Core.val32 (FP.Core.fadd a b)) ≤ _
  rw [FP.Core.val32_fadd]
  exact FP.Core.sum_le FP.Core.good_b32 ha hb (FP.Core.val32_fits a) (FP.Core.val32_fits b) (FP.Core.val32_fits V) hV h
theorem fz_add_ge {a b V : UInt32} (ha : fF a) (hb : fF b) (hV : FP.Core.val32 V ≠ .nan) (h : fz V ≤ fz a + fz b) : fz V ≤ fz (FP.fadd a b) := by
  show _ ≤ FP.Core.zval _ (FP.Core.val32 (FP.Core.fadd a b))
  rw [FP.Core.val32_fadd]
  exact FP.Core.sum_ge FP.Core.good_b32 ha hb (FP.Core.val32_fits a) (FP.Core.val32_fits b) (FP.Core.val32_fits V) hV h
/-- a difference is below 0 just where the one is below the other -/
theorem fz_sub_neg {a b : UInt32} (ha : fF a) (hb : fF b) : (fz (FP.fsub a b) < 0) = (fz a < fz b) := by
  refine propext ⟨fun h => ?_, fun h => ?_⟩
  · refine Int.not_le.mp fun z => ?_
    have := fz_sub_ge (V := FP.fconst0) ha hb fq_0.ne_nan (by rw [fz_0]; omega)
    rw [fz_0] at this
    omega
  · have := fz_sub_le (V := 0x80000001) ha hb fq_tinyF (by rw [fq_tiny]; omega)
    rw [fq_tiny] at this
    omega
theorem fq_negsum {x y : FP.Core.Datum} (hx : FP.Core.fits FP.Core.b32 x) (hy : FP.Core.fits FP.Core.b32 y) (fx : ∃ s c q, x = .fin s c q) (fy : ∃ s c q, y = .fin s c q) (h : FP.Core.zval FP.Core.b32 x ≠ FP.Core.zval FP.Core.b32 y) : FP.Core.negate (FP.Core.exactSum x (FP.Core.negate y)) = FP.Core.exactSum y (FP.Core.negate x) := by
  obtain ⟨s, c, q, rfl⟩ := fx
  obtain ⟨t, d, r, rfl⟩ := fy
  have hv : FP.Core.sumUnits s c q (!t) d r (min q r) ≠ 0 := by
    intro z
    obtain ⟨sg, n, e, h1, h2, h3⟩ := FP.Core.sum_units hx (FP.Core.negate_fits hy)
    have h4 : FP.Core.exactSum (.fin s c q) (FP.Core.negate (.fin t d r)) = .fin (FP.Core.sumSign s (!t) (FP.Core.sumUnits s c q (!t) d r (min q r))) (FP.Core.sumUnits s c q (!t) d r (min q r)).natAbs (min q r) := rfl
    have h5 : FP.Core.exactSum (.fin s c q) (FP.Core.negate (.fin t d r)) = .fin sg n e := h1
    rw [h4, z] at h5
    injection h5 with e1 e2 e3
    have h6 : FP.Core.signed sg (FP.Core.inUnits n e FP.Core.b32.qmin) = FP.Core.zval FP.Core.b32 (.fin s c q) + FP.Core.zval FP.Core.b32 (FP.Core.negate (.fin t d r)) := h3
    rw [FP.Core.zval_negate, ← e2] at h6
    have h7 : FP.Core.signed sg (FP.Core.inUnits (Int.natAbs 0) e FP.Core.b32.qmin) = 0 := by
      unfold FP.Core.inUnits
      simp [FP.Core.signed]
    rw [h7] at h6
    exact h (by omega)
  have hs : FP.Core.sumUnits t d r (!s) c q (min r q) = -FP.Core.sumUnits s c q (!t) d r (min q r) := by
    unfold FP.Core.sumUnits
    rw [Int.min_comm r q]
    generalize FP.Core.inUnits c q (min q r) = u
    generalize FP.Core.inUnits d r (min q r) = v
    cases s <;> cases t <;> simp [FP.Core.signed] <;> omega
  show FP.Core.Datum.fin (!(FP.Core.sumSign s (!t) (FP.Core.sumUnits s c q (!t) d r (min q r)))) (FP.Core.sumUnits s c q (!t) d r (min q r)).natAbs (min q r) = FP.Core.Datum.fin (FP.Core.sumSign t (!s) (FP.Core.sumUnits t d r (!s) c q (min r q))) (FP.Core.sumUnits t d r (!s) c q (min r q)).natAbs (min r q)
  rw [hs, Int.min_comm r q, Int.natAbs_neg]
  generalize FP.Core.sumUnits s c q (!t) d r (min q r) = v at *
  have e : (!FP.Core.sumSign s (!t) v) = FP.Core.sumSign t (!s) (-v) := by
    unfold FP.Core.sumSign
    rw [if_neg hv, if_neg (by omega)]
    by_cases hl : v < 0
    · rw [decide_eq_true hl, decide_eq_false (by omega)]; rfl
    · rw [decide_eq_false hl, decide_eq_true (by omega)]; rfl
  rw [e]
theorem fq_sub_val {a b : UInt32} (ha : fF a) (hb : fF b) (h : fz a ≠ fz b) : FP.Core.val32 (FP.fsub b a) = FP.Core.negate (FP.Core.val32 (FP.fsub a b)) := by
  show FP.Core.val32 (FP.Core.fsub b a) = FP.Core.negate (FP.Core.val32 (FP.Core.fsub a b))
  rw [FP.Core.val32_fsub, FP.Core.val32_fsub, FP.Core.negate_round, fq_negsum (FP.Core.val32_fits a) (FP.Core.val32_fits b) ha hb h]
theorem fq_neg0 {v : UInt32} (hn : FP.Core.val32 v ≠ .nan) (h : fz v ≠ 0) : FP.fsub FP.fconst0 v = FP.Core.fneg v := by
  show FP.Core.fsub FP.Core.fconst0 v = FP.Core.fneg v
  rw [FP.Core.fsub_eq, FP.Core.fadd_comm]
  refine FP.Core.fadd_zero ?_ ?_
  · rw [FP.Core.val32_fneg]; exact FP.Core.negate_ne_nan hn
  · intro e
    have h1 : FP.Core.val32 (FP.Core.fneg v) = .fin true 0 FP.Core.b32.qmin := by rw [e]; exact FP.Core.val32_fzeroNeg
    rw [FP.Core.val32_fneg] at h1
    have h2 := FP.Core.zval_negate FP.Core.b32 (FP.Core.val32 v)
    rw [h1] at h2
    have h3 : FP.Core.zval FP.Core.b32 (.fin true 0 FP.Core.b32.qmin) = 0 := by decide +kernel
    rw [h3] at h2
    exact h (by unfold fz; omega)
/-- the distance of two floats: what the class and the reference make of it -/
def fq_d (a b : UInt32) : UInt32 := if fz a < fz b then FP.fsub b a else FP.fsub a b
theorem fq_dF {K : Nat} {a b : UInt32} (ha : fw_m K a) (hb : fw_m K b) (hK : K ≤ 255) : fw_m (K + 2) (fq_d a b) := by
  unfold fq_d
  split
  · exact fw_sub hb ha hK
  · exact fw_sub ha hb hK
theorem fq_d0 {a b : UInt32} (ha : fF a) (hb : fF b) : 0 ≤ fz (fq_d a b) := by
  unfold fq_d
  split
  · have := fz_sub_ge (V := FP.fconst0) hb ha fq_0.ne_nan (by rw [fz_0]; omega)
    rwa [fz_0] at this
  · have := fz_sub_ge (V := FP.fconst0) ha hb fq_0.ne_nan (by rw [fz_0]; omega)
    rwa [fz_0] at this
theorem fq_distC {N : Nat} {a b : UInt32} (ha : fF a) (hb : fF b) : ff_X5_distance N a b = some (fq_d a b) := by
  unfold ff_X5_distance fq_d
  simp only [cq_geg, ne_eq, fq_lt ha hb]
  by_cases h : fz a < fz b
  · rw [if_neg (fun z => z h), if_pos (fq_sub hb ha), if_pos h]
  · rw [if_pos h, if_pos (fq_sub ha hb), if_neg h]
/-- the absolute value: 0 less it, where it is below 0 -/
def fq_a (v : UInt32) : UInt32 := if fz v < 0 then FP.Core.fneg v else v
theorem fq_negF {v : UInt32} (h : fF v) : fF (FP.Core.fneg v) := by
  obtain ⟨s, c, q, h⟩ := h
  exact ⟨!s, c, q, by rw [FP.Core.val32_fneg, h]; rfl⟩
theorem fq_aF {v : UInt32} (h : fF v) : fF (fq_a v) := by
  unfold fq_a
  split
  · exact fq_negF h
  · exact h
theorem fq_a0 {v : UInt32} : 0 ≤ fz (fq_a v) := by
  unfold fq_a
  split
  · rename_i h
    have h2 := FP.Core.zval_negate FP.Core.b32 (FP.Core.val32 v)
    show 0 ≤ FP.Core.zval _ (FP.Core.val32 (FP.Core.fneg v))
    rw [FP.Core.val32_fneg, h2]
    have h1 : FP.Core.zval FP.Core.b32 (FP.Core.val32 v) < 0 := h
    omega
  · omega
theorem fq_aD {a b : UInt32} (ha : fF a) (hb : fF b) : fq_a (FP.fsub a b) = fq_d a b := by
  unfold fq_a fq_d
  simp only [fz_sub_neg ha hb]
  by_cases h : fz a < fz b
  · rw [if_pos h, if_pos h]
    refine FP.Core.val32_inj ?_ ?_
    · rw [FP.Core.val32_fneg]
      exact FP.Core.negate_ne_nan ((FP.Core.notNaN_iff32 _).mp (FP.Core.fsub_out ha.notNaN hb))
    · rw [FP.Core.val32_fneg]
      exact (fq_sub_val ha hb (by omega)).symm
  · rw [if_neg h, if_neg h]
theorem fq_fneg {v : UInt32} (h : fF v) : FP.fneg v = FP.Core.fneg v := FP.fneg_core h.notNaN
/-! The light of a height, what is wanted by a tone -/
def fl_f (g : Nat) : UInt32 := FP.fdiv (FP.i2f (Int32.ofInt g)) 1120403456
def fl_l (g : Nat) : Nat → UInt32
  | 0 => FP.fconst1
  | k + 1 => FP.fmul (fl_l g k) (fl_f g)
def fl_w (t : Nat) : UInt32 := FP.fdiv (FP.i2f (Int32.ofInt t)) 1132396544
def fl_good (l : UInt32) : Bool := decide (l.toNat ≤ 1065353216) && (decide (469762048 ≤ l.toNat) && decide ((FP.fmul l 1082130432).toNat ≤ 1082130432))
def fl_ok (f : UInt32) : Nat → UInt32 → Bool
  | 0, l => fl_good l
  | n + 1, l => fl_good l && fl_ok f n (FP.fmul l f)
set_option maxRecDepth 100000 in
theorem fl_all : (List.range 90).all (fun g => decide ((fl_f (g + 10)).toNat ≤ 1065353216) && fl_ok (fl_f (g + 10)) 21 FP.fconst1) = true := by decide +kernel
set_option maxRecDepth 100000 in
theorem fw_all : (List.range 256).all (fun t => decide ((fl_w t).toNat ≤ 1065353216)) = true := by decide +kernel
theorem fl_okk {g : Nat} : ∀ (n k : Nat), fl_ok (fl_f g) n (fl_l g k) = true → ∀ j, j ≤ n → fl_good (fl_l g (k + j)) = true := by
  intro n
  induction n with
  | zero => intro k h j hj; obtain rfl := Nat.le_zero.mp hj; exact h
  | succ n ih =>
    intro k h j hj
    have h2 := (Bool.and_eq_true _ _).mp h
    rcases j with _ | j
    · exact h2.1
    · have := ih (k + 1) h2.2 j (by omega)
      rwa [show k + 1 + j = k + (j + 1) by omega] at this
theorem fl_g {g : Nat} (h1 : 10 ≤ g) (h2 : g ≤ 99) : (fl_f g).toNat ≤ 1065353216 ∧ ∀ k, k ≤ 21 → fl_good (fl_l g k) = true := by
  have h := List.all_eq_true.mp fl_all (g - 10) (List.mem_range.mpr (by omega))
  rw [show g - 10 + 10 = g by omega] at h
  have h3 := (Bool.and_eq_true _ _).mp h
  refine ⟨of_decide_eq_true h3.1, fun k hk => ?_⟩
  have := fl_okk (g := g) 21 0 h3.2 k hk
  rwa [Nat.zero_add] at this
theorem fl_b {g k : Nat} (h1 : 10 ≤ g) (h2 : g ≤ 99) (hk : k ≤ 21) : (fl_l g k).toNat ≤ 1065353216 ∧ 469762048 ≤ (fl_l g k).toNat ∧ (FP.fmul (fl_l g k) 1082130432).toNat ≤ 1082130432 := by
  have h := (Bool.and_eq_true _ _).mp ((fl_g h1 h2).2 k hk)
  have h3 := (Bool.and_eq_true _ _).mp h.2
  exact ⟨of_decide_eq_true h.1, of_decide_eq_true h3.1, of_decide_eq_true h3.2⟩
theorem fm_of {a : UInt32} {n : Nat} (h : a.toNat ≤ n) {K : Nat} (hK : n < K * 2 ^ 23) (hn : n < 2 ^ 31) : fw_m K a := by
  show a.toNat % 2 ^ 31 < _
  omega
theorem fl_m {g k : Nat} (h1 : 10 ≤ g) (h2 : g ≤ 99) (hk : k ≤ 21) : fw_m 128 (fl_l g k) := fm_of (fl_b h1 h2 hk).1 (by decide) (by decide)
theorem fl_F {g k : Nat} (h1 : 10 ≤ g) (h2 : g ≤ 99) (hk : k ≤ 21) : fF (fl_l g k) := fw_F (fl_m h1 h2 hk) (by decide)
theorem fl_fm {g : Nat} (h1 : 10 ≤ g) (h2 : g ≤ 99) : fw_m 128 (fl_f g) := fm_of (fl_g h1 h2).1 (by decide) (by decide)
theorem fl_fF {g : Nat} (h1 : 10 ≤ g) (h2 : g ≤ 99) : fF (fl_f g) := fw_F (fl_fm h1 h2) (by decide)
theorem fl_fn {g : Nat} (h1 : 10 ≤ g) (h2 : g ≤ 99) : os_nn (fl_f g) := fq_nnF (fl_fF h1 h2)
theorem fl_n {g k : Nat} (h1 : 10 ≤ g) (h2 : g ≤ 99) (hk : k ≤ 21) : os_nn (fl_l g k) := fq_nnF (fl_F h1 h2 hk)
theorem fl_wb {t : Nat} (ht : t ≤ 255) : (fl_w t).toNat ≤ 1065353216 := of_decide_eq_true (List.all_eq_true.mp fw_all t (List.mem_range.mpr (by omega)))
theorem fl_wm {t : Nat} (ht : t ≤ 255) : fw_m 128 (fl_w t) := fm_of (fl_wb ht) (by decide) (by decide)
theorem fl_wF {t : Nat} (ht : t ≤ 255) : fF (fl_w t) := fw_F (fl_wm ht) (by decide)
theorem fl_wn {t : Nat} (ht : t ≤ 255) : os_nn (fl_w t) := fq_nnF (fl_wF ht)
