/-! LAYER 2. How the reference holds a relief -/
def rp (o : os_T) (S : Nat → Nat) (T H : Int → Int → Int) : Prop :=
  (∀ i : Nat, i < 7 → os_A o 1 i = Int32.ofInt (S i)) ∧ (∀ x y : Int, 0 ≤ x → x < 16 → 0 ≤ y → y < 12 → os_A o 3 (16 * y + x).toNat = Int32.ofInt (T x y)) ∧ (∀ x y : Int, 0 ≤ x → x < 16 → 0 ≤ y → y < 12 → os_A o 4 (16 * y + x).toNat = Int32.ofInt (H x y))
/-- outside of the panel -/
def ov (S : Nat → Nat) (T H : Int → Int → Int) : Prop := ∀ x y : Int, 0 ≤ x → x < 16 → 0 ≤ y → y < 12 → ¬ ic S x y → T x y = 255 ∧ H x y = 0
theorem nw_0 : os_in (0 : Int32) 7 := by decide
theorem nw_1 : os_in (1 : Int32) 7 := by decide
theorem nw_2 : os_in (2 : Int32) 7 := by decide
theorem nw_3 : os_in (3 : Int32) 7 := by decide
theorem nw_4 : os_in (4 : Int32) 7 := by decide
theorem nw_5 : os_in (5 : Int32) 7 := by decide
theorem nw_6 : os_in (6 : Int32) 7 := by decide
theorem ij_0 : (0 : Int64) = Int64.ofInt 0 := rfl
theorem ij_1 : (1 : Int64) = Int64.ofInt 1 := rfl
theorem ij_2 : (2 : Int64) = Int64.ofInt 2 := rfl
theorem ij_3 : (3 : Int64) = Int64.ofInt 3 := rfl
theorem ij_6 : (6 : Int64) = Int64.ofInt 6 := rfl
theorem ij_20 : (20 : Int64) = Int64.ofInt 20 := rfl
theorem ij_255 : (255 : Int64) = Int64.ofInt 255 := rfl
theorem ij_m255 : (-255 : Int64) = Int64.ofInt (-255) := rfl
section RefCells
variable {N : Nat} {o : os_T} {S : Nat → Nat} {T H : Int → Int → Int}
theorem rs_0 (h : rp o S T H) : os_A o 1 (Int32.toNatClampNeg (0 : Int32)) = Int32.ofInt (S 0) := h.1 0 (by decide)
theorem rs_1 (h : rp o S T H) : os_A o 1 (Int32.toNatClampNeg (1 : Int32)) = Int32.ofInt (S 1) := h.1 1 (by decide)
theorem rs_2 (h : rp o S T H) : os_A o 1 (Int32.toNatClampNeg (2 : Int32)) = Int32.ofInt (S 2) := h.1 2 (by decide)
theorem rs_3 (h : rp o S T H) : os_A o 1 (Int32.toNatClampNeg (3 : Int32)) = Int32.ofInt (S 3) := h.1 3 (by decide)
theorem rs_4 (h : rp o S T H) : os_A o 1 (Int32.toNatClampNeg (4 : Int32)) = Int32.ofInt (S 4) := h.1 4 (by decide)
theorem rs_5 (h : rp o S T H) : os_A o 1 (Int32.toNatClampNeg (5 : Int32)) = Int32.ofInt (S 5) := h.1 5 (by decide)
theorem rs_6 (h : rp o S T H) : os_A o 1 (Int32.toNatClampNeg (6 : Int32)) = Int32.ofInt (S 6) := h.1 6 (by decide)
theorem rp_h (h : rp o S T H) (hS : sv S) {x y : Int} (c : ic S x y) : os_A o 4 (16 * y + x).toNat = Int32.ofInt (H x y) := by
  have := ic_r hS c
  exact h.2.2 x y (by omega) (by omega) (by omega) (by omega)
theorem rp_t (h : rp o S T H) (hS : sv S) {x y : Int} (c : ic S x y) : os_A o 3 (16 * y + x).toNat = Int32.ofInt (T x y) := by
  have := ic_r hS c
  exact h.2.1 x y (by omega) (by omega) (by omega) (by omega)
theorem rp_ix {x y : Int} : (16 : Int32) * Int32.ofInt y + Int32.ofInt x = Int32.ofInt (16 * y + x) := by
  rw [ii_16, ia_mul, ia_add]
theorem rp_in {x y : Int} (hS : sv S) (h : ic S x y) : os_in ((16 : Int32) * Int32.ofInt y + Int32.ofInt x) 192 := by
  have := ic_r hS h
  rw [rp_ix]
  exact ia_in (by omega) (by omega) (by omega)
theorem rp_na {x y : Int} (hS : sv S) (h : ic S x y) : Int32.toNatClampNeg ((16 : Int32) * Int32.ofInt y + Int32.ofInt x) = (16 * y + x).toNat := by
  have := ic_r hS h
  rw [rp_ix, ia_nat (by omega) (by omega)]
theorem rp_inj {x y a b : Int} (h1 : 0 ≤ x) (h2 : x < 16) (h3 : 0 ≤ a) (h4 : a < 16) (h5 : 0 ≤ y) (h6 : 0 ≤ b) (e : (16 * b + a).toNat = (16 * y + x).toNat) : a = x ∧ b = y := by omega
theorem rp_hu (h : rp o S T H) {x y v : Int} (h1 : 0 ≤ x) (h2 : x < 16) (h3 : 0 ≤ y) : rp (ss_A o 4 (upd (os_A o 4) (16 * y + x).toNat (Int32.ofInt v))) S T (hu H x y v) := by
  refine ⟨h.1, h.2.1, fun a b c1 c2 c3 c4 => ?_⟩
  show upd (os_A o 4) (16 * y + x).toNat (Int32.ofInt v) (16 * b + a).toNat = _
  unfold upd hu
  by_cases e : a = x ∧ b = y
  · rw [if_pos e, e.1, e.2, if_pos rfl]
  · rw [if_neg e, if_neg (fun z => e (rp_inj h1 h2 c1 c2 h3 c3 z)), h.2.2 a b c1 c2 c3 c4]
theorem rp_tu (h : rp o S T H) {x y v : Int} (h1 : 0 ≤ x) (h2 : x < 16) (h3 : 0 ≤ y) : rp (ss_A o 3 (upd (os_A o 3) (16 * y + x).toNat (Int32.ofInt v))) S (hu T x y v) H := by
  refine ⟨h.1, fun a b c1 c2 c3 c4 => ?_, h.2.2⟩
  show upd (os_A o 3) (16 * y + x).toNat (Int32.ofInt v) (16 * b + a).toNat = _
  unfold upd hu
  by_cases e : a = x ∧ b = y
  · rw [if_pos e, e.1, e.2, if_pos rfl]
  · rw [if_neg e, if_neg (fun z => e (rp_inj h1 h2 c1 c2 h3 c3 z)), h.2.1 a b c1 c2 c3 c4]
theorem hu_ov {x y v : Int} (h : ov S T H) (c : ic S x y) : ov S T (hu H x y v) := fun a b h1 h2 h3 h4 h5 => by
  have := h a b h1 h2 h3 h4 h5
  refine ⟨this.1, ?_⟩
  rw [hu_ne (fun z => h5 (by rw [z.1, z.2]; exact c))]
  exact this.2
theorem hu_ovT {x y v : Int} (h : ov S T H) (c : ic S x y) : ov S (hu T x y v) H := fun a b h1 h2 h3 h4 h5 => by
  have := h a b h1 h2 h3 h4 h5
  refine ⟨?_, this.2⟩
  rw [hu_ne (fun z => h5 (by rw [z.1, z.2]; exact c))]
  exact this.1
theorem rc_isIn {a b c : Int} (ha : ib a) (hb : ib b) (hc : ib c) : ff_X13_isIn N (Int64.ofInt a) (Int64.ofInt b) (Int64.ofInt c) = some (oz (decide (b ≤ a ∧ a ≤ c))) := by
  unfold ff_X13_isIn
  rw [ij_ilt ha hb, ij_igt ha hc]
  by_cases z : b ≤ a ∧ a ≤ c
  · rw [decide_eq_true z, if_neg (by omega), if_neg (by omega)]; rfl
  · rw [decide_eq_false z]
    repeat' split
    all_goals first | rfl | (exfalso; omega)
theorem rc_truth {b : Bool} : ff_X13_truth N (oz b) = some (oz b) := by cases b <;> rfl
theorem rc_truth1 : ff_X13_truth N 1 = some (oz true) := rfl
theorem rc_truth0 : ff_X13_truth N 0 = some (oz false) := rfl
theorem rc_less {a b : Int} (ha : ib a) (hb : ib b) : ff_X13_less N (Int32.ofInt a) (Int32.ofInt b) = some (Int32.ofInt (min a b)) := by
  unfold ff_X13_less
  rw [ii_le hb ha]
  split
  · rw [Int.min_eq_right (by assumption)]
  · rw [Int.min_eq_left (by omega)]
theorem rc_more {a b : Int} (ha : ib a) (hb : ib b) : ff_X13_more N (Int32.ofInt a) (Int32.ofInt b) = some (Int32.ofInt (max a b)) := by
  unfold ff_X13_more
  rw [ii_le ha hb]
  split
  · rw [Int.max_eq_right (by assumption)]
  · rw [Int.max_eq_left (by omega)]
theorem rc_far {a : Int} (ha : -2147483647 ≤ a ∧ a ≤ 2147483647) : ff_X13_far N (Int32.ofInt a) = some (Int32.ofInt (if a < 0 then -a else a)) := by
  unfold ff_X13_far
  rw [show (0 : Int32) = Int32.ofInt 0 from rfl, ii_le (by omega) (by omega), ia_sub]
  by_cases c : a < 0
  · rw [if_neg (by omega), if_pos c, Int.zero_sub]
  · rw [if_pos (by omega), if_neg c]
theorem rc_goes {b : Bool} : ff_X13_goes N o (oz b) = some (oz b, ss_I o 0 (oz (!b))) := by cases b <;> rfl
theorem rc_isCell (hS : sv S) (h : rp o S T H) {x y : Int} (hx : ib x) (hy : ib y) : ff_X13_isCell N o (Int32.ofInt x) (Int32.ofInt y) = some (oz (decide (ic S x y))) := by
  have := sv_a hS
  unfold ff_X13_isCell
  rw [if_pos nw_0, rs_0 h, ii_1, ia_sub, ia_j hx.1 hx.2, ia_j (by omega) (by omega), ij_0, rc_isIn hx (by omega) (by omega), Option.bind_some]
  by_cases c1 : 0 ≤ x ∧ x ≤ (S 0 : Int) - 1
  · rw [decide_eq_true c1, if_neg (by decide), ← ii_1, if_pos nw_1, rs_1 h, ii_1, ia_sub, ia_j hy.1 hy.2, ia_j (by omega) (by omega), rc_isIn hy (by omega) (by omega), Option.bind_some]
    by_cases c2 : 0 ≤ y ∧ y ≤ (S 1 : Int) - 1
    · rw [decide_eq_true c2, if_neg (by decide), decide_eq_true (by omega)]; rfl
    · rw [decide_eq_false c2, if_pos (by decide), decide_eq_false (by omega)]; rfl
  · rw [decide_eq_false c1, if_pos (by decide), decide_eq_false (by omega)]; rfl
theorem rc_cellMany (h : rp o S T H) : ff_X13_cellMany N o = some (Int32.ofInt (S 0 * S 1 : Nat)) := by
  unfold ff_X13_cellMany
  rw [if_pos nw_0, if_pos nw_1, rs_0 h, rs_1 h, ia_mul]
  rfl
theorem sv_wh (hS : sv S) : S 0 * S 1 ≤ 192 := by
  have := sv_a hS
  exact Nat.le_trans (Nat.mul_le_mul (show S 0 ≤ 16 by omega) (show S 1 ≤ 12 by omega)) (by decide)
theorem ia_divN {a b : Nat} (h1 : a ≤ 2147483647) (h2 : 0 < b) (h3 : b ≤ 2147483647) : Int32.ofInt (a : Int) / Int32.ofInt (b : Int) = Int32.ofInt ((a / b : Nat) : Int) := by
  rw [ia_div (by omega) (by omega) (by omega) (by omega), Int.natCast_ediv]
theorem ia_modN {a b : Nat} (h1 : a ≤ 2147483647) (h2 : 0 < b) (h3 : b ≤ 2147483647) : Int32.ofInt (a : Int) - Int32.ofInt (a : Int) / Int32.ofInt (b : Int) * Int32.ofInt (b : Int) = Int32.ofInt ((a % b : Nat) : Int) := by
  rw [ia_divN h1 h2 h3, ia_mul, ia_sub, Int.natCast_ediv, ia_emod, Int.natCast_emod]
theorem rc_cellAt (hS : sv S) (h : rp o S T H) {k : Nat} (hk : k ≤ 100000) : ff_X13_cellAt N o (Int32.ofInt (k : Int)) = some (Int32.ofInt (16 * ((k / S 0 : Nat) : Int) + ((k % S 0 : Nat) : Int))) := by
  have := sv_a hS
  have hz : ¬ (Int32.ofInt (S 0 : Int) = 0) := by rw [show (0 : Int32) = Int32.ofInt 0 from rfl, ia_eq (by omega) (by omega) (by omega) (by omega)]; omega
  unfold ff_X13_cellAt
  rw [if_pos nw_0, rs_0 h, if_pos hz, if_pos nw_0, if_pos hz, ia_modN (by omega) (by omega) (by omega), ia_divN (by omega) (by omega) (by omega), ii_16, ia_mul, ia_add]
theorem ic_k (hS : sv S) {k : Nat} (hk : k < S 0 * S 1) : ic S ((k % S 0 : Nat) : Int) ((k / S 0 : Nat) : Int) := by
  have := sv_a hS
  have h1 : k % S 0 < S 0 := Nat.mod_lt _ (by omega)
  have h2 : k / S 0 < S 1 := Nat.div_lt_of_lt_mul hk
  exact ⟨Int.natCast_nonneg _, Int.ofNat_lt.mpr h1, Int.natCast_nonneg _, Int.ofNat_lt.mpr h2⟩
/-- a cell's place, and back -/
theorem ia_c16 {x y : Int} (h1 : 0 ≤ x) (h2 : x < 16) (h3 : 0 ≤ y) (h4 : y < 12) : Int32.ofInt (16 * y + x) - Int32.ofInt (16 * y + x) / (16 : Int32) * (16 : Int32) = Int32.ofInt x ∧ Int32.ofInt (16 * y + x) / (16 : Int32) = Int32.ofInt y := by
  have e : Int32.ofInt (16 * y + x) / (16 : Int32) = Int32.ofInt y := by
    rw [ii_16, ia_div (by omega) (by omega) (by omega) (by omega)]
    congr 1
    omega
  refine ⟨?_, e⟩
  rw [e, ii_16, ia_mul, ia_sub]
  congr 1
  omega
theorem fl_fo {g : Nat} (j : Nat) : fo (fun _ a => FP.fmul a (fl_f g)) j FP.fconst1 = fl_l g j := by
  induction j with
  | zero => rfl
  | succ j ih => rw [fo_s, ih]; rfl
theorem rc_lightOf (hN : 1000 < N) (hS : sv S) (h : rp o S T H) {k : Int} (h0 : 0 ≤ k) (h1 : k ≤ 20) : ff_X13_lightOf N o (Int32.ofInt k) = some (fl_l (S 3) k.toNat) := by
  have hs := sv_a hS
  unfold ff_X13_lightOf
  have e : FP.fdiv (FP.i2f (Int32.ofInt (S 3 : Int))) 1120403456 = fl_f (S 3) := rfl
  rw [if_pos nw_3, rs_3 h, e, if_pos (fl_fn (by omega) (by omega))]
  unfold ff_X13_lightOf_l17
  refine lo_fo (fun (a : UInt32) j => (Int32.ofInt k, fl_f (S 3), a, Int32.ofInt (j : Int))) (fun j a => FP.fmul a (fl_f (S 3))) FP.fconst1 k.toNat ?_ ?_ (by omega)
  · intro j a hj ha r
    have ea : a = fl_l (S 3) j := ha.trans (fl_fo j)
    show ff_X13_lightOf_c17 N o r (Int32.ofInt k) (fl_f (S 3)) a (Int32.ofInt (j : Int)) = _
    unfold ff_X13_lightOf_c17
    rw [ii_le (by omega) (by omega), if_neg (by omega), ea]
    have en : os_nn (FP.fmul (fl_l (S 3) j) (fl_f (S 3))) := fl_n (g := S 3) (k := j + 1) (by omega) (by omega) (by omega)
    rw [if_pos en, ii_1, ia_add]
    rfl
  · intro r
    show ff_X13_lightOf_c17 N o r (Int32.ofInt k) (fl_f (S 3)) _ (Int32.ofInt (k.toNat : Int)) = _
    unfold ff_X13_lightOf_c17
    rw [ii_le (by omega) (by omega), if_pos (by omega)]
    exact congrArg some (fl_fo _)
theorem rc_wantedBy {t : Int} (h0 : 0 ≤ t) (h1 : t ≤ 255) : ff_X13_wantedBy N (Int32.ofInt t) = some (fl_w t.toNat) := by
  unfold ff_X13_wantedBy
  have e : FP.fdiv (FP.i2f (Int32.ofInt t)) 1132396544 = fl_w t.toNat := by
    unfold fl_w
    rw [Int.toNat_of_nonneg h0]
  rw [e, if_pos (fl_wn (by omega))]
theorem rc_heightBy (hN : 1000 < N) (hS : sv S) (h : rp o S T H) {w : UInt32} (hw : fw_m 200 w) : ff_X13_heightBy N o w = some (Int32.ofInt (sh S w)) := by
  have hs := sv_a hS
  have hwF := fw_F hw (by decide)
  have hb : fF (fl_l (S 3) (S 4)) := fl_F (by omega) (by omega) (by omega)
  unfold ff_X13_heightBy
  rw [if_pos nw_4, rs_4 h, rc_lightOf hN hS h (by omega) (by omega), Option.bind_some, Int.toNat_natCast, if_pos (fq_sub hb hwF), fq_apart (fw_F (fw_sub (fw_le (fl_m (by omega) (by omega) (by omega)) (by decide)) hw (by decide)) (by decide)), Option.bind_some, fq_aD hb hwF, if_pos nw_4]
  unfold ff_X13_heightBy_l28
  rw [ii_1, ia_add]
  refine lo_fo (fun (a : Nat × UInt32) k => (w, Int32.ofInt a.1, a.2, Int32.ofInt (S 4 + 1 + k : Nat))) (fun k => sh_s (S 3) w (S 4 + 1 + k)) (S 4, fq_d (fl_l (S 3) (S 4)) w) (S 2 - S 4) ?_ ?_ (by omega)
  · intro k a hk ha r
    have hi := sh_inv hS hw k (by omega)
    rw [← ha] at hi
    have hl : fF (fl_l (S 3) (S 4 + 1 + k)) := fl_F (by omega) (by omega) (by omega)
    show ff_X13_heightBy_c28 N o r w (Int32.ofInt a.1) a.2 (Int32.ofInt (S 4 + 1 + k : Nat)) = _
    unfold ff_X13_heightBy_c28
    rw [if_pos nw_2, rs_2 h, ii_lt (by omega) (by omega), if_neg (by omega), rc_lightOf hN hS h (by omega) (by omega), Option.bind_some, Int.toNat_natCast, if_pos (fq_sub hl hwF), fq_apart (fw_F (fw_sub (fw_le (fl_m (by omega) (by omega) (by omega)) (by decide)) hw (by decide)) (by decide)), Option.bind_some, fq_aD hl hwF]
    have hd := fw_F (fq_dF (fw_le (fl_m (g := S 3) (k := S 4 + 1 + k) (by omega) (by omega) (by omega)) (by decide)) hw (by decide)) (by decide)
    have hF := fw_F hi.2 (by decide)
    simp only [cq_ltl, fq_lt hd hF, fq_none hd hF, or_false]
    unfold ff_X13_heightBy_b68 sh_s
    rw [ii_1, ia_add]
    by_cases c : fz (fq_d (fl_l (S 3) (S 4 + 1 + k)) w) < fz a.2
    · rw [if_pos c, if_pos c]; rfl
    · rw [if_neg c, if_neg c]; rfl
  · intro r
    show ff_X13_heightBy_c28 N o r w _ _ (Int32.ofInt (S 4 + 1 + (S 2 - S 4) : Nat)) = _
    unfold ff_X13_heightBy_c28
    rw [if_pos nw_2, rs_2 h, ii_lt (by omega) (by omega), if_pos (by omega)]
    rfl
theorem rc_isHigh (hS : sv S) (h : rp o S T H) (hH : wv S H) {x y d : Int} (hx : ib x) (hy : ib y) (hd : ib d) : ff_X13_isAsHigh N o (Int32.ofInt x) (Int32.ofInt y) (Int32.ofInt d) = some (oz (decide (ic S x y ∧ d ≤ H x y))) := by
  unfold ff_X13_isAsHigh
  rw [rc_isCell hS h hx hy, Option.bind_some]
  by_cases c : ic S x y
  · have := hH x y c
    rw [decide_eq_true c, if_neg (by decide), if_pos (rp_in hS c), rp_na hS c, rp_h h hS c, ii_lt (by omega) (by omega)]
    by_cases c2 : H x y < d
    · rw [if_pos c2, decide_eq_false (fun z => by omega)]; rfl
    · rw [if_neg c2, decide_eq_true ⟨c, by omega⟩]; rfl
  · rw [decide_eq_false c, if_pos (by decide), decide_eq_false (fun z => c z.1)]; rfl
theorem rc_isOf (hS : sv S) (h : rp o S T H) (hH : wv S H) {x y d : Int} (hx : ib x) (hy : ib y) (hd : ib d) : ff_X13_isOf N o (Int32.ofInt d) (Int32.ofInt x) (Int32.ofInt y) = some (oz (decide (ic S x y ∧ d ≤ H x y))) := by
  unfold ff_X13_isOf
  rw [rc_isCell hS h hx hy, Option.bind_some]
  by_cases c : ic S x y
  · have := hH x y c
    rw [decide_eq_true c, if_neg (by decide), if_pos (rp_in hS c), rp_na hS c, rp_h h hS c, ii_lt (by omega) (by omega)]
    by_cases c2 : H x y < d
    · rw [if_pos c2, decide_eq_false (fun z => by omega)]; rfl
    · rw [if_neg c2, decide_eq_true ⟨c, by omega⟩]; rfl
  · rw [decide_eq_false c, if_pos (by decide), decide_eq_false (fun z => c z.1)]; rfl
theorem rc_isLayer (hS : sv S) (h : rp o S T H) {d : Int} (hd : ib d) : ff_X13_isLayer N o (Int32.ofInt d) = some (oz (decide (1 ≤ d ∧ d ≤ (S 2 : Int)))) := by
  have := sv_a hS
  unfold ff_X13_isLayer
  rw [if_pos nw_2, rs_2 h, ia_j hd.1 hd.2, ia_j (by omega) (by omega), ij_1, rc_isIn hd (by omega) (by omega), Option.bind_some, if_pos (oz_z _)]
theorem rc_isHeight (hS : sv S) (h : rp o S T H) {d : Int} (hd : ib d) : ff_X13_isHeight N o (Int32.ofInt d) = some (oz (decide ((S 4 : Int) ≤ d ∧ d ≤ (S 2 : Int)))) := by
  have := sv_a hS
  unfold ff_X13_isHeight
  rw [if_pos nw_4, if_pos nw_2, rs_4 h, rs_2 h, ia_j hd.1 hd.2, ia_j (by omega) (by omega), ia_j (by omega) (by omega), rc_isIn hd (by omega) (by omega), Option.bind_some, if_pos (oz_z _)]
theorem rc_fits (hS : sv S) (h : rp o S T H) {x y a b v : Int} (hc : ic S x y) (ha : ib a) (hb : ib b) (hv : ib v) : ff_X13_fits N o (Int32.ofInt x) (Int32.ofInt y) (Int32.ofInt a) (Int32.ofInt b) (Int32.ofInt v) = some (oz (decide ((1 ≤ a ∧ a ≤ S 0 - x ∧ 1 ≤ b ∧ b ≤ S 1 - y) ∧ ((S 4 : Int) ≤ v ∧ v ≤ (S 2 : Int))))) := by
  have := sv_a hS
  have := ic_r hS hc
  unfold ff_X13_fits
  rw [if_pos nw_0, rs_0 h, ia_sub, ia_j ha.1 ha.2, ia_j (by omega) (by omega), ij_1, rc_isIn ha (by omega) (by omega), Option.bind_some]
  by_cases c1 : 1 ≤ a ∧ a ≤ (S 0 : Int) - x
  · rw [decide_eq_true c1, if_neg (by decide), if_pos nw_1, rs_1 h, ia_sub, ia_j hb.1 hb.2, ia_j (by omega) (by omega), rc_isIn hb (by omega) (by omega), Option.bind_some]
    by_cases c2 : 1 ≤ b ∧ b ≤ (S 1 : Int) - y
    · rw [decide_eq_true c2, if_neg (by decide), rc_isHeight hS h hv, Option.bind_some]
      by_cases c3 : (S 4 : Int) ≤ v ∧ v ≤ (S 2 : Int)
      · rw [decide_eq_true c3, if_neg (by decide), decide_eq_true (by omega)]; rfl
      · rw [decide_eq_false c3, if_pos (by decide), decide_eq_false (by omega)]; rfl
    · rw [decide_eq_false c2, if_pos (by decide), decide_eq_false (by omega)]; rfl
  · rw [decide_eq_false c1, if_pos (by decide), decide_eq_false (by omega)]; rfl
theorem rc_lightAt (hN : 1000 < N) (hS : sv S) (h : rp o S T H) (hH : hv S H) {x y : Int} (hx : ib x) (hy : ib y) (d : UInt32) : ff_X13_lightAt N o (Int32.ofInt x) (Int32.ofInt y) d = some (if ic S x y then fl_l (S 3) (H x y).toNat else d) := by
  have hs := sv_a hS
  unfold ff_X13_lightAt
  rw [rc_isCell hS h hx hy, Option.bind_some]
  by_cases c : ic S x y
  · have hh := hH x y c
    rw [decide_eq_true c, if_neg (by decide), if_pos (rp_in hS c), rp_na hS c, rp_h h hS c, rc_lightOf hN hS h (by omega) (by omega), if_pos c]
    rfl
  · rw [decide_eq_false c, if_pos (by decide), if_neg c]
theorem rc_standsOut (hS : sv S) (h : rp o S T H) (hH : wv S H) {x y : Int} (hc : ic S x y) : ff_X13_standsOut N o (Int32.ofInt x) (Int32.ofInt y) = some (Int32.ofInt (if y = 0 then 0 else max 0 (H x y - H x (y - 1) - S 6))) := by
  have hs := sv_a hS
  have hr := ic_r hS hc
  unfold ff_X13_standsOut
  have e0 : (Int32.ofInt y = 0) = (y = 0) := ia_eq (b := 0) (by omega) (by omega) (by omega) (by omega)
  simp only [e0]
  by_cases c : y = 0
  · rw [if_pos c, if_pos c]
    rfl
  · have c2 : ic S x (y - 1) := by omega
    have e : (16 : Int32) * Int32.ofInt y - (16 : Int32) + Int32.ofInt x = (16 : Int32) * Int32.ofInt (y - 1) + Int32.ofInt x := by
      rw [ii_16, ia_mul, ia_sub, ia_add, ia_mul, ia_add]
      congr 1
      omega
    have h1 := hH x y hc
    have h2 := hH x (y - 1) c2
    rw [if_neg c, if_neg c, e, if_pos (rp_in hS hc), if_pos (rp_in hS c2), if_pos nw_6, rs_6 h, rp_na hS hc, rp_na hS c2, rp_h h hS hc, rp_h h hS c2, ia_sub, ia_sub, ii_0, rc_more (by omega) (by omega)]
    rfl
end RefCells
