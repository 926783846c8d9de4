/-! LAYER 2. The law's picture: how it holds a relief -/
def wz (S : Nat → Nat) : Prop := S 0 ≤ 8 ∧ S 1 ≤ 6
def wh (o : os_T) (S : Nat → Nat) : Prop := ∀ i : Nat, i < 7 → os_I o i = Int32.ofInt (S i)
def wm (o : os_T) (S : Nat → Nat) (F : Int → Int → Int) : Prop := (os_I o 0 = Int32.ofInt (S 1) ∧ os_I o 1 = Int32.ofInt (S 0) ∧ os_I o 2 = Int32.ofInt (S 1)) ∧ ∀ x y, ic S x y → os_A o y.toNat x.toNat = Int32.ofInt (F x y)
theorem wm.cg {o : os_T} {S : Nat → Nat} {F G : Int → Int → Int} (h : wm o S F) (e : ∀ x y, ic S x y → F x y = G x y) : wm o S G := ⟨h.1, fun x y c => by rw [h.2 x y c, e x y c]⟩
theorem fq_mz {v : UInt32} (h : fF v) : fz (v &&& 0x7fffffff) = fz (fq_a v) ∧ fF (v &&& 0x7fffffff) := by
  have hz0 : fz (0 : UInt32) = 0 := FP.Core.zval32_zero
  have h0 : fF (0 : UInt32) := fF_n (by decide)
  unfold fq_a
  by_cases c : fz v < 0
  · have e : v &&& 0x7fffffff = FP.Core.fneg v := FP.Core.abs_neg32 (FP.Core.fcmp_lt.mpr ⟨h.ne_nan, h0.ne_nan, by rw [FP.Core.zval32_zero]; exact c⟩)
    rw [if_pos c, e]
    exact ⟨rfl, fq_negF h⟩
  · rw [if_neg c]
    by_cases c2 : 0 < fz v
    · have e : v &&& 0x7fffffff = v := FP.Core.abs_pos32 (FP.Core.fcmp_gt.mpr ⟨h.ne_nan, h0.ne_nan, by rw [FP.Core.zval32_zero]; exact c2⟩)
      rw [e]
      exact ⟨rfl, h⟩
    · have e0 : fz v = 0 := by omega
      have e1 := (FP.Core.zval_eq_zero32 h.ne_nan).mp e0
      have e2 : v &&& 0x7fffffff = 0 := UInt32.toNat.inj (by rw [FP.Core.mask_toNat32, e1]; rfl)
      rw [e2, e0]
      exact ⟨hz0, h0⟩
/-- where it isn't the zero below zero, no more than the absolute value -/
theorem fq_mE {v : UInt32} (h : fF v) (hz : v ≠ FP.Core.fzeroNeg) : v &&& 0x7fffffff = fq_a v := by
  have h0 : fF (0 : UInt32) := fF_n (by decide)
  unfold fq_a
  by_cases c : fz v < 0
  · rw [if_pos c]
    exact FP.Core.abs_neg32 (FP.Core.fcmp_lt.mpr ⟨h.ne_nan, h0.ne_nan, by rw [FP.Core.zval32_zero]; exact c⟩)
  · rw [if_neg c]
    by_cases c2 : 0 < fz v
    · exact FP.Core.abs_pos32 (FP.Core.fcmp_gt.mpr ⟨h.ne_nan, h0.ne_nan, by rw [FP.Core.zval32_zero]; exact c2⟩)
    · have e0 : fz v = 0 := by omega
      have e1 := (FP.Core.zval_eq_zero32 h.ne_nan).mp e0
      have hlt := v.toNat_lt
      refine UInt32.toNat.inj ?_
      rw [FP.Core.mask_toNat32]
      have : v.toNat ≠ 2 ^ 31 := fun e => hz (UInt32.toNat.inj (by rw [e]; rfl))
      omega
section World
variable {N : Nat} {o p q : os_T} {S : Nat → Nat} {T H F : Int → Int → Int}
theorem wm_n (hS : sv S) (h : wm o S F) : cm_n o = S 1 := by
  have := sv_a hS
  show Int32.toNatClampNeg (os_I o 0) = _
  rw [h.1.1, ia_nat (by omega) (by omega)]; exact Int.toNat_natCast _
theorem wm_c (hS : sv S) (h : wm o S F) : cm_c o = S 0 := by
  have := sv_a hS
  show Int32.toNatClampNeg (os_I o 1) = _
  rw [h.1.2.1, ia_nat (by omega) (by omega)]; exact Int.toNat_natCast _
theorem wm_b (hS : sv S) (h : wm o S F) : cm_b o = S 1 := by
  have := sv_a hS
  show Int32.toNatClampNeg (os_I o 2) = _
  rw [h.1.2.2, ia_nat (by omega) (by omega)]; exact Int.toNat_natCast _
theorem wg (hS : sv S) (h : wm o S F) {x y : Int} (c : ic S x y) : os_in (Int32.ofInt y) (cm_n o) = True ∧ (Int32.toNatClampNeg (Int32.ofInt y) < cm_b o) = True ∧ os_in (Int32.ofInt x) (cm_c o) = True ∧ os_A o (Int32.toNatClampNeg (Int32.ofInt y)) (Int32.toNatClampNeg (Int32.ofInt x)) = Int32.ofInt (F x y) := by
  have := ic_r hS c
  have := sv_a hS
  rw [wm_n hS h, wm_b hS h, wm_c hS h]
  refine ⟨eq_true (ia_in (by omega) (by omega) (by omega)), eq_true ?_, eq_true (ia_in (by omega) (by omega) (by omega)), ?_⟩
  · rw [ia_nat (by omega) (by omega)]; omega
  · rw [ia_nat (by omega) (by omega), ia_nat (by omega) (by omega)]; exact h.2 x y c
theorem wm_hu (hS : sv S) (h : wm o S F) {x y v : Int} (c : ic S x y) : wm (ss_A o (Int32.toNatClampNeg (Int32.ofInt y)) (upd (os_A o (Int32.toNatClampNeg (Int32.ofInt y))) (Int32.toNatClampNeg (Int32.ofInt x)) (Int32.ofInt v))) S (hu F x y v) := by
  have := ic_r hS c
  refine ⟨h.1, fun a b ca => ?_⟩
  rw [ia_nat (by omega) (by omega), ia_nat (by omega) (by omega)]
  have ha := h.2 a b ca
  by_cases e : b = y
  · subst e
    show os_u (os_A o) b.toNat (upd (os_A o b.toNat) x.toNat (Int32.ofInt v)) b.toNat a.toNat = _
    rw [os_u_eq]
    unfold upd hu
    by_cases e2 : a = x
    · subst e2; rw [if_pos rfl, if_pos ⟨rfl, rfl⟩]
    · rw [if_neg (by omega), if_neg (fun z => e2 z.1)]; exact ha
  · show os_u (os_A o) y.toNat (upd (os_A o y.toNat) x.toNat (Int32.ofInt v)) b.toNat a.toNat = _
    rw [os_u_ne (by omega), hu_ne (fun z => e z.2)]; exact ha
theorem ww_w (hS : sv S) (h : wh o S) {x : Nat} (hx : x < S 0) : (os_I o 0 ≤ Int32.ofInt (x : Int)) = False := by
  have := sv_a hS
  rw [h 0 (by decide), ia_le (by omega) (by omega) (by omega) (by omega)]
  exact eq_false (by omega)
theorem ww_W (h : wh o S) : (os_I o 0 ≤ Int32.ofInt (S 0 : Int)) = True := by rw [h 0 (by decide)]; exact eq_true (Int32.le_refl _)
theorem ww_r (hS : sv S) (h : wh o S) {y : Nat} (hy : y < S 1) : (os_I o 1 ≤ Int32.ofInt (y : Int)) = False := by
  have := sv_a hS
  rw [h 1 (by decide), ia_le (by omega) (by omega) (by omega) (by omega)]
  exact eq_false (by omega)
theorem ww_R (h : wh o S) : (os_I o 1 ≤ Int32.ofInt (S 1 : Int)) = True := by rw [h 1 (by decide)]; exact eq_true (Int32.le_refl _)
theorem wc_has (hS : sv S) (h : wh o S) {x y : Int} (hx : ib x) (hy : ib y) : ff_X13_has N o (Int32.ofInt x) (Int32.ofInt y) = some (oz (decide (ic S x y))) := by
  have := sv_a hS
  unfold ff_X13_has
  simp only [i0_lt hx, i0_lt hy, h 0 (by decide), h 1 (by decide), ia_le (show -2147483648 ≤ (S 0 : Int) by omega) (by omega) hx.1 hx.2, ia_le (show -2147483648 ≤ (S 1 : Int) by omega) (by omega) hy.1 hy.2]
  by_cases c : ic S x y
  · rw [decide_eq_true c, if_neg (by omega), if_neg (by omega), if_neg (by omega), if_neg (by omega)]; rfl
  · rw [decide_eq_false c]
    repeat' split
    all_goals first | rfl | (exfalso; omega)
theorem wc_light_f (hS : sv S) (h : wh o S) : ∀ n k : Nat, k < n → k ≤ 21 → ff_X13_light_f n o (Int32.ofInt (k : Int)) = some (fl_l (S 3) k) := by
  have hs := sv_a hS
  intro n
  induction n with
  | zero => intro k hk; omega
  | succ n ih =>
    intro k hk h21
    rw [ff_X13_light_f]
    simp only [i0_eq (show ib (k : Int) by omega)]
    rcases k with _ | k
    · rw [if_pos (by rfl)]; rfl
    · rw [if_neg (by omega), ii_1, ia_sub, show ((k + 1 : Nat) : Int) - 1 = (k : Int) by omega, ih k (by omega) (by omega), Option.bind_some, h 3 (by decide)]
      show (if os_nn (fl_f (S 3)) then (if os_nn (fl_l (S 3) (k + 1)) then some (fl_l (S 3) (k + 1)) else none) else none) = _
      rw [if_pos (fl_fn (by omega) (by omega)), if_pos (fl_n (g := S 3) (k := k + 1) (by omega) (by omega) h21)]
theorem wc_light (hS : sv S) (h : wh o S) {v : Int} (h0 : 0 ≤ v) (h1 : v ≤ 21) : ff_X13_light N o (Int32.ofInt v) = some (fl_l (S 3) v.toNat) := by
  have := wc_light_f hS h 25 v.toNat (by omega) (by omega)
  rwa [Int.toNat_of_nonneg h0] at this
/-- the distance that goes with the best height so far -/
theorem sh_d {w : UInt32} (n : Nat) : (fo (fun k => sh_s (S 3) w (S 4 + 1 + k)) n (S 4, fq_d (fl_l (S 3) (S 4)) w)).2 = fq_d (fl_l (S 3) (fo (fun k => sh_s (S 3) w (S 4 + 1 + k)) n (S 4, fq_d (fl_l (S 3) (S 4)) w)).1) w := by
  induction n with
  | zero => rfl
  | succ n ih =>
    rw [fo_s]
    unfold sh_s at ih ⊢
    split
    · rfl
    · exact ih
theorem wc_heightFor (hN : 1000 < N) (hS : sv S) (h : wh o S) {w : UInt32} (hw : fw_m 200 w) : ff_X13_heightFor N o w = some (Int32.ofInt (sh S w)) := by
  have hs := sv_a hS
  have hwF := fw_F hw (by decide)
  unfold ff_X13_heightFor ff_X13_heightFor_l10
  rw [h 4 (by decide)]
  have key := lo_run (N := N) (step := fun k10 s1 => ff_X13_heightFor_c10 N o k10 s1.1 s1.2.1 s1.2.2) (out := some (Int32.ofInt (sh S w))) (fun k : Nat => (w, Int32.ofInt ((fo (fun k => sh_s (S 3) w (S 4 + 1 + k)) (k - 1) (S 4, fq_d (fl_l (S 3) (S 4)) w)).1 : Int), Int32.ofInt ((S 4 + k : Nat) : Int))) (S 2 - S 4 + 1) ?_ ?_ (by omega)
  · exact key
  · intro k hk r
    have hi := sh_inv hS hw (k - 1) (by omega)
    show ff_X13_heightFor_c10 N o r w (Int32.ofInt ((fo (fun k => sh_s (S 3) w (S 4 + 1 + k)) (k - 1) (S 4, fq_d (fl_l (S 3) (S 4)) w)).1 : Int)) (Int32.ofInt ((S 4 + k : Nat) : Int)) = _
    unfold ff_X13_heightFor_c10
    have hfin : ∀ j : Nat, j ≤ 20 → fF (FP.fsub (fl_l (S 3) j) w) ∧ os_nn (FP.fsub (fl_l (S 3) j) w) := fun j hj =>
      ⟨fw_F (fw_sub (fw_le (fl_m (by omega) (by omega) (by omega)) (by decide)) hw (by decide)) (by decide), fq_sub (fl_F (by omega) (by omega) (by omega)) hwF⟩
    obtain ⟨f1, n1⟩ := hfin (S 4 + k) (by omega)
    have hd := sh_d (S := S) (w := w) (k - 1)
    have es : sh_s (S 3) w (S 4 + 1 + (k - 1)) = sh_s (S 3) w (S 4 + 1 + (k - 1)) := rfl
    generalize eb : fo (fun k => sh_s (S 3) w (S 4 + 1 + k)) (k - 1) (S 4, fq_d (fl_l (S 3) (S 4)) w) = b at hi hd
    obtain ⟨f2, n2⟩ := hfin b.1 (by omega)
    rw [h 2 (by decide), ii_lt (by omega) (by omega), if_neg (by omega), wc_light hS h (by omega) (by omega), Option.bind_some, wc_light hS h (by omega) (by omega), Int.toNat_natCast, Int.toNat_natCast, if_pos n1, if_pos n1, Option.bind_some, if_pos n2, if_pos n2]
    simp only [cq_geg, ne_eq, fq_lt (fq_mz f1).2 (fq_mz f2).2, (fq_mz f1).1, (fq_mz f2).1, fq_aD (fl_F (show 10 ≤ S 3 by omega) (show S 3 ≤ 99 by omega) (show S 4 + k ≤ 21 by omega)) hwF, fq_aD (fl_F (show 10 ≤ S 3 by omega) (show S 3 ≤ 99 by omega) (show b.1 ≤ 21 by omega)) hwF, ← hd]
    unfold ff_X13_heightFor_b44
    rw [ii_1, ia_s]
    have eN : fo (fun k => sh_s (S 3) w (S 4 + 1 + k)) (k + 1 - 1) (S 4, fq_d (fl_l (S 3) (S 4)) w) = if fz (fq_d (fl_l (S 3) (S 4 + k)) w) < fz b.2 then (S 4 + k, fq_d (fl_l (S 3) (S 4 + k)) w) else b := by
      rcases k with _ | k
      · have : b = (S 4, fq_d (fl_l (S 3) (S 4)) w) := eb.symm
        subst this
        show (S 4, fq_d (fl_l (S 3) (S 4)) w) = _
        rw [if_neg (by show ¬ fz (fq_d (fl_l (S 3) (S 4)) w) < fz (fq_d (fl_l (S 3) (S 4)) w); omega)]
      · have e3 : k + 1 + 1 - 1 = k + 1 := rfl
        have e4 : k + 1 - 1 = k := rfl
        rw [e4] at eb
        rw [e3, fo_s, eb]
        unfold sh_s
        rw [show S 4 + 1 + k = S 4 + (k + 1) by omega]
    show _ = r (w, Int32.ofInt ((fo (fun k => sh_s (S 3) w (S 4 + 1 + k)) (k + 1 - 1) (S 4, fq_d (fl_l (S 3) (S 4)) w)).1 : Int), Int32.ofInt ((S 4 + (k + 1) : Nat) : Int))
    rw [eN]
    by_cases c : fz (fq_d (fl_l (S 3) (S 4 + k)) w) < fz b.2
    · rw [if_neg (fun z => z c), if_pos c]; rfl
    · rw [if_pos c, if_neg c]; rfl
  · intro r
    show ff_X13_heightFor_c10 N o r w _ (Int32.ofInt ((S 4 + (S 2 - S 4 + 1) : Nat) : Int)) = _
    unfold ff_X13_heightFor_c10
    rw [h 2 (by decide), ii_lt (by omega) (by omega), if_pos (by omega)]
    rfl
theorem wc_lightAt (hS : sv S) (h : wh o S) (hm : wm p S H) (hH : hv S H) {x y : Int} (hx : ib x) (hy : ib y) {c : UInt32} : ff_X13_lightAt N o p (Int32.ofInt x) (Int32.ofInt y) c = some (g_n S H c x y) := by
  have := sv_a hS
  unfold ff_X13_lightAt g_n
  rw [wc_has hS h hx hy, Option.bind_some, oz_ite]
  by_cases hc : ic S x y
  · have := hH x y hc
    obtain ⟨g1, g2, g3, g4⟩ := wg hS hm hc
    rw [if_pos hc, if_pos hc]
    simp only [g1, g2, g3, g4, if_true, wc_light hS h (show 0 ≤ H x y by omega) (show H x y ≤ 21 by omega), Option.bind_some]
  · rw [if_neg hc, if_neg hc]
theorem wc_estimate (hS : sv S) (h : wh o S) (hm : wm p S H) (hH : hv S H) {x y : Int} (c : ic S x y) : ff_X13_estimate N o p (Int32.ofInt x) (Int32.ofInt y) = some (g_e S H x y) := by
  have hs := sv_a hS
  have hr := ic_r hS c
  have hh := hH x y c
  obtain ⟨n0, n1, n2, n3, n4, n5, -, -⟩ := g_all hS hH c
  obtain ⟨g1, g2, g3, g4⟩ := wg hS hm c
  unfold ff_X13_estimate
  simp only [g1, g2, g3, g4, if_true, wc_light hS h (show 0 ≤ H x y by omega) (show H x y ≤ 21 by omega), Option.bind_some]
  show (if os_nn (FP.fmul (g_c S H x y) 1082130432) then (ff_X13_lightAt N o p (Int32.ofInt x - 1) (Int32.ofInt y) (g_c S H x y)).bind _ else _) = _
  rw [if_pos n0, ii_1, ia_sub, ia_add, ia_sub, ia_add, wc_lightAt hS h hm hH (by omega) (by omega), Option.bind_some]
  show (if os_nn (g_1 S H x y) then (ff_X13_lightAt N o p _ (Int32.ofInt y) (g_c S H x y)).bind _ else _) = _
  rw [if_pos n1, wc_lightAt hS h hm hH (by omega) (by omega), Option.bind_some]
  show (if os_nn (g_2 S H x y) then (ff_X13_lightAt N o p _ _ (g_c S H x y)).bind _ else _) = _
  rw [if_pos n2, wc_lightAt hS h hm hH (by omega) (by omega), Option.bind_some]
  show (if os_nn (g_3 S H x y) then (ff_X13_lightAt N o p _ _ (g_c S H x y)).bind _ else _) = _
  rw [if_pos n3, wc_lightAt hS h hm hH (by omega) (by omega), Option.bind_some]
  show (if os_nn (g_4 S H x y) then (if os_nn (g_e S H x y) then some (g_e S H x y) else none) else none) = _
  rw [if_pos n4, if_pos n5]
theorem fl_wT {t : Int} (h0 : 0 ≤ t) : FP.fdiv (FP.i2f (Int32.ofInt t)) 1132396544 = fl_w t.toNat := by
  unfold fl_w
  rw [Int.toNat_of_nonneg h0]
theorem wc_error (hS : sv S) (h : wh o S) (hq : wm q S T) (hT : tv S T) (hm : wm p S H) (hH : hv S H) {x y : Int} (c : ic S x y) : ff_X13_error N o q p (Int32.ofInt x) (Int32.ofInt y) = some (g_m S T H x y) := by
  have ht := hT x y c
  obtain ⟨g1, g2, g3, g4⟩ := wg hS hq c
  unfold ff_X13_error
  rw [wc_estimate hS h hm hH c, Option.bind_some]
  simp only [g1, g2, g3, g4, if_true, fl_wT ht.1]
  rw [if_pos (fl_wn (by omega))]
  show (if os_nn (g_m S T H x y) then some (g_m S T H x y) else none) = _
  rw [if_pos (g_mF hS hH hT c).1]
end World
