/-! LAYER 2. Floats by their bits; the estimate of a cell -/
theorem fb_dec {a : UInt32} (h1 : 8388608 ≤ a.toNat) (h2 : a.toNat < 2139095040) : FP.Core.val32 a = .fin false (8388608 + a.toNat % 8388608) (-149 + ((a.toNat / 8388608 : Nat) : Int) - 1) := by
  have t : FP.Core.Fmt.tails FP.Core.b32 = 8388608 := by decide
  have e : FP.Core.Fmt.exps FP.Core.b32 = 256 := by decide
  have q : FP.Core.Fmt.qmin FP.Core.b32 = -149 := by decide
  unfold FP.Core.val32 FP.Core.decode FP.Core.fieldE FP.Core.fieldT FP.Core.fieldS
  rw [t, e, q]
  have e1 : a.toNat / 8388608 % 256 = a.toNat / 8388608 := Nat.mod_eq_of_lt (by omega)
  rw [e1, if_neg (by omega), if_neg (by omega)]
  have e2 : a.toNat / 8388608 / 256 = 0 := by omega
  rw [e2]
  congr 1
  omega
theorem fb_enc {b : UInt32} {t e : Nat} (ht : t < 8388608) (h1 : 1 ≤ e) (h2 : e ≤ 254) (hb : FP.Core.val32 b = .fin false (8388608 + t) (-149 + (e : Int) - 1)) : b.toNat = e * 8388608 + t := by
  have hn : (UInt32.ofNat (e * 8388608 + t)).toNat = e * 8388608 + t := by
    rw [UInt32.toNat_ofNat']
    exact Nat.mod_eq_of_lt (by omega)
  have hd := fb_dec (a := UInt32.ofNat (e * 8388608 + t)) (by omega) (by omega)
  rw [hn, show (e * 8388608 + t) % 8388608 = t by omega, show (e * 8388608 + t) / 8388608 = e by omega] at hd
  have : b = UInt32.ofNat (e * 8388608 + t) := FP.Core.val32_inj (by rw [hb]; exact FP.Core.Datum.noConfusion) (hb.trans hd.symm)
  rw [this, hn]
theorem fb_fit {c : Nat} {e : Nat} (h1 : 8388608 ≤ c) (h2 : c < 16777216) (h3 : 1 ≤ e) (h4 : e ≤ 254) : FP.Core.fits FP.Core.b32 (.fin false c (-149 + (e : Int) - 1)) := by
  have p : 2 ^ FP.Core.Fmt.p FP.Core.b32 = 16777216 := by decide
  have t : FP.Core.Fmt.tails FP.Core.b32 = 8388608 := by decide
  have q : FP.Core.Fmt.qmin FP.Core.b32 = -149 := by decide
  have x : FP.Core.Fmt.qmax FP.Core.b32 = 104 := by decide
  unfold FP.Core.fits
  rw [p, t, q, x]
  exact ⟨h2, by omega, by omega, Or.inr h1⟩
/-- a quarter of a quarter .. : the division by 8 -/
theorem fb_div8 {a : UInt32} (h1 : 33554432 ≤ a.toNat) (h2 : a.toNat < 2139095040) : (FP.fdiv a 1090519040).toNat = a.toNat - 25165824 := by
  have hd := fb_dec (a := a) (by omega) h2
  have h8 : FP.Core.val32 (1090519040 : UInt32) = .fin false 8388608 (-20) := by decide +kernel
  have hv : FP.Core.val32 (FP.fdiv a 1090519040) = .fin false (8388608 + a.toNat % 8388608) (-149 + ((a.toNat / 8388608 - 3 : Nat) : Int) - 1) := by
    show FP.Core.val32 (FP.Core.fdiv a 1090519040) = _
    rw [FP.Core.val32_fdiv, hd, h8]
    show (if (8388608 : Nat) = 0 then (if 8388608 + a.toNat % 8388608 = 0 then FP.Core.Datum.nan else FP.Core.Datum.inf (false != false)) else FP.Core.roundRatio FP.Core.b32 (false != false) (8388608 + a.toNat % 8388608) 8388608 (-149 + ((a.toNat / 8388608 : Nat) : Int) - 1 - -20)) = _
    rw [if_neg (by decide)]
    refine FP.Core.roundRatio_exact FP.Core.good_b32 (by decide) (fb_fit (by omega) (by omega) (by omega) (by omega)) ?_
    rw [show (-149 + ((a.toNat / 8388608 : Nat) : Int) - 1 - -20 - (-149 + ((a.toNat / 8388608 - 3 : Nat) : Int) - 1)).toNat = 23 by omega, show (-149 + ((a.toNat / 8388608 - 3 : Nat) : Int) - 1 - (-149 + ((a.toNat / 8388608 : Nat) : Int) - 1 - -20)).toNat = 0 by omega, Nat.pow_zero, Nat.mul_one]
  have := fb_enc (by omega) (by omega) (by omega) hv
  omega
theorem fb_mul2 {a : UInt32} (h1 : 8388608 ≤ a.toNat) (h2 : a.toNat < 1065353216) : (FP.fmul a FP.fconst2).toNat = a.toNat + 8388608 := by
  have hd := fb_dec (a := a) h1 (by omega)
  have h8 : FP.Core.val32 FP.fconst2 = .fin false 8388608 (-22) := by decide +kernel
  have hv : FP.Core.val32 (FP.fmul a FP.fconst2) = .fin false (8388608 + a.toNat % 8388608) (-149 + ((a.toNat / 8388608 + 1 : Nat) : Int) - 1) := by
    show FP.Core.val32 (FP.Core.fmul a FP.fconst2) = _
    rw [FP.Core.val32_fmul, hd, h8]
    show FP.Core.roundRatio FP.Core.b32 (false != false) ((8388608 + a.toNat % 8388608) * 8388608) 1 (-149 + ((a.toNat / 8388608 : Nat) : Int) - 1 + -22) = _
    refine FP.Core.roundRatio_exact FP.Core.good_b32 (by decide) (fb_fit (by omega) (by omega) (by omega) (by omega)) ?_
    rw [show (-149 + ((a.toNat / 8388608 : Nat) : Int) - 1 + -22 - (-149 + ((a.toNat / 8388608 + 1 : Nat) : Int) - 1)).toNat = 0 by omega, show (-149 + ((a.toNat / 8388608 + 1 : Nat) : Int) - 1 - (-149 + ((a.toNat / 8388608 : Nat) : Int) - 1 + -22)).toNat = 23 by omega, Nat.pow_zero, Nat.mul_one, Nat.mul_one]
  have := fb_enc (by omega) (by omega) (by omega) hv
  omega
theorem fb_mul4 {a : UInt32} (h1 : 8388608 ≤ a.toNat) (h2 : a.toNat ≤ 1065353216) : (FP.fmul a 1082130432).toNat = a.toNat + 16777216 := by
  have hd := fb_dec (a := a) h1 (by omega)
  have h8 : FP.Core.val32 (1082130432 : UInt32) = .fin false 8388608 (-21) := by decide +kernel
  have hv : FP.Core.val32 (FP.fmul a 1082130432) = .fin false (8388608 + a.toNat % 8388608) (-149 + ((a.toNat / 8388608 + 2 : Nat) : Int) - 1) := by
    show FP.Core.val32 (FP.Core.fmul a 1082130432) = _
    rw [FP.Core.val32_fmul, hd, h8]
    show FP.Core.roundRatio FP.Core.b32 (false != false) ((8388608 + a.toNat % 8388608) * 8388608) 1 (-149 + ((a.toNat / 8388608 : Nat) : Int) - 1 + -21) = _
    refine FP.Core.roundRatio_exact FP.Core.good_b32 (by decide) (fb_fit (by omega) (by omega) (by omega) (by omega)) ?_
    rw [show (-149 + ((a.toNat / 8388608 : Nat) : Int) - 1 + -21 - (-149 + ((a.toNat / 8388608 + 2 : Nat) : Int) - 1)).toNat = 0 by omega, show (-149 + ((a.toNat / 8388608 + 2 : Nat) : Int) - 1 - (-149 + ((a.toNat / 8388608 : Nat) : Int) - 1 + -21)).toNat = 23 by omega, Nat.pow_zero, Nat.mul_one, Nat.mul_one]
  have := fb_enc (by omega) (by omega) (by omega) hv
  omega
/-- what is not below 0 has its value by its bits -/
theorem fz_u {a : UInt32} (h : a.toNat ≤ 2139095040) : fz a = (FP.Core.unitsOf FP.Core.b32 a.toNat : Int) := by
  have hn : FP.Core.val32 a ≠ .nan := (FP.Core.ne_nan32 a).mpr (by omega)
  unfold fz FP.Core.zval
  rw [FP.Core.zmag_toNat32 hn, FP.Core.sgn_bits32 hn, decide_eq_false (by omega), show a.toNat % 2 ^ 31 = a.toNat by omega]
  rfl
theorem fz_le {a b : UInt32} (ha : a.toNat ≤ 2139095040) (hb : b.toNat ≤ 2139095040) : (fz a ≤ fz b) = (a.toNat ≤ b.toNat) := by
  rw [fz_u ha, fz_u hb]
  exact propext (Int.ofNat_le.trans FP.Core.unitsOf_le_iff)
theorem fz_p {a : UInt32} (ha : a.toNat ≤ 2139095040) : 0 ≤ fz a := by
  rw [fz_u ha]
  exact Int.natCast_nonneg _
theorem fz_sg {a : UInt32} (hF : fF a) (h : 0 < fz a) : a.toNat < 2139095040 := by
  have h1 : a.toNat < 2 ^ 31 := Nat.lt_of_not_le fun z => by
    have h2 : fz a ≤ 0 := FP.Core.zval_nonpos32 hF.ne_nan z
    omega
  have := (FP.Core.fin_bits32 a).mp hF
  omega
abbrev f_1 : UInt32 := 1065353216
theorem f_v4 : fz (1082130432 : UInt32) = 4 * fz f_1 := by decide +kernel
theorem f_v5 : fz (1084227584 : UInt32) = 5 * fz f_1 := by decide +kernel
theorem f_v6 : fz (1086324736 : UInt32) = 6 * fz f_1 := by decide +kernel
theorem f_v7 : fz (1088421888 : UInt32) = 7 * fz f_1 := by decide +kernel
theorem f_v8 : fz (1090519040 : UInt32) = 8 * fz f_1 := by decide +kernel
theorem f_n {n : UInt32} (h : n.toNat < 2139095040) : FP.Core.val32 n ≠ .nan := (FP.Core.ne_nan32 n).mpr (by omega)
theorem fF_n {n : UInt32} (h : n.toNat < 2139095040) : fF n := (FP.Core.fin_bits32 n).mpr (by omega)
section Glow
variable {N : Nat} {o : os_T} {S : Nat → Nat} {T H : Int → Int → Int}
def g_n (S : Nat → Nat) (H : Int → Int → Int) (c : UInt32) (x y : Int) : UInt32 := if ic S x y then fl_l (S 3) (H x y).toNat else c
def g_c (S : Nat → Nat) (H : Int → Int → Int) (x y : Int) : UInt32 := fl_l (S 3) (H x y).toNat
def g_1 (S : Nat → Nat) (H : Int → Int → Int) (x y : Int) : UInt32 := FP.fadd (FP.fmul (g_c S H x y) 1082130432) (g_n S H (g_c S H x y) (x - 1) y)
def g_2 (S : Nat → Nat) (H : Int → Int → Int) (x y : Int) : UInt32 := FP.fadd (g_1 S H x y) (g_n S H (g_c S H x y) (x + 1) y)
def g_3 (S : Nat → Nat) (H : Int → Int → Int) (x y : Int) : UInt32 := FP.fadd (g_2 S H x y) (g_n S H (g_c S H x y) x (y - 1))
def g_4 (S : Nat → Nat) (H : Int → Int → Int) (x y : Int) : UInt32 := FP.fadd (g_3 S H x y) (g_n S H (g_c S H x y) x (y + 1))
def g_e (S : Nat → Nat) (H : Int → Int → Int) (x y : Int) : UInt32 := FP.fdiv (g_4 S H x y) 1090519040
theorem g_cb (hS : sv S) (hH : hv S H) {x y : Int} (c : ic S x y) : (g_c S H x y).toNat ≤ 1065353216 ∧ 469762048 ≤ (g_c S H x y).toNat := by
  have hs := sv_a hS
  have h0 := hH x y c
  have := fl_b (g := S 3) (k := (H x y).toNat) (by omega) (by omega) (by omega)
  exact ⟨this.1, this.2.1⟩
theorem g_nb (hS : sv S) (hH : hv S H) {x y a b : Int} (c : ic S x y) : (g_n S H (g_c S H x y) a b).toNat ≤ 1065353216 ∧ 469762048 ≤ (g_n S H (g_c S H x y) a b).toNat := by
  unfold g_n
  split
  · rename_i c2
    exact g_cb hS hH c2
  · exact g_cb hS hH c
/-- one step of the sum: s between the bits of 4 c and V, a light more -/
theorem g_st {s l V W : UInt32} {k : Nat} (hk : 486539264 ≤ k) (hs : k ≤ s.toNat) (hsV : s.toNat ≤ V.toNat) (hl : l.toNat ≤ 1065353216) (hV : V.toNat ≤ 1090519040) (hW : W.toNat ≤ 1090519040) (hVW : fz W = fz V + fz f_1) : k ≤ (FP.fadd s l).toNat ∧ (FP.fadd s l).toNat ≤ W.toNat ∧ os_nn (FP.fadd s l) := by
  have sF : fF s := fF_n (by omega)
  have lF : fF l := fF_n (by omega)
  have e1 : fz s ≤ fz V := by rw [fz_le (by omega) (by omega)]; exact hsV
  have e2 : fz l ≤ fz f_1 := by rw [fz_le (by omega) (by decide)]; exact hl
  have e3 : 0 ≤ fz l := fz_p (by omega)
  have up := fz_add_le (V := W) sF lF (f_n (by omega)) (by omega)
  have lo := fz_add_ge (V := s) sF lF sF.ne_nan (by omega)
  have ms : fw_m 131 s := fm_of (n := 1090519040) (by omega) (by decide) (by decide)
  have ml : fw_m 131 l := fm_of (n := 1065353216) hl (by decide) (by decide)
  have rF : fF (FP.fadd s l) := fw_F (fw_add ms ml (by decide)) (by decide)
  have pos : 0 < fz s := by
    have : fz FP.fconst0 < fz s := by
      refine Int.not_le.mp fun z => ?_
      rw [fz_le (by omega) (by decide)] at z
      have : FP.fconst0.toNat = 0 := rfl
      omega
    rwa [fz_0] at this
  have hb := fz_sg rF (by omega)
  rw [fz_le (by omega) (by omega)] at up lo
  exact ⟨by omega, by omega, fq_nnF rF⟩
theorem g_all (hS : sv S) (hH : hv S H) {x y : Int} (c : ic S x y) : os_nn (FP.fmul (g_c S H x y) 1082130432) ∧ os_nn (g_1 S H x y) ∧ os_nn (g_2 S H x y) ∧ os_nn (g_3 S H x y) ∧ os_nn (g_4 S H x y) ∧ os_nn (g_e S H x y) ∧ 461373440 ≤ (g_e S H x y).toNat ∧ (g_e S H x y).toNat ≤ 1065353216 := by
  have h0 := g_cb hS hH c
  have e4 := fb_mul4 (a := g_c S H x y) (by omega) h0.1
  have hn0 : os_nn (FP.fmul (g_c S H x y) 1082130432) := fq_nnF (fF_n (by omega))
  have s1 := g_st (k := 486539264) (s := FP.fmul (g_c S H x y) 1082130432) (l := g_n S H (g_c S H x y) (x - 1) y) (V := 1082130432) (W := 1084227584) (by omega) (by omega) (by show _ ≤ 1082130432; omega) (g_nb hS hH c).1 (by decide) (by decide) (by rw [f_v5, f_v4]; omega)
  have s2 := g_st (k := 486539264) (s := g_1 S H x y) (l := g_n S H (g_c S H x y) (x + 1) y) (V := 1084227584) (W := 1086324736) (by omega) s1.1 s1.2.1 (g_nb hS hH c).1 (by decide) (by decide) (by rw [f_v6, f_v5]; omega)
  have s3 := g_st (k := 486539264) (s := g_2 S H x y) (l := g_n S H (g_c S H x y) x (y - 1)) (V := 1086324736) (W := 1088421888) (by omega) s2.1 s2.2.1 (g_nb hS hH c).1 (by decide) (by decide) (by rw [f_v7, f_v6]; omega)
  have s4 := g_st (k := 486539264) (s := g_3 S H x y) (l := g_n S H (g_c S H x y) x (y + 1)) (V := 1088421888) (W := 1090519040) (by omega) s3.1 s3.2.1 (g_nb hS hH c).1 (by decide) (by decide) (by rw [f_v8, f_v7]; omega)
  have a4 : 486539264 ≤ (g_4 S H x y).toNat := s4.1
  have b4 : (g_4 S H x y).toNat ≤ 1090519040 := s4.2.1
  have d8 := fb_div8 (a := g_4 S H x y) (by omega) (by omega)
  have l1 : 461373440 ≤ (g_e S H x y).toNat := by unfold g_e; omega
  have l2 : (g_e S H x y).toNat ≤ 1065353216 := by unfold g_e; omega
  exact ⟨hn0, s1.2.2, s2.2.2, s3.2.2, s4.2.2, fq_nnF (fF_n (by omega)), l1, l2⟩
theorem g_eF (hS : sv S) (hH : hv S H) {x y : Int} (c : ic S x y) : fF (g_e S H x y) := fF_n (by have := g_all hS hH c; omega)
theorem pc_glow (hS : sv S) (h : cp o S T H) (hH : hv S H) {x y : Int} (c : ic S x y) : ff_X2_glowAt N o (Int32.ofInt x) (Int32.ofInt y) = some (g_e S H x y) := by
  have hr := ic_r hS c
  obtain ⟨n0, n1, n2, n3, n4, n5, -, -⟩ := g_all hS hH c
  unfold ff_X2_glowAt
  rw [pc_lightAt hS h hH (by omega) (by omega), if_pos c, Option.bind_some]
  show (if os_nn (FP.fmul (g_c S H x y) 1082130432) then _ else _) = _
  rw [if_pos n0, ii_1, ia_sub, ia_add, ia_sub, ia_add, pc_lightAt hS h hH (by omega) (by omega), Option.bind_some]
  show (if os_nn (g_1 S H x y) then _ else _) = _
  rw [if_pos n1, pc_lightAt hS h hH (by omega) (by omega), Option.bind_some]
  show (if os_nn (g_2 S H x y) then _ else _) = _
  rw [if_pos n2, pc_lightAt hS h hH (by omega) (by omega), Option.bind_some]
  show (if os_nn (g_3 S H x y) then _ else _) = _
  rw [if_pos n3, pc_lightAt hS h hH (by omega) (by omega), Option.bind_some]
  show (if os_nn (g_4 S H x y) then (if os_nn (g_e S H x y) then _ else _) else _) = _
  rw [if_pos n4, if_pos n5]
  rfl
/-! the error, its size -/
def g_m (S : Nat → Nat) (T H : Int → Int → Int) (x y : Int) : UInt32 := FP.fsub (g_e S H x y) (fl_w (T x y).toNat)
def g_z (S : Nat → Nat) (T H : Int → Int → Int) (x y : Int) : UInt32 := if ic S x y then fq_a (g_m S T H x y) else FP.fconst0
theorem g_mF (hS : sv S) (hH : hv S H) (hT : tv S T) {x y : Int} (c : ic S x y) : os_nn (g_m S T H x y) ∧ fw_m 130 (g_m S T H x y) := by
  have := hT x y c
  have he := (g_all hS hH c).2.2.2.2.2.2.2
  exact ⟨fq_sub (g_eF hS hH c) (fl_wF (by omega)), fw_sub (fm_of he (by decide) (by decide)) (fl_wm (by omega)) (by decide)⟩
theorem g_mfF (hS : sv S) (hH : hv S H) (hT : tv S T) {x y : Int} (c : ic S x y) : fF (g_m S T H x y) := fw_F (g_mF hS hH hT c).2 (by decide)
theorem pc_size0 (hS : sv S) (h : cp o S T H) (hH : hv S H) (hT : tv S T) {x y : Int} (hx : ib x) (hy : ib y) : ff_X2_sizeOfMiss N o (Int32.ofInt x) (Int32.ofInt y) = some (g_z S T H x y) := by
  unfold ff_X2_sizeOfMiss g_z
  rw [pc_has hS h hx hy, Option.bind_some, oz_ite]
  by_cases c : ic S x y
  · have hm := g_mfF hS hH hT c
    rw [if_pos c, if_pos c, pc_glow hS h hH c, Option.bind_some, pc_wishAt hS h hT c, Option.bind_some]
    show (if os_nn (g_m S T H x y) then (if 0 ≤ Op.cmpValue (FP.fcmp (g_m S T H x y) FP.fconst0) CmpOp.g then some (g_m S T H x y) else some (FP.fneg (g_m S T H x y))) else _) = _
    simp only [cq_geg, ne_eq, fq_lt hm fq_0, fz_0]
    rw [if_pos (g_mF hS hH hT c).1, fq_fneg hm]
    unfold fq_a
    by_cases c2 : fz (g_m S T H x y) < 0
    · rw [if_neg (fun z => z c2), if_pos c2]
    · rw [if_pos c2, if_neg c2]
  · rw [if_neg c, if_neg c]
/-- the size of an error lies between 0 and 1 -/
theorem g_zb (hS : sv S) (hH : hv S H) (hT : tv S T) {x y : Int} : fF (g_z S T H x y) ∧ 0 ≤ fz (g_z S T H x y) ∧ fz (g_z S T H x y) ≤ fz f_1 := by
  unfold g_z
  split
  · rename_i c
    have ht := hT x y c
    have he := g_all hS hH c
    have hm := g_mfF hS hH hT c
    refine ⟨fq_aF hm, fq_a0, ?_⟩
    have hw := fl_wb (t := (T x y).toNat) (by omega)
    rw [g_m, fq_aD (g_eF hS hH c) (fl_wF (by omega))]
    have a1 : fz (g_e S H x y) ≤ fz f_1 := by rw [fz_le (by omega) (by decide)]; exact he.2.2.2.2.2.2.2
    have a2 : fz (fl_w (T x y).toNat) ≤ fz f_1 := by rw [fz_le (by omega) (by decide)]; exact hw
    have a3 : 0 ≤ fz (g_e S H x y) := fz_p (by omega)
    have a4 : 0 ≤ fz (fl_w (T x y).toNat) := fz_p (by omega)
    unfold fq_d
    split
    · exact fz_sub_le (fl_wF (by omega)) (g_eF hS hH c) (by decide +kernel) (by omega)
    · exact fz_sub_le (g_eF hS hH c) (fl_wF (by omega)) (by decide +kernel) (by omega)
  · exact ⟨fq_0, by rw [fz_0]; omega, by decide +kernel⟩
end Glow
