/-! LAYER 2. The darkest row, the fingerprint -/
section Dark
variable {N : Nat} {o : os_T} {S : Nat → Nat} {T H : Int → Int → Int}
def lq_rw (S : Nat → Nat) (H : Int → Int → Int) (y : Int) (n : Nat) : UInt32 := fo (fun k a => FP.fadd a (g_e S H k y)) n FP.fconst0
theorem lq_rwb (hS : sv S) (hH : hv S H) {y : Nat} (hy : y < S 1) : ∀ n : Nat, n ≤ S 0 → fF (lq_rw S H y n) ∧ 0 ≤ fz (lq_rw S H y n) ∧ fz (lq_rw S H y n) ≤ n * fz f_1 := by
  have hs := sv_a hS
  intro n
  induction n with
  | zero => intro _; exact ⟨fq_0, by show 0 ≤ fz FP.fconst0; rw [fz_0]; omega, by show fz FP.fconst0 ≤ _; rw [fz_0]; omega⟩
  | succ n ih =>
    intro hn
    obtain ⟨i1, i2, i3⟩ := ih (by omega)
    have hc : ic S (n : Int) (y : Int) := ic_n (by omega) hy
    have he := g_all hS hH hc
    have := fi_add (n := n) (by omega) i1 (g_eF hS hH hc) i2 i3 (fz_p (by omega)) (by rw [fz_le (by omega) (by decide)]; exact he.2.2.2.2.2.2.2)
    exact ⟨this.2.1, this.2.2.1, this.2.2.2⟩
theorem lq_rwn (hS : sv S) (hH : hv S H) {y n : Nat} (hy : y < S 1) (hn : n < S 0) : os_nn (FP.fadd (lq_rw S H y n) (g_e S H n y)) := by
  have hs := sv_a hS
  obtain ⟨i1, i2, i3⟩ := lq_rwb hS hH hy n (by omega)
  exact fq_add i1 (g_eF hS hH (ic_n hn hy))
theorem pc_rowS (hN : 1000 < N) (hS : sv S) (h : cp o S T H) (hH : hv S H) {y : Nat} (hy : y < S 1) : ff_X2_sumOfRow N o (Int32.ofInt (y : Int)) = some (lq_rw S H y (S 0)) := by
  have hs := sv_a hS
  unfold ff_X2_sumOfRow ff_X2_sumOfRow_l4
  refine lo_fo (N := N) (fun (a : UInt32) k => (Int32.ofInt (y : Int), a, Int32.ofInt (k : Int))) (fun k a => FP.fadd a (g_e S H k y)) FP.fconst0 (S 0) ?_ ?_ (by omega)
  · intro k a hk ha r
    have hc : ic S (k : Int) (y : Int) := ic_n hk hy
    have hn := lq_rwn hS hH hy hk
    rw [show lq_rw S H y k = a from ha.symm] at hn
    show ff_X2_sumOfRow_c4 N o r (Int32.ofInt (y : Int)) a (Int32.ofInt (k : Int)) = _
    unfold ff_X2_sumOfRow_c4
    rw [if_neg (pc_wN hS h hk), pc_glow hS h hH hc, Option.bind_some, if_pos hn, ii_1, ia_s]
  · intro r
    show ff_X2_sumOfRow_c4 N o r (Int32.ofInt (y : Int)) _ (Int32.ofInt (S 0 : Int)) = _
    unfold ff_X2_sumOfRow_c4
    rw [if_pos (pc_wE h)]
    rfl
def lq_dk (S : Nat → Nat) (H : Int → Int → Int) (y : Nat) (a : Int × UInt32) : Int × UInt32 := if fz (lq_rw S H y (S 0)) < fz a.2 then ((y : Int), lq_rw S H y (S 0)) else a
def lq_dark (S : Nat → Nat) (H : Int → Int → Int) : Int := (fo (fun k => lq_dk S H (1 + k)) (S 1 - 1) (0, lq_rw S H 0 (S 0))).1
theorem lq_dkF (hS : sv S) (hH : hv S H) : ∀ n, n ≤ S 1 - 1 → fF (fo (fun k => lq_dk S H (1 + k)) n (0, lq_rw S H 0 (S 0))).2 := by
  have hs := sv_a hS
  intro n hn
  refine fo_inv (fun _ (a : Int × UInt32) => fF a.2) (lq_rwb hS hH (y := 0) (by omega) (S 0) (Nat.le_refl _)).1 ?_
  intro k hk a ha
  show fF (lq_dk S H (1 + k) a).2
  unfold lq_dk
  split
  · exact (lq_rwb hS hH (y := 1 + k) (by omega) (S 0) (Nat.le_refl _)).1
  · exact ha
theorem pc_dark (hN : 1000 < N) (hS : sv S) (h : cp o S T H) (hH : hv S H) : ff_X2_dimmestRow N o = some (Int32.ofInt (lq_dark S H)) := by
  have hs := sv_a hS
  unfold ff_X2_dimmestRow
  have e0 := pc_rowS (y := 0) hN hS h hH (by omega)
  rw [show Int32.ofInt ((0 : Nat) : Int) = 0 from rfl] at e0
  rw [e0, Option.bind_some]
  unfold ff_X2_dimmestRow_l10
  refine lo_fo (N := N) (fun (a : Int × UInt32) k => (Int32.ofInt a.1, a.2, Int32.ofInt ((1 + k : Nat) : Int))) (fun k => lq_dk S H (1 + k)) (0, lq_rw S H 0 (S 0)) (S 1 - 1) ?_ ?_ (by omega)
  · intro k a hk ha r
    have hF := lq_dkF hS hH k (by omega)
    rw [← ha] at hF
    have hz := (lq_rwb hS hH (y := 1 + k) (by omega) (S 0) (Nat.le_refl _)).1
    show ff_X2_dimmestRow_c10 N o r (Int32.ofInt a.1) a.2 (Int32.ofInt ((1 + k : Nat) : Int)) = _
    unfold ff_X2_dimmestRow_c10
    rw [if_neg (pc_rN hS h (by omega)), pc_rowS hN hS h hH (by omega), Option.bind_some]
    simp only [cq_geg, ne_eq, fq_lt hz hF]
    unfold ff_X2_dimmestRow_b37 lq_dk
    rw [ii_1, ia_s]
    by_cases c : fz (lq_rw S H ((1 + k : Nat) : Int) (S 0)) < fz a.2
    · rw [if_neg (fun z => z c), if_pos c]; rfl
    · rw [if_pos c, if_neg c]; rfl
  · intro r
    show ff_X2_dimmestRow_c10 N o r _ _ (Int32.ofInt ((1 + (S 1 - 1) : Nat) : Int)) = _
    unfold ff_X2_dimmestRow_c10
    rw [show 1 + (S 1 - 1) = S 1 by omega, if_pos (pc_rE h)]
    rfl
theorem rc_darkI (hN : 1000 < N) (hS : sv S) (h : rp o S T H) (hH : hv S H) {y : Nat} (hy : y < S 1) (b : Int32) (l : UInt32) (r : (os_T × Int32 × UInt32 × Int32) → Option (Int32 × os_T)) : ff_X13_darkestRow_l27 N r N (o, b, l, Int32.ofInt (y : Int), FP.fconst0, Int32.ofInt 0) = (if Int32.ofInt (y : Int) ≤ 0 then ff_X13_darkestRow_b71 N r o l (Int32.ofInt (y : Int)) (lq_rw S H y (S 0)) else (if (Op.cmpValue (FP.fcmp (lq_rw S H y (S 0)) l) CmpOp.l) < 0 then ff_X13_darkestRow_b71 N r o l (Int32.ofInt (y : Int)) (lq_rw S H y (S 0)) else ff_X13_darkestRow_b72 N r o l (Int32.ofInt (y : Int)) (lq_rw S H y (S 0)) b)) := by
  have hs := sv_a hS
  unfold ff_X13_darkestRow_l27
  refine lo_fo (N := N) (fun (a : UInt32) k => (o, b, l, Int32.ofInt (y : Int), a, Int32.ofInt (k : Int))) (fun k a => FP.fadd a (g_e S H k y)) FP.fconst0 (S 0) ?_ ?_ (by omega)
  · intro k a hk ha r2
    have hc : ic S (k : Int) (y : Int) := ic_n hk hy
    have hn := lq_rwn hS hH hy hk
    rw [show lq_rw S H y k = a from ha.symm] at hn
    show ff_X13_darkestRow_c27 N r r2 o b l (Int32.ofInt (y : Int)) a (Int32.ofInt (k : Int)) = _
    unfold ff_X13_darkestRow_c27
    rw [if_pos nw_0, rs_0 h, ii_le (by omega) (by omega), if_neg (by omega), rc_glow hN hS h hH hc, Option.bind_some, if_pos hn, ii_1, ia_s]
  · intro r2
    show ff_X13_darkestRow_c27 N r r2 o b l (Int32.ofInt (y : Int)) (lq_rw S H y (S 0)) (Int32.ofInt (S 0 : Int)) = _
    unfold ff_X13_darkestRow_c27
    rw [if_pos nw_0, rs_0 h, if_pos (Int32.le_refl _)]
theorem rc_darkL (hN : 1000 < N) (hS : sv S) (h : rp o S T H) (hH : hv S H) : ff_X13_darkestRow_l11 N N (o, Int32.ofInt 0, FP.fconst0, Int32.ofInt 0) = some (Int32.ofInt (lq_dark S H), o) := by
  have hs := sv_a hS
  unfold ff_X13_darkestRow_l11
  refine lo_run (N := N) (fun y : Nat => (o, (if y = 0 then Int32.ofInt 0 else Int32.ofInt (fo (fun k => lq_dk S H (1 + k)) (y - 1) (0, lq_rw S H 0 (S 0))).1), (if y = 0 then FP.fconst0 else (fo (fun k => lq_dk S H (1 + k)) (y - 1) (0, lq_rw S H 0 (S 0))).2), Int32.ofInt (y : Int))) (S 1) ?_ ?_ (by omega)
  · intro y hy r
    show ff_X13_darkestRow_c11 N r o _ _ (Int32.ofInt (y : Int)) = _
    unfold ff_X13_darkestRow_c11
    rw [if_pos nw_1, rs_1 h, ii_le (by omega) (by omega), if_neg (by omega), ii_0, rc_darkI hN hS h hH hy]
    simp only [show (Int32.ofInt (y : Int) ≤ 0) = ((y : Int) ≤ 0) from i0_le (by omega)]
    rcases y with _ | y
    · rw [if_pos (show ((0 : Nat) : Int) ≤ 0 by omega)]
      unfold ff_X13_darkestRow_b71 ff_X13_darkestRow_b72 ff_X13_darkestRow_b88 ff_X13_darkestRow_b90
      rw [if_pos (by decide), ii_1, ia_s]
      rfl
    · have hF := lq_dkF hS hH y (by omega)
      have hz := (lq_rwb hS hH (y := y + 1) (by omega) (S 0) (Nat.le_refl _)).1
      rw [if_neg (show ¬ ((y + 1 : Nat) : Int) ≤ 0 by omega)]
      simp only [if_neg (Nat.succ_ne_zero y), if_neg (Nat.succ_ne_zero (y + 1)), Nat.add_sub_cancel]
      simp only [cq_ltl, fq_lt hz hF, fq_none hz hF, or_false]
      unfold ff_X13_darkestRow_b71 ff_X13_darkestRow_b72 ff_X13_darkestRow_b88 ff_X13_darkestRow_b90
      simp only [show (Int32.ofInt ((y + 1 : Nat) : Int) ≤ 0) = (((y + 1 : Nat) : Int) ≤ 0) from i0_le (by omega), cq_ltl, fq_lt hz hF, fq_none hz hF, or_false]
      rw [fo_s]
      generalize fo (fun k => lq_dk S H (1 + k)) y (0, lq_rw S H 0 (S 0)) = a at *
      rw [Nat.add_comm 1 y]
      unfold lq_dk
      rw [ii_1, ia_s]
      by_cases c : fz (lq_rw S H ((y + 1 : Nat) : Int) (S 0)) < fz a.2
      · simp only [if_pos c, if_neg (show ¬ ((y + 1 : Nat) : Int) ≤ 0 by omega)]
      · simp only [if_neg c, if_neg (show ¬ ((y + 1 : Nat) : Int) ≤ 0 by omega)]
  · intro r
    show ff_X13_darkestRow_c11 N r o _ _ (Int32.ofInt (S 1 : Int)) = _
    unfold ff_X13_darkestRow_c11
    rw [if_pos nw_1, rs_1 h, if_pos (Int32.le_refl _), if_neg (by omega)]
    rfl
/-! bits -/
theorem ib_sh : ∀ q : Fin 128, (Int32.ofInt (q.val : Int)) <<< ((23 : Int32) &&& 31) = Int32.ofInt ((q.val * 8388608 : Nat) : Int) := by decide +kernel
theorem ib_u (a : UInt32) : UInt32.toInt32 a = Int32.ofInt (a.toNat : Int) := by
  rw [Int32.ofInt_eq_ofNat]
  apply Int32.toBitVec.inj
  show a.toBitVec = BitVec.ofNat 32 a.toNat
  exact (BitVec.ofNat_toNat 32 a.toBitVec).symm ▸ (by rw [BitVec.setWidth_eq])
theorem ib_frac {m : UInt32} {t : Nat} (ht : t < 8388608) (hm : m.toNat = 1065353216 + t) : os_nn (FP.fsub m FP.fconst1) ∧ os_nn (FP.fmul (FP.fsub m FP.fconst1) 1258291200) ∧ FP.f2i (FP.fmul (FP.fsub m FP.fconst1) 1258291200) = Int32.ofInt (t : Int) := by
  have hmF : fF m := fF_n (by omega)
  have h1F : fF FP.fconst1 := fF_n (by decide)
  have hKF : fF (1258291200 : UInt32) := fF_n (by decide)
  have hd := fb_dec (a := m) (by omega) (by omega)
  rw [show m.toNat % 8388608 = t by omega, show m.toNat / 8388608 = 127 by omega] at hd
  have h1 : FP.Core.val32 FP.fconst1 = .fin false 8388608 (-23) := by decide +kernel
  have hK : FP.Core.val32 (1258291200 : UInt32) = .fin false 8388608 0 := by decide +kernel
  have hs : FP.Core.val32 (FP.fsub m FP.fconst1) = FP.Core.roundRatio FP.Core.b32 false t 1 (-23) := by
    show FP.Core.val32 (FP.Core.fsub m FP.fconst1) = _
    rw [FP.Core.val32_fsub, hd, h1]
    have e : FP.Core.exactSum (.fin false (8388608 + t) (-149 + ((127 : Nat) : Int) - 1)) (FP.Core.negate (.fin false 8388608 (-23))) = .fin false t (-23) := by
      show FP.Core.Datum.fin (FP.Core.sumSign false true (FP.Core.sumUnits false (8388608 + t) (-23) true 8388608 (-23) (-23))) (FP.Core.sumUnits false (8388608 + t) (-23) true 8388608 (-23) (-23)).natAbs (-23) = _
      have ev : FP.Core.sumUnits false (8388608 + t) (-23) true 8388608 (-23) (-23) = (t : Int) := by
        unfold FP.Core.sumUnits FP.Core.inUnits FP.Core.signed
        simp
        omega
      rw [ev]
      unfold FP.Core.sumSign
      split
      · rfl
      · rw [decide_eq_false (by omega)]; rfl
    rw [e]
    rfl
  have hn1 : os_nn (FP.fsub m FP.fconst1) := fq_sub hmF h1F
  obtain ⟨c, q, hr, hu⟩ := FP.Core.round_exact FP.Core.good_b32 false (c := t) (q := -23) (by show t < 2 ^ 24; omega) (by decide) (by decide)
  have hr2 : FP.Core.val32 (FP.fsub m FP.fconst1) = .fin false c q := hs.trans hr
  have hsF : fF (FP.fsub m FP.fconst1) := ⟨_, _, _, hr2⟩
  refine ⟨hn1, fq_mul hsF hKF, ?_⟩
  have hq := FP.Core.val32_fits (FP.fsub m FP.fconst1)
  rw [hr2] at hq
  have hqm : FP.Core.Fmt.qmin FP.Core.b32 = -149 := by decide
  have hq1 := hq.2.1
  rw [hqm] at hq1 hu
  have e3 : FP.Core.val32 (FP.fmul (FP.fsub m FP.fconst1) 1258291200) = FP.Core.val32 (FP.i2f (Int32.ofInt (t : Int))) := by
    show FP.Core.val32 (FP.Core.fmul (FP.fsub m FP.fconst1) 1258291200) = FP.Core.val32 (FP.Core.i2f _)
    rw [FP.Core.val32_fmul, hr2, hK, FP.Core.val32_i2f, ia_v (by omega) (by omega)]
    show FP.Core.roundRatio FP.Core.b32 (false != false) (c * 8388608) 1 (q + 0) = FP.Core.roundRatio FP.Core.b32 (decide ((t : Int) < 0)) (t : Int).natAbs 1 0
    rw [decide_eq_false (by omega), Int.natAbs_natCast]
    refine FP.Core.roundRatio_congr (by decide) (by decide) ?_
    unfold FP.Core.inUnits at hu
    rw [Int.add_zero, Nat.mul_one, Nat.mul_one]
    have e126 : (-23 - (-149 : Int)).toNat = 126 := by decide
    rw [e126] at hu
    by_cases hq0 : 0 ≤ q
    · have hc0 : c * 2 ^ (q - -149).toNat = c * 8388608 * 2 ^ (q - 0).toNat * 2 ^ 126 := by
        rw [show (q - -149).toNat = 23 + (q - 0).toNat + 126 by omega, Nat.pow_add, Nat.pow_add, ← Nat.mul_assoc, ← Nat.mul_assoc]
      rw [hc0] at hu
      have := Nat.eq_of_mul_eq_mul_right (Nat.two_pow_pos 126) hu
      rw [this, show (0 - q).toNat = 0 by omega, Nat.pow_zero, Nat.mul_one]
    · rw [show (q - 0).toNat = 0 by omega, Nat.pow_zero, Nat.mul_one]
      have e : (0 - q).toNat + (q - -149).toNat = 149 := by omega
      refine Nat.eq_of_mul_eq_mul_right (Nat.two_pow_pos (q - -149).toNat) ?_
      rw [Nat.mul_assoc t, ← Nat.pow_add, e, Nat.mul_assoc, Nat.mul_comm 8388608, ← Nat.mul_assoc, hu, Nat.mul_assoc]
  have e4 : FP.fmul (FP.fsub m FP.fconst1) 1258291200 = FP.i2f (Int32.ofInt (t : Int)) := FP.Core.val32_inj (by rw [e3]; exact (FP.Core.i2f_fin _).ne_nan) e3
  rw [e4]
  exact FP.Core.f2i_i2f (by rw [ia_v (by omega) (by omega)]; omega)
theorem ib_bits {N : Nat} (hN : 1000 < N) {e : UInt32} (h1 : 8388608 ≤ e.toNat) (h2 : e.toNat ≤ 1065353216) : ff_X2_bitsOf N e = some (UInt32.toInt32 e) := by
  have key : ∀ k : Nat, k ≤ 127 - e.toNat / 8388608 → (fo (fun _ m => FP.fmul m FP.fconst2) k e).toNat = e.toNat + k * 8388608 := by
    intro k
    induction k with
    | zero => intro _; show e.toNat = _; omega
    | succ k ih =>
      intro hk
      have := ih (by omega)
      rw [fo_s, fb_mul2 (by omega) (by omega), this]
      omega
  unfold ff_X2_bitsOf ff_X2_bitsOf_l7
  refine lo_fo (N := N) (fun (m : UInt32) k => (m, Int32.ofInt (127 - (k : Int)), Int32.ofInt (k : Int))) (fun _ m => FP.fmul m FP.fconst2) e (127 - e.toNat / 8388608) ?_ ?_ (by omega)
  · intro k m hk hm r
    have hb := key k (by omega)
    rw [← hm] at hb
    have hF : fF m := fF_n (by omega)
    show ff_X2_bitsOf_c7 N r m (Int32.ofInt (127 - (k : Int))) (Int32.ofInt (k : Int)) = _
    unfold ff_X2_bitsOf_c7
    have hlt : fz m < fz FP.fconst1 := by
      refine Int.not_le.mp fun z => ?_
      rw [fz_le (by decide) (by omega)] at z
      have : FP.fconst1.toNat = 1065353216 := rfl
      omega
    simp only [cq_geg, ne_eq, fq_lt hF (fF_n (n := FP.fconst1) (by decide))]
    rw [show (127 : Int32) = Int32.ofInt 127 from rfl, ii_le (by omega) (by omega), if_neg (by omega), if_neg (fun z => z hlt), if_pos (fq_mul hF (fF_n (by decide))), ii_m1, ia_add, ii_1, ia_s, show (127 : Int) - (k : Int) + -1 = 127 - ((k + 1 : Nat) : Int) by omega]
  · intro r
    have hb := key _ (Nat.le_refl _)
    generalize fo (fun _ m => FP.fmul m FP.fconst2) (127 - e.toNat / 8388608) e = m at *
    have hF : fF m := fF_n (by omega)
    have hge : ¬ fz m < fz FP.fconst1 := by
      refine fun z => absurd z (Int.not_lt.mpr ?_)
      rw [fz_le (by decide) (by omega)]
      have : FP.fconst1.toNat = 1065353216 := rfl
      omega
    obtain ⟨n1, n2, n3⟩ := ib_frac (m := m) (t := e.toNat % 8388608) (by omega) (by omega)
    show ff_X2_bitsOf_c7 N r m (Int32.ofInt (127 - ((127 - e.toNat / 8388608 : Nat) : Int))) (Int32.ofInt ((127 - e.toNat / 8388608 : Nat) : Int)) = _
    unfold ff_X2_bitsOf_c7 ff_X2_bitsOf_b32
    simp only [cq_geg, ne_eq, fq_lt hF (fF_n (n := FP.fconst1) (by decide))]
    rw [show (127 : Int32) = Int32.ofInt 127 from rfl, ii_le (by omega) (by omega), if_neg (by omega), if_pos hge, if_pos n1, if_pos n2, n3, show (127 : Int) - ((127 - e.toNat / 8388608 : Nat) : Int) = ((e.toNat / 8388608 : Nat) : Int) by omega]
    have hq := ib_sh ⟨e.toNat / 8388608, by omega⟩
    rw [hq, ia_add, ib_u]
    congr 2
    show ((e.toNat / 8388608 * 8388608 : Nat) : Int) + ((e.toNat % 8388608 : Nat) : Int) = _
    omega
theorem ib_ref {N : Nat} {e : UInt32} (h : fF e) : ff_Jxf58ca_floatToIntBits_5c35a N e = some (UInt32.toInt32 e) := by
  unfold ff_Jxf58ca_floatToIntBits_5c35a ff_Jxf58ca_isNaN_12338
  have : FP.fcmp e e = some .eq := FP.Core.fcmp_self h.ne_nan
  rw [this]
  rfl
def lq_fp (S : Nat → Nat) (H : Int → Int → Int) : Int → Int → Int32 → Int32 := fun x y a => a * 31 + UInt32.toInt32 (g_e S H x y)

theorem pc_hash (hN : 1000 < N) (hS : sv S) (h : cp o S T H) (hH : hv S H) : ff_X2_hash N o  = some (gr (S 0) (S 1) (lq_fp S H) 17) := by
  have hs := sv_a hS
  unfold ff_X2_hash ff_X2_hash_l5
  refine lo_grid (N := N) (step2 := fun k2 r2 s1 => ff_X2_hash_c15 N o k2 r2 s1.1 s1.2.1 s1.2.2) (fun (a : Int32) (y : Nat) => (a, Int32.ofInt (y : Int))) (fun (a : Int32) (y x : Nat) => (a, Int32.ofInt (y : Int), Int32.ofInt (x : Int))) (S 0) (S 1) (lq_fp S H) (17) ?_ ?_ ?_ ?_ (by omega) (by omega)
  · intro a y r hy
    show ff_X2_hash_c5 N o r a (Int32.ofInt (y : Int)) = _
    unfold ff_X2_hash_c5
    rw [if_neg (pc_rN hS h (by omega))]
    rfl
  · intro a x y k r hx hy ha
    have hc : ic S (x : Int) (y : Int) := ic_n hx (by omega)
    have hr := ic_r hS hc
    show ff_X2_hash_c15 N o k r a (Int32.ofInt (y : Int)) (Int32.ofInt (x : Int)) = _
    unfold ff_X2_hash_c15
    rw [if_neg (pc_wN hS h hx)]
    have he := g_all hS hH hc
    rw [pc_glow hS h hH hc, Option.bind_some, ib_bits hN (by omega) (by omega), Option.bind_some]
    show r (a * 31 + UInt32.toInt32 (g_e S H x y), Int32.ofInt (y : Int), Int32.ofInt (x : Int) + 1) = _
    rw [ii_1, ia_s]
    rfl
  · intro a y k r hy ha
    show ff_X2_hash_c15 N o k r a (Int32.ofInt (y : Int)) (Int32.ofInt (S 0 : Int)) = _
    unfold ff_X2_hash_c15
    rw [if_pos (pc_wE h), ii_1, ia_add]
    rfl
  · intro r
    show ff_X2_hash_c5 N o r _ (Int32.ofInt (S 1 : Int)) = _
    unfold ff_X2_hash_c5
    rw [if_pos (pc_rE h)]
    all_goals rfl

theorem rc_hashL (hN : 1000 < N) (hS : sv S) (h : rp o S T H) (hH : hv S H) : ff_X13_fingerprint_l10 N N (o, 17, Int32.ofInt 0) = some (gr (S 0) (S 1) (lq_fp S H) 17, o) := by
  have hs := sv_a hS
  unfold ff_X13_fingerprint_l10
  refine lo_grid (N := N) (step2 := fun k2 r2 s1 => ff_X13_fingerprint_c22 N  k2 r2 s1.1 s1.2.1 s1.2.2.1 s1.2.2.2) (fun (a : Int32) (y : Nat) => (o, a, Int32.ofInt (y : Int))) (fun (a : Int32) (y x : Nat) => (o, a, Int32.ofInt (y : Int), Int32.ofInt (x : Int))) (S 0) (S 1) (lq_fp S H) (17) ?_ ?_ ?_ ?_ (by omega) (by omega)
  · intro a y r hy
    show ff_X13_fingerprint_c10 N  r o a (Int32.ofInt (y : Int)) = _
    unfold ff_X13_fingerprint_c10
    rw [if_pos nw_1, rs_1 h, ii_le (by omega) (by omega), if_neg (by omega)]
    rfl
  · intro a x y k r hx hy ha
    have hc : ic S (x : Int) (y : Int) := ic_n hx (by omega)
    have hr := ic_r hS hc
    show ff_X13_fingerprint_c22 N  k r o a (Int32.ofInt (y : Int)) (Int32.ofInt (x : Int)) = _
    unfold ff_X13_fingerprint_c22
    rw [if_pos nw_0, rs_0 h, ii_le (by omega) (by omega), if_neg (by omega)]
    rw [rc_glow hN hS h hH hc, Option.bind_some, ib_ref (g_eF hS hH hc), Option.bind_some, Int32.mul_comm]
    show r (o, a * 31 + UInt32.toInt32 (g_e S H x y), Int32.ofInt (y : Int), Int32.ofInt (x : Int) + 1) = _
    rw [ii_1, ia_s]
    rfl
  · intro a y k r hy ha
    show ff_X13_fingerprint_c22 N  k r o a (Int32.ofInt (y : Int)) (Int32.ofInt (S 0 : Int)) = _
    unfold ff_X13_fingerprint_c22
    rw [if_pos nw_0, rs_0 h, ii_le (by omega) (by omega), if_pos (by omega), ii_1, ia_add]
    rfl
  · intro r
    show ff_X13_fingerprint_c10 N  r o _ (Int32.ofInt (S 1 : Int)) = _
    unfold ff_X13_fingerprint_c10
    rw [if_pos nw_1, rs_1 h, ii_le (by omega) (by omega), if_pos (by omega)]
    all_goals rfl

end Dark
