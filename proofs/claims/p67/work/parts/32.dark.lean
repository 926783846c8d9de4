/-! LAYER 2. The fingerprint -/
section Dark
variable {N : Nat} {o : os_T} {S : Nat → Nat} {T H : Int → Int → Int}
/-! bits -/
theorem ib_sh : ∀ q : Fin 128, (Int32.ofInt (q.val : Int)) <<< ((23 : Int32) &&& 31) = Int32.ofInt ((q.val * 8388608 : Nat) : Int) := by decide +kernel
theorem ib_u (a : UInt32) : UInt32.toInt32 a = Int32.ofInt (a.toNat : Int) := by
  rw [Int32.ofInt_eq_ofNat]
  apply Int32.toBitVec.inj
  show a.toBitVec = BitVec.ofNat 32 a.toNat
  exact (BitVec.ofNat_toNat 32 a.toBitVec).symm ▸ (by rw [BitVec.setWidth_eq])
theorem ib_frac {m : UInt32} {t : Nat} (ht : t < 8388608) (hm : m.toNat = 1065353216 + t) : os_nn (FP.fsub m FP.fconst1) ∧ os_nn (FP.fmul (FP.fsub m FP.fconst1) 1258291200) ∧ FP.f2i (FP.fmul (FP.fsub m FP.fconst1) 1258291200) = Int32.ofInt (t : Int) := by
  have hmF : fF m := fF_n (by omega)
  have h1F : fF FP.fconst1 := fF_n (by decide)
  have hKF : fF (1258291200 : UInt32) := fF_n (by decide)
  have hd := fb_dec (a := m) (by omega) (by omega)
  rw [show m.toNat % 8388608 = t by omega, show m.toNat / 8388608 = 127 by omega] at hd
  have h1 : FP.Core.val32 FP.fconst1 = .fin false 8388608 (-23) := by decide +kernel
  have hK : FP.Core.val32 (1258291200 : UInt32) = .fin false 8388608 0 := by decide +kernel
  have hs : FP.Core.val32 (FP.fsub m FP.fconst1) = FP.Core.roundRatio FP.Core.b32 false t 1 (-23) := by
    show FP.Core.val32 (FP.Core.fsub m FP.fconst1) = _
    rw [FP.Core.val32_fsub, hd, h1]
    have e : FP.Core.exactSum (.fin false (8388608 + t) (-149 + ((127 : Nat) : Int) - 1)) (FP.Core.negate (.fin false 8388608 (-23))) = .fin false t (-23) := by
      show FP.Core.Datum.fin (FP.Core.sumSign false true (FP.Core.sumUnits false (8388608 + t) (-23) true 8388608 (-23) (-23))) (FP.Core.sumUnits false (8388608 + t) (-23) true 8388608 (-23) (-23)).natAbs (-23) = _
      have ev : FP.Core.sumUnits false (8388608 + t) (-23) true 8388608 (-23) (-23) = (t : Int) := by
        unfold FP.Core.sumUnits FP.Core.inUnits FP.Core.signed
        simp
        omega
      rw [ev]
      unfold FP.Core.sumSign
      split
      · rfl
      · rw [decide_eq_false (by omega)]; rfl
    rw [e]
    rfl
  have hn1 : os_nn (FP.fsub m FP.fconst1) := fq_sub hmF h1F
  obtain ⟨c, q, hr, hu⟩ := FP.Core.round_exact FP.Core.good_b32 false (c := t) (q := -23) (by show t < 2 ^ 24; omega) (by decide) (by decide)
  have hr2 : FP.Core.val32 (FP.fsub m FP.fconst1) = .fin false c q := hs.trans hr
  have hsF : fF (FP.fsub m FP.fconst1) := ⟨_, _, _, hr2⟩
  refine ⟨hn1, fq_mul hsF hKF, ?_⟩
  have hq := FP.Core.val32_fits (FP.fsub m FP.fconst1)
  rw [hr2] at hq
  have hqm : FP.Core.Fmt.qmin FP.Core.b32 = -149 := by decide
  have hq1 := hq.2.1
  rw [hqm] at hq1 hu
  have e3 : FP.Core.val32 (FP.fmul (FP.fsub m FP.fconst1) 1258291200) = FP.Core.val32 (FP.i2f (Int32.ofInt (t : Int))) := by
    show FP.Core.val32 (FP.Core.fmul (FP.fsub m FP.fconst1) 1258291200) = FP.Core.val32 (FP.Core.i2f _)
    rw [FP.Core.val32_fmul, hr2, hK, FP.Core.val32_i2f, ia_v (by omega) (by omega)]
    show FP.Core.roundRatio FP.Core.b32 (false != false) (c * 8388608) 1 (q + 0) = FP.Core.roundRatio FP.Core.b32 (decide ((t : Int) < 0)) (t : Int).natAbs 1 0
    rw [decide_eq_false (by omega), Int.natAbs_natCast]
    refine FP.Core.roundRatio_congr (by decide) (by decide) ?_
    unfold FP.Core.inUnits at hu
    rw [Int.add_zero, Nat.mul_one, Nat.mul_one]
    have e126 : (-23 - (-149 : Int)).toNat = 126 := by decide
    rw [e126] at hu
    by_cases hq0 : 0 ≤ q
    · have hc0 : c * 2 ^ (q - -149).toNat = c * 8388608 * 2 ^ (q - 0).toNat * 2 ^ 126 := by
        rw [show (q - -149).toNat = 23 + (q - 0).toNat + 126 by omega, Nat.pow_add, Nat.pow_add, ← Nat.mul_assoc, ← Nat.mul_assoc]
      rw [hc0] at hu
      have := Nat.eq_of_mul_eq_mul_right (Nat.two_pow_pos 126) hu
      rw [this, show (0 - q).toNat = 0 by omega, Nat.pow_zero, Nat.mul_one]
    · rw [show (q - 0).toNat = 0 by omega, Nat.pow_zero, Nat.mul_one]
      have e : (0 - q).toNat + (q - -149).toNat = 149 := by omega
      refine Nat.eq_of_mul_eq_mul_right (Nat.two_pow_pos (q - -149).toNat) ?_
      rw [Nat.mul_assoc t, ← Nat.pow_add, e, Nat.mul_assoc, Nat.mul_comm 8388608, ← Nat.mul_assoc, hu, Nat.mul_assoc]
  have e4 : FP.fmul (FP.fsub m FP.fconst1) 1258291200 = FP.i2f (Int32.ofInt (t : Int)) := FP.Core.val32_inj (by rw [e3]; exact (FP.Core.i2f_fin _).ne_nan) e3
  rw [e4]
  exact FP.Core.f2i_i2f (by rw [ia_v (by omega) (by omega)]; omega)
theorem ib_bits {N : Nat} (hN : 1000 < N) {e : UInt32} (h1 : 8388608 ≤ e.toNat) (h2 : e.toNat ≤ 1065353216) : ff_X2_bitsOf N e = some (UInt32.toInt32 e) := by
  have key : ∀ k : Nat, k ≤ 127 - e.toNat / 8388608 → (fo (fun _ m => FP.fmul m FP.fconst2) k e).toNat = e.toNat + k * 8388608 := by
    intro k
    induction k with
    | zero => intro _; show e.toNat = _; omega
    | succ k ih =>
      intro hk
      have := ih (by omega)
      rw [fo_s, fb_mul2 (by omega) (by omega), this]
      omega
  unfold ff_X2_bitsOf ff_X2_bitsOf_l7
  refine lo_fo (N := N) (fun (m : UInt32) k => (m, Int32.ofInt (127 - (k : Int)), Int32.ofInt (k : Int))) (fun _ m => FP.fmul m FP.fconst2) e (127 - e.toNat / 8388608) ?_ ?_ (by omega)
  · intro k m hk hm r
    have hb := key k (by omega)
    rw [← hm] at hb
    have hF : fF m := fF_n (by omega)
    show ff_X2_bitsOf_c7 N r m (Int32.ofInt (127 - (k : Int))) (Int32.ofInt (k : Int)) = _
    unfold ff_X2_bitsOf_c7
    have hlt : fz m < fz FP.fconst1 := by
      refine Int.not_le.mp fun z => ?_
      rw [fz_le (by decide) (by omega)] at z
      have : FP.fconst1.toNat = 1065353216 := rfl
      omega
    simp only [cq_geg, ne_eq, fq_lt hF (fF_n (n := FP.fconst1) (by decide))]
    rw [show (127 : Int32) = Int32.ofInt 127 from rfl, ii_le (by omega) (by omega), if_neg (by omega), if_neg (fun z => z hlt), if_pos (fq_mul hF (fF_n (by decide))), ii_m1, ia_add, ii_1, ia_s, show (127 : Int) - (k : Int) + -1 = 127 - ((k + 1 : Nat) : Int) by omega]
  · intro r
    have hb := key _ (Nat.le_refl _)
    generalize fo (fun _ m => FP.fmul m FP.fconst2) (127 - e.toNat / 8388608) e = m at *
    have hF : fF m := fF_n (by omega)
    have hge : ¬ fz m < fz FP.fconst1 := by
      refine fun z => absurd z (Int.not_lt.mpr ?_)
      rw [fz_le (by decide) (by omega)]
      have : FP.fconst1.toNat = 1065353216 := rfl
      omega
    obtain ⟨n1, n2, n3⟩ := ib_frac (m := m) (t := e.toNat % 8388608) (by omega) (by omega)
    show ff_X2_bitsOf_c7 N r m (Int32.ofInt (127 - ((127 - e.toNat / 8388608 : Nat) : Int))) (Int32.ofInt ((127 - e.toNat / 8388608 : Nat) : Int)) = _
    unfold ff_X2_bitsOf_c7 ff_X2_bitsOf_b32
    simp only [cq_geg, ne_eq, fq_lt hF (fF_n (n := FP.fconst1) (by decide))]
    rw [show (127 : Int32) = Int32.ofInt 127 from rfl, ii_le (by omega) (by omega), if_neg (by omega), if_pos hge, if_pos n1, if_pos n2, n3, show (127 : Int) - ((127 - e.toNat / 8388608 : Nat) : Int) = ((e.toNat / 8388608 : Nat) : Int) by omega]
    have hq := ib_sh ⟨e.toNat / 8388608, by omega⟩
    rw [hq, ia_add, ib_u]
    congr 2
    show ((e.toNat / 8388608 * 8388608 : Nat) : Int) + ((e.toNat % 8388608 : Nat) : Int) = _
    omega
def lq_fp (S : Nat → Nat) (H : Int → Int → Int) : Int → Int → Int32 → Int32 := fun x y a => a * 31 + UInt32.toInt32 (g_e S H x y)

theorem pc_hash (hN : 1000 < N) (hS : sv S) (h : cp o S T H) (hH : hv S H) : ff_X2_hash N o  = some (gr (S 0) (S 1) (lq_fp S H) 17) := by
  have hs := sv_a hS
  unfold ff_X2_hash ff_X2_hash_l5
  refine lo_grid (N := N) (step2 := fun k2 r2 s1 => ff_X2_hash_c15 N o k2 r2 s1.1 s1.2.1 s1.2.2) (fun (a : Int32) (y : Nat) => (a, Int32.ofInt (y : Int))) (fun (a : Int32) (y x : Nat) => (a, Int32.ofInt (y : Int), Int32.ofInt (x : Int))) (S 0) (S 1) (lq_fp S H) (17) ?_ ?_ ?_ ?_ (by omega) (by omega)
  · intro a y r hy
    show ff_X2_hash_c5 N o r a (Int32.ofInt (y : Int)) = _
    unfold ff_X2_hash_c5
    rw [if_neg (pc_rN hS h (by omega))]
    rfl
  · intro a x y k r hx hy ha
    have hc : ic S (x : Int) (y : Int) := ic_n hx (by omega)
    have hr := ic_r hS hc
    show ff_X2_hash_c15 N o k r a (Int32.ofInt (y : Int)) (Int32.ofInt (x : Int)) = _
    unfold ff_X2_hash_c15
    rw [if_neg (pc_wN hS h hx)]
    have he := g_all hS hH hc
    rw [pc_glow hS h hH hc, Option.bind_some, ib_bits hN (by omega) (by omega), Option.bind_some]
    show r (a * 31 + UInt32.toInt32 (g_e S H x y), Int32.ofInt (y : Int), Int32.ofInt (x : Int) + 1) = _
    rw [ii_1, ia_s]
    rfl
  · intro a y k r hy ha
    show ff_X2_hash_c15 N o k r a (Int32.ofInt (y : Int)) (Int32.ofInt (S 0 : Int)) = _
    unfold ff_X2_hash_c15
    rw [if_pos (pc_wE h), ii_1, ia_add]
    rfl
  · intro r
    show ff_X2_hash_c5 N o r _ (Int32.ofInt (S 1 : Int)) = _
    unfold ff_X2_hash_c5
    rw [if_pos (pc_rE h)]
    all_goals rfl
end Dark
