/-! LAYER 2. The loop of the law -/
section Loop
variable {N L : Nat} {xs : Nat → Int32} {x o sp v0 v1 oh wa la w t y s m out outD : os_T} {P : Nat → os_T}
theorem lb_all {K : sT → Option Unit} {x5 : Int32} (hN : 100000 < N) (hw : wj x o v0 v1 oh P w t m) (h6 : ¬ ((Int32.ofNat L) - (6 : Int32)) < x5) (i0 : os_in x5 L) (i1 : os_in (x5 + (1 : Int32)) L) (i2 : os_in (x5 + (2 : Int32)) L) (i3 : os_in (x5 + (3 : Int32)) L) (i4 : os_in (x5 + (4 : Int32)) L) (i5 : os_in (x5 + (5 : Int32)) L) : lO K x5 (ff_L_law_c28 N xs L K x o sp v0 v1 oh (P 0) (P 1) (P 2) (P 3) (P 4) (P 5) (P 6) wa la w t y s m out outD x5) := by
  unfold ff_L_law_c28
  rw [if_neg h6, if_pos i0]
  by_cases c0 : ((xs (Int32.toNatClampNeg x5)) &&& (63 : Int32)) = 0
  · rw [if_pos c0]; exact lb_0 hN hw i1 i2 i3 i4 i5
  rw [if_neg c0]
  by_cases c1 : ((xs (Int32.toNatClampNeg x5)) &&& (63 : Int32)) = 1
  · rw [if_pos c1]; exact lb_1 hN hw i1
  rw [if_neg c1]
  by_cases c2 : ((xs (Int32.toNatClampNeg x5)) &&& (63 : Int32)) = 2
  · rw [if_pos c2]; exact lb_2 hN hw
  rw [if_neg c2]
  by_cases c3 : ((xs (Int32.toNatClampNeg x5)) &&& (63 : Int32)) = 3
  · rw [if_pos c3]; exact lb_3 hN hw
  rw [if_neg c3]
  by_cases c4 : ((xs (Int32.toNatClampNeg x5)) &&& (63 : Int32)) = 4
  · rw [if_pos c4]; exact lb_4 hN hw
  rw [if_neg c4]
  by_cases c5 : ((xs (Int32.toNatClampNeg x5)) &&& (63 : Int32)) = 5
  · rw [if_pos c5]; exact lb_5 hN hw
  rw [if_neg c5]
  by_cases c6 : ((xs (Int32.toNatClampNeg x5)) &&& (63 : Int32)) = 6
  · rw [if_pos c6]; exact lb_6 hN hw i1
  rw [if_neg c6]
  by_cases c7 : ((xs (Int32.toNatClampNeg x5)) &&& (63 : Int32)) = 7
  · rw [if_pos c7]; exact lb_7 hN hw i1 i2
  rw [if_neg c7]
  by_cases c8 : ((xs (Int32.toNatClampNeg x5)) &&& (63 : Int32)) = 8
  · rw [if_pos c8]; exact lb_8 hN hw i1 i2
  rw [if_neg c8]
  by_cases c9 : ((xs (Int32.toNatClampNeg x5)) &&& (63 : Int32)) = 9
  · rw [if_pos c9]; exact lb_9 hN hw
  rw [if_neg c9]
  by_cases c10 : ((xs (Int32.toNatClampNeg x5)) &&& (63 : Int32)) = 10
  · rw [if_pos c10]; exact lb_10 hN hw i1
  rw [if_neg c10]
  by_cases c11 : ((xs (Int32.toNatClampNeg x5)) &&& (63 : Int32)) = 11
  · rw [if_pos c11]; exact lb_11 hN hw
  rw [if_neg c11]
  by_cases c12 : ((xs (Int32.toNatClampNeg x5)) &&& (63 : Int32)) = 12
  · rw [if_pos c12]; exact lb_12 hN hw i1
  rw [if_neg c12]
  by_cases c13 : ((xs (Int32.toNatClampNeg x5)) &&& (63 : Int32)) = 13
  · rw [if_pos c13]; exact lb_13 hN hw i1
  rw [if_neg c13]
  by_cases c14 : ((xs (Int32.toNatClampNeg x5)) &&& (63 : Int32)) = 14
  · rw [if_pos c14]; exact lb_14 hN hw i1 i2
  rw [if_neg c14]
  by_cases c15 : ((xs (Int32.toNatClampNeg x5)) &&& (63 : Int32)) = 15
  · rw [if_pos c15]; exact lb_15 hN hw i1 i2
  rw [if_neg c15]
  by_cases c16 : ((xs (Int32.toNatClampNeg x5)) &&& (63 : Int32)) = 16
  · rw [if_pos c16]; exact lb_16 hN hw i1 i2
  rw [if_neg c16]
  by_cases c17 : ((xs (Int32.toNatClampNeg x5)) &&& (63 : Int32)) = 17
  · rw [if_pos c17]; exact lb_17 hN hw
  rw [if_neg c17]
  by_cases c18 : ((xs (Int32.toNatClampNeg x5)) &&& (63 : Int32)) = 18
  · rw [if_pos c18]; exact lb_18 hN hw
  rw [if_neg c18]
  by_cases c19 : ((xs (Int32.toNatClampNeg x5)) &&& (63 : Int32)) = 19
  · rw [if_pos c19]; exact lb_19 hN hw
  rw [if_neg c19]
  by_cases c20 : ((xs (Int32.toNatClampNeg x5)) &&& (63 : Int32)) = 20
  · rw [if_pos c20]; exact lb_20 hN hw
  rw [if_neg c20]
  by_cases c21 : ((xs (Int32.toNatClampNeg x5)) &&& (63 : Int32)) = 21
  · rw [if_pos c21]; exact lb_21 hN hw
  rw [if_neg c21]
  by_cases c22 : ((xs (Int32.toNatClampNeg x5)) &&& (63 : Int32)) = 22
  · rw [if_pos c22]; exact lb_22 hN hw
  rw [if_neg c22]
  by_cases c23 : ((xs (Int32.toNatClampNeg x5)) &&& (63 : Int32)) = 23
  · rw [if_pos c23]; exact lb_23 hN hw i1 i2
  rw [if_neg c23]
  by_cases c24 : ((xs (Int32.toNatClampNeg x5)) &&& (63 : Int32)) = 24
  · rw [if_pos c24]; exact lb_24 hN hw
  rw [if_neg c24]
  by_cases c25 : ((xs (Int32.toNatClampNeg x5)) &&& (63 : Int32)) = 25
  · rw [if_pos c25]; exact lb_25 hN hw
  rw [if_neg c25]
  by_cases c26 : ((xs (Int32.toNatClampNeg x5)) &&& (63 : Int32)) = 26
  · rw [if_pos c26]; exact lb_26 hN hw i1
  rw [if_neg c26]
  by_cases c27 : ((xs (Int32.toNatClampNeg x5)) &&& (63 : Int32)) = 27
  · rw [if_pos c27]; exact lb_27 hN hw
  rw [if_neg c27]
  by_cases c28 : ((xs (Int32.toNatClampNeg x5)) &&& (63 : Int32)) = 28
  · rw [if_pos c28]; exact lb_28 hN hw i1 i2
  rw [if_neg c28]
  by_cases c29 : ((xs (Int32.toNatClampNeg x5)) &&& (63 : Int32)) = 29
  · rw [if_pos c29]; exact lb_29 hN hw i1 i2 i3
  rw [if_neg c29]
  by_cases c30 : ((xs (Int32.toNatClampNeg x5)) &&& (63 : Int32)) = 30
  · rw [if_pos c30]; exact lb_30 hN hw
  rw [if_neg c30]
  by_cases c31 : ((xs (Int32.toNatClampNeg x5)) &&& (63 : Int32)) = 31
  · rw [if_pos c31]; exact lb_31 hN hw
  rw [if_neg c31]
  by_cases c32 : ((xs (Int32.toNatClampNeg x5)) &&& (63 : Int32)) = 32
  · rw [if_pos c32]; exact lb_32 hN hw
  rw [if_neg c32]
  by_cases c33 : ((xs (Int32.toNatClampNeg x5)) &&& (63 : Int32)) = 33
  · rw [if_pos c33]; exact lb_33 hN hw
  rw [if_neg c33]
  by_cases c34 : ((xs (Int32.toNatClampNeg x5)) &&& (63 : Int32)) = 34
  · rw [if_pos c34]; exact lb_34 hN hw i1
  rw [if_neg c34]
  by_cases c35 : ((xs (Int32.toNatClampNeg x5)) &&& (63 : Int32)) = 35
  · rw [if_pos c35]; exact lb_35 hN hw i1
  rw [if_neg c35]
  by_cases c36 : ((xs (Int32.toNatClampNeg x5)) &&& (63 : Int32)) = 36
  · rw [if_pos c36]; exact lb_36 hN hw i1
  rw [if_neg c36]
  by_cases c37 : ((xs (Int32.toNatClampNeg x5)) &&& (63 : Int32)) = 37
  · rw [if_pos c37]; exact lb_37 hN hw i1 i2 i3
  rw [if_neg c37]
  by_cases c38 : ((xs (Int32.toNatClampNeg x5)) &&& (63 : Int32)) = 38
  · rw [if_pos c38]; exact lb_38 hN hw i1 i2 i3
  rw [if_neg c38]
  by_cases c39 : ((xs (Int32.toNatClampNeg x5)) &&& (63 : Int32)) = 39
  · rw [if_pos c39]; exact lb_39 hN hw i1
  rw [if_neg c39]
  by_cases c40 : ((xs (Int32.toNatClampNeg x5)) &&& (63 : Int32)) = 40
  · rw [if_pos c40]; exact lb_40 hN hw i1
  rw [if_neg c40]
  by_cases c41 : ((xs (Int32.toNatClampNeg x5)) &&& (63 : Int32)) = 41
  · rw [if_pos c41]; exact lb_41 hN hw i1
  rw [if_neg c41]
  by_cases c42 : ((xs (Int32.toNatClampNeg x5)) &&& (63 : Int32)) = 42
  · rw [if_pos c42]; exact lb_42 hN hw i1
  rw [if_neg c42]
  by_cases c43 : ((xs (Int32.toNatClampNeg x5)) &&& (63 : Int32)) = 43
  · rw [if_pos c43]; exact lb_43 hN hw i1
  rw [if_neg c43]
  by_cases c44 : ((xs (Int32.toNatClampNeg x5)) &&& (63 : Int32)) = 44
  · rw [if_pos c44]; exact lb_44 hN hw
  rw [if_neg c44]
  by_cases c45 : ((xs (Int32.toNatClampNeg x5)) &&& (63 : Int32)) = 45
  · rw [if_pos c45]; exact lb_45 hN hw i1 i2 i3
  rw [if_neg c45]
  by_cases c46 : ((xs (Int32.toNatClampNeg x5)) &&& (63 : Int32)) = 46
  · rw [if_pos c46]; exact lb_46 hN hw i1 i2 i3
  rw [if_neg c46]
  by_cases c47 : ((xs (Int32.toNatClampNeg x5)) &&& (63 : Int32)) = 47
  · rw [if_pos c47]; exact lb_47 hN hw i1 i2 i3 i4 i5
  rw [if_neg c47]
  by_cases c48 : ((xs (Int32.toNatClampNeg x5)) &&& (63 : Int32)) = 48
  · rw [if_pos c48]; exact lb_48 hN hw
  rw [if_neg c48]
  by_cases c49 : ((xs (Int32.toNatClampNeg x5)) &&& (63 : Int32)) = 49
  · rw [if_pos c49]; exact lb_49 hN hw
  rw [if_neg c49]
  by_cases c50 : ((xs (Int32.toNatClampNeg x5)) &&& (63 : Int32)) = 50
  · rw [if_pos c50]; exact lb_50 hN hw
  rw [if_neg c50]
  by_cases c51 : ((xs (Int32.toNatClampNeg x5)) &&& (63 : Int32)) = 51
  · rw [if_pos c51]; exact lb_51 hN hw i1
  rw [if_neg c51]
  by_cases c52 : ((xs (Int32.toNatClampNeg x5)) &&& (63 : Int32)) = 52
  · rw [if_pos c52]; exact lb_52 hN hw
  rw [if_neg c52]
  by_cases c53 : ((xs (Int32.toNatClampNeg x5)) &&& (63 : Int32)) = 53
  · rw [if_pos c53]; exact lb_53 hN hw i1 i2 i3 i4 i5
  rw [if_neg c53]
  by_cases c54 : ((xs (Int32.toNatClampNeg x5)) &&& (63 : Int32)) = 54
  · rw [if_pos c54]; exact lb_54 hN hw i1 i2
  rw [if_neg c54]
  by_cases c55 : ((xs (Int32.toNatClampNeg x5)) &&& (63 : Int32)) = 55
  · rw [if_pos c55]; exact lb_55 hN hw i1 i2
  rw [if_neg c55]
  by_cases c56 : ((xs (Int32.toNatClampNeg x5)) &&& (63 : Int32)) = 56
  · rw [if_pos c56]; exact lb_56 hN hw i1 i2 i3 i4
  rw [if_neg c56]
  by_cases c57 : ((xs (Int32.toNatClampNeg x5)) &&& (63 : Int32)) = 57
  · rw [if_pos c57]; exact lb_57 hN hw i1 i2 i3 i4
  rw [if_neg c57]
  by_cases c58 : ((xs (Int32.toNatClampNeg x5)) &&& (63 : Int32)) = 58
  · rw [if_pos c58]; exact lb_58 hN hw i1 i2 i3 i4
  rw [if_neg c58]
  by_cases c59 : ((xs (Int32.toNatClampNeg x5)) &&& (63 : Int32)) = 59
  · rw [if_pos c59]; exact lb_59 hN hw
  rw [if_neg c59]
  by_cases c60 : ((xs (Int32.toNatClampNeg x5)) &&& (63 : Int32)) = 60
  · rw [if_pos c60]; exact lb_60 hN hw i1
  rw [if_neg c60]
  by_cases c61 : ((xs (Int32.toNatClampNeg x5)) &&& (63 : Int32)) = 61
  · rw [if_pos c61]; exact lb_61 hN hw
  rw [if_neg c61]
  by_cases c62 : ((xs (Int32.toNatClampNeg x5)) &&& (63 : Int32)) = 62
  · rw [if_pos c62]; exact lb_62 hN hw i1
  rw [if_neg c62]
  by_cases c63 : ((xs (Int32.toNatClampNeg x5)) &&& (63 : Int32)) = 63
  · rw [if_pos c63]; exact lb_63 hN hw i1
  rw [if_neg c63]
  exact ⟨x, o, sp, v0, v1, oh, P, wa, la, w, t, y, s, m, out, outD, rfl, hw⟩
theorem ll_some (hN : 100000 < N) (hL : L ≤ 100000) : ∀ (F p : Nat) (x o sp v0 v1 oh : os_T) (P : Nat → os_T) (wa la w t y s m out outD : os_T), wj x o v0 v1 oh P w t m → L < p + 6 * F + 6 → p ≤ L + 6 → ff_L_law_l28 N xs L (F + 1) (x, o, sp, v0, v1, oh, P 0, P 1, P 2, P 3, P 4, P 5, P 6, wa, la, w, t, y, s, m, out, outD, Int32.ofInt (p : Int)) = some () := by
  intro F
  induction F with
  | zero =>
    intro p x o sp v0 v1 oh P wa la w t y s m out outD hw h1 h2
    unfold ff_L_law_l28
    rw [lo_1]
    show ff_L_law_c28 N xs L _ x o sp v0 v1 oh (P 0) (P 1) (P 2) (P 3) (P 4) (P 5) (P 6) wa la w t y s m out outD (Int32.ofInt (p : Int)) = _
    unfold ff_L_law_c28
    have e : (Int32.ofNat L) - (6 : Int32) = Int32.ofInt ((L : Int) - 6) := by rw [show Int32.ofNat L = Int32.ofInt (L : Int) from rfl, ii_6, ia_sub]
    rw [e, ii_lt (by omega) (by omega), if_pos (by omega)]
  | succ F ih =>
    intro p x o sp v0 v1 oh P wa la w t y s m out outD hw h1 h2
    unfold ff_L_law_l28
    rw [lo_1]
    show ff_L_law_c28 N xs L (ff_L_law_l28 N xs L (F + 1)) x o sp v0 v1 oh (P 0) (P 1) (P 2) (P 3) (P 4) (P 5) (P 6) wa la w t y s m out outD (Int32.ofInt (p : Int)) = _
    have e : (Int32.ofNat L) - (6 : Int32) = Int32.ofInt ((L : Int) - 6) := by rw [show Int32.ofNat L = Int32.ofInt (L : Int) from rfl, ii_6, ia_sub]
    by_cases c : (L : Int) - 6 < p
    · unfold ff_L_law_c28
      rw [e, ii_lt (by omega) (by omega), if_pos c]
    · have hin : ∀ k : Nat, k < 6 → os_in (Int32.ofInt (p : Int) + Int32.ofInt (k : Int)) L := fun k hk => by
        rw [ia_add]
        exact ia_in (by omega) (by omega) (by omega)
      obtain ⟨x2, o2, sp2, v02, v12, oh2, P2, wa2, la2, w2, t2, y2, s2, m2, out2, outD2, e2, hw2⟩ := lb_all (xs := xs) (K := ff_L_law_l28 N xs L (F + 1)) (x5 := Int32.ofInt (p : Int)) (sp := sp) (wa := wa) (la := la) (y := y) (s := s) (out := out) (outD := outD) hN hw (by rw [e, ia_lt (by omega) (by omega) (by omega) (by omega)]; exact c) (ia_in (by omega) (by omega) (by omega)) (hin 1 (by decide)) (hin 2 (by decide)) (hin 3 (by decide)) (hin 4 (by decide)) (hin 5 (by decide))
      rw [e2, ii_6, ia_add]
      exact ih (p + 6) x2 o2 sp2 v02 v12 oh2 P2 wa2 la2 w2 t2 y2 s2 m2 out2 outD2 hw2 (by omega) (by omega)
end Loop
