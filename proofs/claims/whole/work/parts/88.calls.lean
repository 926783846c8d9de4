/-! LAYER 2. One call of the law, on all objects -/
abbrev sT : Type := os_T × os_T × os_T × os_T × os_T × os_T × os_T × os_T × os_T × os_T × os_T × os_T × os_T × os_T × os_T × os_T × os_T × os_T × os_T × os_T × os_T × os_T × Int32
def wr (x v0 v1 w t m : os_T) : Prop := ∃ (R : Nat → Int) (L : Nat) (B : Nat → Int), rr w m R ∧ sl x m v0 0 ∧ sl x m v1 1 ∧ rt x m ∧ tb t m L B ∧ er x m
def wj (x o v0 v1 oh : os_T) (P : Nat → os_T) (w t m : os_T) : Prop := ∃ (S : Nat → Nat) (T H : Int → Int → Int) (n : Nat) (U : Nat → (Int → Int → Int) × (Int → Int → Int)), sv S ∧ jr o oh P m S T H n U ∧ wr x v0 v1 w t m
def lO (K : sT → Option Unit) (x5 : Int32) (A : Option Unit) : Prop := ∃ (x o sp v0 v1 oh : os_T) (P : Nat → os_T) (wa la w t y s m out outD : os_T), A = K (x, o, sp, v0, v1, oh, P 0, P 1, P 2, P 3, P 4, P 5, P 6, wa, la, w, t, y, s, m, out, outD, x5 + 6) ∧ wj x o v0 v1 oh P w t m
abbrev kA : Nat → Prop := fun i => ¬ (i = 2 ∨ i = 10 ∨ i = 11 ∨ i = 43 ∨ i = 44)
abbrev jA : Nat → Prop := fun j => ¬ (j = 0 ∨ j = 12 ∨ j = 19 ∨ j = 20 ∨ j = 21 ∨ j = 22)
section Call
variable {N L : Nat} {xs : Nat → Int32} {K : sT → Option Unit} {x o sp v0 v1 oh wa la w t y s m out outD x' m' : os_T} {P : Nat → os_T} {x5 : Int32} {S : Nat → Nat} {T H : Int → Int → Int} {n : Nat} {U : Nat → (Int → Int → Int) × (Int → Int → Int)} {R : Nat → Int} {B : Nat → Int}
theorem sl_sq {v : os_T} {j : Nat} (h : sl x m v j) (e0 : os_A x' 0 = os_A x 0) (e20 : os_A m' 20 = os_A m 20) (e21 : os_A m' 21 = os_A m 21) (e22 : os_A m' 22 = os_A m 22) : sl x' m' v j := sl_keep h (by rw [e0]) (by rw [e22]) (fun k _ => by rw [e21]) (fun k _ => by rw [e20])
theorem rt_sq (h : rt x m) (e1 : os_I x' 12 = os_I x 12) (e2 : os_A x' 1 = os_A x 1) (e3 : os_I m' 43 = os_I m 43) (e4 : os_I m' 44 = os_I m 44) (e5 : os_A m' 19 = os_A m 19) : rt x' m' := by
  obtain ⟨L, hL, b1, b2⟩ := h
  refine ⟨L, hL, ⟨by rw [e1]; exact b1.1, by rw [e2]; exact b1.2⟩, ?_⟩
  rw [e4]
  rcases b2 with b2 | ⟨z, b2⟩
  · exact Or.inl b2
  · exact Or.inr ⟨z, ⟨by rw [e3]; exact b2.1, by rw [e5]; exact b2.2⟩⟩
theorem tb_sq {L : Nat} (h : tb t m L B) (e2 : os_I m' 2 = os_I m 2) (e0 : os_A m' 0 = os_A m 0) : tb t m' L B := ⟨h.1, h.2.1, by rw [e2]; exact h.2.2.1, fun i hi => by rw [e0]; exact h.2.2.2 i hi⟩
theorem er_sq (h : er x m) (e1 : os_I x' 13 = os_I x 13) (e2 : os_I x' 14 = os_I x 14) (e3 : os_I m' 10 = os_I m 10) (e4 : os_I m' 11 = os_I m 11) : er x' m' := ⟨by rw [e1, e3]; exact h.1, by rw [e2, e4]; exact h.2⟩
theorem wr_sq (h : wr x v0 v1 w t m) (hx : sq kA jA m m') : wr x v0 v1 w t m' := by
  obtain ⟨R, L, B, a1, a2, a3, a4, a5, a6⟩ := h
  exact ⟨R, L, B, rr_sq a1 hx (by decide), sl_sq a2 rfl (hx.2 20 (by decide)) (hx.2 21 (by decide)) (hx.2 22 (by decide)), sl_sq a3 rfl (hx.2 20 (by decide)) (hx.2 21 (by decide)) (hx.2 22 (by decide)), rt_sq a4 rfl rfl (hx.1 43 (by decide)) (hx.1 44 (by decide)) (hx.2 19 (by decide)), tb_sq a5 (hx.1 2 (by decide)) (hx.2 0 (by decide)), er_sq a6 rfl rfl (hx.1 10 (by decide)) (hx.1 11 (by decide))⟩
theorem fr_sq {m2 : os_T} (h : fr m m2) : sq kA jA m m2 := (show sy _ _ m m2 from h).sq.mono (fun i hi => by omega) (fun j hj => by omega)
theorem wj_sq (h : wj x o v0 v1 oh P w t m) (hx : sq (fun i => i = 0) (fun j => j = 6 ∨ j = 9) m m') : wj x o v0 v1 oh P w t m' := by
  obtain ⟨S, T, H, n, U, hS, hj, hw⟩ := h
  exact ⟨S, T, H, n, U, hS, jr_sq hj hx (by decide) (by decide) (by decide) (by decide) (by decide), wr_sq hw (hx.mono (fun i hi => by omega) (fun j hj => by omega))⟩
theorem wj_I (h : wj x o v0 v1 oh P w t m) : wj x o v0 v1 oh P w t (ss_I m 0 0) := wj_sq h (sq_I rfl)
theorem in01 : os_in (0 : Int32) 1 := by decide
theorem n00 : Int32.toNatClampNeg (0 : Int32) = 0 := by decide
theorem vL0 {f : Nat → Int64} {v : Int64} : vp_updL f 0 v 0 = v := by unfold vp_updL; simp
theorem oL0 {o : os_T} {f : Nat → Int64} {v : Int64} : os_L (ss_LF o (vp_updL f 0 v)) 0 = v := vL0 (f := f) (v := v)
theorem z10 : ((1 : Int32) = 0) = False := eq_false (by decide)
theorem z20 : ((2 : Int32) = 0) = False := eq_false (by decide)
theorem z00 : ((0 : Int32) = 0) = True := eq_true rfl
theorem m10 : ((1 : Nat) = 0) = False := eq_false (by decide)
theorem m20 : ((2 : Nat) = 0) = False := eq_false (by decide)
theorem m30 : ((3 : Nat) = 0) = False := eq_false (by decide)
theorem m23 : ((2 : Nat) = 3) = False := eq_false (by decide)
theorem m32 : ((3 : Nat) = 2) = False := eq_false (by decide)
theorem m13 : ((1 : Nat) = 3) = False := eq_false (by decide)
theorem m12 : ((1 : Nat) = 2) = False := eq_false (by decide)
theorem m21 : ((2 : Nat) = 1) = False := eq_false (by decide)
theorem m31 : ((3 : Nat) = 1) = False := eq_false (by decide)
theorem cv0 : (Op.cmpValue (some Ordering.eq) CmpOp.l = 0) = True := eq_true rfl
theorem iu64 {v : UInt64} : Int64.toUInt64 (UInt64.toInt64 v) = v := rfl
theorem fx_save {k : Nat} {c : Int32} {x2 s0 s1 : os_T} {a : Int32} (h : ff_X12_save N x o v0 v1 a = some (k, c, x2, s0, s1)) : (∀ i, os_I x2 i = os_I x i) ∧ ∀ j, j ≠ 0 → os_A x2 j = os_A x j := by
  have up : ∀ (v : Int32) (i : Nat), (∀ q, os_I (ss_A x 0 (upd (os_A x 0) i v)) q = os_I x q) ∧ ∀ q, q ≠ 0 → os_A (ss_A x 0 (upd (os_A x 0) i v)) q = os_A x q := fun v i => ⟨fun _ => rfl, fun q hq => os_u_ne hq⟩
  unfold ff_X12_save at h
  obtain ⟨u, -, h⟩ := os_bd h
  rcases os_if2 h with ⟨-, h⟩ | ⟨-, h⟩
  · obtain ⟨-, h⟩ := os_if h
    rcases os_if2 h with ⟨-, h⟩ | ⟨-, h⟩
    · obtain ⟨u5, -, h⟩ := os_bd h
      obtain ⟨-, h⟩ := os_if h
      obtain ⟨u8, -, h⟩ := os_bd h
      rw [← (show _ = x2 from congrArg (fun z => z.2.2.1) (Option.some.inj h))]
      exact up _ _
    · obtain ⟨-, h⟩ := os_if h
      obtain ⟨u5, -, h⟩ := os_bd h
      obtain ⟨-, h⟩ := os_if h
      obtain ⟨u8, -, h⟩ := os_bd h
      rw [← (show _ = x2 from congrArg (fun z => z.2.2.1) (Option.some.inj h))]
      exact up _ _
  · rw [← (show _ = x2 from congrArg (fun z => z.2.2.1) (Option.some.inj h))]
    exact ⟨fun _ => rfl, fun _ _ => rfl⟩
theorem lb_0 (hN : 100000 < N) (hw : wj x o v0 v1 oh P w t m) (i1 : os_in (x5 + (1 : Int32)) L) (i2 : os_in (x5 + (2 : Int32)) L) (i3 : os_in (x5 + (3 : Int32)) L) (i4 : os_in (x5 + (4 : Int32)) L) (i5 : os_in (x5 + (5 : Int32)) L) : lO K x5 (ff_L_law_b316 N xs L K x o sp v0 v1 oh (P 0) (P 1) (P 2) (P 3) (P 4) (P 5) (P 6) wa la w t y s m out outD x5) := by
  have hw0 := hw
  obtain ⟨S, T, H, n, U, hS, hj, hwr⟩ := hw
  have hwr0 := hwr
  obtain ⟨R, L1, B, hr, h0, h1, ht, hb, he⟩ := hwr
  obtain ⟨k, c, t2, m2, L2, B2, f1, f2, hb2, yt, ym, hk⟩ := jq_feed (N := N) (x := x) (a := xs (Int32.toNatClampNeg (x5 + (1 : Int32)))) (b := xs (Int32.toNatClampNeg (x5 + (2 : Int32)))) (c := xs (Int32.toNatClampNeg (x5 + (3 : Int32)))) (d := xs (Int32.toNatClampNeg (x5 + (4 : Int32)))) (e := xs (Int32.toNatClampNeg (x5 + (5 : Int32)))) (by omega) hb
  rcases hk with ⟨rfl, z⟩ | ⟨rfl, z⟩
  · refine ⟨x, o, sp, v0, v1, oh, P, wa, la, w, t2, y, s, m2, ss_LF out (vp_updL (os_L out) 0 (Int32.toInt64 c)), outD, ?_, ⟨S, T, H, n, U, hS, jr_sq hj ym.sq (by decide) (by decide) (by decide) (by decide) (by decide), R, L2, B2, rr_sq hr ym.sq (by decide), sl_sq h0 rfl (ym.2.2 20 (by decide)) (ym.2.2 21 (by decide)) (ym.2.2 22 (by decide)), sl_sq h1 rfl (ym.2.2 20 (by decide)) (ym.2.2 21 (by decide)) (ym.2.2 22 (by decide)), rt_sq ht rfl rfl (ym.1 43 (by decide)) (ym.1 44 (by decide)) (ym.2.2 19 (by decide)), hb2, er_sq he rfl rfl (ym.1 10 (by decide)) (ym.1 11 (by decide))⟩⟩
    simp only [ff_L_law_b316, ff_L_law_b3500, ff_L_law_b417, ff_L_feed, if_pos i1, if_pos i2, if_pos i3, if_pos i4, if_pos i5, f1, f2, oL0, Option.bind_some, if_pos in01, n00, vL0, ij_self, z00, z10, z20, m10, m20, m30, m23, m32, m13, m12, m21, m31, eq_self, reduceIte, ff_X13_thrown, z]
  · refine ⟨x, o, sp, v0, v1, oh, P, wa, la, w, t2, y, s, m2, out, outD, ?_, ⟨S, T, H, n, U, hS, jr_sq hj ym.sq (by decide) (by decide) (by decide) (by decide) (by decide), R, L2, B2, rr_sq hr ym.sq (by decide), sl_sq h0 rfl (ym.2.2 20 (by decide)) (ym.2.2 21 (by decide)) (ym.2.2 22 (by decide)), sl_sq h1 rfl (ym.2.2 20 (by decide)) (ym.2.2 21 (by decide)) (ym.2.2 22 (by decide)), rt_sq ht rfl rfl (ym.1 43 (by decide)) (ym.1 44 (by decide)) (ym.2.2 19 (by decide)), hb2, er_sq he rfl rfl (ym.1 10 (by decide)) (ym.1 11 (by decide))⟩⟩
    simp only [ff_L_law_b316, ff_L_law_b3500, ff_L_law_b417, ff_L_feed, if_pos i1, if_pos i2, if_pos i3, if_pos i4, if_pos i5, f1, f2, oL0, Option.bind_some, if_pos in01, n00, vL0, ij_self, z00, z10, z20, m10, m20, m30, m23, m32, m13, m12, m21, m31, eq_self, reduceIte, ff_X13_thrown, z]
theorem lb_1 (hN : 100000 < N) (hw : wj x o v0 v1 oh P w t m) (i1 : os_in (x5 + (1 : Int32)) L) : lO K x5 (ff_L_law_b420 N xs L K x o sp v0 v1 oh (P 0) (P 1) (P 2) (P 3) (P 4) (P 5) (P 6) wa la w t y s m out outD x5) := by
  have hw0 := hw
  obtain ⟨S, T, H, n, U, hS, hj, hwr⟩ := hw
  have hwr0 := hwr
  obtain ⟨R, L1, B, hr, h0, h1, ht, hb, he⟩ := hwr
  obtain ⟨a1, p1, g1, e1⟩ := ia_of (xs (Int32.toNatClampNeg (x5 + (1 : Int32))))
  obtain ⟨k, c, t2, m2, L2, f1, f2, hb2, yt, ym, hk⟩ := jq_truncate (N := N) (x := x) hb ⟨p1, g1⟩
  rcases hk with ⟨rfl, z⟩ | ⟨rfl, z⟩
  · refine ⟨x, o, sp, v0, v1, oh, P, wa, la, w, t2, y, s, m2, ss_LF out (vp_updL (os_L out) 0 (Int32.toInt64 c)), outD, ?_, ⟨S, T, H, n, U, hS, jr_sq hj ym.sq (by decide) (by decide) (by decide) (by decide) (by decide), R, L2, B, rr_sq hr ym.sq (by decide), sl_sq h0 rfl (ym.2.2 20 (by decide)) (ym.2.2 21 (by decide)) (ym.2.2 22 (by decide)), sl_sq h1 rfl (ym.2.2 20 (by decide)) (ym.2.2 21 (by decide)) (ym.2.2 22 (by decide)), rt_sq ht rfl rfl (ym.1 43 (by decide)) (ym.1 44 (by decide)) (ym.2.2 19 (by decide)), hb2, er_sq he rfl rfl (ym.1 10 (by decide)) (ym.1 11 (by decide))⟩⟩
    simp only [ff_L_law_b420, ff_L_law_b3500, ff_L_law_b473, ff_L_truncate, if_pos i1, e1, f1, f2, oL0, Option.bind_some, if_pos in01, n00, vL0, ij_self, z00, z10, z20, m10, m20, m30, m23, m32, m13, m12, m21, m31, eq_self, reduceIte, ff_X13_thrown, z]
  · refine ⟨x, o, sp, v0, v1, oh, P, wa, la, w, t2, y, s, m2, out, outD, ?_, ⟨S, T, H, n, U, hS, jr_sq hj ym.sq (by decide) (by decide) (by decide) (by decide) (by decide), R, L2, B, rr_sq hr ym.sq (by decide), sl_sq h0 rfl (ym.2.2 20 (by decide)) (ym.2.2 21 (by decide)) (ym.2.2 22 (by decide)), sl_sq h1 rfl (ym.2.2 20 (by decide)) (ym.2.2 21 (by decide)) (ym.2.2 22 (by decide)), rt_sq ht rfl rfl (ym.1 43 (by decide)) (ym.1 44 (by decide)) (ym.2.2 19 (by decide)), hb2, er_sq he rfl rfl (ym.1 10 (by decide)) (ym.1 11 (by decide))⟩⟩
    simp only [ff_L_law_b420, ff_L_law_b3500, ff_L_law_b473, ff_L_truncate, if_pos i1, e1, f1, f2, oL0, Option.bind_some, if_pos in01, n00, vL0, ij_self, z00, z10, z20, m10, m20, m30, m23, m32, m13, m12, m21, m31, eq_self, reduceIte, ff_X13_thrown, z]
theorem lb_2 (hN : 100000 < N) (hw : wj x o v0 v1 oh P w t m) : lO K x5 (ff_L_law_b476 N xs L K x o sp v0 v1 oh (P 0) (P 1) (P 2) (P 3) (P 4) (P 5) (P 6) wa la w t y s m out outD x5) := by
  have hw0 := hw
  obtain ⟨S, T, H, n, U, hS, hj, hwr⟩ := hw
  have hwr0 := hwr
  obtain ⟨R, L1, B, hr, h0, h1, ht, hb, he⟩ := hwr
  obtain ⟨k, c, x2, o2, w2, oh2, t2, y2, m2, S2, T2, H2, n2, U2, f1, f2, hS2, hj2, hb2, he2, yx, ym, hk⟩ := jr_readText (N := N) (x := x) (w := sp) (y := y) hN hS hj hb
  rcases hk with ⟨rfl, z⟩ | ⟨rfl, z⟩
  · refine ⟨x2, o2, w2, v0, v1, oh2, P, wa, la, w, t2, y2, s, m2, ss_LF out (vp_updL (os_L out) 0 (Int32.toInt64 c)), outD, ?_, ⟨S2, T2, H2, n2, U2, hS2, hj2, R, 0, B, rr_sq hr ym (by decide), sl_sq h0 (yx.2.2 0 (fun z => z)) (ym.2 20 (by decide)) (ym.2 21 (by decide)) (ym.2 22 (by decide)), sl_sq h1 (yx.2.2 0 (fun z => z)) (ym.2 20 (by decide)) (ym.2 21 (by decide)) (ym.2 22 (by decide)), rt_sq ht (yx.1 12 (by decide)) (yx.2.2 1 (fun z => z)) (ym.1 43 (by decide)) (ym.1 44 (by decide)) (ym.2 19 (by decide)), hb2, he2⟩⟩
    simp only [ff_L_law_b476, ff_L_law_b3500, ff_L_law_b517, ff_L_readText, f1, f2, oL0, Option.bind_some, if_pos in01, n00, vL0, ij_self, z00, z10, z20, m10, m20, m30, m23, m32, m13, m12, m21, m31, eq_self, reduceIte, ff_X13_thrown, z]
  · refine ⟨x2, o2, w2, v0, v1, oh2, P, wa, la, w, t2, y2, s, m2, out, outD, ?_, ⟨S2, T2, H2, n2, U2, hS2, hj2, R, 0, B, rr_sq hr ym (by decide), sl_sq h0 (yx.2.2 0 (fun z => z)) (ym.2 20 (by decide)) (ym.2 21 (by decide)) (ym.2 22 (by decide)), sl_sq h1 (yx.2.2 0 (fun z => z)) (ym.2 20 (by decide)) (ym.2 21 (by decide)) (ym.2 22 (by decide)), rt_sq ht (yx.1 12 (by decide)) (yx.2.2 1 (fun z => z)) (ym.1 43 (by decide)) (ym.1 44 (by decide)) (ym.2 19 (by decide)), hb2, he2⟩⟩
    simp only [ff_L_law_b476, ff_L_law_b3500, ff_L_law_b517, ff_L_readText, f1, f2, oL0, Option.bind_some, if_pos in01, n00, vL0, ij_self, z00, z10, z20, m10, m20, m30, m23, m32, m13, m12, m21, m31, eq_self, reduceIte, ff_X13_thrown, z]
theorem lb_3 (hN : 100000 < N) (hw : wj x o v0 v1 oh P w t m) : lO K x5 (ff_L_law_b520 N xs L K x o sp v0 v1 oh (P 0) (P 1) (P 2) (P 3) (P 4) (P 5) (P 6) wa la w t y s m out outD x5) := by
  have hw0 := hw
  obtain ⟨S, T, H, n, U, hS, hj, hwr⟩ := hw
  have hwr0 := hwr
  obtain ⟨R, L1, B, hr, h0, h1, ht, hb, he⟩ := hwr
  obtain ⟨k, c, x2, o2, sp2, oh2, P2, wa2, t2, s2, m2, T2, H2, n2, U2, f1, f2, hj2, hr2, hb2, he2, yx, ym, hk⟩ := jr_runScript (N := N) (x := x) (sp := sp) (wa := wa) (s := s) hN hS hj hr hb
  rcases hk with ⟨rfl, z⟩ | ⟨rfl, z⟩
  · refine ⟨x2, o2, sp2, v0, v1, oh2, P2, wa2, la, w, t2, y, s2, m2, ss_LF out (vp_updL (os_L out) 0 (Int32.toInt64 c)), outD, ?_, ⟨S, T2, H2, n2, U2, hS, hj2, R, 0, B, rr_sq hr ym (by decide), sl_sq h0 (yx.2.2 0 (fun z => z)) (ym.2 20 (by decide)) (ym.2 21 (by decide)) (ym.2 22 (by decide)), sl_sq h1 (yx.2.2 0 (fun z => z)) (ym.2 20 (by decide)) (ym.2 21 (by decide)) (ym.2 22 (by decide)), rt_sq ht (yx.1 12 (by decide)) (yx.2.2 1 (fun z => z)) (ym.1 43 (by decide)) (ym.1 44 (by decide)) (ym.2 19 (by decide)), hb2, he2⟩⟩
    simp only [ff_L_law_b520, ff_L_law_b3500, ff_L_law_b561, ff_L_runScript, f1, f2, oL0, Option.bind_some, if_pos in01, n00, vL0, ij_self, z00, z10, z20, m10, m20, m30, m23, m32, m13, m12, m21, m31, eq_self, reduceIte, ff_X13_thrown, z]
  · refine ⟨x2, o2, sp2, v0, v1, oh2, P2, wa2, la, w, t2, y, s2, m2, out, outD, ?_, ⟨S, T2, H2, n2, U2, hS, hj2, R, 0, B, rr_sq hr ym (by decide), sl_sq h0 (yx.2.2 0 (fun z => z)) (ym.2 20 (by decide)) (ym.2 21 (by decide)) (ym.2 22 (by decide)), sl_sq h1 (yx.2.2 0 (fun z => z)) (ym.2 20 (by decide)) (ym.2 21 (by decide)) (ym.2 22 (by decide)), rt_sq ht (yx.1 12 (by decide)) (yx.2.2 1 (fun z => z)) (ym.1 43 (by decide)) (ym.1 44 (by decide)) (ym.2 19 (by decide)), hb2, he2⟩⟩
    simp only [ff_L_law_b520, ff_L_law_b3500, ff_L_law_b561, ff_L_runScript, f1, f2, oL0, Option.bind_some, if_pos in01, n00, vL0, ij_self, z00, z10, z20, m10, m20, m30, m23, m32, m13, m12, m21, m31, eq_self, reduceIte, ff_X13_thrown, z]
theorem lb_4 (hN : 100000 < N) (hw : wj x o v0 v1 oh P w t m) : lO K x5 (ff_L_law_b564 N xs L K x o sp v0 v1 oh (P 0) (P 1) (P 2) (P 3) (P 4) (P 5) (P 6) wa la w t y s m out outD x5) := by
  have hw0 := hw
  obtain ⟨S, T, H, n, U, hS, hj, hwr⟩ := hw
  have hwr0 := hwr
  obtain ⟨R, L1, B, hr, h0, h1, ht, hb, he⟩ := hwr
  have f1 : ff_X12_errorCode N x = some (os_I x 13) := rfl
  have f2 : ff_X13_errorCode N m = some (os_I m 10, ss_I m 0 0) := rfl
  have f3 : os_I x 13 = os_I m 10 := he.1
  refine ⟨x, o, sp, v0, v1, oh, P, wa, la, w, t, y, s, ss_I m 0 0, out, outD, ?_, wj_I hw0⟩
  simp only [ff_L_law_b564, ff_L_law_b3500, f1, f2, oL0, Option.bind_some, if_pos in01, n00, vL0, ij_self, z00, z10, z20, m10, m20, m30, m23, m32, m13, m12, m21, m31, eq_self, reduceIte, ff_X13_thrown, if_pos f3]
theorem lb_5 (hN : 100000 < N) (hw : wj x o v0 v1 oh P w t m) : lO K x5 (ff_L_law_b577 N xs L K x o sp v0 v1 oh (P 0) (P 1) (P 2) (P 3) (P 4) (P 5) (P 6) wa la w t y s m out outD x5) := by
  have hw0 := hw
  obtain ⟨S, T, H, n, U, hS, hj, hwr⟩ := hw
  have hwr0 := hwr
  obtain ⟨R, L1, B, hr, h0, h1, ht, hb, he⟩ := hwr
  have f1 : ff_X12_errorPosition N x = some (os_I x 14) := rfl
  have f2 : ff_X13_errorPosition N m = some (os_I m 11, ss_I m 0 0) := rfl
  have f3 : os_I x 14 = os_I m 11 := he.2
  refine ⟨x, o, sp, v0, v1, oh, P, wa, la, w, t, y, s, ss_I m 0 0, out, outD, ?_, wj_I hw0⟩
  simp only [ff_L_law_b577, ff_L_law_b3500, f1, f2, oL0, Option.bind_some, if_pos in01, n00, vL0, ij_self, z00, z10, z20, m10, m20, m30, m23, m32, m13, m12, m21, m31, eq_self, reduceIte, ff_X13_thrown, if_pos f3]
theorem lb_6 (hN : 100000 < N) (hw : wj x o v0 v1 oh P w t m) (i1 : os_in (x5 + (1 : Int32)) L) : lO K x5 (ff_L_law_b590 N xs L K x o sp v0 v1 oh (P 0) (P 1) (P 2) (P 3) (P 4) (P 5) (P 6) wa la w t y s m out outD x5) := by
  have hw0 := hw
  obtain ⟨S, T, H, n, U, hS, hj, hwr⟩ := hw
  have hwr0 := hwr
  obtain ⟨R, L1, B, hr, h0, h1, ht, hb, he⟩ := hwr
  obtain ⟨a1, p1, g1, e1⟩ := ia_of (xs (Int32.toNatClampNeg (x5 + (1 : Int32))))
  obtain ⟨k, c, m2, f1, f2, hy, hk⟩ := jq_setting (N := N) (x := x) hS hj ⟨p1, g1⟩
  rcases hk with ⟨rfl, z⟩ | ⟨rfl, z⟩
  · refine ⟨x, o, sp, v0, v1, oh, P, wa, la, w, t, y, s, m2, ss_LF out (vp_updL (os_L out) 0 (Int32.toInt64 c)), outD, ?_, (wj_sq hw0 (hy.sq.mono (fun i hi => hi) (fun j hj => hj.elim)))⟩
    simp only [ff_L_law_b590, ff_L_law_b3500, ff_L_law_b643, ff_L_setting, if_pos i1, e1, f1, f2, oL0, Option.bind_some, if_pos in01, n00, vL0, ij_self, z00, z10, z20, m10, m20, m30, m23, m32, m13, m12, m21, m31, eq_self, reduceIte, ff_X13_thrown, z]
  · refine ⟨x, o, sp, v0, v1, oh, P, wa, la, w, t, y, s, m2, out, outD, ?_, (wj_sq hw0 (hy.sq.mono (fun i hi => hi) (fun j hj => hj.elim)))⟩
    simp only [ff_L_law_b590, ff_L_law_b3500, ff_L_law_b643, ff_L_setting, if_pos i1, e1, f1, f2, oL0, Option.bind_some, if_pos in01, n00, vL0, ij_self, z00, z10, z20, m10, m20, m30, m23, m32, m13, m12, m21, m31, eq_self, reduceIte, ff_X13_thrown, z]
theorem lb_7 (hN : 100000 < N) (hw : wj x o v0 v1 oh P w t m) (i1 : os_in (x5 + (1 : Int32)) L) (i2 : os_in (x5 + (2 : Int32)) L) : lO K x5 (ff_L_law_b646 N xs L K x o sp v0 v1 oh (P 0) (P 1) (P 2) (P 3) (P 4) (P 5) (P 6) wa la w t y s m out outD x5) := by
  have hw0 := hw
  obtain ⟨S, T, H, n, U, hS, hj, hwr⟩ := hw
  have hwr0 := hwr
  obtain ⟨R, L1, B, hr, h0, h1, ht, hb, he⟩ := hwr
  obtain ⟨a1, p1, g1, e1⟩ := ia_of (xs (Int32.toNatClampNeg (x5 + (1 : Int32))))
  obtain ⟨a2, p2, g2, e2⟩ := ia_of (xs (Int32.toNatClampNeg (x5 + (2 : Int32))))
  obtain ⟨k, c, m2, f1, f2, hy, hk⟩ := jq_tone (N := N) (x := x) hN hS hj ⟨p1, g1⟩ ⟨p2, g2⟩
  rcases hk with ⟨rfl, z⟩ | ⟨rfl, z⟩
  · refine ⟨x, o, sp, v0, v1, oh, P, wa, la, w, t, y, s, m2, ss_LF out (vp_updL (os_L out) 0 (Int32.toInt64 c)), outD, ?_, (wj_sq hw0 (hy.sq.mono (fun i hi => hi) (fun j hj => hj.elim)))⟩
    simp only [ff_L_law_b646, ff_L_law_b3500, ff_L_law_b711, ff_L_tone, if_pos i1, if_pos i2, e1, e2, f1, f2, oL0, Option.bind_some, if_pos in01, n00, vL0, ij_self, z00, z10, z20, m10, m20, m30, m23, m32, m13, m12, m21, m31, eq_self, reduceIte, ff_X13_thrown, z]
  · refine ⟨x, o, sp, v0, v1, oh, P, wa, la, w, t, y, s, m2, out, outD, ?_, (wj_sq hw0 (hy.sq.mono (fun i hi => hi) (fun j hj => hj.elim)))⟩
    simp only [ff_L_law_b646, ff_L_law_b3500, ff_L_law_b711, ff_L_tone, if_pos i1, if_pos i2, e1, e2, f1, f2, oL0, Option.bind_some, if_pos in01, n00, vL0, ij_self, z00, z10, z20, m10, m20, m30, m23, m32, m13, m12, m21, m31, eq_self, reduceIte, ff_X13_thrown, z]
theorem lb_8 (hN : 100000 < N) (hw : wj x o v0 v1 oh P w t m) (i1 : os_in (x5 + (1 : Int32)) L) (i2 : os_in (x5 + (2 : Int32)) L) : lO K x5 (ff_L_law_b714 N xs L K x o sp v0 v1 oh (P 0) (P 1) (P 2) (P 3) (P 4) (P 5) (P 6) wa la w t y s m out outD x5) := by
  have hw0 := hw
  obtain ⟨S, T, H, n, U, hS, hj, hwr⟩ := hw
  have hwr0 := hwr
  obtain ⟨R, L1, B, hr, h0, h1, ht, hb, he⟩ := hwr
  obtain ⟨a1, p1, g1, e1⟩ := ia_of (xs (Int32.toNatClampNeg (x5 + (1 : Int32))))
  obtain ⟨a2, p2, g2, e2⟩ := ia_of (xs (Int32.toNatClampNeg (x5 + (2 : Int32))))
  obtain ⟨k, c, m2, f1, f2, hy, hk⟩ := jq_height (N := N) (x := x) hN hS hj ⟨p1, g1⟩ ⟨p2, g2⟩
  rcases hk with ⟨rfl, z⟩ | ⟨rfl, z⟩
  · refine ⟨x, o, sp, v0, v1, oh, P, wa, la, w, t, y, s, m2, ss_LF out (vp_updL (os_L out) 0 (Int32.toInt64 c)), outD, ?_, (wj_sq hw0 (hy.sq.mono (fun i hi => hi) (fun j hj => hj.elim)))⟩
    simp only [ff_L_law_b714, ff_L_law_b3500, ff_L_law_b779, ff_L_height, if_pos i1, if_pos i2, e1, e2, f1, f2, oL0, Option.bind_some, if_pos in01, n00, vL0, ij_self, z00, z10, z20, m10, m20, m30, m23, m32, m13, m12, m21, m31, eq_self, reduceIte, ff_X13_thrown, z]
  · refine ⟨x, o, sp, v0, v1, oh, P, wa, la, w, t, y, s, m2, out, outD, ?_, (wj_sq hw0 (hy.sq.mono (fun i hi => hi) (fun j hj => hj.elim)))⟩
    simp only [ff_L_law_b714, ff_L_law_b3500, ff_L_law_b779, ff_L_height, if_pos i1, if_pos i2, e1, e2, f1, f2, oL0, Option.bind_some, if_pos in01, n00, vL0, ij_self, z00, z10, z20, m10, m20, m30, m23, m32, m13, m12, m21, m31, eq_self, reduceIte, ff_X13_thrown, z]
theorem lb_9 (hN : 100000 < N) (hw : wj x o v0 v1 oh P w t m) : lO K x5 (ff_L_law_b782 N xs L K x o sp v0 v1 oh (P 0) (P 1) (P 2) (P 3) (P 4) (P 5) (P 6) wa la w t y s m out outD x5) := by
  have hw0 := hw
  obtain ⟨S, T, H, n, U, hS, hj, hwr⟩ := hw
  have hwr0 := hwr
  obtain ⟨R, L1, B, hr, h0, h1, ht, hb, he⟩ := hwr
  obtain ⟨c, f1, f2⟩ := jw_volume (N := N) (x := x) hN hS hj
  refine ⟨x, o, sp, v0, v1, oh, P, wa, la, w, t, y, s, ss_I m 0 0, out, outD, ?_, wj_I hw0⟩
  simp only [ff_L_law_b782, ff_L_law_b3500, f1, f2, oL0, Option.bind_some, if_pos in01, n00, vL0, ij_self, z00, z10, z20, m10, m20, m30, m23, m32, m13, m12, m21, m31, eq_self, reduceIte, ff_X13_thrown]
theorem lb_10 (hN : 100000 < N) (hw : wj x o v0 v1 oh P w t m) (i1 : os_in (x5 + (1 : Int32)) L) : lO K x5 (ff_L_law_b795 N xs L K x o sp v0 v1 oh (P 0) (P 1) (P 2) (P 3) (P 4) (P 5) (P 6) wa la w t y s m out outD x5) := by
  have hw0 := hw
  obtain ⟨S, T, H, n, U, hS, hj, hwr⟩ := hw
  have hwr0 := hwr
  obtain ⟨R, L1, B, hr, h0, h1, ht, hb, he⟩ := hwr
  obtain ⟨a1, p1, g1, e1⟩ := ia_of (xs (Int32.toNatClampNeg (x5 + (1 : Int32))))
  obtain ⟨k, c, m2, f1, f2, hy, hk⟩ := jq_cellsOf (N := N) (x := x) hN hS hj ⟨p1, g1⟩
  rcases hk with ⟨rfl, z⟩ | ⟨rfl, z⟩
  · refine ⟨x, o, sp, v0, v1, oh, P, wa, la, w, t, y, s, m2, ss_LF out (vp_updL (os_L out) 0 (Int32.toInt64 c)), outD, ?_, (wj_sq hw0 (hy.sq.mono (fun i hi => hi) (fun j hj => hj.elim)))⟩
    simp only [ff_L_law_b795, ff_L_law_b3500, ff_L_law_b848, ff_L_cellsOf, if_pos i1, e1, f1, f2, oL0, Option.bind_some, if_pos in01, n00, vL0, ij_self, z00, z10, z20, m10, m20, m30, m23, m32, m13, m12, m21, m31, eq_self, reduceIte, ff_X13_thrown, z]
  · refine ⟨x, o, sp, v0, v1, oh, P, wa, la, w, t, y, s, m2, out, outD, ?_, (wj_sq hw0 (hy.sq.mono (fun i hi => hi) (fun j hj => hj.elim)))⟩
    simp only [ff_L_law_b795, ff_L_law_b3500, ff_L_law_b848, ff_L_cellsOf, if_pos i1, e1, f1, f2, oL0, Option.bind_some, if_pos in01, n00, vL0, ij_self, z00, z10, z20, m10, m20, m30, m23, m32, m13, m12, m21, m31, eq_self, reduceIte, ff_X13_thrown, z]
theorem lb_11 (hN : 100000 < N) (hw : wj x o v0 v1 oh P w t m) : lO K x5 (ff_L_law_b851 N xs L K x o sp v0 v1 oh (P 0) (P 1) (P 2) (P 3) (P 4) (P 5) (P 6) wa la w t y s m out outD x5) := by
  have hw0 := hw
  obtain ⟨S, T, H, n, U, hS, hj, hwr⟩ := hw
  have hwr0 := hwr
  obtain ⟨R, L1, B, hr, h0, h1, ht, hb, he⟩ := hwr
  obtain ⟨c, f1, f2⟩ := jw_steepest (N := N) (x := x) hN hS hj
  refine ⟨x, o, sp, v0, v1, oh, P, wa, la, w, t, y, s, ss_I m 0 0, out, outD, ?_, wj_I hw0⟩
  simp only [ff_L_law_b851, ff_L_law_b3500, f1, f2, oL0, Option.bind_some, if_pos in01, n00, vL0, ij_self, z00, z10, z20, m10, m20, m30, m23, m32, m13, m12, m21, m31, eq_self, reduceIte, ff_X13_thrown]
theorem lb_12 (hN : 100000 < N) (hw : wj x o v0 v1 oh P w t m) (i1 : os_in (x5 + (1 : Int32)) L) : lO K x5 (ff_L_law_b864 N xs L K x o sp v0 v1 oh (P 0) (P 1) (P 2) (P 3) (P 4) (P 5) (P 6) wa la w t y s m out outD x5) := by
  have hw0 := hw
  obtain ⟨S, T, H, n, U, hS, hj, hwr⟩ := hw
  have hwr0 := hwr
  obtain ⟨R, L1, B, hr, h0, h1, ht, hb, he⟩ := hwr
  obtain ⟨a1, p1, g1, e1⟩ := ia_of (xs (Int32.toNatClampNeg (x5 + (1 : Int32))))
  obtain ⟨k, c, m2, f1, f2, hy, hk⟩ := jq_light (N := N) (x := x) hN hS hj ⟨p1, g1⟩
  rcases hk with ⟨rfl, z⟩ | ⟨rfl, z⟩
  · obtain ⟨d1, d2⟩ := fd_nn (nn_light hS hj ⟨p1, g1⟩ f1)
    refine ⟨x, o, sp, v0, v1, oh, P, wa, la, w, t, y, s, m2, out, ss_LF outD (vp_updL (os_L outD) 0 (UInt64.toInt64 (FP.f2d c))), ?_, (wj_sq hw0 (hy.sq.mono (fun i hi => hi) (fun j hj => hj.elim)))⟩
    simp only [ff_L_law_b864, ff_L_law_b3500, ff_L_law_b939, ff_L_light, if_pos i1, e1, f1, f2, oL0, Option.bind_some, if_pos in01, n00, vL0, ij_self, z00, z10, z20, m10, m20, m30, m23, m32, m13, m12, m21, m31, eq_self, reduceIte, ff_X13_thrown, z, if_pos d1, d2, cv0, iu64]
  · refine ⟨x, o, sp, v0, v1, oh, P, wa, la, w, t, y, s, m2, out, outD, ?_, (wj_sq hw0 (hy.sq.mono (fun i hi => hi) (fun j hj => hj.elim)))⟩
    simp only [ff_L_law_b864, ff_L_law_b3500, ff_L_law_b939, ff_L_light, if_pos i1, e1, f1, f2, oL0, Option.bind_some, if_pos in01, n00, vL0, ij_self, z00, z10, z20, m10, m20, m30, m23, m32, m13, m12, m21, m31, eq_self, reduceIte, ff_X13_thrown, z]
theorem lb_13 (hN : 100000 < N) (hw : wj x o v0 v1 oh P w t m) (i1 : os_in (x5 + (1 : Int32)) L) : lO K x5 (ff_L_law_b942 N xs L K x o sp v0 v1 oh (P 0) (P 1) (P 2) (P 3) (P 4) (P 5) (P 6) wa la w t y s m out outD x5) := by
  have hw0 := hw
  obtain ⟨S, T, H, n, U, hS, hj, hwr⟩ := hw
  have hwr0 := hwr
  obtain ⟨R, L1, B, hr, h0, h1, ht, hb, he⟩ := hwr
  obtain ⟨a1, p1, g1, e1⟩ := ia_of (xs (Int32.toNatClampNeg (x5 + (1 : Int32))))
  obtain ⟨k, c, m2, f1, f2, hy, hk⟩ := jq_heightFor (N := N) (x := x) hN hS hj ⟨p1, g1⟩
  rcases hk with ⟨rfl, z⟩ | ⟨rfl, z⟩
  · refine ⟨x, o, sp, v0, v1, oh, P, wa, la, w, t, y, s, m2, ss_LF out (vp_updL (os_L out) 0 (Int32.toInt64 c)), outD, ?_, (wj_sq hw0 (hy.sq.mono (fun i hi => hi) (fun j hj => hj.elim)))⟩
    simp only [ff_L_law_b942, ff_L_law_b3500, ff_L_law_b995, ff_L_heightFor, if_pos i1, e1, f1, f2, oL0, Option.bind_some, if_pos in01, n00, vL0, ij_self, z00, z10, z20, m10, m20, m30, m23, m32, m13, m12, m21, m31, eq_self, reduceIte, ff_X13_thrown, z]
  · refine ⟨x, o, sp, v0, v1, oh, P, wa, la, w, t, y, s, m2, out, outD, ?_, (wj_sq hw0 (hy.sq.mono (fun i hi => hi) (fun j hj => hj.elim)))⟩
    simp only [ff_L_law_b942, ff_L_law_b3500, ff_L_law_b995, ff_L_heightFor, if_pos i1, e1, f1, f2, oL0, Option.bind_some, if_pos in01, n00, vL0, ij_self, z00, z10, z20, m10, m20, m30, m23, m32, m13, m12, m21, m31, eq_self, reduceIte, ff_X13_thrown, z]
theorem lb_14 (hN : 100000 < N) (hw : wj x o v0 v1 oh P w t m) (i1 : os_in (x5 + (1 : Int32)) L) (i2 : os_in (x5 + (2 : Int32)) L) : lO K x5 (ff_L_law_b998 N xs L K x o sp v0 v1 oh (P 0) (P 1) (P 2) (P 3) (P 4) (P 5) (P 6) wa la w t y s m out outD x5) := by
  have hw0 := hw
  obtain ⟨S, T, H, n, U, hS, hj, hwr⟩ := hw
  have hwr0 := hwr
  obtain ⟨R, L1, B, hr, h0, h1, ht, hb, he⟩ := hwr
  obtain ⟨a1, p1, g1, e1⟩ := ia_of (xs (Int32.toNatClampNeg (x5 + (1 : Int32))))
  obtain ⟨a2, p2, g2, e2⟩ := ia_of (xs (Int32.toNatClampNeg (x5 + (2 : Int32))))
  obtain ⟨k, c, m2, f1, f2, hy, hk⟩ := jq_wanted (N := N) (x := x) hN hS hj ⟨p1, g1⟩ ⟨p2, g2⟩
  rcases hk with ⟨rfl, z⟩ | ⟨rfl, z⟩
  · obtain ⟨d1, d2⟩ := fd_nn (nn_wanted hS hj ⟨p1, g1⟩ ⟨p2, g2⟩ f1)
    refine ⟨x, o, sp, v0, v1, oh, P, wa, la, w, t, y, s, m2, out, ss_LF outD (vp_updL (os_L outD) 0 (UInt64.toInt64 (FP.f2d c))), ?_, (wj_sq hw0 (hy.sq.mono (fun i hi => hi) (fun j hj => hj.elim)))⟩
    simp only [ff_L_law_b998, ff_L_law_b1085, ff_L_law_b3500, ff_L_wanted, if_pos i1, if_pos i2, e1, e2, f1, f2, oL0, Option.bind_some, if_pos in01, n00, vL0, ij_self, z00, z10, z20, m10, m20, m30, m23, m32, m13, m12, m21, m31, eq_self, reduceIte, ff_X13_thrown, z, if_pos d1, d2, cv0, iu64]
  · refine ⟨x, o, sp, v0, v1, oh, P, wa, la, w, t, y, s, m2, out, outD, ?_, (wj_sq hw0 (hy.sq.mono (fun i hi => hi) (fun j hj => hj.elim)))⟩
    simp only [ff_L_law_b998, ff_L_law_b1085, ff_L_law_b3500, ff_L_wanted, if_pos i1, if_pos i2, e1, e2, f1, f2, oL0, Option.bind_some, if_pos in01, n00, vL0, ij_self, z00, z10, z20, m10, m20, m30, m23, m32, m13, m12, m21, m31, eq_self, reduceIte, ff_X13_thrown, z]
theorem lb_15 (hN : 100000 < N) (hw : wj x o v0 v1 oh P w t m) (i1 : os_in (x5 + (1 : Int32)) L) (i2 : os_in (x5 + (2 : Int32)) L) : lO K x5 (ff_L_law_b1088 N xs L K x o sp v0 v1 oh (P 0) (P 1) (P 2) (P 3) (P 4) (P 5) (P 6) wa la w t y s m out outD x5) := by
  have hw0 := hw
  obtain ⟨S, T, H, n, U, hS, hj, hwr⟩ := hw
  have hwr0 := hwr
  obtain ⟨R, L1, B, hr, h0, h1, ht, hb, he⟩ := hwr
  obtain ⟨a1, p1, g1, e1⟩ := ia_of (xs (Int32.toNatClampNeg (x5 + (1 : Int32))))
  obtain ⟨a2, p2, g2, e2⟩ := ia_of (xs (Int32.toNatClampNeg (x5 + (2 : Int32))))
  obtain ⟨k, c, m2, f1, f2, hy, hk⟩ := jq_estimate (N := N) (x := x) hN hS hj ⟨p1, g1⟩ ⟨p2, g2⟩
  rcases hk with ⟨rfl, z⟩ | ⟨rfl, z⟩
  · obtain ⟨d1, d2⟩ := fd_nn (nn_estimate hS hj ⟨p1, g1⟩ ⟨p2, g2⟩ f1)
    refine ⟨x, o, sp, v0, v1, oh, P, wa, la, w, t, y, s, m2, out, ss_LF outD (vp_updL (os_L outD) 0 (UInt64.toInt64 (FP.f2d c))), ?_, (wj_sq hw0 (hy.sq.mono (fun i hi => hi) (fun j hj => hj.elim)))⟩
    simp only [ff_L_law_b1088, ff_L_law_b1175, ff_L_law_b3500, ff_L_estimate, if_pos i1, if_pos i2, e1, e2, f1, f2, oL0, Option.bind_some, if_pos in01, n00, vL0, ij_self, z00, z10, z20, m10, m20, m30, m23, m32, m13, m12, m21, m31, eq_self, reduceIte, ff_X13_thrown, z, if_pos d1, d2, cv0, iu64]
  · refine ⟨x, o, sp, v0, v1, oh, P, wa, la, w, t, y, s, m2, out, outD, ?_, (wj_sq hw0 (hy.sq.mono (fun i hi => hi) (fun j hj => hj.elim)))⟩
    simp only [ff_L_law_b1088, ff_L_law_b1175, ff_L_law_b3500, ff_L_estimate, if_pos i1, if_pos i2, e1, e2, f1, f2, oL0, Option.bind_some, if_pos in01, n00, vL0, ij_self, z00, z10, z20, m10, m20, m30, m23, m32, m13, m12, m21, m31, eq_self, reduceIte, ff_X13_thrown, z]
theorem lb_16 (hN : 100000 < N) (hw : wj x o v0 v1 oh P w t m) (i1 : os_in (x5 + (1 : Int32)) L) (i2 : os_in (x5 + (2 : Int32)) L) : lO K x5 (ff_L_law_b1178 N xs L K x o sp v0 v1 oh (P 0) (P 1) (P 2) (P 3) (P 4) (P 5) (P 6) wa la w t y s m out outD x5) := by
  have hw0 := hw
  obtain ⟨S, T, H, n, U, hS, hj, hwr⟩ := hw
  have hwr0 := hwr
  obtain ⟨R, L1, B, hr, h0, h1, ht, hb, he⟩ := hwr
  obtain ⟨a1, p1, g1, e1⟩ := ia_of (xs (Int32.toNatClampNeg (x5 + (1 : Int32))))
  obtain ⟨a2, p2, g2, e2⟩ := ia_of (xs (Int32.toNatClampNeg (x5 + (2 : Int32))))
  obtain ⟨k, c, m2, f1, f2, hy, hk⟩ := jq_error (N := N) (x := x) hN hS hj ⟨p1, g1⟩ ⟨p2, g2⟩
  rcases hk with ⟨rfl, z⟩ | ⟨rfl, z⟩
  · obtain ⟨d1, d2⟩ := fd_nn (nn_error hS hj ⟨p1, g1⟩ ⟨p2, g2⟩ f1)
    refine ⟨x, o, sp, v0, v1, oh, P, wa, la, w, t, y, s, m2, out, ss_LF outD (vp_updL (os_L outD) 0 (UInt64.toInt64 (FP.f2d c))), ?_, (wj_sq hw0 (hy.sq.mono (fun i hi => hi) (fun j hj => hj.elim)))⟩
    simp only [ff_L_law_b1178, ff_L_law_b1265, ff_L_law_b3500, ff_L_error, if_pos i1, if_pos i2, e1, e2, f1, f2, oL0, Option.bind_some, if_pos in01, n00, vL0, ij_self, z00, z10, z20, m10, m20, m30, m23, m32, m13, m12, m21, m31, eq_self, reduceIte, ff_X13_thrown, z, if_pos d1, d2, cv0, iu64]
  · refine ⟨x, o, sp, v0, v1, oh, P, wa, la, w, t, y, s, m2, out, outD, ?_, (wj_sq hw0 (hy.sq.mono (fun i hi => hi) (fun j hj => hj.elim)))⟩
    simp only [ff_L_law_b1178, ff_L_law_b1265, ff_L_law_b3500, ff_L_error, if_pos i1, if_pos i2, e1, e2, f1, f2, oL0, Option.bind_some, if_pos in01, n00, vL0, ij_self, z00, z10, z20, m10, m20, m30, m23, m32, m13, m12, m21, m31, eq_self, reduceIte, ff_X13_thrown, z]
theorem lb_17 (hN : 100000 < N) (hw : wj x o v0 v1 oh P w t m) : lO K x5 (ff_L_law_b1268 N xs L K x o sp v0 v1 oh (P 0) (P 1) (P 2) (P 3) (P 4) (P 5) (P 6) wa la w t y s m out outD x5) := by
  have hw0 := hw
  obtain ⟨S, T, H, n, U, hS, hj, hwr⟩ := hw
  have hwr0 := hwr
  obtain ⟨R, L1, B, hr, h0, h1, ht, hb, he⟩ := hwr
  obtain ⟨c, f1, f2⟩ := jw_meanError (N := N) (x := x) hN hS hj
  obtain ⟨d1, d2⟩ := fd_nn (nn_mean f1)
  refine ⟨x, o, sp, v0, v1, oh, P, wa, la, w, t, y, s, ss_I m 0 0, out, outD, ?_, wj_I hw0⟩
  simp only [ff_L_law_b1268, ff_L_law_b1308, ff_L_law_b3500, f1, f2, oL0, Option.bind_some, if_pos in01, n00, vL0, ij_self, z00, z10, z20, m10, m20, m30, m23, m32, m13, m12, m21, m31, eq_self, reduceIte, ff_X13_thrown, if_pos d1, d2, cv0]
theorem lb_18 (hN : 100000 < N) (hw : wj x o v0 v1 oh P w t m) : lO K x5 (ff_L_law_b1311 N xs L K x o sp v0 v1 oh (P 0) (P 1) (P 2) (P 3) (P 4) (P 5) (P 6) wa la w t y s m out outD x5) := by
  have hw0 := hw
  obtain ⟨S, T, H, n, U, hS, hj, hwr⟩ := hw
  have hwr0 := hwr
  obtain ⟨R, L1, B, hr, h0, h1, ht, hb, he⟩ := hwr
  obtain ⟨c, f1, f2⟩ := jw_worstCell (N := N) (x := x) hN hS hj
  refine ⟨x, o, sp, v0, v1, oh, P, wa, la, w, t, y, s, ss_I m 0 0, out, outD, ?_, wj_I hw0⟩
  simp only [ff_L_law_b1311, ff_L_law_b3500, f1, f2, oL0, Option.bind_some, if_pos in01, n00, vL0, ij_self, z00, z10, z20, m10, m20, m30, m23, m32, m13, m12, m21, m31, eq_self, reduceIte, ff_X13_thrown]
theorem lb_19 (hN : 100000 < N) (hw : wj x o v0 v1 oh P w t m) : lO K x5 (ff_L_law_b1324 N xs L K x o sp v0 v1 oh (P 0) (P 1) (P 2) (P 3) (P 4) (P 5) (P 6) wa la w t y s m out outD x5) := by
  have hw0 := hw
  obtain ⟨S, T, H, n, U, hS, hj, hwr⟩ := hw
  have hwr0 := hwr
  obtain ⟨R, L1, B, hr, h0, h1, ht, hb, he⟩ := hwr
  obtain ⟨c, f1, f2⟩ := jw_fingerprint (N := N) (x := x) hN hS hj
  refine ⟨x, o, sp, v0, v1, oh, P, wa, la, w, t, y, s, ss_I m 0 0, out, outD, ?_, wj_I hw0⟩
  simp only [ff_L_law_b1324, ff_L_law_b3500, f1, f2, oL0, Option.bind_some, if_pos in01, n00, vL0, ij_self, z00, z10, z20, m10, m20, m30, m23, m32, m13, m12, m21, m31, eq_self, reduceIte, ff_X13_thrown]
theorem lb_20 (hN : 100000 < N) (hw : wj x o v0 v1 oh P w t m) : lO K x5 (ff_L_law_b1337 N xs L K x o sp v0 v1 oh (P 0) (P 1) (P 2) (P 3) (P 4) (P 5) (P 6) wa la w t y s m out outD x5) := by
  have hw0 := hw
  obtain ⟨S, T, H, n, U, hS, hj, hwr⟩ := hw
  have hwr0 := hwr
  obtain ⟨R, L1, B, hr, h0, h1, ht, hb, he⟩ := hwr
  obtain ⟨c, f1, f2⟩ := jw_brightest (N := N) (x := x) hN hS hj
  refine ⟨x, o, sp, v0, v1, oh, P, wa, la, w, t, y, s, ss_I m 0 0, out, outD, ?_, wj_I hw0⟩
  simp only [ff_L_law_b1337, ff_L_law_b3500, f1, f2, oL0, Option.bind_some, if_pos in01, n00, vL0, ij_self, z00, z10, z20, m10, m20, m30, m23, m32, m13, m12, m21, m31, eq_self, reduceIte, ff_X13_thrown]
theorem lb_21 (hN : 100000 < N) (hw : wj x o v0 v1 oh P w t m) : lO K x5 (ff_L_law_b1350 N xs L K x o sp v0 v1 oh (P 0) (P 1) (P 2) (P 3) (P 4) (P 5) (P 6) wa la w t y s m out outD x5) := by
  have hw0 := hw
  obtain ⟨S, T, H, n, U, hS, hj, hwr⟩ := hw
  have hwr0 := hwr
  obtain ⟨R, L1, B, hr, h0, h1, ht, hb, he⟩ := hwr
  obtain ⟨c, f1, f2⟩ := jw_darkestRow (N := N) (x := x) hN hS hj
  refine ⟨x, o, sp, v0, v1, oh, P, wa, la, w, t, y, s, ss_I m 0 0, out, outD, ?_, wj_I hw0⟩
  simp only [ff_L_law_b1350, ff_L_law_b3500, f1, f2, oL0, Option.bind_some, if_pos in01, n00, vL0, ij_self, z00, z10, z20, m10, m20, m30, m23, m32, m13, m12, m21, m31, eq_self, reduceIte, ff_X13_thrown]
theorem lb_22 (hN : 100000 < N) (hw : wj x o v0 v1 oh P w t m) : lO K x5 (ff_L_law_b1363 N xs L K x o sp v0 v1 oh (P 0) (P 1) (P 2) (P 3) (P 4) (P 5) (P 6) wa la w t y s m out outD x5) := by
  have hw0 := hw
  obtain ⟨S, T, H, n, U, hS, hj, hwr⟩ := hw
  have hwr0 := hwr
  obtain ⟨R, L1, B, hr, h0, h1, ht, hb, he⟩ := hwr
  obtain ⟨c, f1, f2⟩ := jw_contrast (N := N) (x := x) hN hS hj
  obtain ⟨d1, d2⟩ := fd_nn (nn_span f1)
  refine ⟨x, o, sp, v0, v1, oh, P, wa, la, w, t, y, s, ss_I m 0 0, out, outD, ?_, wj_I hw0⟩
  simp only [ff_L_law_b1363, ff_L_law_b1403, ff_L_law_b3500, f1, f2, oL0, Option.bind_some, if_pos in01, n00, vL0, ij_self, z00, z10, z20, m10, m20, m30, m23, m32, m13, m12, m21, m31, eq_self, reduceIte, ff_X13_thrown, if_pos d1, d2, cv0]
theorem lb_23 (hN : 100000 < N) (hw : wj x o v0 v1 oh P w t m) (i1 : os_in (x5 + (1 : Int32)) L) (i2 : os_in (x5 + (2 : Int32)) L) : lO K x5 (ff_L_law_b1406 N xs L K x o sp v0 v1 oh (P 0) (P 1) (P 2) (P 3) (P 4) (P 5) (P 6) wa la w t y s m out outD x5) := by
  have hw0 := hw
  obtain ⟨S, T, H, n, U, hS, hj, hwr⟩ := hw
  have hwr0 := hwr
  obtain ⟨R, L1, B, hr, h0, h1, ht, hb, he⟩ := hwr
  obtain ⟨a1, p1, g1, e1⟩ := ia_of (xs (Int32.toNatClampNeg (x5 + (1 : Int32))))
  obtain ⟨a2, p2, g2, e2⟩ := ia_of (xs (Int32.toNatClampNeg (x5 + (2 : Int32))))
  obtain ⟨k, c, m2, f1, f2, hcz, hy, hk⟩ := jq_isThin (N := N) (x := x) hN hS hj ⟨p1, g1⟩ ⟨p2, g2⟩
  rcases hk with ⟨rfl, z⟩ | ⟨rfl, z⟩
  · by_cases cz : c = 0
    · refine ⟨x, o, sp, v0, v1, oh, P, wa, la, w, t, y, s, m2, ss_LF out (vp_updL (os_L out) 0 (0 : Int64)), outD, ?_, (wj_sq hw0 (hy.sq.mono (fun i hi => hi) (fun j hj => hj.elim)))⟩
      simp only [ff_L_law_b1406, ff_L_law_b1472, ff_L_law_b1478, ff_L_law_b3500, ff_L_isThin, ff_L_isThin_b16, if_pos i1, if_pos i2, e1, e2, f1, f2, oL0, Option.bind_some, if_pos in01, n00, vL0, ij_self, z00, z10, z20, m10, m20, m30, m23, m32, m13, m12, m21, m31, eq_self, reduceIte, ff_X13_thrown, z, if_pos cz]
    · refine ⟨x, o, sp, v0, v1, oh, P, wa, la, w, t, y, s, m2, ss_LF out (vp_updL (os_L out) 0 (1 : Int64)), outD, ?_, (wj_sq hw0 (hy.sq.mono (fun i hi => hi) (fun j hj => hj.elim)))⟩
      simp only [ff_L_law_b1406, ff_L_law_b1472, ff_L_law_b1478, ff_L_law_b3500, ff_L_isThin, ff_L_isThin_b16, if_pos i1, if_pos i2, e1, e2, f1, f2, oL0, Option.bind_some, if_pos in01, n00, vL0, ij_self, z00, z10, z20, m10, m20, m30, m23, m32, m13, m12, m21, m31, eq_self, reduceIte, ff_X13_thrown, z, if_neg cz]
  · refine ⟨x, o, sp, v0, v1, oh, P, wa, la, w, t, y, s, m2, out, outD, ?_, (wj_sq hw0 (hy.sq.mono (fun i hi => hi) (fun j hj => hj.elim)))⟩
    simp only [ff_L_law_b1406, ff_L_law_b1472, ff_L_law_b1478, ff_L_law_b3500, ff_L_isThin, ff_L_isThin_b16, if_pos i1, if_pos i2, e1, e2, f1, f2, oL0, Option.bind_some, if_pos in01, n00, vL0, ij_self, z00, z10, z20, m10, m20, m30, m23, m32, m13, m12, m21, m31, eq_self, reduceIte, ff_X13_thrown, z]
theorem lb_24 (hN : 100000 < N) (hw : wj x o v0 v1 oh P w t m) : lO K x5 (ff_L_law_b1481 N xs L K x o sp v0 v1 oh (P 0) (P 1) (P 2) (P 3) (P 4) (P 5) (P 6) wa la w t y s m out outD x5) := by
  have hw0 := hw
  obtain ⟨S, T, H, n, U, hS, hj, hwr⟩ := hw
  have hwr0 := hwr
  obtain ⟨R, L1, B, hr, h0, h1, ht, hb, he⟩ := hwr
  obtain ⟨c, w2, m2, f1, f2, hy, hz⟩ := jw_thinCells (N := N) (x := x) (w := wa) hN hS hj
  refine ⟨x, o, sp, v0, v1, oh, P, w2, la, w, t, y, s, m2, out, outD, ?_, (wj_sq hw0 (hy.sq.mono (fun i hi => hi) (fun j hj => Or.inl hj)))⟩
  simp only [ff_L_law_b1481, ff_L_law_b3500, f1, f2, oL0, Option.bind_some, if_pos in01, n00, vL0, ij_self, z00, z10, z20, m10, m20, m30, m23, m32, m13, m12, m21, m31, eq_self, reduceIte, ff_X13_thrown]
theorem lb_25 (hN : 100000 < N) (hw : wj x o v0 v1 oh P w t m) : lO K x5 (ff_L_law_b1494 N xs L K x o sp v0 v1 oh (P 0) (P 1) (P 2) (P 3) (P 4) (P 5) (P 6) wa la w t y s m out outD x5) := by
  have hw0 := hw
  obtain ⟨S, T, H, n, U, hS, hj, hwr⟩ := hw
  have hwr0 := hwr
  obtain ⟨R, L1, B, hr, h0, h1, ht, hb, he⟩ := hwr
  obtain ⟨c, o2, oh2, P2, w2, m2, T2, H2, n2, U2, f1, f2, hj2, hf, hz⟩ := jr_repair (N := N) (x := x) (w := wa) hN hS hj
  refine ⟨x, o2, sp, v0, v1, oh2, P2, w2, la, w, t, y, s, m2, out, outD, ?_, ⟨S, T2, H2, n2, U2, hS, hj2, wr_sq hwr0 (fr_sq hf)⟩⟩
  simp only [ff_L_law_b1494, ff_L_law_b3500, f1, f2, oL0, Option.bind_some, if_pos in01, n00, vL0, ij_self, z00, z10, z20, m10, m20, m30, m23, m32, m13, m12, m21, m31, eq_self, reduceIte, ff_X13_thrown]
theorem lb_26 (hN : 100000 < N) (hw : wj x o v0 v1 oh P w t m) (i1 : os_in (x5 + (1 : Int32)) L) : lO K x5 (ff_L_law_b1507 N xs L K x o sp v0 v1 oh (P 0) (P 1) (P 2) (P 3) (P 4) (P 5) (P 6) wa la w t y s m out outD x5) := by
  have hw0 := hw
  obtain ⟨S, T, H, n, U, hS, hj, hwr⟩ := hw
  have hwr0 := hwr
  obtain ⟨R, L1, B, hr, h0, h1, ht, hb, he⟩ := hwr
  obtain ⟨a1, p1, g1, e1⟩ := ia_of (xs (Int32.toNatClampNeg (x5 + (1 : Int32))))
  obtain ⟨k, c, o2, w2, oh2, P2, m2, T2, H2, n2, U2, f1, f2, hj2, hf, hk⟩ := jr_smooth (N := N) (x := x) (w := sp) hN hS hj ⟨p1, g1⟩
  rcases hk with ⟨rfl, z⟩ | ⟨rfl, z⟩
  · refine ⟨x, o2, w2, v0, v1, oh2, P2, wa, la, w, t, y, s, m2, ss_LF out (vp_updL (os_L out) 0 (Int32.toInt64 c)), outD, ?_, ⟨S, T2, H2, n2, U2, hS, hj2, wr_sq hwr0 (fr_sq hf)⟩⟩
    simp only [ff_L_law_b1507, ff_L_law_b1560, ff_L_law_b3500, ff_L_smooth, if_pos i1, e1, f1, f2, oL0, Option.bind_some, if_pos in01, n00, vL0, ij_self, z00, z10, z20, m10, m20, m30, m23, m32, m13, m12, m21, m31, eq_self, reduceIte, ff_X13_thrown, z]
  · refine ⟨x, o2, w2, v0, v1, oh2, P2, wa, la, w, t, y, s, m2, out, outD, ?_, ⟨S, T2, H2, n2, U2, hS, hj2, wr_sq hwr0 (fr_sq hf)⟩⟩
    simp only [ff_L_law_b1507, ff_L_law_b1560, ff_L_law_b3500, ff_L_smooth, if_pos i1, e1, f1, f2, oL0, Option.bind_some, if_pos in01, n00, vL0, ij_self, z00, z10, z20, m10, m20, m30, m23, m32, m13, m12, m21, m31, eq_self, reduceIte, ff_X13_thrown, z]
theorem lb_27 (hN : 100000 < N) (hw : wj x o v0 v1 oh P w t m) : lO K x5 (ff_L_law_b1563 N xs L K x o sp v0 v1 oh (P 0) (P 1) (P 2) (P 3) (P 4) (P 5) (P 6) wa la w t y s m out outD x5) := by
  have hw0 := hw
  obtain ⟨S, T, H, n, U, hS, hj, hwr⟩ := hw
  have hwr0 := hwr
  obtain ⟨R, L1, B, hr, h0, h1, ht, hb, he⟩ := hwr
  obtain ⟨c, sp2, w2, m2, f1, f2, hj2, hf, hz⟩ := jr_repairLoss (N := N) (x := x) (sp := sp) (w := wa) hN hS hj
  refine ⟨x, o, sp2, v0, v1, oh, P, w2, la, w, t, y, s, m2, out, outD, ?_, ⟨S, T, H, n, U, hS, hj2, wr_sq hwr0 (fr_sq hf)⟩⟩
  simp only [ff_L_law_b1563, ff_L_law_b3500, f1, f2, oL0, Option.bind_some, if_pos in01, n00, vL0, ij_self, z00, z10, z20, m10, m20, m30, m23, m32, m13, m12, m21, m31, eq_self, reduceIte, ff_X13_thrown]
theorem lb_28 (hN : 100000 < N) (hw : wj x o v0 v1 oh P w t m) (i1 : os_in (x5 + (1 : Int32)) L) (i2 : os_in (x5 + (2 : Int32)) L) : lO K x5 (ff_L_law_b1576 N xs L K x o sp v0 v1 oh (P 0) (P 1) (P 2) (P 3) (P 4) (P 5) (P 6) wa la w t y s m out outD x5) := by
  have hw0 := hw
  obtain ⟨S, T, H, n, U, hS, hj, hwr⟩ := hw
  have hwr0 := hwr
  obtain ⟨R, L1, B, hr, h0, h1, ht, hb, he⟩ := hwr
  obtain ⟨a1, p1, g1, e1⟩ := ia_of (xs (Int32.toNatClampNeg (x5 + (1 : Int32))))
  obtain ⟨a2, p2, g2, e2⟩ := ia_of (xs (Int32.toNatClampNeg (x5 + (2 : Int32))))
  obtain ⟨k, c, m2, f1, f2, hy, hk⟩ := jq_overhang (N := N) (x := x) hN hS hj ⟨p1, g1⟩ ⟨p2, g2⟩
  rcases hk with ⟨rfl, z⟩ | ⟨rfl, z⟩
  · refine ⟨x, o, sp, v0, v1, oh, P, wa, la, w, t, y, s, m2, ss_LF out (vp_updL (os_L out) 0 (Int32.toInt64 c)), outD, ?_, (wj_sq hw0 (hy.sq.mono (fun i hi => hi) (fun j hj => hj.elim)))⟩
    simp only [ff_L_law_b1576, ff_L_law_b1641, ff_L_law_b3500, ff_L_overhang, if_pos i1, if_pos i2, e1, e2, f1, f2, oL0, Option.bind_some, if_pos in01, n00, vL0, ij_self, z00, z10, z20, m10, m20, m30, m23, m32, m13, m12, m21, m31, eq_self, reduceIte, ff_X13_thrown, z]
  · refine ⟨x, o, sp, v0, v1, oh, P, wa, la, w, t, y, s, m2, out, outD, ?_, (wj_sq hw0 (hy.sq.mono (fun i hi => hi) (fun j hj => hj.elim)))⟩
    simp only [ff_L_law_b1576, ff_L_law_b1641, ff_L_law_b3500, ff_L_overhang, if_pos i1, if_pos i2, e1, e2, f1, f2, oL0, Option.bind_some, if_pos in01, n00, vL0, ij_self, z00, z10, z20, m10, m20, m30, m23, m32, m13, m12, m21, m31, eq_self, reduceIte, ff_X13_thrown, z]
theorem lb_29 (hN : 100000 < N) (hw : wj x o v0 v1 oh P w t m) (i1 : os_in (x5 + (1 : Int32)) L) (i2 : os_in (x5 + (2 : Int32)) L) (i3 : os_in (x5 + (3 : Int32)) L) : lO K x5 (ff_L_law_b1644 N xs L K x o sp v0 v1 oh (P 0) (P 1) (P 2) (P 3) (P 4) (P 5) (P 6) wa la w t y s m out outD x5) := by
  have hw0 := hw
  obtain ⟨S, T, H, n, U, hS, hj, hwr⟩ := hw
  have hwr0 := hwr
  obtain ⟨R, L1, B, hr, h0, h1, ht, hb, he⟩ := hwr
  obtain ⟨a1, p1, g1, e1⟩ := ia_of (xs (Int32.toNatClampNeg (x5 + (1 : Int32))))
  obtain ⟨a2, p2, g2, e2⟩ := ia_of (xs (Int32.toNatClampNeg (x5 + (2 : Int32))))
  obtain ⟨a3, p3, g3, e3⟩ := ia_of (xs (Int32.toNatClampNeg (x5 + (3 : Int32))))
  obtain ⟨k, c, m2, f1, f2, hy, hk⟩ := jq_supportOf (N := N) (x := x) hN hS hj ⟨p1, g1⟩ ⟨p2, g2⟩ ⟨p3, g3⟩
  rcases hk with ⟨rfl, z⟩ | ⟨rfl, z⟩ | ⟨rfl, z⟩
  · refine ⟨x, o, sp, v0, v1, oh, P, wa, la, w, t, y, s, m2, ss_LF out (vp_updL (os_L out) 0 (Int32.toInt64 c)), outD, ?_, (wj_sq hw0 (hy.sq.mono (fun i hi => hi) (fun j hj => hj.elim)))⟩
    simp only [ff_L_law_b1644, ff_L_law_b1721, ff_L_law_b3500, ff_L_supportOf, if_pos i1, if_pos i2, if_pos i3, e1, e2, e3, f1, f2, oL0, Option.bind_some, if_pos in01, n00, vL0, ij_self, z00, z10, z20, m10, m20, m30, m23, m32, m13, m12, m21, m31, eq_self, reduceIte, ff_X13_thrown, z]
  · refine ⟨x, o, sp, v0, v1, oh, P, wa, la, w, t, y, s, m2, out, outD, ?_, (wj_sq hw0 (hy.sq.mono (fun i hi => hi) (fun j hj => hj.elim)))⟩
    simp only [ff_L_law_b1644, ff_L_law_b1721, ff_L_law_b3500, ff_L_supportOf, if_pos i1, if_pos i2, if_pos i3, e1, e2, e3, f1, f2, oL0, Option.bind_some, if_pos in01, n00, vL0, ij_self, z00, z10, z20, m10, m20, m30, m23, m32, m13, m12, m21, m31, eq_self, reduceIte, ff_X13_thrown, z]
  · refine ⟨x, o, sp, v0, v1, oh, P, wa, la, w, t, y, s, m2, out, outD, ?_, (wj_sq hw0 (hy.sq.mono (fun i hi => hi) (fun j hj => hj.elim)))⟩
    simp only [ff_L_law_b1644, ff_L_law_b1721, ff_L_law_b3500, ff_L_supportOf, if_pos i1, if_pos i2, if_pos i3, e1, e2, e3, f1, f2, oL0, Option.bind_some, if_pos in01, n00, vL0, ij_self, z00, z10, z20, m10, m20, m30, m23, m32, m13, m12, m21, m31, eq_self, reduceIte, ff_X13_thrown, z]
theorem lb_30 (hN : 100000 < N) (hw : wj x o v0 v1 oh P w t m) : lO K x5 (ff_L_law_b1724 N xs L K x o sp v0 v1 oh (P 0) (P 1) (P 2) (P 3) (P 4) (P 5) (P 6) wa la w t y s m out outD x5) := by
  have hw0 := hw
  obtain ⟨S, T, H, n, U, hS, hj, hwr⟩ := hw
  have hwr0 := hwr
  obtain ⟨R, L1, B, hr, h0, h1, ht, hb, he⟩ := hwr
  obtain ⟨c, f1, f2⟩ := jw_supportedCells (N := N) (x := x) hN hS hj
  refine ⟨x, o, sp, v0, v1, oh, P, wa, la, w, t, y, s, ss_I m 0 0, out, outD, ?_, wj_I hw0⟩
  simp only [ff_L_law_b1724, ff_L_law_b3500, f1, f2, oL0, Option.bind_some, if_pos in01, n00, vL0, ij_self, z00, z10, z20, m10, m20, m30, m23, m32, m13, m12, m21, m31, eq_self, reduceIte, ff_X13_thrown]
theorem lb_31 (hN : 100000 < N) (hw : wj x o v0 v1 oh P w t m) : lO K x5 (ff_L_law_b1737 N xs L K x o sp v0 v1 oh (P 0) (P 1) (P 2) (P 3) (P 4) (P 5) (P 6) wa la w t y s m out outD x5) := by
  have hw0 := hw
  obtain ⟨S, T, H, n, U, hS, hj, hwr⟩ := hw
  have hwr0 := hwr
  obtain ⟨R, L1, B, hr, h0, h1, ht, hb, he⟩ := hwr
  obtain ⟨c, f1, f2⟩ := jw_supportVolume (N := N) (x := x) hN hS hj
  refine ⟨x, o, sp, v0, v1, oh, P, wa, la, w, t, y, s, ss_I m 0 0, out, outD, ?_, wj_I hw0⟩
  simp only [ff_L_law_b1737, ff_L_law_b3500, f1, f2, oL0, Option.bind_some, if_pos in01, n00, vL0, ij_self, z00, z10, z20, m10, m20, m30, m23, m32, m13, m12, m21, m31, eq_self, reduceIte, ff_X13_thrown]
theorem lb_32 (hN : 100000 < N) (hw : wj x o v0 v1 oh P w t m) : lO K x5 (ff_L_law_b1750 N xs L K x o sp v0 v1 oh (P 0) (P 1) (P 2) (P 3) (P 4) (P 5) (P 6) wa la w t y s m out outD x5) := by
  have hw0 := hw
  obtain ⟨S, T, H, n, U, hS, hj, hwr⟩ := hw
  have hwr0 := hwr
  obtain ⟨R, L1, B, hr, h0, h1, ht, hb, he⟩ := hwr
  obtain ⟨c, o2, oh2, P2, m2, T2, H2, n2, U2, f1, f2, hj2, hf, hz⟩ := jr_ease (N := N) (x := x) hN hS hj
  refine ⟨x, o2, sp, v0, v1, oh2, P2, wa, la, w, t, y, s, m2, out, outD, ?_, ⟨S, T2, H2, n2, U2, hS, hj2, wr_sq hwr0 (fr_sq hf)⟩⟩
  simp only [ff_L_law_b1750, ff_L_law_b3500, f1, f2, oL0, Option.bind_some, if_pos in01, n00, vL0, ij_self, z00, z10, z20, m10, m20, m30, m23, m32, m13, m12, m21, m31, eq_self, reduceIte, ff_X13_thrown]
theorem lb_33 (hN : 100000 < N) (hw : wj x o v0 v1 oh P w t m) : lO K x5 (ff_L_law_b1763 N xs L K x o sp v0 v1 oh (P 0) (P 1) (P 2) (P 3) (P 4) (P 5) (P 6) wa la w t y s m out outD x5) := by
  have hw0 := hw
  obtain ⟨S, T, H, n, U, hS, hj, hwr⟩ := hw
  have hwr0 := hwr
  obtain ⟨R, L1, B, hr, h0, h1, ht, hb, he⟩ := hwr
  obtain ⟨c, f1, f2⟩ := jw_safeSlope (N := N) (x := x) hN hS hj
  refine ⟨x, o, sp, v0, v1, oh, P, wa, la, w, t, y, s, ss_I m 0 0, out, outD, ?_, wj_I hw0⟩
  simp only [ff_L_law_b1763, ff_L_law_b3500, f1, f2, oL0, Option.bind_some, if_pos in01, n00, vL0, ij_self, z00, z10, z20, m10, m20, m30, m23, m32, m13, m12, m21, m31, eq_self, reduceIte, ff_X13_thrown]
theorem lb_34 (hN : 100000 < N) (hw : wj x o v0 v1 oh P w t m) (i1 : os_in (x5 + (1 : Int32)) L) : lO K x5 (ff_L_law_b1776 N xs L K x o sp v0 v1 oh (P 0) (P 1) (P 2) (P 3) (P 4) (P 5) (P 6) wa la w t y s m out outD x5) := by
  have hw0 := hw
  obtain ⟨S, T, H, n, U, hS, hj, hwr⟩ := hw
  have hwr0 := hwr
  obtain ⟨R, L1, B, hr, h0, h1, ht, hb, he⟩ := hwr
  obtain ⟨a1, p1, g1, e1⟩ := ia_of (xs (Int32.toNatClampNeg (x5 + (1 : Int32))))
  obtain ⟨k, c, m2, f1, f2, hy, hk⟩ := jq_layerCells (N := N) (x := x) (ol := la) hN hS hj ⟨p1, g1⟩
  rcases hk with ⟨rfl, z⟩ | ⟨rfl, z⟩
  · refine ⟨x, o, sp, v0, v1, oh, P, wa, la, w, t, y, s, m2, ss_LF out (vp_updL (os_L out) 0 (Int32.toInt64 c)), outD, ?_, (wj_sq hw0 (hy.sq.mono (fun i hi => hi) (fun j hj => hj.elim)))⟩
    simp only [ff_L_law_b1776, ff_L_law_b1829, ff_L_law_b3500, ff_L_layerCells, if_pos i1, e1, f1, f2, oL0, Option.bind_some, if_pos in01, n00, vL0, ij_self, z00, z10, z20, m10, m20, m30, m23, m32, m13, m12, m21, m31, eq_self, reduceIte, ff_X13_thrown, z]
  · refine ⟨x, o, sp, v0, v1, oh, P, wa, la, w, t, y, s, m2, out, outD, ?_, (wj_sq hw0 (hy.sq.mono (fun i hi => hi) (fun j hj => hj.elim)))⟩
    simp only [ff_L_law_b1776, ff_L_law_b1829, ff_L_law_b3500, ff_L_layerCells, if_pos i1, e1, f1, f2, oL0, Option.bind_some, if_pos in01, n00, vL0, ij_self, z00, z10, z20, m10, m20, m30, m23, m32, m13, m12, m21, m31, eq_self, reduceIte, ff_X13_thrown, z]
theorem lb_35 (hN : 100000 < N) (hw : wj x o v0 v1 oh P w t m) (i1 : os_in (x5 + (1 : Int32)) L) : lO K x5 (ff_L_law_b1832 N xs L K x o sp v0 v1 oh (P 0) (P 1) (P 2) (P 3) (P 4) (P 5) (P 6) wa la w t y s m out outD x5) := by
  have hw0 := hw
  obtain ⟨S, T, H, n, U, hS, hj, hwr⟩ := hw
  have hwr0 := hwr
  obtain ⟨R, L1, B, hr, h0, h1, ht, hb, he⟩ := hwr
  obtain ⟨a1, p1, g1, e1⟩ := ia_of (xs (Int32.toNatClampNeg (x5 + (1 : Int32))))
  obtain ⟨k, c, m2, f1, f2, hy, hk⟩ := jq_runs (N := N) (x := x) (ol := la) hN hS hj ⟨p1, g1⟩
  rcases hk with ⟨rfl, z⟩ | ⟨rfl, z⟩
  · refine ⟨x, o, sp, v0, v1, oh, P, wa, la, w, t, y, s, m2, ss_LF out (vp_updL (os_L out) 0 (Int32.toInt64 c)), outD, ?_, (wj_sq hw0 (hy.sq.mono (fun i hi => hi) (fun j hj => hj.elim)))⟩
    simp only [ff_L_law_b1832, ff_L_law_b1885, ff_L_law_b3500, ff_L_runs, if_pos i1, e1, f1, f2, oL0, Option.bind_some, if_pos in01, n00, vL0, ij_self, z00, z10, z20, m10, m20, m30, m23, m32, m13, m12, m21, m31, eq_self, reduceIte, ff_X13_thrown, z]
  · refine ⟨x, o, sp, v0, v1, oh, P, wa, la, w, t, y, s, m2, out, outD, ?_, (wj_sq hw0 (hy.sq.mono (fun i hi => hi) (fun j hj => hj.elim)))⟩
    simp only [ff_L_law_b1832, ff_L_law_b1885, ff_L_law_b3500, ff_L_runs, if_pos i1, e1, f1, f2, oL0, Option.bind_some, if_pos in01, n00, vL0, ij_self, z00, z10, z20, m10, m20, m30, m23, m32, m13, m12, m21, m31, eq_self, reduceIte, ff_X13_thrown, z]
theorem lb_36 (hN : 100000 < N) (hw : wj x o v0 v1 oh P w t m) (i1 : os_in (x5 + (1 : Int32)) L) : lO K x5 (ff_L_law_b1888 N xs L K x o sp v0 v1 oh (P 0) (P 1) (P 2) (P 3) (P 4) (P 5) (P 6) wa la w t y s m out outD x5) := by
  have hw0 := hw
  obtain ⟨S, T, H, n, U, hS, hj, hwr⟩ := hw
  have hwr0 := hwr
  obtain ⟨R, L1, B, hr, h0, h1, ht, hb, he⟩ := hwr
  obtain ⟨a1, p1, g1, e1⟩ := ia_of (xs (Int32.toNatClampNeg (x5 + (1 : Int32))))
  obtain ⟨k, c, m2, f1, f2, hy, hk⟩ := jq_rectangles (N := N) (x := x) (ol := la) hN hS hj ⟨p1, g1⟩
  rcases hk with ⟨rfl, z⟩ | ⟨rfl, z⟩
  · refine ⟨x, o, sp, v0, v1, oh, P, wa, la, w, t, y, s, m2, ss_LF out (vp_updL (os_L out) 0 (Int32.toInt64 c)), outD, ?_, (wj_sq hw0 (hy.sq.mono (fun i hi => hi) (fun j hj => hj.elim)))⟩
    simp only [ff_L_law_b1888, ff_L_law_b1941, ff_L_law_b3500, ff_L_rectangles, if_pos i1, e1, f1, f2, oL0, Option.bind_some, if_pos in01, n00, vL0, ij_self, z00, z10, z20, m10, m20, m30, m23, m32, m13, m12, m21, m31, eq_self, reduceIte, ff_X13_thrown, z]
  · refine ⟨x, o, sp, v0, v1, oh, P, wa, la, w, t, y, s, m2, out, outD, ?_, (wj_sq hw0 (hy.sq.mono (fun i hi => hi) (fun j hj => hj.elim)))⟩
    simp only [ff_L_law_b1888, ff_L_law_b1941, ff_L_law_b3500, ff_L_rectangles, if_pos i1, e1, f1, f2, oL0, Option.bind_some, if_pos in01, n00, vL0, ij_self, z00, z10, z20, m10, m20, m30, m23, m32, m13, m12, m21, m31, eq_self, reduceIte, ff_X13_thrown, z]
theorem lb_37 (hN : 100000 < N) (hw : wj x o v0 v1 oh P w t m) (i1 : os_in (x5 + (1 : Int32)) L) (i2 : os_in (x5 + (2 : Int32)) L) (i3 : os_in (x5 + (3 : Int32)) L) : lO K x5 (ff_L_law_b1944 N xs L K x o sp v0 v1 oh (P 0) (P 1) (P 2) (P 3) (P 4) (P 5) (P 6) wa la w t y s m out outD x5) := by
  have hw0 := hw
  obtain ⟨S, T, H, n, U, hS, hj, hwr⟩ := hw
  have hwr0 := hwr
  obtain ⟨R, L1, B, hr, h0, h1, ht, hb, he⟩ := hwr
  obtain ⟨a1, p1, g1, e1⟩ := ia_of (xs (Int32.toNatClampNeg (x5 + (1 : Int32))))
  obtain ⟨a2, p2, g2, e2⟩ := ia_of (xs (Int32.toNatClampNeg (x5 + (2 : Int32))))
  obtain ⟨a3, p3, g3, e3⟩ := ia_of (xs (Int32.toNatClampNeg (x5 + (3 : Int32))))
  obtain ⟨k, c, m2, f1, f2, hy, hk⟩ := jq_rectangle (N := N) (x := x) (ol := la) hN hS hj ⟨p1, g1⟩ ⟨p2, g2⟩ ⟨p3, g3⟩
  rcases hk with ⟨rfl, z⟩ | ⟨rfl, z⟩ | ⟨rfl, z⟩
  · refine ⟨x, o, sp, v0, v1, oh, P, wa, la, w, t, y, s, m2, ss_LF out (vp_updL (os_L out) 0 (Int32.toInt64 c)), outD, ?_, (wj_sq hw0 (hy.sq.mono (fun i hi => hi) (fun j hj => hj.elim)))⟩
    simp only [ff_L_law_b1944, ff_L_law_b2021, ff_L_law_b3500, ff_L_rectangle, if_pos i1, if_pos i2, if_pos i3, e1, e2, e3, f1, f2, oL0, Option.bind_some, if_pos in01, n00, vL0, ij_self, z00, z10, z20, m10, m20, m30, m23, m32, m13, m12, m21, m31, eq_self, reduceIte, ff_X13_thrown, z]
  · refine ⟨x, o, sp, v0, v1, oh, P, wa, la, w, t, y, s, m2, out, outD, ?_, (wj_sq hw0 (hy.sq.mono (fun i hi => hi) (fun j hj => hj.elim)))⟩
    simp only [ff_L_law_b1944, ff_L_law_b2021, ff_L_law_b3500, ff_L_rectangle, if_pos i1, if_pos i2, if_pos i3, e1, e2, e3, f1, f2, oL0, Option.bind_some, if_pos in01, n00, vL0, ij_self, z00, z10, z20, m10, m20, m30, m23, m32, m13, m12, m21, m31, eq_self, reduceIte, ff_X13_thrown, z]
  · refine ⟨x, o, sp, v0, v1, oh, P, wa, la, w, t, y, s, m2, out, outD, ?_, (wj_sq hw0 (hy.sq.mono (fun i hi => hi) (fun j hj => hj.elim)))⟩
    simp only [ff_L_law_b1944, ff_L_law_b2021, ff_L_law_b3500, ff_L_rectangle, if_pos i1, if_pos i2, if_pos i3, e1, e2, e3, f1, f2, oL0, Option.bind_some, if_pos in01, n00, vL0, ij_self, z00, z10, z20, m10, m20, m30, m23, m32, m13, m12, m21, m31, eq_self, reduceIte, ff_X13_thrown, z]
theorem lb_38 (hN : 100000 < N) (hw : wj x o v0 v1 oh P w t m) (i1 : os_in (x5 + (1 : Int32)) L) (i2 : os_in (x5 + (2 : Int32)) L) (i3 : os_in (x5 + (3 : Int32)) L) : lO K x5 (ff_L_law_b2024 N xs L K x o sp v0 v1 oh (P 0) (P 1) (P 2) (P 3) (P 4) (P 5) (P 6) wa la w t y s m out outD x5) := by
  have hw0 := hw
  obtain ⟨S, T, H, n, U, hS, hj, hwr⟩ := hw
  have hwr0 := hwr
  obtain ⟨R, L1, B, hr, h0, h1, ht, hb, he⟩ := hwr
  obtain ⟨a1, p1, g1, e1⟩ := ia_of (xs (Int32.toNatClampNeg (x5 + (1 : Int32))))
  obtain ⟨a2, p2, g2, e2⟩ := ia_of (xs (Int32.toNatClampNeg (x5 + (2 : Int32))))
  obtain ⟨a3, p3, g3, e3⟩ := ia_of (xs (Int32.toNatClampNeg (x5 + (3 : Int32))))
  obtain ⟨k, c, m2, f1, f2, hy, hk⟩ := jq_rectangleAt (N := N) (x := x) (ol := la) hN hS hj ⟨p1, g1⟩ ⟨p2, g2⟩ ⟨p3, g3⟩
  rcases hk with ⟨rfl, z⟩ | ⟨rfl, z⟩ | ⟨rfl, z⟩
  · refine ⟨x, o, sp, v0, v1, oh, P, wa, la, w, t, y, s, m2, ss_LF out (vp_updL (os_L out) 0 (Int32.toInt64 c)), outD, ?_, (wj_sq hw0 (hy.sq.mono (fun i hi => hi) (fun j hj => hj.elim)))⟩
    simp only [ff_L_law_b2024, ff_L_law_b2101, ff_L_law_b3500, ff_L_rectangleAt, if_pos i1, if_pos i2, if_pos i3, e1, e2, e3, f1, f2, oL0, Option.bind_some, if_pos in01, n00, vL0, ij_self, z00, z10, z20, m10, m20, m30, m23, m32, m13, m12, m21, m31, eq_self, reduceIte, ff_X13_thrown, z]
  · refine ⟨x, o, sp, v0, v1, oh, P, wa, la, w, t, y, s, m2, out, outD, ?_, (wj_sq hw0 (hy.sq.mono (fun i hi => hi) (fun j hj => hj.elim)))⟩
    simp only [ff_L_law_b2024, ff_L_law_b2101, ff_L_law_b3500, ff_L_rectangleAt, if_pos i1, if_pos i2, if_pos i3, e1, e2, e3, f1, f2, oL0, Option.bind_some, if_pos in01, n00, vL0, ij_self, z00, z10, z20, m10, m20, m30, m23, m32, m13, m12, m21, m31, eq_self, reduceIte, ff_X13_thrown, z]
  · refine ⟨x, o, sp, v0, v1, oh, P, wa, la, w, t, y, s, m2, out, outD, ?_, (wj_sq hw0 (hy.sq.mono (fun i hi => hi) (fun j hj => hj.elim)))⟩
    simp only [ff_L_law_b2024, ff_L_law_b2101, ff_L_law_b3500, ff_L_rectangleAt, if_pos i1, if_pos i2, if_pos i3, e1, e2, e3, f1, f2, oL0, Option.bind_some, if_pos in01, n00, vL0, ij_self, z00, z10, z20, m10, m20, m30, m23, m32, m13, m12, m21, m31, eq_self, reduceIte, ff_X13_thrown, z]
theorem lb_39 (hN : 100000 < N) (hw : wj x o v0 v1 oh P w t m) (i1 : os_in (x5 + (1 : Int32)) L) : lO K x5 (ff_L_law_b2104 N xs L K x o sp v0 v1 oh (P 0) (P 1) (P 2) (P 3) (P 4) (P 5) (P 6) wa la w t y s m out outD x5) := by
  have hw0 := hw
  obtain ⟨S, T, H, n, U, hS, hj, hwr⟩ := hw
  have hwr0 := hwr
  obtain ⟨R, L1, B, hr, h0, h1, ht, hb, he⟩ := hwr
  obtain ⟨a1, p1, g1, e1⟩ := ia_of (xs (Int32.toNatClampNeg (x5 + (1 : Int32))))
  obtain ⟨k, c, m2, f1, f2, hy, hk⟩ := jq_largest (N := N) (x := x) (ol := la) hN hS hj ⟨p1, g1⟩
  rcases hk with ⟨rfl, z⟩ | ⟨rfl, z⟩
  · refine ⟨x, o, sp, v0, v1, oh, P, wa, la, w, t, y, s, m2, ss_LF out (vp_updL (os_L out) 0 (Int32.toInt64 c)), outD, ?_, (wj_sq hw0 (hy.sq.mono (fun i hi => hi) (fun j hj => hj.elim)))⟩
    simp only [ff_L_law_b2104, ff_L_law_b2157, ff_L_law_b3500, ff_L_largest, if_pos i1, e1, f1, f2, oL0, Option.bind_some, if_pos in01, n00, vL0, ij_self, z00, z10, z20, m10, m20, m30, m23, m32, m13, m12, m21, m31, eq_self, reduceIte, ff_X13_thrown, z]
  · refine ⟨x, o, sp, v0, v1, oh, P, wa, la, w, t, y, s, m2, out, outD, ?_, (wj_sq hw0 (hy.sq.mono (fun i hi => hi) (fun j hj => hj.elim)))⟩
    simp only [ff_L_law_b2104, ff_L_law_b2157, ff_L_law_b3500, ff_L_largest, if_pos i1, e1, f1, f2, oL0, Option.bind_some, if_pos in01, n00, vL0, ij_self, z00, z10, z20, m10, m20, m30, m23, m32, m13, m12, m21, m31, eq_self, reduceIte, ff_X13_thrown, z]
theorem lb_40 (hN : 100000 < N) (hw : wj x o v0 v1 oh P w t m) (i1 : os_in (x5 + (1 : Int32)) L) : lO K x5 (ff_L_law_b2160 N xs L K x o sp v0 v1 oh (P 0) (P 1) (P 2) (P 3) (P 4) (P 5) (P 6) wa la w t y s m out outD x5) := by
  have hw0 := hw
  obtain ⟨S, T, H, n, U, hS, hj, hwr⟩ := hw
  have hwr0 := hwr
  obtain ⟨R, L1, B, hr, h0, h1, ht, hb, he⟩ := hwr
  obtain ⟨a1, p1, g1, e1⟩ := ia_of (xs (Int32.toNatClampNeg (x5 + (1 : Int32))))
  obtain ⟨k, c, m2, f1, f2, hy, hk⟩ := jq_shortest (N := N) (x := x) (ol := la) hN hS hj ⟨p1, g1⟩
  rcases hk with ⟨rfl, z⟩ | ⟨rfl, z⟩
  · refine ⟨x, o, sp, v0, v1, oh, P, wa, la, w, t, y, s, m2, ss_LF out (vp_updL (os_L out) 0 (Int32.toInt64 c)), outD, ?_, (wj_sq hw0 (hy.sq.mono (fun i hi => hi) (fun j hj => hj.elim)))⟩
    simp only [ff_L_law_b2160, ff_L_law_b2213, ff_L_law_b3500, ff_L_shortest, if_pos i1, e1, f1, f2, oL0, Option.bind_some, if_pos in01, n00, vL0, ij_self, z00, z10, z20, m10, m20, m30, m23, m32, m13, m12, m21, m31, eq_self, reduceIte, ff_X13_thrown, z]
  · refine ⟨x, o, sp, v0, v1, oh, P, wa, la, w, t, y, s, m2, out, outD, ?_, (wj_sq hw0 (hy.sq.mono (fun i hi => hi) (fun j hj => hj.elim)))⟩
    simp only [ff_L_law_b2160, ff_L_law_b2213, ff_L_law_b3500, ff_L_shortest, if_pos i1, e1, f1, f2, oL0, Option.bind_some, if_pos in01, n00, vL0, ij_self, z00, z10, z20, m10, m20, m30, m23, m32, m13, m12, m21, m31, eq_self, reduceIte, ff_X13_thrown, z]
theorem lb_41 (hN : 100000 < N) (hw : wj x o v0 v1 oh P w t m) (i1 : os_in (x5 + (1 : Int32)) L) : lO K x5 (ff_L_law_b2216 N xs L K x o sp v0 v1 oh (P 0) (P 1) (P 2) (P 3) (P 4) (P 5) (P 6) wa la w t y s m out outD x5) := by
  have hw0 := hw
  obtain ⟨S, T, H, n, U, hS, hj, hwr⟩ := hw
  have hwr0 := hwr
  obtain ⟨R, L1, B, hr, h0, h1, ht, hb, he⟩ := hwr
  obtain ⟨a1, p1, g1, e1⟩ := ia_of (xs (Int32.toNatClampNeg (x5 + (1 : Int32))))
  obtain ⟨k, c, ol2, m2, f1, f2, hy, hk⟩ := jq_parts (N := N) (x := x) (ol := la) hN hS hj ⟨p1, g1⟩
  rcases hk with ⟨rfl, z⟩ | ⟨rfl, z⟩
  · refine ⟨x, o, sp, v0, v1, oh, P, wa, ol2, w, t, y, s, m2, ss_LF out (vp_updL (os_L out) 0 (Int32.toInt64 c)), outD, ?_, (wj_sq hw0 (hy.sq.mono (fun i hi => hi) (fun j hj => Or.inr hj)))⟩
    simp only [ff_L_law_b2216, ff_L_law_b2269, ff_L_law_b3500, ff_L_parts, if_pos i1, e1, f1, f2, oL0, Option.bind_some, if_pos in01, n00, vL0, ij_self, z00, z10, z20, m10, m20, m30, m23, m32, m13, m12, m21, m31, eq_self, reduceIte, ff_X13_thrown, z]
  · refine ⟨x, o, sp, v0, v1, oh, P, wa, ol2, w, t, y, s, m2, out, outD, ?_, (wj_sq hw0 (hy.sq.mono (fun i hi => hi) (fun j hj => Or.inr hj)))⟩
    simp only [ff_L_law_b2216, ff_L_law_b2269, ff_L_law_b3500, ff_L_parts, if_pos i1, e1, f1, f2, oL0, Option.bind_some, if_pos in01, n00, vL0, ij_self, z00, z10, z20, m10, m20, m30, m23, m32, m13, m12, m21, m31, eq_self, reduceIte, ff_X13_thrown, z]
theorem lb_42 (hN : 100000 < N) (hw : wj x o v0 v1 oh P w t m) (i1 : os_in (x5 + (1 : Int32)) L) : lO K x5 (ff_L_law_b2272 N xs L K x o sp v0 v1 oh (P 0) (P 1) (P 2) (P 3) (P 4) (P 5) (P 6) wa la w t y s m out outD x5) := by
  have hw0 := hw
  obtain ⟨S, T, H, n, U, hS, hj, hwr⟩ := hw
  have hwr0 := hwr
  obtain ⟨R, L1, B, hr, h0, h1, ht, hb, he⟩ := hwr
  obtain ⟨a1, p1, g1, e1⟩ := ia_of (xs (Int32.toNatClampNeg (x5 + (1 : Int32))))
  obtain ⟨k, c, m2, f1, f2, hy, hk⟩ := jq_outline (N := N) (x := x) (ol := la) hN hS hj ⟨p1, g1⟩
  rcases hk with ⟨rfl, z⟩ | ⟨rfl, z⟩
  · refine ⟨x, o, sp, v0, v1, oh, P, wa, la, w, t, y, s, m2, ss_LF out (vp_updL (os_L out) 0 (Int32.toInt64 c)), outD, ?_, (wj_sq hw0 (hy.sq.mono (fun i hi => hi) (fun j hj => hj.elim)))⟩
    simp only [ff_L_law_b2272, ff_L_law_b2325, ff_L_law_b3500, ff_L_outline, if_pos i1, e1, f1, f2, oL0, Option.bind_some, if_pos in01, n00, vL0, ij_self, z00, z10, z20, m10, m20, m30, m23, m32, m13, m12, m21, m31, eq_self, reduceIte, ff_X13_thrown, z]
  · refine ⟨x, o, sp, v0, v1, oh, P, wa, la, w, t, y, s, m2, out, outD, ?_, (wj_sq hw0 (hy.sq.mono (fun i hi => hi) (fun j hj => hj.elim)))⟩
    simp only [ff_L_law_b2272, ff_L_law_b2325, ff_L_law_b3500, ff_L_outline, if_pos i1, e1, f1, f2, oL0, Option.bind_some, if_pos in01, n00, vL0, ij_self, z00, z10, z20, m10, m20, m30, m23, m32, m13, m12, m21, m31, eq_self, reduceIte, ff_X13_thrown, z]
theorem lb_43 (hN : 100000 < N) (hw : wj x o v0 v1 oh P w t m) (i1 : os_in (x5 + (1 : Int32)) L) : lO K x5 (ff_L_law_b2328 N xs L K x o sp v0 v1 oh (P 0) (P 1) (P 2) (P 3) (P 4) (P 5) (P 6) wa la w t y s m out outD x5) := by
  have hw0 := hw
  obtain ⟨S, T, H, n, U, hS, hj, hwr⟩ := hw
  have hwr0 := hwr
  obtain ⟨R, L1, B, hr, h0, h1, ht, hb, he⟩ := hwr
  obtain ⟨a1, p1, g1, e1⟩ := ia_of (xs (Int32.toNatClampNeg (x5 + (1 : Int32))))
  obtain ⟨k, c, ol2, m2, f1, f2, hy, hk⟩ := jq_hollows (N := N) (x := x) (ol := la) hN hS hj ⟨p1, g1⟩
  rcases hk with ⟨rfl, z⟩ | ⟨rfl, z⟩
  · refine ⟨x, o, sp, v0, v1, oh, P, wa, ol2, w, t, y, s, m2, ss_LF out (vp_updL (os_L out) 0 (Int32.toInt64 c)), outD, ?_, (wj_sq hw0 (hy.sq.mono (fun i hi => hi) (fun j hj => hj)))⟩
    simp only [ff_L_law_b2328, ff_L_law_b2381, ff_L_law_b3500, ff_L_hollows, if_pos i1, e1, f1, f2, oL0, Option.bind_some, if_pos in01, n00, vL0, ij_self, z00, z10, z20, m10, m20, m30, m23, m32, m13, m12, m21, m31, eq_self, reduceIte, ff_X13_thrown, z]
  · refine ⟨x, o, sp, v0, v1, oh, P, wa, ol2, w, t, y, s, m2, out, outD, ?_, (wj_sq hw0 (hy.sq.mono (fun i hi => hi) (fun j hj => hj)))⟩
    simp only [ff_L_law_b2328, ff_L_law_b2381, ff_L_law_b3500, ff_L_hollows, if_pos i1, e1, f1, f2, oL0, Option.bind_some, if_pos in01, n00, vL0, ij_self, z00, z10, z20, m10, m20, m30, m23, m32, m13, m12, m21, m31, eq_self, reduceIte, ff_X13_thrown, z]
theorem lb_44 (hN : 100000 < N) (hw : wj x o v0 v1 oh P w t m) : lO K x5 (ff_L_law_b2384 N xs L K x o sp v0 v1 oh (P 0) (P 1) (P 2) (P 3) (P 4) (P 5) (P 6) wa la w t y s m out outD x5) := by
  have hw0 := hw
  obtain ⟨S, T, H, n, U, hS, hj, hwr⟩ := hw
  have hwr0 := hwr
  obtain ⟨R, L1, B, hr, h0, h1, ht, hb, he⟩ := hwr
  obtain ⟨c, f1, f2⟩ := jw_allRectangles (N := N) (x := x) (ol := la) hN hS hj
  refine ⟨x, o, sp, v0, v1, oh, P, wa, la, w, t, y, s, ss_I m 0 0, out, outD, ?_, wj_I hw0⟩
  simp only [ff_L_law_b2384, ff_L_law_b3500, f1, f2, oL0, Option.bind_some, if_pos in01, n00, vL0, ij_self, z00, z10, z20, m10, m20, m30, m23, m32, m13, m12, m21, m31, eq_self, reduceIte, ff_X13_thrown]
theorem lb_45 (hN : 100000 < N) (hw : wj x o v0 v1 oh P w t m) (i1 : os_in (x5 + (1 : Int32)) L) (i2 : os_in (x5 + (2 : Int32)) L) (i3 : os_in (x5 + (3 : Int32)) L) : lO K x5 (ff_L_law_b2397 N xs L K x o sp v0 v1 oh (P 0) (P 1) (P 2) (P 3) (P 4) (P 5) (P 6) wa la w t y s m out outD x5) := by
  have hw0 := hw
  obtain ⟨S, T, H, n, U, hS, hj, hwr⟩ := hw
  have hwr0 := hwr
  obtain ⟨R, L1, B, hr, h0, h1, ht, hb, he⟩ := hwr
  obtain ⟨a1, p1, g1, e1⟩ := ia_of (xs (Int32.toNatClampNeg (x5 + (1 : Int32))))
  obtain ⟨a2, p2, g2, e2⟩ := ia_of (xs (Int32.toNatClampNeg (x5 + (2 : Int32))))
  obtain ⟨a3, p3, g3, e3⟩ := ia_of (xs (Int32.toNatClampNeg (x5 + (3 : Int32))))
  obtain ⟨k, c, o2, oh2, P2, m2, T2, H2, n2, U2, f1, f2, hj2, hf, hk⟩ := jr_setTone (N := N) (z := x) hN hS hj ⟨p1, g1⟩ ⟨p2, g2⟩ ⟨p3, g3⟩
  rcases hk with ⟨rfl, z⟩ | ⟨rfl, z⟩ | ⟨rfl, z⟩
  · refine ⟨x, o2, sp, v0, v1, oh2, P2, wa, la, w, t, y, s, m2, ss_LF out (vp_updL (os_L out) 0 (Int32.toInt64 c)), outD, ?_, ⟨S, T2, H2, n2, U2, hS, hj2, wr_sq hwr0 (fr_sq hf)⟩⟩
    simp only [ff_L_law_b2397, ff_L_law_b2474, ff_L_law_b3500, ff_L_setTone, if_pos i1, if_pos i2, if_pos i3, e1, e2, e3, f1, f2, oL0, Option.bind_some, if_pos in01, n00, vL0, ij_self, z00, z10, z20, m10, m20, m30, m23, m32, m13, m12, m21, m31, eq_self, reduceIte, ff_X13_thrown, z]
  · refine ⟨x, o2, sp, v0, v1, oh2, P2, wa, la, w, t, y, s, m2, out, outD, ?_, ⟨S, T2, H2, n2, U2, hS, hj2, wr_sq hwr0 (fr_sq hf)⟩⟩
    simp only [ff_L_law_b2397, ff_L_law_b2474, ff_L_law_b3500, ff_L_setTone, if_pos i1, if_pos i2, if_pos i3, e1, e2, e3, f1, f2, oL0, Option.bind_some, if_pos in01, n00, vL0, ij_self, z00, z10, z20, m10, m20, m30, m23, m32, m13, m12, m21, m31, eq_self, reduceIte, ff_X13_thrown, z]
  · refine ⟨x, o2, sp, v0, v1, oh2, P2, wa, la, w, t, y, s, m2, out, outD, ?_, ⟨S, T2, H2, n2, U2, hS, hj2, wr_sq hwr0 (fr_sq hf)⟩⟩
    simp only [ff_L_law_b2397, ff_L_law_b2474, ff_L_law_b3500, ff_L_setTone, if_pos i1, if_pos i2, if_pos i3, e1, e2, e3, f1, f2, oL0, Option.bind_some, if_pos in01, n00, vL0, ij_self, z00, z10, z20, m10, m20, m30, m23, m32, m13, m12, m21, m31, eq_self, reduceIte, ff_X13_thrown, z]
theorem lb_46 (hN : 100000 < N) (hw : wj x o v0 v1 oh P w t m) (i1 : os_in (x5 + (1 : Int32)) L) (i2 : os_in (x5 + (2 : Int32)) L) (i3 : os_in (x5 + (3 : Int32)) L) : lO K x5 (ff_L_law_b2477 N xs L K x o sp v0 v1 oh (P 0) (P 1) (P 2) (P 3) (P 4) (P 5) (P 6) wa la w t y s m out outD x5) := by
  have hw0 := hw
  obtain ⟨S, T, H, n, U, hS, hj, hwr⟩ := hw
  have hwr0 := hwr
  obtain ⟨R, L1, B, hr, h0, h1, ht, hb, he⟩ := hwr
  obtain ⟨a1, p1, g1, e1⟩ := ia_of (xs (Int32.toNatClampNeg (x5 + (1 : Int32))))
  obtain ⟨a2, p2, g2, e2⟩ := ia_of (xs (Int32.toNatClampNeg (x5 + (2 : Int32))))
  obtain ⟨a3, p3, g3, e3⟩ := ia_of (xs (Int32.toNatClampNeg (x5 + (3 : Int32))))
  obtain ⟨k, c, o2, oh2, P2, m2, T2, H2, n2, U2, f1, f2, hj2, hf, hk⟩ := jr_setHeight (N := N) (z := x) hN hS hj ⟨p1, g1⟩ ⟨p2, g2⟩ ⟨p3, g3⟩
  rcases hk with ⟨rfl, z⟩ | ⟨rfl, z⟩ | ⟨rfl, z⟩
  · refine ⟨x, o2, sp, v0, v1, oh2, P2, wa, la, w, t, y, s, m2, ss_LF out (vp_updL (os_L out) 0 (Int32.toInt64 c)), outD, ?_, ⟨S, T2, H2, n2, U2, hS, hj2, wr_sq hwr0 (fr_sq hf)⟩⟩
    simp only [ff_L_law_b2477, ff_L_law_b2554, ff_L_law_b3500, ff_L_setHeight, if_pos i1, if_pos i2, if_pos i3, e1, e2, e3, f1, f2, oL0, Option.bind_some, if_pos in01, n00, vL0, ij_self, z00, z10, z20, m10, m20, m30, m23, m32, m13, m12, m21, m31, eq_self, reduceIte, ff_X13_thrown, z]
  · refine ⟨x, o2, sp, v0, v1, oh2, P2, wa, la, w, t, y, s, m2, out, outD, ?_, ⟨S, T2, H2, n2, U2, hS, hj2, wr_sq hwr0 (fr_sq hf)⟩⟩
    simp only [ff_L_law_b2477, ff_L_law_b2554, ff_L_law_b3500, ff_L_setHeight, if_pos i1, if_pos i2, if_pos i3, e1, e2, e3, f1, f2, oL0, Option.bind_some, if_pos in01, n00, vL0, ij_self, z00, z10, z20, m10, m20, m30, m23, m32, m13, m12, m21, m31, eq_self, reduceIte, ff_X13_thrown, z]
  · refine ⟨x, o2, sp, v0, v1, oh2, P2, wa, la, w, t, y, s, m2, out, outD, ?_, ⟨S, T2, H2, n2, U2, hS, hj2, wr_sq hwr0 (fr_sq hf)⟩⟩
    simp only [ff_L_law_b2477, ff_L_law_b2554, ff_L_law_b3500, ff_L_setHeight, if_pos i1, if_pos i2, if_pos i3, e1, e2, e3, f1, f2, oL0, Option.bind_some, if_pos in01, n00, vL0, ij_self, z00, z10, z20, m10, m20, m30, m23, m32, m13, m12, m21, m31, eq_self, reduceIte, ff_X13_thrown, z]
theorem lb_47 (hN : 100000 < N) (hw : wj x o v0 v1 oh P w t m) (i1 : os_in (x5 + (1 : Int32)) L) (i2 : os_in (x5 + (2 : Int32)) L) (i3 : os_in (x5 + (3 : Int32)) L) (i4 : os_in (x5 + (4 : Int32)) L) (i5 : os_in (x5 + (5 : Int32)) L) : lO K x5 (ff_L_law_b2557 N xs L K x o sp v0 v1 oh (P 0) (P 1) (P 2) (P 3) (P 4) (P 5) (P 6) wa la w t y s m out outD x5) := by
  have hw0 := hw
  obtain ⟨S, T, H, n, U, hS, hj, hwr⟩ := hw
  have hwr0 := hwr
  obtain ⟨R, L1, B, hr, h0, h1, ht, hb, he⟩ := hwr
  obtain ⟨a1, p1, g1, e1⟩ := ia_of (xs (Int32.toNatClampNeg (x5 + (1 : Int32))))
  obtain ⟨a2, p2, g2, e2⟩ := ia_of (xs (Int32.toNatClampNeg (x5 + (2 : Int32))))
  obtain ⟨a3, p3, g3, e3⟩ := ia_of (xs (Int32.toNatClampNeg (x5 + (3 : Int32))))
  obtain ⟨a4, p4, g4, e4⟩ := ia_of (xs (Int32.toNatClampNeg (x5 + (4 : Int32))))
  obtain ⟨a5, p5, g5, e5⟩ := ia_of (xs (Int32.toNatClampNeg (x5 + (5 : Int32))))
  obtain ⟨k, c, o2, oh2, P2, m2, T2, H2, n2, U2, f1, f2, hj2, hf, hk⟩ := jr_fill (N := N) (z := x) hN hS hj ⟨p1, g1⟩ ⟨p2, g2⟩ ⟨p3, g3⟩ ⟨p4, g4⟩ ⟨p5, g5⟩
  rcases hk with ⟨rfl, z⟩ | ⟨rfl, z⟩ | ⟨rfl, z⟩
  · refine ⟨x, o2, sp, v0, v1, oh2, P2, wa, la, w, t, y, s, m2, ss_LF out (vp_updL (os_L out) 0 (Int32.toInt64 c)), outD, ?_, ⟨S, T2, H2, n2, U2, hS, hj2, wr_sq hwr0 (fr_sq hf)⟩⟩
    simp only [ff_L_law_b2557, ff_L_law_b2658, ff_L_law_b3500, ff_L_fill, if_pos i1, if_pos i2, if_pos i3, if_pos i4, if_pos i5, e1, e2, e3, e4, e5, f1, f2, oL0, Option.bind_some, if_pos in01, n00, vL0, ij_self, z00, z10, z20, m10, m20, m30, m23, m32, m13, m12, m21, m31, eq_self, reduceIte, ff_X13_thrown, z]
  · refine ⟨x, o2, sp, v0, v1, oh2, P2, wa, la, w, t, y, s, m2, out, outD, ?_, ⟨S, T2, H2, n2, U2, hS, hj2, wr_sq hwr0 (fr_sq hf)⟩⟩
    simp only [ff_L_law_b2557, ff_L_law_b2658, ff_L_law_b3500, ff_L_fill, if_pos i1, if_pos i2, if_pos i3, if_pos i4, if_pos i5, e1, e2, e3, e4, e5, f1, f2, oL0, Option.bind_some, if_pos in01, n00, vL0, ij_self, z00, z10, z20, m10, m20, m30, m23, m32, m13, m12, m21, m31, eq_self, reduceIte, ff_X13_thrown, z]
  · refine ⟨x, o2, sp, v0, v1, oh2, P2, wa, la, w, t, y, s, m2, out, outD, ?_, ⟨S, T2, H2, n2, U2, hS, hj2, wr_sq hwr0 (fr_sq hf)⟩⟩
    simp only [ff_L_law_b2557, ff_L_law_b2658, ff_L_law_b3500, ff_L_fill, if_pos i1, if_pos i2, if_pos i3, if_pos i4, if_pos i5, e1, e2, e3, e4, e5, f1, f2, oL0, Option.bind_some, if_pos in01, n00, vL0, ij_self, z00, z10, z20, m10, m20, m30, m23, m32, m13, m12, m21, m31, eq_self, reduceIte, ff_X13_thrown, z]
theorem lb_48 (hN : 100000 < N) (hw : wj x o v0 v1 oh P w t m) : lO K x5 (ff_L_law_b2661 N xs L K x o sp v0 v1 oh (P 0) (P 1) (P 2) (P 3) (P 4) (P 5) (P 6) wa la w t y s m out outD x5) := by
  have hw0 := hw
  obtain ⟨S, T, H, n, U, hS, hj, hwr⟩ := hw
  have hwr0 := hwr
  obtain ⟨R, L1, B, hr, h0, h1, ht, hb, he⟩ := hwr
  obtain ⟨c, o2, oh2, P2, m2, T2, H2, n2, U2, f1, f2, hj2, hf, hz⟩ := jr_dither (N := N) (x := x) hN hS hj
  refine ⟨x, o2, sp, v0, v1, oh2, P2, wa, la, w, t, y, s, m2, out, outD, ?_, ⟨S, T2, H2, n2, U2, hS, hj2, wr_sq hwr0 (fr_sq hf)⟩⟩
  simp only [ff_L_law_b2661, ff_L_law_b3500, f1, f2, oL0, Option.bind_some, if_pos in01, n00, vL0, ij_self, z00, z10, z20, m10, m20, m30, m23, m32, m13, m12, m21, m31, eq_self, reduceIte, ff_X13_thrown]
theorem lb_49 (hN : 100000 < N) (hw : wj x o v0 v1 oh P w t m) : lO K x5 (ff_L_law_b2674 N xs L K x o sp v0 v1 oh (P 0) (P 1) (P 2) (P 3) (P 4) (P 5) (P 6) wa la w t y s m out outD x5) := by
  have hw0 := hw
  obtain ⟨S, T, H, n, U, hS, hj, hwr⟩ := hw
  have hwr0 := hwr
  obtain ⟨R, L1, B, hr, h0, h1, ht, hb, he⟩ := hwr
  obtain ⟨c, o2, oh2, P2, m2, T2, H2, n2, U2, f1, f2, hj2, hf, hz⟩ := jr_polish (N := N) (x := x) hN hS hj
  refine ⟨x, o2, sp, v0, v1, oh2, P2, wa, la, w, t, y, s, m2, out, outD, ?_, ⟨S, T2, H2, n2, U2, hS, hj2, wr_sq hwr0 (fr_sq hf)⟩⟩
  simp only [ff_L_law_b2674, ff_L_law_b3500, f1, f2, oL0, Option.bind_some, if_pos in01, n00, vL0, ij_self, z00, z10, z20, m10, m20, m30, m23, m32, m13, m12, m21, m31, eq_self, reduceIte, ff_X13_thrown]
theorem lb_50 (hN : 100000 < N) (hw : wj x o v0 v1 oh P w t m) : lO K x5 (ff_L_law_b2687 N xs L K x o sp v0 v1 oh (P 0) (P 1) (P 2) (P 3) (P 4) (P 5) (P 6) wa la w t y s m out outD x5) := by
  have hw0 := hw
  obtain ⟨S, T, H, n, U, hS, hj, hwr⟩ := hw
  have hwr0 := hwr
  obtain ⟨R, L1, B, hr, h0, h1, ht, hb, he⟩ := hwr
  obtain ⟨c, o2, oh2, P2, m2, T2, H2, n2, U2, f1, f2, hj2, hf, hz⟩ := jr_invert (N := N) (x := x) hN hS hj
  refine ⟨x, o2, sp, v0, v1, oh2, P2, wa, la, w, t, y, s, m2, out, outD, ?_, ⟨S, T2, H2, n2, U2, hS, hj2, wr_sq hwr0 (fr_sq hf)⟩⟩
  simp only [ff_L_law_b2687, ff_L_law_b3500, f1, f2, oL0, Option.bind_some, if_pos in01, n00, vL0, ij_self, z00, z10, z20, m10, m20, m30, m23, m32, m13, m12, m21, m31, eq_self, reduceIte, ff_X13_thrown]
theorem lb_51 (hN : 100000 < N) (hw : wj x o v0 v1 oh P w t m) (i1 : os_in (x5 + (1 : Int32)) L) : lO K x5 (ff_L_law_b2700 N xs L K x o sp v0 v1 oh (P 0) (P 1) (P 2) (P 3) (P 4) (P 5) (P 6) wa la w t y s m out outD x5) := by
  have hw0 := hw
  obtain ⟨S, T, H, n, U, hS, hj, hwr⟩ := hw
  have hwr0 := hwr
  obtain ⟨R, L1, B, hr, h0, h1, ht, hb, he⟩ := hwr
  obtain ⟨a1, p1, g1, e1⟩ := ia_of (xs (Int32.toNatClampNeg (x5 + (1 : Int32))))
  obtain ⟨k, c, o2, oh2, P2, m2, T2, H2, n2, U2, f1, f2, hj2, hf, hk⟩ := jr_lighten (N := N) (x := x) hN hS hj ⟨p1, g1⟩
  rcases hk with ⟨rfl, z⟩ | ⟨rfl, z⟩
  · refine ⟨x, o2, sp, v0, v1, oh2, P2, wa, la, w, t, y, s, m2, ss_LF out (vp_updL (os_L out) 0 (Int32.toInt64 c)), outD, ?_, ⟨S, T2, H2, n2, U2, hS, hj2, wr_sq hwr0 (fr_sq hf)⟩⟩
    simp only [ff_L_law_b2700, ff_L_law_b2753, ff_L_law_b3500, ff_L_lighten, if_pos i1, e1, f1, f2, oL0, Option.bind_some, if_pos in01, n00, vL0, ij_self, z00, z10, z20, m10, m20, m30, m23, m32, m13, m12, m21, m31, eq_self, reduceIte, ff_X13_thrown, z]
  · refine ⟨x, o2, sp, v0, v1, oh2, P2, wa, la, w, t, y, s, m2, out, outD, ?_, ⟨S, T2, H2, n2, U2, hS, hj2, wr_sq hwr0 (fr_sq hf)⟩⟩
    simp only [ff_L_law_b2700, ff_L_law_b2753, ff_L_law_b3500, ff_L_lighten, if_pos i1, e1, f1, f2, oL0, Option.bind_some, if_pos in01, n00, vL0, ij_self, z00, z10, z20, m10, m20, m30, m23, m32, m13, m12, m21, m31, eq_self, reduceIte, ff_X13_thrown, z]
theorem lb_52 (hN : 100000 < N) (hw : wj x o v0 v1 oh P w t m) : lO K x5 (ff_L_law_b2756 N xs L K x o sp v0 v1 oh (P 0) (P 1) (P 2) (P 3) (P 4) (P 5) (P 6) wa la w t y s m out outD x5) := by
  have hw0 := hw
  obtain ⟨S, T, H, n, U, hS, hj, hwr⟩ := hw
  have hwr0 := hwr
  obtain ⟨R, L1, B, hr, h0, h1, ht, hb, he⟩ := hwr
  obtain ⟨c, o2, oh2, P2, m2, T2, H2, n2, U2, f1, f2, hj2, hf, hz⟩ := jr_mirror (N := N) (x := x) hN hS hj
  refine ⟨x, o2, sp, v0, v1, oh2, P2, wa, la, w, t, y, s, m2, out, outD, ?_, ⟨S, T2, H2, n2, U2, hS, hj2, wr_sq hwr0 (fr_sq hf)⟩⟩
  simp only [ff_L_law_b2756, ff_L_law_b3500, f1, f2, oL0, Option.bind_some, if_pos in01, n00, vL0, ij_self, z00, z10, z20, m10, m20, m30, m23, m32, m13, m12, m21, m31, eq_self, reduceIte, ff_X13_thrown]
theorem lb_53 (hN : 100000 < N) (hw : wj x o v0 v1 oh P w t m) (i1 : os_in (x5 + (1 : Int32)) L) (i2 : os_in (x5 + (2 : Int32)) L) (i3 : os_in (x5 + (3 : Int32)) L) (i4 : os_in (x5 + (4 : Int32)) L) (i5 : os_in (x5 + (5 : Int32)) L) : lO K x5 (ff_L_law_b2769 N xs L K x o sp v0 v1 oh (P 0) (P 1) (P 2) (P 3) (P 4) (P 5) (P 6) wa la w t y s m out outD x5) := by
  have hw0 := hw
  obtain ⟨S, T, H, n, U, hS, hj, hwr⟩ := hw
  have hwr0 := hwr
  obtain ⟨R, L1, B, hr, h0, h1, ht, hb, he⟩ := hwr
  obtain ⟨a1, p1, g1, e1⟩ := ia_of (xs (Int32.toNatClampNeg (x5 + (1 : Int32))))
  obtain ⟨a2, p2, g2, e2⟩ := ia_of (xs (Int32.toNatClampNeg (x5 + (2 : Int32))))
  obtain ⟨a3, p3, g3, e3⟩ := ia_of (xs (Int32.toNatClampNeg (x5 + (3 : Int32))))
  obtain ⟨a4, p4, g4, e4⟩ := ia_of (xs (Int32.toNatClampNeg (x5 + (4 : Int32))))
  obtain ⟨a5, p5, g5, e5⟩ := ia_of (xs (Int32.toNatClampNeg (x5 + (5 : Int32))))
  obtain ⟨k, c, w2, m2, R2, f1, f2, hr2, ym, hk⟩ := rr_putStamp (N := N) (x := x) hr ⟨p1, g1⟩ ⟨p2, g2⟩ ⟨p3, g3⟩ ⟨p4, g4⟩ ⟨p5, g5⟩
  rcases hk with ⟨rfl, z⟩ | ⟨rfl, z⟩ | ⟨rfl, z⟩
  · by_cases cz : c = 0
    · refine ⟨x, o, sp, v0, v1, oh, P, wa, la, w2, t, y, s, m2, ss_LF out (vp_updL (os_L out) 0 (0 : Int64)), outD, ?_, ⟨S, T, H, n, U, hS, jr_sq hj ym.sq (by decide) (by decide) (by decide) (by decide) (by decide), R2, L1, B, hr2, sl_sq h0 rfl (ym.2.2 20 (by decide)) (ym.2.2 21 (by decide)) (ym.2.2 22 (by decide)), sl_sq h1 rfl (ym.2.2 20 (by decide)) (ym.2.2 21 (by decide)) (ym.2.2 22 (by decide)), rt_sq ht rfl rfl (ym.1 43 (by decide)) (ym.1 44 (by decide)) (ym.2.2 19 (by decide)), tb_sq hb (ym.1 2 (by decide)) (ym.2.2 0 (by decide)), er_sq he rfl rfl (ym.1 10 (by decide)) (ym.1 11 (by decide))⟩⟩
      simp only [ff_L_law_b2769, ff_L_law_b2871, ff_L_law_b2877, ff_L_law_b3500, ff_L_putStamp, ff_L_putStamp_b22, if_pos i1, if_pos i2, if_pos i3, if_pos i4, if_pos i5, e1, e2, e3, e4, e5, f1, f2, oL0, Option.bind_some, if_pos in01, n00, vL0, ij_self, z00, z10, z20, m10, m20, m30, m23, m32, m13, m12, m21, m31, eq_self, reduceIte, ff_X13_thrown, z, if_pos cz]
    · refine ⟨x, o, sp, v0, v1, oh, P, wa, la, w2, t, y, s, m2, ss_LF out (vp_updL (os_L out) 0 (1 : Int64)), outD, ?_, ⟨S, T, H, n, U, hS, jr_sq hj ym.sq (by decide) (by decide) (by decide) (by decide) (by decide), R2, L1, B, hr2, sl_sq h0 rfl (ym.2.2 20 (by decide)) (ym.2.2 21 (by decide)) (ym.2.2 22 (by decide)), sl_sq h1 rfl (ym.2.2 20 (by decide)) (ym.2.2 21 (by decide)) (ym.2.2 22 (by decide)), rt_sq ht rfl rfl (ym.1 43 (by decide)) (ym.1 44 (by decide)) (ym.2.2 19 (by decide)), tb_sq hb (ym.1 2 (by decide)) (ym.2.2 0 (by decide)), er_sq he rfl rfl (ym.1 10 (by decide)) (ym.1 11 (by decide))⟩⟩
      simp only [ff_L_law_b2769, ff_L_law_b2871, ff_L_law_b2877, ff_L_law_b3500, ff_L_putStamp, ff_L_putStamp_b22, if_pos i1, if_pos i2, if_pos i3, if_pos i4, if_pos i5, e1, e2, e3, e4, e5, f1, f2, oL0, Option.bind_some, if_pos in01, n00, vL0, ij_self, z00, z10, z20, m10, m20, m30, m23, m32, m13, m12, m21, m31, eq_self, reduceIte, ff_X13_thrown, z, if_neg cz]
  · refine ⟨x, o, sp, v0, v1, oh, P, wa, la, w2, t, y, s, m2, out, outD, ?_, ⟨S, T, H, n, U, hS, jr_sq hj ym.sq (by decide) (by decide) (by decide) (by decide) (by decide), R2, L1, B, hr2, sl_sq h0 rfl (ym.2.2 20 (by decide)) (ym.2.2 21 (by decide)) (ym.2.2 22 (by decide)), sl_sq h1 rfl (ym.2.2 20 (by decide)) (ym.2.2 21 (by decide)) (ym.2.2 22 (by decide)), rt_sq ht rfl rfl (ym.1 43 (by decide)) (ym.1 44 (by decide)) (ym.2.2 19 (by decide)), tb_sq hb (ym.1 2 (by decide)) (ym.2.2 0 (by decide)), er_sq he rfl rfl (ym.1 10 (by decide)) (ym.1 11 (by decide))⟩⟩
    simp only [ff_L_law_b2769, ff_L_law_b2871, ff_L_law_b2877, ff_L_law_b3500, ff_L_putStamp, ff_L_putStamp_b22, if_pos i1, if_pos i2, if_pos i3, if_pos i4, if_pos i5, e1, e2, e3, e4, e5, f1, f2, oL0, Option.bind_some, if_pos in01, n00, vL0, ij_self, z00, z10, z20, m10, m20, m30, m23, m32, m13, m12, m21, m31, eq_self, reduceIte, ff_X13_thrown, z]
  · refine ⟨x, o, sp, v0, v1, oh, P, wa, la, w2, t, y, s, m2, out, outD, ?_, ⟨S, T, H, n, U, hS, jr_sq hj ym.sq (by decide) (by decide) (by decide) (by decide) (by decide), R2, L1, B, hr2, sl_sq h0 rfl (ym.2.2 20 (by decide)) (ym.2.2 21 (by decide)) (ym.2.2 22 (by decide)), sl_sq h1 rfl (ym.2.2 20 (by decide)) (ym.2.2 21 (by decide)) (ym.2.2 22 (by decide)), rt_sq ht rfl rfl (ym.1 43 (by decide)) (ym.1 44 (by decide)) (ym.2.2 19 (by decide)), tb_sq hb (ym.1 2 (by decide)) (ym.2.2 0 (by decide)), er_sq he rfl rfl (ym.1 10 (by decide)) (ym.1 11 (by decide))⟩⟩
    simp only [ff_L_law_b2769, ff_L_law_b2871, ff_L_law_b2877, ff_L_law_b3500, ff_L_putStamp, ff_L_putStamp_b22, if_pos i1, if_pos i2, if_pos i3, if_pos i4, if_pos i5, e1, e2, e3, e4, e5, f1, f2, oL0, Option.bind_some, if_pos in01, n00, vL0, ij_self, z00, z10, z20, m10, m20, m30, m23, m32, m13, m12, m21, m31, eq_self, reduceIte, ff_X13_thrown, z]
theorem lb_54 (hN : 100000 < N) (hw : wj x o v0 v1 oh P w t m) (i1 : os_in (x5 + (1 : Int32)) L) (i2 : os_in (x5 + (2 : Int32)) L) : lO K x5 (ff_L_law_b2880 N xs L K x o sp v0 v1 oh (P 0) (P 1) (P 2) (P 3) (P 4) (P 5) (P 6) wa la w t y s m out outD x5) := by
  have hw0 := hw
  obtain ⟨S, T, H, n, U, hS, hj, hwr⟩ := hw
  have hwr0 := hwr
  obtain ⟨R, L1, B, hr, h0, h1, ht, hb, he⟩ := hwr
  obtain ⟨a1, p1, g1, e1⟩ := ia_of (xs (Int32.toNatClampNeg (x5 + (1 : Int32))))
  obtain ⟨a2, p2, g2, e2⟩ := ia_of (xs (Int32.toNatClampNeg (x5 + (2 : Int32))))
  obtain ⟨k, c, w2, m2, R2, f1, f2, hr2, ym, hk⟩ := rr_takeStamp (N := N) (x := x) hr ⟨p1, g1⟩ ⟨p2, g2⟩
  rcases hk with ⟨rfl, z⟩ | ⟨rfl, z⟩
  · by_cases cz : c = 0
    · refine ⟨x, o, sp, v0, v1, oh, P, wa, la, w2, t, y, s, m2, ss_LF out (vp_updL (os_L out) 0 (0 : Int64)), outD, ?_, ⟨S, T, H, n, U, hS, jr_sq hj ym.sq (by decide) (by decide) (by decide) (by decide) (by decide), R2, L1, B, hr2, sl_sq h0 rfl (ym.2.2 20 (by decide)) (ym.2.2 21 (by decide)) (ym.2.2 22 (by decide)), sl_sq h1 rfl (ym.2.2 20 (by decide)) (ym.2.2 21 (by decide)) (ym.2.2 22 (by decide)), rt_sq ht rfl rfl (ym.1 43 (by decide)) (ym.1 44 (by decide)) (ym.2.2 19 (by decide)), tb_sq hb (ym.1 2 (by decide)) (ym.2.2 0 (by decide)), er_sq he rfl rfl (ym.1 10 (by decide)) (ym.1 11 (by decide))⟩⟩
      simp only [ff_L_law_b2880, ff_L_law_b2946, ff_L_law_b2952, ff_L_law_b3500, ff_L_takeStamp, ff_L_takeStamp_b16, if_pos i1, if_pos i2, e1, e2, f1, f2, oL0, Option.bind_some, if_pos in01, n00, vL0, ij_self, z00, z10, z20, m10, m20, m30, m23, m32, m13, m12, m21, m31, eq_self, reduceIte, ff_X13_thrown, z, if_pos cz]
    · refine ⟨x, o, sp, v0, v1, oh, P, wa, la, w2, t, y, s, m2, ss_LF out (vp_updL (os_L out) 0 (1 : Int64)), outD, ?_, ⟨S, T, H, n, U, hS, jr_sq hj ym.sq (by decide) (by decide) (by decide) (by decide) (by decide), R2, L1, B, hr2, sl_sq h0 rfl (ym.2.2 20 (by decide)) (ym.2.2 21 (by decide)) (ym.2.2 22 (by decide)), sl_sq h1 rfl (ym.2.2 20 (by decide)) (ym.2.2 21 (by decide)) (ym.2.2 22 (by decide)), rt_sq ht rfl rfl (ym.1 43 (by decide)) (ym.1 44 (by decide)) (ym.2.2 19 (by decide)), tb_sq hb (ym.1 2 (by decide)) (ym.2.2 0 (by decide)), er_sq he rfl rfl (ym.1 10 (by decide)) (ym.1 11 (by decide))⟩⟩
      simp only [ff_L_law_b2880, ff_L_law_b2946, ff_L_law_b2952, ff_L_law_b3500, ff_L_takeStamp, ff_L_takeStamp_b16, if_pos i1, if_pos i2, e1, e2, f1, f2, oL0, Option.bind_some, if_pos in01, n00, vL0, ij_self, z00, z10, z20, m10, m20, m30, m23, m32, m13, m12, m21, m31, eq_self, reduceIte, ff_X13_thrown, z, if_neg cz]
  · refine ⟨x, o, sp, v0, v1, oh, P, wa, la, w2, t, y, s, m2, out, outD, ?_, ⟨S, T, H, n, U, hS, jr_sq hj ym.sq (by decide) (by decide) (by decide) (by decide) (by decide), R2, L1, B, hr2, sl_sq h0 rfl (ym.2.2 20 (by decide)) (ym.2.2 21 (by decide)) (ym.2.2 22 (by decide)), sl_sq h1 rfl (ym.2.2 20 (by decide)) (ym.2.2 21 (by decide)) (ym.2.2 22 (by decide)), rt_sq ht rfl rfl (ym.1 43 (by decide)) (ym.1 44 (by decide)) (ym.2.2 19 (by decide)), tb_sq hb (ym.1 2 (by decide)) (ym.2.2 0 (by decide)), er_sq he rfl rfl (ym.1 10 (by decide)) (ym.1 11 (by decide))⟩⟩
    simp only [ff_L_law_b2880, ff_L_law_b2946, ff_L_law_b2952, ff_L_law_b3500, ff_L_takeStamp, ff_L_takeStamp_b16, if_pos i1, if_pos i2, e1, e2, f1, f2, oL0, Option.bind_some, if_pos in01, n00, vL0, ij_self, z00, z10, z20, m10, m20, m30, m23, m32, m13, m12, m21, m31, eq_self, reduceIte, ff_X13_thrown, z]
theorem lb_55 (hN : 100000 < N) (hw : wj x o v0 v1 oh P w t m) (i1 : os_in (x5 + (1 : Int32)) L) (i2 : os_in (x5 + (2 : Int32)) L) : lO K x5 (ff_L_law_b2955 N xs L K x o sp v0 v1 oh (P 0) (P 1) (P 2) (P 3) (P 4) (P 5) (P 6) wa la w t y s m out outD x5) := by
  have hw0 := hw
  obtain ⟨S, T, H, n, U, hS, hj, hwr⟩ := hw
  have hwr0 := hwr
  obtain ⟨R, L1, B, hr, h0, h1, ht, hb, he⟩ := hwr
  obtain ⟨a1, p1, g1, e1⟩ := ia_of (xs (Int32.toNatClampNeg (x5 + (1 : Int32))))
  obtain ⟨a2, p2, g2, e2⟩ := ia_of (xs (Int32.toNatClampNeg (x5 + (2 : Int32))))
  obtain ⟨k, c, m2, f1, f2, hy, hk⟩ := rr_stampAt (N := N) (x := x) hr ⟨p1, g1⟩ ⟨p2, g2⟩
  rcases hk with ⟨rfl, z⟩ | ⟨rfl, z⟩
  · refine ⟨x, o, sp, v0, v1, oh, P, wa, la, w, t, y, s, m2, ss_LF out (vp_updL (os_L out) 0 (Int32.toInt64 c)), outD, ?_, (wj_sq hw0 (hy.sq.mono (fun i hi => hi) (fun j hj => hj.elim)))⟩
    simp only [ff_L_law_b2955, ff_L_law_b3020, ff_L_law_b3500, ff_L_stampAt, if_pos i1, if_pos i2, e1, e2, f1, f2, oL0, Option.bind_some, if_pos in01, n00, vL0, ij_self, z00, z10, z20, m10, m20, m30, m23, m32, m13, m12, m21, m31, eq_self, reduceIte, ff_X13_thrown, z]
  · refine ⟨x, o, sp, v0, v1, oh, P, wa, la, w, t, y, s, m2, out, outD, ?_, (wj_sq hw0 (hy.sq.mono (fun i hi => hi) (fun j hj => hj.elim)))⟩
    simp only [ff_L_law_b2955, ff_L_law_b3020, ff_L_law_b3500, ff_L_stampAt, if_pos i1, if_pos i2, e1, e2, f1, f2, oL0, Option.bind_some, if_pos in01, n00, vL0, ij_self, z00, z10, z20, m10, m20, m30, m23, m32, m13, m12, m21, m31, eq_self, reduceIte, ff_X13_thrown, z]
theorem lb_56 (hN : 100000 < N) (hw : wj x o v0 v1 oh P w t m) (i1 : os_in (x5 + (1 : Int32)) L) (i2 : os_in (x5 + (2 : Int32)) L) (i3 : os_in (x5 + (3 : Int32)) L) (i4 : os_in (x5 + (4 : Int32)) L) : lO K x5 (ff_L_law_b3023 N xs L K x o sp v0 v1 oh (P 0) (P 1) (P 2) (P 3) (P 4) (P 5) (P 6) wa la w t y s m out outD x5) := by
  have hw0 := hw
  obtain ⟨S, T, H, n, U, hS, hj, hwr⟩ := hw
  have hwr0 := hwr
  obtain ⟨R, L1, B, hr, h0, h1, ht, hb, he⟩ := hwr
  obtain ⟨a1, p1, g1, e1⟩ := ia_of (xs (Int32.toNatClampNeg (x5 + (1 : Int32))))
  obtain ⟨a2, p2, g2, e2⟩ := ia_of (xs (Int32.toNatClampNeg (x5 + (2 : Int32))))
  obtain ⟨a3, p3, g3, e3⟩ := ia_of (xs (Int32.toNatClampNeg (x5 + (3 : Int32))))
  obtain ⟨a4, p4, g4, e4⟩ := ia_of (xs (Int32.toNatClampNeg (x5 + (4 : Int32))))
  obtain ⟨k, c, w2, m2, R2, f1, f2, hr2, ym, hk⟩ := rr_moveStamp (N := N) (x := x) hr ⟨p1, g1⟩ ⟨p2, g2⟩ ⟨p3, g3⟩ ⟨p4, g4⟩
  rcases hk with ⟨rfl, z⟩ | ⟨rfl, z⟩ | ⟨rfl, z⟩
  · by_cases cz : c = 0
    · refine ⟨x, o, sp, v0, v1, oh, P, wa, la, w2, t, y, s, m2, ss_LF out (vp_updL (os_L out) 0 (0 : Int64)), outD, ?_, ⟨S, T, H, n, U, hS, jr_sq hj ym.sq (by decide) (by decide) (by decide) (by decide) (by decide), R2, L1, B, hr2, sl_sq h0 rfl (ym.2.2 20 (by decide)) (ym.2.2 21 (by decide)) (ym.2.2 22 (by decide)), sl_sq h1 rfl (ym.2.2 20 (by decide)) (ym.2.2 21 (by decide)) (ym.2.2 22 (by decide)), rt_sq ht rfl rfl (ym.1 43 (by decide)) (ym.1 44 (by decide)) (ym.2.2 19 (by decide)), tb_sq hb (ym.1 2 (by decide)) (ym.2.2 0 (by decide)), er_sq he rfl rfl (ym.1 10 (by decide)) (ym.1 11 (by decide))⟩⟩
      simp only [ff_L_law_b3023, ff_L_law_b3113, ff_L_law_b3119, ff_L_law_b3500, ff_L_moveStamp, ff_L_moveStamp_b20, if_pos i1, if_pos i2, if_pos i3, if_pos i4, e1, e2, e3, e4, f1, f2, oL0, Option.bind_some, if_pos in01, n00, vL0, ij_self, z00, z10, z20, m10, m20, m30, m23, m32, m13, m12, m21, m31, eq_self, reduceIte, ff_X13_thrown, z, if_pos cz]
    · refine ⟨x, o, sp, v0, v1, oh, P, wa, la, w2, t, y, s, m2, ss_LF out (vp_updL (os_L out) 0 (1 : Int64)), outD, ?_, ⟨S, T, H, n, U, hS, jr_sq hj ym.sq (by decide) (by decide) (by decide) (by decide) (by decide), R2, L1, B, hr2, sl_sq h0 rfl (ym.2.2 20 (by decide)) (ym.2.2 21 (by decide)) (ym.2.2 22 (by decide)), sl_sq h1 rfl (ym.2.2 20 (by decide)) (ym.2.2 21 (by decide)) (ym.2.2 22 (by decide)), rt_sq ht rfl rfl (ym.1 43 (by decide)) (ym.1 44 (by decide)) (ym.2.2 19 (by decide)), tb_sq hb (ym.1 2 (by decide)) (ym.2.2 0 (by decide)), er_sq he rfl rfl (ym.1 10 (by decide)) (ym.1 11 (by decide))⟩⟩
      simp only [ff_L_law_b3023, ff_L_law_b3113, ff_L_law_b3119, ff_L_law_b3500, ff_L_moveStamp, ff_L_moveStamp_b20, if_pos i1, if_pos i2, if_pos i3, if_pos i4, e1, e2, e3, e4, f1, f2, oL0, Option.bind_some, if_pos in01, n00, vL0, ij_self, z00, z10, z20, m10, m20, m30, m23, m32, m13, m12, m21, m31, eq_self, reduceIte, ff_X13_thrown, z, if_neg cz]
  · refine ⟨x, o, sp, v0, v1, oh, P, wa, la, w2, t, y, s, m2, out, outD, ?_, ⟨S, T, H, n, U, hS, jr_sq hj ym.sq (by decide) (by decide) (by decide) (by decide) (by decide), R2, L1, B, hr2, sl_sq h0 rfl (ym.2.2 20 (by decide)) (ym.2.2 21 (by decide)) (ym.2.2 22 (by decide)), sl_sq h1 rfl (ym.2.2 20 (by decide)) (ym.2.2 21 (by decide)) (ym.2.2 22 (by decide)), rt_sq ht rfl rfl (ym.1 43 (by decide)) (ym.1 44 (by decide)) (ym.2.2 19 (by decide)), tb_sq hb (ym.1 2 (by decide)) (ym.2.2 0 (by decide)), er_sq he rfl rfl (ym.1 10 (by decide)) (ym.1 11 (by decide))⟩⟩
    simp only [ff_L_law_b3023, ff_L_law_b3113, ff_L_law_b3119, ff_L_law_b3500, ff_L_moveStamp, ff_L_moveStamp_b20, if_pos i1, if_pos i2, if_pos i3, if_pos i4, e1, e2, e3, e4, f1, f2, oL0, Option.bind_some, if_pos in01, n00, vL0, ij_self, z00, z10, z20, m10, m20, m30, m23, m32, m13, m12, m21, m31, eq_self, reduceIte, ff_X13_thrown, z]
  · refine ⟨x, o, sp, v0, v1, oh, P, wa, la, w2, t, y, s, m2, out, outD, ?_, ⟨S, T, H, n, U, hS, jr_sq hj ym.sq (by decide) (by decide) (by decide) (by decide) (by decide), R2, L1, B, hr2, sl_sq h0 rfl (ym.2.2 20 (by decide)) (ym.2.2 21 (by decide)) (ym.2.2 22 (by decide)), sl_sq h1 rfl (ym.2.2 20 (by decide)) (ym.2.2 21 (by decide)) (ym.2.2 22 (by decide)), rt_sq ht rfl rfl (ym.1 43 (by decide)) (ym.1 44 (by decide)) (ym.2.2 19 (by decide)), tb_sq hb (ym.1 2 (by decide)) (ym.2.2 0 (by decide)), er_sq he rfl rfl (ym.1 10 (by decide)) (ym.1 11 (by decide))⟩⟩
    simp only [ff_L_law_b3023, ff_L_law_b3113, ff_L_law_b3119, ff_L_law_b3500, ff_L_moveStamp, ff_L_moveStamp_b20, if_pos i1, if_pos i2, if_pos i3, if_pos i4, e1, e2, e3, e4, f1, f2, oL0, Option.bind_some, if_pos in01, n00, vL0, ij_self, z00, z10, z20, m10, m20, m30, m23, m32, m13, m12, m21, m31, eq_self, reduceIte, ff_X13_thrown, z]
theorem lb_57 (hN : 100000 < N) (hw : wj x o v0 v1 oh P w t m) (i1 : os_in (x5 + (1 : Int32)) L) (i2 : os_in (x5 + (2 : Int32)) L) (i3 : os_in (x5 + (3 : Int32)) L) (i4 : os_in (x5 + (4 : Int32)) L) : lO K x5 (ff_L_law_b3122 N xs L K x o sp v0 v1 oh (P 0) (P 1) (P 2) (P 3) (P 4) (P 5) (P 6) wa la w t y s m out outD x5) := by
  have hw0 := hw
  obtain ⟨S, T, H, n, U, hS, hj, hwr⟩ := hw
  have hwr0 := hwr
  obtain ⟨R, L1, B, hr, h0, h1, ht, hb, he⟩ := hwr
  obtain ⟨a1, p1, g1, e1⟩ := ia_of (xs (Int32.toNatClampNeg (x5 + (1 : Int32))))
  obtain ⟨a2, p2, g2, e2⟩ := ia_of (xs (Int32.toNatClampNeg (x5 + (2 : Int32))))
  obtain ⟨a3, p3, g3, e3⟩ := ia_of (xs (Int32.toNatClampNeg (x5 + (3 : Int32))))
  obtain ⟨a4, p4, g4, e4⟩ := ia_of (xs (Int32.toNatClampNeg (x5 + (4 : Int32))))
  obtain ⟨k, c, o2, oh2, P2, m2, T2, H2, n2, U2, f1, f2, hj2, hf, hk⟩ := jr_stamp (N := N) (x := x) hN hS hj hr ⟨p1, g1⟩ ⟨p2, g2⟩ ⟨p3, g3⟩ ⟨p4, g4⟩
  rcases hk with ⟨rfl, z⟩ | ⟨rfl, z⟩ | ⟨rfl, z⟩
  · refine ⟨x, o2, sp, v0, v1, oh2, P2, wa, la, w, t, y, s, m2, ss_LF out (vp_updL (os_L out) 0 (Int32.toInt64 c)), outD, ?_, ⟨S, T2, H2, n2, U2, hS, hj2, wr_sq hwr0 (fr_sq hf)⟩⟩
    simp only [ff_L_law_b3122, ff_L_law_b3211, ff_L_law_b3500, ff_L_stamp, if_pos i1, if_pos i2, if_pos i3, if_pos i4, e1, e2, e3, e4, f1, f2, oL0, Option.bind_some, if_pos in01, n00, vL0, ij_self, z00, z10, z20, m10, m20, m30, m23, m32, m13, m12, m21, m31, eq_self, reduceIte, ff_X13_thrown, z]
  · refine ⟨x, o2, sp, v0, v1, oh2, P2, wa, la, w, t, y, s, m2, out, outD, ?_, ⟨S, T2, H2, n2, U2, hS, hj2, wr_sq hwr0 (fr_sq hf)⟩⟩
    simp only [ff_L_law_b3122, ff_L_law_b3211, ff_L_law_b3500, ff_L_stamp, if_pos i1, if_pos i2, if_pos i3, if_pos i4, e1, e2, e3, e4, f1, f2, oL0, Option.bind_some, if_pos in01, n00, vL0, ij_self, z00, z10, z20, m10, m20, m30, m23, m32, m13, m12, m21, m31, eq_self, reduceIte, ff_X13_thrown, z]
  · refine ⟨x, o2, sp, v0, v1, oh2, P2, wa, la, w, t, y, s, m2, out, outD, ?_, ⟨S, T2, H2, n2, U2, hS, hj2, wr_sq hwr0 (fr_sq hf)⟩⟩
    simp only [ff_L_law_b3122, ff_L_law_b3211, ff_L_law_b3500, ff_L_stamp, if_pos i1, if_pos i2, if_pos i3, if_pos i4, e1, e2, e3, e4, f1, f2, oL0, Option.bind_some, if_pos in01, n00, vL0, ij_self, z00, z10, z20, m10, m20, m30, m23, m32, m13, m12, m21, m31, eq_self, reduceIte, ff_X13_thrown, z]
theorem lb_58 (hN : 100000 < N) (hw : wj x o v0 v1 oh P w t m) (i1 : os_in (x5 + (1 : Int32)) L) (i2 : os_in (x5 + (2 : Int32)) L) (i3 : os_in (x5 + (3 : Int32)) L) (i4 : os_in (x5 + (4 : Int32)) L) : lO K x5 (ff_L_law_b3214 N xs L K x o sp v0 v1 oh (P 0) (P 1) (P 2) (P 3) (P 4) (P 5) (P 6) wa la w t y s m out outD x5) := by
  have hw0 := hw
  obtain ⟨S, T, H, n, U, hS, hj, hwr⟩ := hw
  have hwr0 := hwr
  obtain ⟨R, L1, B, hr, h0, h1, ht, hb, he⟩ := hwr
  obtain ⟨a1, p1, g1, e1⟩ := ia_of (xs (Int32.toNatClampNeg (x5 + (1 : Int32))))
  obtain ⟨a2, p2, g2, e2⟩ := ia_of (xs (Int32.toNatClampNeg (x5 + (2 : Int32))))
  obtain ⟨a3, p3, g3, e3⟩ := ia_of (xs (Int32.toNatClampNeg (x5 + (3 : Int32))))
  obtain ⟨a4, p4, g4, e4⟩ := ia_of (xs (Int32.toNatClampNeg (x5 + (4 : Int32))))
  obtain ⟨k, c, sp2, m2, f1, f2, hj2, hf, hk⟩ := jr_stampGain (N := N) (x := x) (sp := sp) hN hS hj hr ⟨p1, g1⟩ ⟨p2, g2⟩ ⟨p3, g3⟩ ⟨p4, g4⟩
  rcases hk with ⟨rfl, z⟩ | ⟨rfl, z⟩ | ⟨rfl, z⟩
  · refine ⟨x, o, sp2, v0, v1, oh, P, wa, la, w, t, y, s, m2, ss_LF out (vp_updL (os_L out) 0 (Int32.toInt64 c)), outD, ?_, ⟨S, T, H, n, U, hS, hj2, wr_sq hwr0 (fr_sq hf)⟩⟩
    simp only [ff_L_law_b3214, ff_L_law_b3303, ff_L_law_b3500, ff_L_stampGain, if_pos i1, if_pos i2, if_pos i3, if_pos i4, e1, e2, e3, e4, f1, f2, oL0, Option.bind_some, if_pos in01, n00, vL0, ij_self, z00, z10, z20, m10, m20, m30, m23, m32, m13, m12, m21, m31, eq_self, reduceIte, ff_X13_thrown, z]
  · refine ⟨x, o, sp2, v0, v1, oh, P, wa, la, w, t, y, s, m2, out, outD, ?_, ⟨S, T, H, n, U, hS, hj2, wr_sq hwr0 (fr_sq hf)⟩⟩
    simp only [ff_L_law_b3214, ff_L_law_b3303, ff_L_law_b3500, ff_L_stampGain, if_pos i1, if_pos i2, if_pos i3, if_pos i4, e1, e2, e3, e4, f1, f2, oL0, Option.bind_some, if_pos in01, n00, vL0, ij_self, z00, z10, z20, m10, m20, m30, m23, m32, m13, m12, m21, m31, eq_self, reduceIte, ff_X13_thrown, z]
  · refine ⟨x, o, sp2, v0, v1, oh, P, wa, la, w, t, y, s, m2, out, outD, ?_, ⟨S, T, H, n, U, hS, hj2, wr_sq hwr0 (fr_sq hf)⟩⟩
    simp only [ff_L_law_b3214, ff_L_law_b3303, ff_L_law_b3500, ff_L_stampGain, if_pos i1, if_pos i2, if_pos i3, if_pos i4, e1, e2, e3, e4, f1, f2, oL0, Option.bind_some, if_pos in01, n00, vL0, ij_self, z00, z10, z20, m10, m20, m30, m23, m32, m13, m12, m21, m31, eq_self, reduceIte, ff_X13_thrown, z]
theorem lb_59 (hN : 100000 < N) (hw : wj x o v0 v1 oh P w t m) : lO K x5 (ff_L_law_b3306 N xs L K x o sp v0 v1 oh (P 0) (P 1) (P 2) (P 3) (P 4) (P 5) (P 6) wa la w t y s m out outD x5) := by
  have hw0 := hw
  obtain ⟨S, T, H, n, U, hS, hj, hwr⟩ := hw
  have hwr0 := hwr
  obtain ⟨R, L1, B, hr, h0, h1, ht, hb, he⟩ := hwr
  obtain ⟨c, x2, m2, f1, f2, hj2, ht2, yx, ym, hz⟩ := jr_report (N := N) (x := x) hN hS hj
  refine ⟨x2, o, sp, v0, v1, oh, P, wa, la, w, t, y, s, m2, out, outD, ?_, ⟨S, T, H, n, U, hS, hj2, R, L1, B, rr_sq hr ym.sq (by decide), sl_sq h0 (yx.2.2 0 (by decide)) (ym.2.2 20 (by decide)) (ym.2.2 21 (by decide)) (ym.2.2 22 (by decide)), sl_sq h1 (yx.2.2 0 (by decide)) (ym.2.2 20 (by decide)) (ym.2.2 21 (by decide)) (ym.2.2 22 (by decide)), ht2, tb_sq hb (ym.1 2 (by decide)) (ym.2.2 0 (by decide)), er_sq he (yx.1 13 (by decide)) (yx.1 14 (by decide)) (ym.1 10 (by decide)) (ym.1 11 (by decide))⟩⟩
  simp only [ff_L_law_b3306, ff_L_law_b3500, f1, f2, oL0, Option.bind_some, if_pos in01, n00, vL0, ij_self, z00, z10, z20, m10, m20, m30, m23, m32, m13, m12, m21, m31, eq_self, reduceIte, ff_X13_thrown]
theorem lb_60 (hN : 100000 < N) (hw : wj x o v0 v1 oh P w t m) (i1 : os_in (x5 + (1 : Int32)) L) : lO K x5 (ff_L_law_b3319 N xs L K x o sp v0 v1 oh (P 0) (P 1) (P 2) (P 3) (P 4) (P 5) (P 6) wa la w t y s m out outD x5) := by
  have hw0 := hw
  obtain ⟨S, T, H, n, U, hS, hj, hwr⟩ := hw
  have hwr0 := hwr
  obtain ⟨R, L1, B, hr, h0, h1, ht, hb, he⟩ := hwr
  obtain ⟨a1, p1, g1, e1⟩ := ia_of (xs (Int32.toNatClampNeg (x5 + (1 : Int32))))
  obtain ⟨k, c, m2, f1, f2, hy, hk⟩ := jq_reportByte (N := N) ht ⟨p1, g1⟩
  rcases hk with ⟨rfl, z⟩ | ⟨rfl, z⟩
  · refine ⟨x, o, sp, v0, v1, oh, P, wa, la, w, t, y, s, m2, ss_LF out (vp_updL (os_L out) 0 (Int32.toInt64 c)), outD, ?_, (wj_sq hw0 (hy.sq.mono (fun i hi => hi) (fun j hj => hj.elim)))⟩
    simp only [ff_L_law_b3319, ff_L_law_b3372, ff_L_law_b3500, ff_L_reportByte, if_pos i1, e1, f1, f2, oL0, Option.bind_some, if_pos in01, n00, vL0, ij_self, z00, z10, z20, m10, m20, m30, m23, m32, m13, m12, m21, m31, eq_self, reduceIte, ff_X13_thrown, z]
  · refine ⟨x, o, sp, v0, v1, oh, P, wa, la, w, t, y, s, m2, out, outD, ?_, (wj_sq hw0 (hy.sq.mono (fun i hi => hi) (fun j hj => hj.elim)))⟩
    simp only [ff_L_law_b3319, ff_L_law_b3372, ff_L_law_b3500, ff_L_reportByte, if_pos i1, e1, f1, f2, oL0, Option.bind_some, if_pos in01, n00, vL0, ij_self, z00, z10, z20, m10, m20, m30, m23, m32, m13, m12, m21, m31, eq_self, reduceIte, ff_X13_thrown, z]
theorem lb_61 (hN : 100000 < N) (hw : wj x o v0 v1 oh P w t m) : lO K x5 (ff_L_law_b3375 N xs L K x o sp v0 v1 oh (P 0) (P 1) (P 2) (P 3) (P 4) (P 5) (P 6) wa la w t y s m out outD x5) := by
  have hw0 := hw
  obtain ⟨S, T, H, n, U, hS, hj, hwr⟩ := hw
  have hwr0 := hwr
  obtain ⟨R, L1, B, hr, h0, h1, ht, hb, he⟩ := hwr
  obtain ⟨c, o2, oh2, m2, T2, H2, n2, f1, f2, hj2, hf, hz⟩ := jr_undo (N := N) (x := x) hN hS hj
  refine ⟨x, o2, sp, v0, v1, oh2, P, wa, la, w, t, y, s, m2, out, outD, ?_, ⟨S, T2, H2, n2, U, hS, hj2, wr_sq hwr0 (fr_sq hf)⟩⟩
  simp only [ff_L_law_b3375, ff_L_law_b3500, f1, f2, oL0, Option.bind_some, if_pos in01, n00, vL0, ij_self, z00, z10, z20, m10, m20, m30, m23, m32, m13, m12, m21, m31, eq_self, reduceIte, ff_X13_thrown]
theorem lb_62 (hN : 100000 < N) (hw : wj x o v0 v1 oh P w t m) (i1 : os_in (x5 + (1 : Int32)) L) : lO K x5 (ff_L_law_b3388 N xs L K x o sp v0 v1 oh (P 0) (P 1) (P 2) (P 3) (P 4) (P 5) (P 6) wa la w t y s m out outD x5) := by
  have hw0 := hw
  obtain ⟨S, T, H, n, U, hS, hj, hwr⟩ := hw
  have hwr0 := hwr
  obtain ⟨R, L1, B, hr, h0, h1, ht, hb, he⟩ := hwr
  obtain ⟨a1, p1, g1, e1⟩ := ia_of (xs (Int32.toNatClampNeg (x5 + (1 : Int32))))
  obtain ⟨k, c, x2, s0, s1, m2, f1, f2, hj2, hs0, hs1, ym, hk⟩ := jr_save (N := N) (x := x) hN hS hj h0 h1 ⟨p1, g1⟩
  obtain ⟨fx1, fx2⟩ := fx_save f1
  rcases hk with ⟨rfl, z⟩ | ⟨rfl, z⟩
  · refine ⟨x2, o, sp, s0, s1, oh, P, wa, la, w, t, y, s, m2, ss_LF out (vp_updL (os_L out) 0 (Int32.toInt64 c)), outD, ?_, ⟨S, T, H, n, U, hS, hj2, R, L1, B, rr_sq hr ym.sq (by decide), hs0, hs1, rt_sq ht (fx1 12) (fx2 1 (by decide)) (ym.1 43 (by decide)) (ym.1 44 (by decide)) (ym.2.2 19 (by decide)), tb_sq hb (ym.1 2 (by decide)) (ym.2.2 0 (by decide)), er_sq he (fx1 13) (fx1 14) (ym.1 10 (by decide)) (ym.1 11 (by decide))⟩⟩
    simp only [ff_L_law_b3388, ff_L_law_b3441, ff_L_law_b3500, ff_L_save, if_pos i1, e1, f1, f2, oL0, Option.bind_some, if_pos in01, n00, vL0, ij_self, z00, z10, z20, m10, m20, m30, m23, m32, m13, m12, m21, m31, eq_self, reduceIte, ff_X13_thrown, z]
  · refine ⟨x2, o, sp, s0, s1, oh, P, wa, la, w, t, y, s, m2, out, outD, ?_, ⟨S, T, H, n, U, hS, hj2, R, L1, B, rr_sq hr ym.sq (by decide), hs0, hs1, rt_sq ht (fx1 12) (fx2 1 (by decide)) (ym.1 43 (by decide)) (ym.1 44 (by decide)) (ym.2.2 19 (by decide)), tb_sq hb (ym.1 2 (by decide)) (ym.2.2 0 (by decide)), er_sq he (fx1 13) (fx1 14) (ym.1 10 (by decide)) (ym.1 11 (by decide))⟩⟩
    simp only [ff_L_law_b3388, ff_L_law_b3441, ff_L_law_b3500, ff_L_save, if_pos i1, e1, f1, f2, oL0, Option.bind_some, if_pos in01, n00, vL0, ij_self, z00, z10, z20, m10, m20, m30, m23, m32, m13, m12, m21, m31, eq_self, reduceIte, ff_X13_thrown, z]
theorem lb_63 (hN : 100000 < N) (hw : wj x o v0 v1 oh P w t m) (i1 : os_in (x5 + (1 : Int32)) L) : lO K x5 (ff_L_law_b3444 N xs L K x o sp v0 v1 oh (P 0) (P 1) (P 2) (P 3) (P 4) (P 5) (P 6) wa la w t y s m out outD x5) := by
  have hw0 := hw
  obtain ⟨S, T, H, n, U, hS, hj, hwr⟩ := hw
  have hwr0 := hwr
  obtain ⟨R, L1, B, hr, h0, h1, ht, hb, he⟩ := hwr
  obtain ⟨a1, p1, g1, e1⟩ := ia_of (xs (Int32.toNatClampNeg (x5 + (1 : Int32))))
  obtain ⟨k, c, o2, oh2, m2, H2, n2, f1, f2, hj2, hf, hk⟩ := jr_restore (N := N) (x := x) hN hS hj h0 h1 ⟨p1, g1⟩
  rcases hk with ⟨rfl, z⟩ | ⟨rfl, z⟩ | ⟨rfl, z⟩
  · refine ⟨x, o2, sp, v0, v1, oh2, P, wa, la, w, t, y, s, m2, ss_LF out (vp_updL (os_L out) 0 (Int32.toInt64 c)), outD, ?_, ⟨S, T, H2, n2, U, hS, hj2, wr_sq hwr0 (fr_sq hf)⟩⟩
    simp only [ff_L_law_b3444, ff_L_law_b3497, ff_L_law_b3500, ff_L_restore, if_pos i1, e1, f1, f2, oL0, Option.bind_some, if_pos in01, n00, vL0, ij_self, z00, z10, z20, m10, m20, m30, m23, m32, m13, m12, m21, m31, eq_self, reduceIte, ff_X13_thrown, z]
  · refine ⟨x, o2, sp, v0, v1, oh2, P, wa, la, w, t, y, s, m2, out, outD, ?_, ⟨S, T, H2, n2, U, hS, hj2, wr_sq hwr0 (fr_sq hf)⟩⟩
    simp only [ff_L_law_b3444, ff_L_law_b3497, ff_L_law_b3500, ff_L_restore, if_pos i1, e1, f1, f2, oL0, Option.bind_some, if_pos in01, n00, vL0, ij_self, z00, z10, z20, m10, m20, m30, m23, m32, m13, m12, m21, m31, eq_self, reduceIte, ff_X13_thrown, z]
  · refine ⟨x, o2, sp, v0, v1, oh2, P, wa, la, w, t, y, s, m2, out, outD, ?_, ⟨S, T, H2, n2, U, hS, hj2, wr_sq hwr0 (fr_sq hf)⟩⟩
    simp only [ff_L_law_b3444, ff_L_law_b3497, ff_L_law_b3500, ff_L_restore, if_pos i1, e1, f1, f2, oL0, Option.bind_some, if_pos in01, n00, vL0, ij_self, z00, z10, z20, m10, m20, m30, m23, m32, m13, m12, m21, m31, eq_self, reduceIte, ff_X13_thrown, z]
end Call
