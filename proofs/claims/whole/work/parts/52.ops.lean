/-! LAYER 2. Operations that change the panel and cannot fail -/
section Ops
variable {N : Nat} {o oh m : os_T} {P : Nat → os_T} {S : Nat → Nat} {T H : Int → Int → Int} {n : Nat} {U : Nat → (Int → Int → Int) × (Int → Int → Int)}
theorem jr_invert {x : os_T} (hN : 100000 < N) (hS : sv S) (hj : jr o oh P m S T H n U) : ∃ c o2 oh2 P2 m2 T2 H2 n2 U2, ff_X12_invert N x o oh (P 0) (P 1) (P 2) (P 3) (P 4) (P 5) (P 6) = some (c, o2, oh2, P2 0, P2 1, P2 2, P2 3, P2 4, P2 5, P2 6) ∧ ff_X13_invert N m = some (c, m2) ∧ jr o2 oh2 P2 m2 S T2 H2 n2 U2 ∧ fr m m2 ∧ os_I m2 0 = 0 := by
  obtain ⟨m1, e1, r1, a7, a8, u1, y1, z1⟩ := rc_start (N := N) (by omega) hj 0
  have hTv := hj.2.2.2.2.1
  have hHv := hj.2.2.2.2.2.1
  obtain ⟨o2, e2, c2⟩ := pc_negate (N := N) (by omega) hS hj.1 hTv (hHv.wv hS)
  obtain ⟨m2, e3, r3, x3⟩ := rc_retones (N := N) (m := -1) (a := 255) (V := q_neg T) (by omega) hS r1 hTv (by omega) (by omega) (fun x y c => by have := hTv x y c; unfold q_neg; omega)
  obtain ⟨P2, oh2, m3, n2, U2, eo, ec, ek, hj2, y3⟩ := ch_all (N := N) hN hS hj c2 (q_vf_tv (q_neg_tv hTv)) (q_vf_hv (q_fol_hv hS (q_neg_tv hTv))) (fun x y c => ⟨q_vf_out c, q_vf_out c⟩) a7 a8 u1 r3 x3 (by decide) (by decide) (by decide)
  refine ⟨Int32.ofInt (q_df S H (q_vf S H (q_fol S (q_neg T)))), o2, oh2, P2, m3, _, _, n2, U2, ?_, ?_, hj2, fr_of y1 x3 (fun j e => by omega) y3, ?_⟩
  · unfold ff_X12_invert
    rw [eo, Option.bind_some, e2, Option.bind_some]
    show ((ff_X3_close N oh (P2 0) (P2 1) (P2 2) (P2 3) (P2 4) (P2 5) (P2 6) o2).bind _) = _
    rw [ec, Option.bind_some]
  · unfold ff_X13_invert
    rw [e1, Option.bind_some, ii_m1, ii_255, e3, Option.bind_some, ek, Option.bind_some]
  · rw [y3.1 0 (by decide), x3.1 0]; exact z1
theorem jr_mirror {x : os_T} (hN : 100000 < N) (hS : sv S) (hj : jr o oh P m S T H n U) : ∃ c o2 oh2 P2 m2 T2 H2 n2 U2, ff_X12_mirror N x o oh (P 0) (P 1) (P 2) (P 3) (P 4) (P 5) (P 6) = some (c, o2, oh2, P2 0, P2 1, P2 2, P2 3, P2 4, P2 5, P2 6) ∧ ff_X13_mirror N m = some (c, m2) ∧ jr o2 oh2 P2 m2 S T2 H2 n2 U2 ∧ fr m m2 ∧ os_I m2 0 = 0 := by
  obtain ⟨m1, e1, r1, a7, a8, u1, y1, z1⟩ := rc_start (N := N) (by omega) hj 0
  have hTv := hj.2.2.2.2.1
  have hHv := hj.2.2.2.2.2.1
  obtain ⟨o2, e2, c2⟩ := pc_turn (N := N) (by omega) hS hj.1 hTv.wv (hHv.wv hS)
  obtain ⟨m2, e3, r3, x3⟩ := rc_mirrors (N := N) (by omega) hS r1
  obtain ⟨P2, oh2, m3, n2, U2, eo, ec, ek, hj2, y3⟩ := ch_all (N := N) hN hS hj c2 (q_mir_tv hTv) (q_mir_hv hHv) (fun x y c => ⟨q_mir_out c, q_mir_out c⟩) a7 a8 u1 r3 x3 (by decide) (by decide) (by decide)
  refine ⟨Int32.ofInt (q_df S H (q_mir S H)), o2, oh2, P2, m3, _, _, n2, U2, ?_, ?_, hj2, fr_of y1 x3 (fun j e => by omega) y3, ?_⟩
  · unfold ff_X12_mirror
    rw [eo, Option.bind_some, e2, Option.bind_some]
    show ((ff_X3_close N oh (P2 0) (P2 1) (P2 2) (P2 3) (P2 4) (P2 5) (P2 6) o2).bind _) = _
    rw [ec, Option.bind_some]
  · unfold ff_X13_mirror
    rw [e1, Option.bind_some, e3, Option.bind_some, ek, Option.bind_some]
  · rw [y3.1 0 (by decide), x3.1 0]; exact z1
theorem jr_ease {x : os_T} (hN : 100000 < N) (hS : sv S) (hj : jr o oh P m S T H n U) : ∃ c o2 oh2 P2 m2 T2 H2 n2 U2, ff_X12_ease N x o oh (P 0) (P 1) (P 2) (P 3) (P 4) (P 5) (P 6) = some (c, o2, oh2, P2 0, P2 1, P2 2, P2 3, P2 4, P2 5, P2 6) ∧ ff_X13_ease N m = some (c, m2) ∧ jr o2 oh2 P2 m2 S T2 H2 n2 U2 ∧ fr m m2 ∧ os_I m2 0 = 0 := by
  obtain ⟨m1, e1, r1, a7, a8, u1, y1, z1⟩ := rc_start (N := N) (by omega) hj 0
  have hTv := hj.2.2.2.2.1
  have hHv := hj.2.2.2.2.2.1
  obtain ⟨o2, e2, c2⟩ := pc_settle (N := N) (by omega) hS hj.1 hHv
  obtain ⟨m2, e3, r3, x3⟩ := rc_eases (N := N) (by omega) hS r1 hHv
  obtain ⟨P2, oh2, m3, n2, U2, eo, ec, ek, hj2, y3⟩ := ch_all (N := N) hN hS hj c2 (hTv) (q_vf_hv (q_eas_hv hS hHv)) (fun x y c => ⟨rfl, q_vf_out c⟩) a7 a8 u1 r3 x3 (by decide) (by decide) (by decide)
  refine ⟨Int32.ofInt (q_df S H (q_vf S H (q_eas S H))), o2, oh2, P2, m3, _, _, n2, U2, ?_, ?_, hj2, fr_of y1 x3 (fun j e => by omega) y3, ?_⟩
  · unfold ff_X12_ease
    rw [eo, Option.bind_some, e2, Option.bind_some]
    show ((ff_X3_close N oh (P2 0) (P2 1) (P2 2) (P2 3) (P2 4) (P2 5) (P2 6) o2).bind _) = _
    rw [ec, Option.bind_some]
  · unfold ff_X13_ease
    rw [e1, Option.bind_some, e3, Option.bind_some, ek, Option.bind_some]
  · rw [y3.1 0 (by decide), x3.1 0]; exact z1
theorem jr_dither {x : os_T} (hN : 100000 < N) (hS : sv S) (hj : jr o oh P m S T H n U) : ∃ c o2 oh2 P2 m2 T2 H2 n2 U2, ff_X12_dither N x o oh (P 0) (P 1) (P 2) (P 3) (P 4) (P 5) (P 6) = some (c, o2, oh2, P2 0, P2 1, P2 2, P2 3, P2 4, P2 5, P2 6) ∧ ff_X13_dither N m = some (c, m2) ∧ jr o2 oh2 P2 m2 S T2 H2 n2 U2 ∧ fr m m2 ∧ os_I m2 0 = 0 := by
  obtain ⟨m1, e1, r1, a7, a8, u1, y1, z1⟩ := rc_start (N := N) (by omega) hj 0
  have hTv := hj.2.2.2.2.1
  have hHv := hj.2.2.2.2.2.1
  obtain ⟨o2, e2, c2⟩ := pc_spread (N := N) (by omega) hS hj.1 hTv hHv
  obtain ⟨m2, e3, r3, x3⟩ := rc_dithers (N := N) (by omega) hS r1 hTv hHv
  obtain ⟨P2, oh2, m3, n2, U2, eo, ec, ek, hj2, y3⟩ := ch_all (N := N) hN hS hj c2 (hTv) (q_vf_hv (q_dit_hv hS hTv)) (fun x y c => ⟨rfl, q_vf_out c⟩) a7 a8 u1 r3 x3 (by decide) (by decide) (by decide)
  refine ⟨Int32.ofInt (q_df S H (q_vf S H (q_dit S T))), o2, oh2, P2, m3, _, _, n2, U2, ?_, ?_, hj2, fr_of y1 x3 (fun j e => by omega) y3, ?_⟩
  · unfold ff_X12_dither
    rw [eo, Option.bind_some, e2, Option.bind_some]
    show ((ff_X3_close N oh (P2 0) (P2 1) (P2 2) (P2 3) (P2 4) (P2 5) (P2 6) o2).bind _) = _
    rw [ec, Option.bind_some]
  · unfold ff_X13_dither
    rw [e1, Option.bind_some, e3, Option.bind_some, ek, Option.bind_some]
  · rw [y3.1 0 (by decide), x3.1 0]; exact z1
theorem jr_polish {x : os_T} (hN : 100000 < N) (hS : sv S) (hj : jr o oh P m S T H n U) : ∃ c o2 oh2 P2 m2 T2 H2 n2 U2, ff_X12_polish N x o oh (P 0) (P 1) (P 2) (P 3) (P 4) (P 5) (P 6) = some (c, o2, oh2, P2 0, P2 1, P2 2, P2 3, P2 4, P2 5, P2 6) ∧ ff_X13_polish N m = some (c, m2) ∧ jr o2 oh2 P2 m2 S T2 H2 n2 U2 ∧ fr m m2 ∧ os_I m2 0 = 0 := by
  obtain ⟨m1, e1, r1, a7, a8, u1, y1, z1⟩ := rc_start (N := N) (by omega) hj 0
  have hTv := hj.2.2.2.2.1
  have hHv := hj.2.2.2.2.2.1
  obtain ⟨o2, e2, c2⟩ := pc_refine (N := N) (by omega) hS hj.1 hTv hHv
  obtain ⟨m2, e3, r3, x3⟩ := rc_polish (N := N) (by omega) hS r1 hTv hHv
  obtain ⟨P2, oh2, m3, n2, U2, eo, ec, ek, hj2, y3⟩ := ch_all (N := N) hN hS hj c2 (hTv) ((q_po_i hS hHv _ (Nat.le_refl _)).1) (fun x y c => ⟨rfl, (q_po_i (T := T) hS hHv _ (Nat.le_refl _)).2.1 x y c⟩) a7 a8 u1 r3 x3 (by decide) (by decide) (by decide)
  refine ⟨Int32.ofInt (q_df S H (q_po S T (S 0 * S 1) H)), o2, oh2, P2, m3, _, _, n2, U2, ?_, ?_, hj2, fr_of y1 x3 (fun j e => by omega) y3, ?_⟩
  · unfold ff_X12_polish
    rw [eo, Option.bind_some, e2, Option.bind_some]
    show ((ff_X3_close N oh (P2 0) (P2 1) (P2 2) (P2 3) (P2 4) (P2 5) (P2 6) o2).bind _) = _
    rw [ec, Option.bind_some]
  · unfold ff_X13_polish
    rw [e1, Option.bind_some, e3, Option.bind_some, ek, Option.bind_some]
  · rw [y3.1 0 (by decide), x3.1 0]; exact z1
theorem jr_repair {x w : os_T} (hN : 100000 < N) (hS : sv S) (hj : jr o oh P m S T H n U) : ∃ c o2 oh2 P2 w2 m2 T2 H2 n2 U2, ff_X12_repair N x o oh (P 0) (P 1) (P 2) (P 3) (P 4) (P 5) (P 6) w = some (c, o2, oh2, P2 0, P2 1, P2 2, P2 3, P2 4, P2 5, P2 6, w2) ∧ ff_X13_repair N m = some (c, m2) ∧ jr o2 oh2 P2 m2 S T2 H2 n2 U2 ∧ fr m m2 ∧ os_I m2 0 = 0 := by
  obtain ⟨m1, e1, r1, a7, a8, u1, y1, z1⟩ := rc_start (N := N) (by omega) hj 0
  have hTv := hj.2.2.2.2.1
  have hHv := hj.2.2.2.2.2.1
  obtain ⟨w2, o2, e2, c2⟩ := pc_take (N := N) (ow := w) hN hS hj.1 hHv
  obtain ⟨m2, e3, r3, x3⟩ := rc_take (N := N) hN hS r1 hHv
  obtain ⟨P2, oh2, m3, n2, U2, eo, ec, ek, hj2, y3⟩ := ch_all (N := N) hN hS hj c2 hTv (q_hsv hS hHv _) (fun x y c => ⟨rfl, q_hso hS c _⟩) a7 a8 u1 r3 x3 (by decide) (by decide) (by decide)
  refine ⟨Int32.ofInt (q_np S H : Nat), o2, oh2, P2, w2, m3, _, _, n2, U2, ?_, ?_, hj2, fr_of y1 x3 (fun j e => by omega) y3, ?_⟩
  · unfold ff_X12_repair
    rw [eo, Option.bind_some, e2, Option.bind_some]
    show ((ff_X3_close N oh (P2 0) (P2 1) (P2 2) (P2 3) (P2 4) (P2 5) (P2 6) o2).bind _) = _
    rw [ec, Option.bind_some]
  · unfold ff_X13_repair
    rw [e1, Option.bind_some, e3, Option.bind_some]
    show ((ff_X13_keeps N m2).bind _) = _
    rw [ek, Option.bind_some]
  · rw [y3.1 0 (by decide), x3.1 0]; exact z1
end Ops
