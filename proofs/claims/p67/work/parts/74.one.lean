/-! LAYER 2. The law answers true -/
theorem law_one {zz : Nat → Nat → Nat} {N : Nat} (hN : 100000 < N) (hzz : zz 4 1 ≤ 2147483647) : ff_L_law zz N = some 1 := by
  obtain ⟨P, o, q, p, s, w, eg, hP, hz, ho, hq, hp, h7, hs, hL⟩ := grown_all (N := N) (by omega) hzz
  obtain ⟨o12, e12, hd1, hd2⟩ := pc_clear (N := N) (d := os_zero)
  obtain ⟨o14, e14, hc14⟩ := pc_develop (N := N) (d := o12) (by omega) s_0v hd1 hd2 (fun x y c => ⟨(by decide : (0 : Int) ≤ 255), (by decide : (255 : Int) ≤ 255)⟩)
  obtain ⟨tk, ef, hty⟩ := feeds_all (N := N) (ot := ss_I os_zero 14 (-1)) (by omega) hs (by omega)
  obtain ⟨ot', o', os', oh', t', rt', er, hj⟩ := rd_text (N := N) (ot := ss_I os_zero 14 (-1)) (o := o14) (os := o14) (oh := os_zero) (rt := os_zero) (Q := fun _ => o14) hN hP hs.2.2 hty
  have fin := lt_l39 (zz := zz) (N := N) (x := o) (p := p) (q := q) (t1 := s) (t2 := w) (ot := ot') (oh := oh') (P := fun _ => o14) (ol := os_zero) (o := o') (rk := ss_A os_zero 0 (os_fill 12 (-1) (fun _ => 0))) (rt := rt') (s0 := o14) (s1 := o14) (sc := os_zero) (os := os') (tk := t') (ow := os_zero) hN hzz (pn_sS hP) hz ho hj hq hp
  unfold ff_L_law
  rw [eg, Option.bind_some, e12, Option.bind_some, e14, Option.bind_some, ef, Option.bind_some, if_neg (show ¬ ((1 : Int32) = 0) by decide), er, Option.bind_some, if_pos rfl, if_pos h7.symm]
  exact fin
