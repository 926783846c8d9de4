/-! LAYER 2. Operations that change the panel and can fail -/
section Ops2
variable {N : Nat} {o oh m : os_T} {P : Nat → os_T} {S : Nat → Nat} {T H : Int → Int → Int} {n : Nat} {U : Nat → (Int → Int → Int) × (Int → Int → Int)}
theorem jr_I {v : Int32} (hj : jr o oh P m S T H n U) : jr o oh P (ss_I m 0 v) S T H n U := hj.sy (show sy (fun i => i = 0) (fun _ => False) m (ss_I m 0 v) from sy_I rfl) (fun z => z) (fun z => z) (fun z => z) (fun z => z) (by decide)
theorem jr_lighten {x : os_T} {a : Int} (hN : 100000 < N) (hS : sv S) (hj : jr o oh P m S T H n U) (ha : ib a) : ∃ k c o2 oh2 P2 m2 T2 H2 n2 U2, ff_X12_lighten N x o oh (P 0) (P 1) (P 2) (P 3) (P 4) (P 5) (P 6) (Int32.ofInt a) = some (k, c, o2, oh2, P2 0, P2 1, P2 2, P2 3, P2 4, P2 5, P2 6) ∧ ff_X13_lighten N m (Int32.ofInt a) = some (c, m2) ∧ jr o2 oh2 P2 m2 S T2 H2 n2 U2 ∧ fr m m2 ∧ ((k = 0 ∧ os_I m2 0 = 0) ∨ (k = 2 ∧ os_I m2 0 = 1)) := by
  have hTv := hj.2.2.2.2.1
  have hHv := hj.2.2.2.2.2.1
  unfold ff_X12_lighten ff_X13_lighten ff_X12_lighten_b14
  rw [ii_m255, ii_255, ii_lt ha (by omega), ii_le ha (by omega), ia_j ha.1 ha.2, ij_m255, ij_255, rc_isIn ha (by omega) (by omega), Option.bind_some, rc_goes, Option.bind_some]
  by_cases c : -255 ≤ a ∧ a ≤ 255
  · obtain ⟨m1, e1, r1, a7, a8, u1, y1, z1⟩ := rc_start (N := N) (by omega) hj 0
    obtain ⟨o2, e2, c2⟩ := pc_brighten (N := N) (by omega) hS hj.1 hTv (hHv.wv hS) c
    obtain ⟨m2, e3, r3, x3⟩ := rc_retones (N := N) (m := 1) (a := a) (V := q_bri a T) (by omega) hS r1 hTv (by omega) c (fun x y c => by unfold q_bri; rw [Int.one_mul])
    obtain ⟨P2, oh2, m3, n2, U2, eo, ec, ek, hj2, y3⟩ := ch_all (N := N) hN hS hj c2 (q_vf_tv q_bri_tv) (q_vf_hv (q_fol_hv hS q_bri_tv)) (fun x y c => ⟨q_vf_out c, q_vf_out c⟩) a7 a8 u1 r3 x3 (by decide) (by decide) (by decide)
    refine ⟨0, Int32.ofInt (q_df S H (q_vf S H (q_fol S (q_bri a T)))), o2, oh2, P2, m3, _, _, n2, U2, ?_, ?_, hj2, fr_of y1 x3 (fun j e => by omega) y3, Or.inl ⟨rfl, ?_⟩⟩
    · rw [if_neg (by omega), if_pos c.2, eo, Option.bind_some, e2, Option.bind_some]
      show ((ff_X3_close N oh (P2 0) (P2 1) (P2 2) (P2 3) (P2 4) (P2 5) (P2 6) o2).bind _) = _
      rw [ec, Option.bind_some]
    · rw [decide_eq_true c]
      show (if oz true = 0 then _ else ((ff_X13_laysAside N (ss_I m 0 0)).bind _)) = _
      rw [oz_bt rfl, e1, Option.bind_some, ii_1, e3, Option.bind_some, ek, Option.bind_some]
    · rw [y3.1 0 (by decide), x3.1 0]; exact z1
  · refine ⟨2, 0, o, oh, P, ss_I m 0 1, T, H, n, U, ?_, ?_, jr_I hj, fr_I, Or.inr ⟨rfl, rfl⟩⟩
    · by_cases c1 : a < -255
      · rw [if_pos c1]
      · rw [if_neg c1, if_neg (by omega)]
    · rw [decide_eq_false c]; rfl
theorem jr_smooth {x w : os_T} {a : Int} (hN : 100000 < N) (hS : sv S) (hj : jr o oh P m S T H n U) (ha : ib a) : ∃ k c o2 w2 oh2 P2 m2 T2 H2 n2 U2, ff_X12_smooth N x o w oh (P 0) (P 1) (P 2) (P 3) (P 4) (P 5) (P 6) (Int32.ofInt a) = some (k, c, o2, w2, oh2, P2 0, P2 1, P2 2, P2 3, P2 4, P2 5, P2 6) ∧ ff_X13_smooth N m (Int32.ofInt a) = some (c, m2) ∧ jr o2 oh2 P2 m2 S T2 H2 n2 U2 ∧ fr m m2 ∧ ((k = 0 ∧ os_I m2 0 = 0) ∨ (k = 2 ∧ os_I m2 0 = 1)) := by
  have hTv := hj.2.2.2.2.1
  have hHv := hj.2.2.2.2.2.1
  unfold ff_X12_smooth ff_X13_smooth ff_X11_isLimit
  rw [ii_1, ii_20, ii_lt ha (by omega), ii_lt (by omega) ha, ia_j ha.1 ha.2, ij_1, ij_20, rc_isIn ha (by omega) (by omega), Option.bind_some, rc_goes, Option.bind_some]
  by_cases c : 1 ≤ a ∧ a ≤ 20
  · obtain ⟨m1, e1, r1, a7, a8, u1, y1, z1⟩ := rc_start (N := N) (by omega) hj 0
    obtain ⟨o2, w2, e2, c2⟩ := pc_flatten (N := N) (p := w) (d := a) (by omega) hS hj.1 hHv c
    obtain ⟨m2, e3, r3, x3⟩ := rc_smooths (N := N) (d := a) (by omega) hS r1 hHv c
    obtain ⟨P2, oh2, m3, n2, U2, eo, ec, ek, hj2, y3⟩ := ch_all (N := N) hN hS hj c2 hTv (q_vf_hv (q_fa_hv hS hHv (by omega))) (fun x y c => ⟨rfl, q_vf_out c⟩) a7 a8 u1 r3 x3 (by decide) (by decide) (by decide)
    refine ⟨0, Int32.ofInt (q_df S H (q_vf S H (q_fa S H a))), o2, w2, oh2, P2, m3, _, _, n2, U2, ?_, ?_, hj2, fr_of y1 x3 (fun j e => by omega) y3, Or.inl ⟨rfl, ?_⟩⟩
    · rw [if_neg (by omega), if_neg (by omega), Option.bind_some, if_neg (by decide), eo, Option.bind_some, e2, Option.bind_some]
      show ((ff_X3_close N oh (P2 0) (P2 1) (P2 2) (P2 3) (P2 4) (P2 5) (P2 6) o2).bind _) = _
      rw [ec, Option.bind_some]
    · rw [decide_eq_true c]
      show (if oz true = 0 then _ else ((ff_X13_laysAside N (ss_I m 0 0)).bind _)) = _
      rw [oz_bt rfl, e1, Option.bind_some, e3, Option.bind_some, ek, Option.bind_some]
    · rw [y3.1 0 (by decide), x3.1 0]; exact z1
  · refine ⟨2, 0, o, w, oh, P, ss_I m 0 1, T, H, n, U, ?_, ?_, jr_I hj, fr_I, Or.inr ⟨rfl, rfl⟩⟩
    · by_cases c1 : a < 1
      · rw [if_pos c1]; rfl
      · rw [if_neg c1, if_pos (by omega)]; rfl
    · rw [decide_eq_false c]; rfl
/-! one cell -/
theorem hu_out {G : Int → Int → Int} {x y v a b : Int} (c : ic S x y) (h : ¬ ic S a b) : hu G x y v a b = G a b := hu_ne (fun z => h (by rw [z.1, z.2]; exact c))
theorem hu_tv {x y v : Int} (hT : tv S T) (hv : 0 ≤ v ∧ v ≤ 255) : tv S (hu T x y v) := fun a b c => by
  unfold hu; split
  · exact hv
  · exact hT a b c
theorem pc_chk {x : os_T} (hS : sv S) (h : cp o S T H) {a b : Int} (ha : ib a) (hb : ib b) : ff_X12_checkCell N x o (Int32.ofInt a) (Int32.ofInt b) = some (if ic S a b then 0 else 3) := by
  unfold ff_X12_checkCell
  rw [pc_has hS h ha hb, Option.bind_some, oz_ite]
  split <;> rfl
theorem q_df_1 {x y v : Int} (c : ic S x y) : q_df S H (hu H x y v) = if H x y = v then 0 else 1 := by
  rw [q_df_hu c rfl, q_df_self, Int.zero_add]
theorem jr_setTone {z : os_T} {a b t : Int} (hN : 100000 < N) (hS : sv S) (hj : jr o oh P m S T H n U) (ha : ib a) (hb : ib b) (ht : ib t) : ∃ k c o2 oh2 P2 m2 T2 H2 n2 U2, ff_X12_setTone N z o oh (P 0) (P 1) (P 2) (P 3) (P 4) (P 5) (P 6) (Int32.ofInt a) (Int32.ofInt b) (Int32.ofInt t) = some (k, c, o2, oh2, P2 0, P2 1, P2 2, P2 3, P2 4, P2 5, P2 6) ∧ ff_X13_setTone N m (Int32.ofInt a) (Int32.ofInt b) (Int32.ofInt t) = some (c, m2) ∧ jr o2 oh2 P2 m2 S T2 H2 n2 U2 ∧ fr m m2 ∧ ((k = 0 ∧ os_I m2 0 = 0) ∨ (k = 3 ∧ os_I m2 0 = 1) ∨ (k = 2 ∧ os_I m2 0 = 2)) := by
  have hTv := hj.2.2.2.2.1
  have hHv := hj.2.2.2.2.2.1
  have hs := sv_a hS
  unfold ff_X12_setTone ff_X13_setTone ff_X12_checkTone
  rw [pc_chk hS hj.1 ha hb, Option.bind_some, rc_isCell hS hj.2.2.1 ha hb, Option.bind_some, oz_ite, pc_isTone ht, Option.bind_some, oz_ite, ia_j ht.1 ht.2, ij_0, ij_255, rc_isIn ht (by omega) (by omega), Option.bind_some, oz_ite]
  by_cases c : ic S a b
  · have hr := ic_r hS c
    have hab : 0 ≤ a ∧ a < 16 ∧ 0 ≤ b ∧ b < 12 := by have := c; unfold ic at this; omega
    rw [if_pos c, if_pos c, if_pos rfl]
    by_cases c1 : 0 ≤ t ∧ t ≤ 255
    · rw [if_pos c1, if_pos c1, Option.bind_some, if_pos rfl]
      have hsr := sh_r hS (fl_w200 (t := t.toNat) (by omega))
      obtain ⟨m1, e1, r1, a7, a8, u1, y1, z1⟩ := rc_start (N := N) (by omega) hj 0
      obtain ⟨o2, e2, c2⟩ := pc_paint (N := N) (by omega) hS hj.1 (hHv.wv hS) c c1
      obtain ⟨m2, e3, r3, x3⟩ := rc_tones (N := N) (by omega) hS r1 hab.1 hab.2.1 hab.2.2.1 hab.2.2.2 c1
      obtain ⟨P2, oh2, m3, n2, U2, eo, ec, ek, hj2, y3⟩ := ch_all (N := N) hN hS hj c2 (hu_tv hTv c1) (hu_hv hHv (by omega)) (fun x y cc => ⟨hu_out c cc, hu_out c cc⟩) a7 a8 u1 r3 x3 (by decide) (by decide) (by decide)
      refine ⟨0, Int32.ofInt (sh S (fl_w t.toNat) : Int), o2, oh2, P2, m3, _, _, n2, U2, ?_, ?_, hj2, fr_of y1 x3 (fun j e => by omega) y3, Or.inl ⟨rfl, ?_⟩⟩
      · rw [eo, Option.bind_some, e2, Option.bind_some]
        show ((ff_X3_close N oh (P2 0) (P2 1) (P2 2) (P2 3) (P2 4) (P2 5) (P2 6) o2).bind _) = _
        rw [ec, Option.bind_some, pc_heightAt hS c2 ha hb, if_pos c, hu_at, Option.bind_some]
      · unfold ff_X13_setTone_b31
        rw [rc_t0, Option.bind_some]
        show ff_X13_setTone_b36 N m (Int32.ofInt a) (Int32.ofInt b) (Int32.ofInt t) 0 = _
        unfold ff_X13_setTone_b36
        rw [if_pos (by decide), e1, Option.bind_some, e3, Option.bind_some, ek, Option.bind_some, if_pos (rp_in hS c), rp_na hS c]
        show some (os_A m3 4 (16 * b + a).toNat, m3) = _
        rw [rp_h hj2.2.2.1 hS c, hu_at]
      · rw [y3.1 0 (by decide), x3.1 0]; exact z1
    · refine ⟨2, 0, o, oh, P, ss_I m 0 2, T, H, n, U, ?_, ?_, jr_I hj, fr_I, Or.inr (Or.inr ⟨rfl, rfl⟩)⟩
      · rw [if_neg c1, Option.bind_some, if_neg (by decide)]
      · rw [if_neg c1]; rfl
  · refine ⟨3, 0, o, oh, P, ss_I m 0 1, T, H, n, U, ?_, ?_, jr_I hj, fr_I, Or.inr (Or.inl ⟨rfl, rfl⟩)⟩
    · rw [if_neg c, if_neg (by decide)]
    · rw [if_neg c]; rfl
theorem jr_setHeight {z : os_T} {a b v : Int} (hN : 100000 < N) (hS : sv S) (hj : jr o oh P m S T H n U) (ha : ib a) (hb : ib b) (hv : ib v) : ∃ k c o2 oh2 P2 m2 T2 H2 n2 U2, ff_X12_setHeight N z o oh (P 0) (P 1) (P 2) (P 3) (P 4) (P 5) (P 6) (Int32.ofInt a) (Int32.ofInt b) (Int32.ofInt v) = some (k, c, o2, oh2, P2 0, P2 1, P2 2, P2 3, P2 4, P2 5, P2 6) ∧ ff_X13_setHeight N m (Int32.ofInt a) (Int32.ofInt b) (Int32.ofInt v) = some (c, m2) ∧ jr o2 oh2 P2 m2 S T2 H2 n2 U2 ∧ fr m m2 ∧ ((k = 0 ∧ os_I m2 0 = 0) ∨ (k = 3 ∧ os_I m2 0 = 1) ∨ (k = 2 ∧ os_I m2 0 = 2)) := by
  have hTv := hj.2.2.2.2.1
  have hHv := hj.2.2.2.2.2.1
  have hs := sv_a hS
  unfold ff_X12_setHeight ff_X13_setHeight ff_X12_checkAllowed
  rw [pc_chk hS hj.1 ha hb, Option.bind_some, rc_isCell hS hj.2.2.1 ha hb, Option.bind_some, oz_ite, pc_allows hS hj.1 hv, Option.bind_some, oz_ite, rc_isHeight hS hj.2.2.1 hv, Option.bind_some, oz_ite]
  by_cases c : ic S a b
  · have hr := ic_r hS c
    have hab : 0 ≤ a ∧ a < 16 ∧ 0 ≤ b ∧ b < 12 := by have := c; unfold ic at this; omega
    rw [if_pos c, if_pos c, if_pos rfl]
    by_cases c1 : (S 4 : Int) ≤ v ∧ v ≤ S 2
    · rw [if_pos c1, if_pos c1, Option.bind_some, if_pos rfl]
      obtain ⟨m1, e1, r1, a7, a8, u1, y1, z1⟩ := rc_start (N := N) (by omega) hj 0
      obtain ⟨o2, e2, c2⟩ := pc_build (N := N) (v := v) hS hj.1 (hHv.wv hS) c hv
      have r3 := rp_hu (v := v) r1 hab.1 hab.2.1 hab.2.2.1
      have x3 : sx (fun j => j = 4) m1 (ss_A m1 4 (upd (os_A m1 4) (16 * b + a).toNat (Int32.ofInt v))) := sx_A rfl
      obtain ⟨P2, oh2, m3, n2, U2, eo, ec, ek, hj2, y3⟩ := ch_all (N := N) hN hS hj c2 hTv (hu_hv hHv c1) (fun x y cc => ⟨rfl, hu_out c cc⟩) a7 a8 u1 r3 x3 (by decide) (by decide) (by decide)
      refine ⟨0, Int32.ofInt (H a b), o2, oh2, P2, m3, _, _, n2, U2, ?_, ?_, hj2, fr_of y1 x3 (fun j e => by omega) y3, Or.inl ⟨rfl, ?_⟩⟩
      · rw [pc_heightAt hS hj.1 ha hb, if_pos c, Option.bind_some, eo, Option.bind_some, e2, Option.bind_some]
        show ((ff_X3_close N oh (P2 0) (P2 1) (P2 2) (P2 3) (P2 4) (P2 5) (P2 6) o2).bind _) = _
        rw [ec, Option.bind_some]
      · unfold ff_X13_setHeight_b27
        rw [rc_t0, Option.bind_some]
        show ff_X13_setHeight_b32 N m (Int32.ofInt a) (Int32.ofInt b) (Int32.ofInt v) 0 = _
        unfold ff_X13_setHeight_b32
        simp only [if_pos (rp_in hS c)]
        rw [if_pos (by decide), e1, Option.bind_some, rp_na hS c, ek, Option.bind_some]
        show some (os_A m3 7 (16 * b + a).toNat, m3) = _
        rw [y3.2.2 7 (by decide), x3.2.2 7 (by decide), a16_to a7 a b hab.1 hab.2.1 hab.2.2.1 hab.2.2.2]
      · rw [y3.1 0 (by decide), x3.1 0]; exact z1
    · refine ⟨2, 0, o, oh, P, ss_I m 0 2, T, H, n, U, ?_, ?_, jr_I hj, fr_I, Or.inr (Or.inr ⟨rfl, rfl⟩)⟩
      · rw [if_neg c1, Option.bind_some, if_neg (by decide)]
      · rw [if_neg c1]; rfl
  · refine ⟨3, 0, o, oh, P, ss_I m 0 1, T, H, n, U, ?_, ?_, jr_I hj, fr_I, Or.inr (Or.inl ⟨rfl, rfl⟩)⟩
    · rw [if_neg c, if_neg (by decide)]
    · rw [if_neg c]; rfl
theorem q_rb_out {x y v a b : Int} {w r c : Nat} (hx : 0 ≤ x ∧ x + w ≤ S 0) (hy : 0 ≤ y ∧ y + r ≤ S 1) (hc : c = 0) (h : ¬ ic S a b) : q_rb H x y w v r c a b = H a b := if_neg (fun z => h (by unfold ic; omega))
theorem jr_fill {z : os_T} {a b w r v : Int} (hN : 100000 < N) (hS : sv S) (hj : jr o oh P m S T H n U) (ha : ib a) (hb : ib b) (hw : ib w) (hr : ib r) (hv : ib v) : ∃ k c o2 oh2 P2 m2 T2 H2 n2 U2, ff_X12_fill N z o oh (P 0) (P 1) (P 2) (P 3) (P 4) (P 5) (P 6) (Int32.ofInt a) (Int32.ofInt b) (Int32.ofInt w) (Int32.ofInt r) (Int32.ofInt v) = some (k, c, o2, oh2, P2 0, P2 1, P2 2, P2 3, P2 4, P2 5, P2 6) ∧ ff_X13_fill N m (Int32.ofInt a) (Int32.ofInt b) (Int32.ofInt w) (Int32.ofInt r) (Int32.ofInt v) = some (c, m2) ∧ jr o2 oh2 P2 m2 S T2 H2 n2 U2 ∧ fr m m2 ∧ ((k = 0 ∧ os_I m2 0 = 0) ∨ (k = 3 ∧ os_I m2 0 = 1) ∨ (k = 2 ∧ os_I m2 0 = 2)) := by
  have hTv := hj.2.2.2.2.1
  have hHv := hj.2.2.2.2.2.1
  have hs := sv_a hS
  unfold ff_X12_fill ff_X13_fill ff_X12_checkAllowed
  rw [pc_chk hS hj.1 ha hb, Option.bind_some, rc_isCell hS hj.2.2.1 ha hb, Option.bind_some, oz_ite]
  by_cases c : ic S a b
  · have hab : 0 ≤ a ∧ 0 ≤ b := by have := c; unfold ic at this; omega
    rw [if_pos c, if_pos c, if_pos rfl, pc_fits hS hj.1 c hw hr, Option.bind_some, oz_ite, pc_allows hS hj.1 hv, Option.bind_some, oz_ite, rc_fits hS hj.2.2.1 c hw hr hv, Option.bind_some, oz_ite]
    by_cases c1 : 1 ≤ w ∧ w ≤ S 0 - a ∧ 1 ≤ r ∧ r ≤ S 1 - b
    · by_cases c2 : (S 4 : Int) ≤ v ∧ v ≤ S 2
      · obtain ⟨wn, rfl⟩ : ∃ k : Nat, w = k := ⟨w.toNat, by omega⟩
        obtain ⟨rn, rfl⟩ : ∃ k : Nat, r = k := ⟨r.toNat, by omega⟩
        rw [if_pos c1, if_pos c2, if_pos ⟨c1, c2⟩, Option.bind_some, if_pos rfl]
        have hx : 0 ≤ a ∧ a + wn ≤ S 0 := by omega
        have hy : 0 ≤ b ∧ b + rn ≤ S 1 := by omega
        obtain ⟨m1, e1, r1, a7, a8, u1, y1, z1⟩ := rc_start (N := N) (by omega) hj 0
        obtain ⟨o2, e2, cc2⟩ := pc_cover (N := N) (v := v) (by omega) hS hj.1 hHv hx hy c2
        obtain ⟨m2, e3, r3, x3⟩ := rc_fills (N := N) (v := v) (by omega) hS r1 hx hy
        obtain ⟨P2, oh2, m3, n2, U2, eo, ec, ek, hj2, y3⟩ := ch_all (N := N) hN hS hj cc2 hTv (q_rb_hv hHv c2) (fun x y cc => ⟨rfl, q_rb_out hx hy rfl cc⟩) a7 a8 u1 r3 x3 (by decide) (by decide) (by decide)
        refine ⟨0, Int32.ofInt (q_df S H (q_rb H a b wn v rn 0)), o2, oh2, P2, m3, _, _, n2, U2, ?_, ?_, hj2, fr_of y1 x3 (fun j e => by omega) y3, Or.inl ⟨rfl, ?_⟩⟩
        · rw [eo, Option.bind_some, e2, Option.bind_some]
          show ((ff_X3_close N oh (P2 0) (P2 1) (P2 2) (P2 3) (P2 4) (P2 5) (P2 6) o2).bind _) = _
          rw [ec, Option.bind_some]
        · unfold ff_X13_fill_b33
          rw [rc_t0, Option.bind_some]
          show ff_X13_fill_b38 N m (Int32.ofInt a) (Int32.ofInt b) (Int32.ofInt wn) (Int32.ofInt rn) (Int32.ofInt v) 0 = _
          unfold ff_X13_fill_b38
          rw [if_pos (by decide), e1, Option.bind_some, e3, Option.bind_some, ek, Option.bind_some]
        · rw [y3.1 0 (by decide), x3.1 0]; exact z1
      · refine ⟨2, 0, o, oh, P, ss_I m 0 2, T, H, n, U, ?_, ?_, jr_I hj, fr_I, Or.inr (Or.inr ⟨rfl, rfl⟩)⟩
        · rw [if_pos c1, if_neg c2, Option.bind_some, if_neg (by decide)]
        · rw [if_neg (fun z => c2 z.2)]; rfl
    · refine ⟨2, 0, o, oh, P, ss_I m 0 2, T, H, n, U, ?_, ?_, jr_I hj, fr_I, Or.inr (Or.inr ⟨rfl, rfl⟩)⟩
      · rw [if_neg c1]
      · rw [if_neg (fun z => c1 z.1)]; rfl
  · refine ⟨3, 0, o, oh, P, ss_I m 0 1, T, H, n, U, ?_, ?_, jr_I hj, fr_I, Or.inr (Or.inl ⟨rfl, rfl⟩)⟩
    · rw [if_neg c, if_neg (by decide)]
    · rw [if_neg c]; rfl
end Ops2
