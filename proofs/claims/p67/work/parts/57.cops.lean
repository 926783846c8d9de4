/-! LAYER 2. The class: a change and its trace in the history; each operation that the law calls -/
section COps
variable {N : Nat} {o o' oh ot ow os : os_T} {P : Nat → os_T} {S : Nat → Nat} {T H T2 H2 : Int → Int → Int}
/-- the class's panel and its history -/
def jc (o oh : os_T) (P : Nat → os_T) (S : Nat → Nat) (T H : Int → Int → Int) : Prop := cp o S T H ∧ tv S T ∧ hv S H ∧ ∃ n U, hc_R oh P S n U
theorem cc_all (hN : 100000 < N) (hS : sv S) (hj : jc o oh P S T H) : ∃ P' : Nat → os_T, ff_X3_open N oh (P 0) (P 1) (P 2) (P 3) (P 4) (P 5) (P 6) o = some (P' 0, P' 1, P' 2, P' 3, P' 4, P' 5, P' 6) ∧ ∀ (o' : os_T) (T2 H2 : Int → Int → Int), cp o' S T2 H2 → tv S T2 → hv S H2 → ∃ oh', ff_X3_close N oh (P' 0) (P' 1) (P' 2) (P' 3) (P' 4) (P' 5) (P' 6) o' = some oh' ∧ jc o' oh' P' S T2 H2 := by
  obtain ⟨j1, j2, j3, n, U, j4⟩ := hj
  obtain ⟨P', eo, hO⟩ := pc_open (N := N) hS j4 j1
  refine ⟨P', eo, fun o' T2 H2 ho hT2 hH2 => ?_⟩
  by_cases same : ∀ x y, ic S x y → H2 x y = H x y ∧ T2 x y = T x y
  · obtain ⟨oh', ec, c1, _⟩ := pc_closeB (N := N) (o := o') (b := true) hS hO j2 j3 (fun q hq => pc_likeT (by omega) hS ho hq same)
    exact ⟨oh', ec, ho, hT2, hH2, n, U, c1 rfl⟩
  · have hex : ∃ x y, ic S x y ∧ ¬ (H2 x y = H x y ∧ T2 x y = T x y) := by
      refine Classical.byContradiction fun z => same fun x y c => ?_
      exact Classical.byContradiction fun z2 => z ⟨x, y, c, z2⟩
    obtain ⟨oh', ec, _, c2⟩ := pc_closeB (N := N) (o := o') (b := false) hS hO j2 j3 (fun q hq => pc_likeF (by omega) hS ho hq (hH2.wv hS) (j3.wv hS) hT2.wv j2.wv hex)
    exact ⟨oh', ec, ho, hT2, hH2, _, _, c2 rfl⟩
theorem cc_repair (hN : 100000 < N) (hS : sv S) (hj : jc o oh P S T H) : ∃ (P' : Nat → os_T) (oh' o' ow' : os_T), ff_X12_repair N ot o oh (P 0) (P 1) (P 2) (P 3) (P 4) (P 5) (P 6) ow = some (Int32.ofInt (q_np S H : Nat), o', oh', P' 0, P' 1, P' 2, P' 3, P' 4, P' 5, P' 6, ow') ∧ jc o' oh' P' S T (q_hs S H (q_np S H)) := by
  obtain ⟨P', eo, hc⟩ := cc_all hN hS hj
  obtain ⟨ow', o', e, h'⟩ := pc_take (N := N) (ow := ow) hN hS hj.1 hj.2.2.1
  obtain ⟨oh', ec, hj'⟩ := hc o' _ _ h' hj.2.1 (q_hsv hS hj.2.2.1 _)
  refine ⟨P', oh', o', ow', ?_, hj'⟩
  unfold ff_X12_repair
  simp only [eo, e, ec, Option.bind_some]
theorem cc_dither (hN : 100000 < N) (hS : sv S) (hj : jc o oh P S T H) : ∃ (P' : Nat → os_T) (oh' o' : os_T), ff_X12_dither N ot o oh (P 0) (P 1) (P 2) (P 3) (P 4) (P 5) (P 6) = some (Int32.ofInt (q_df S H (q_vf S H (q_dit S T))), o', oh', P' 0, P' 1, P' 2, P' 3, P' 4, P' 5, P' 6) ∧ jc o' oh' P' S T (q_vf S H (q_dit S T)) := by
  obtain ⟨P', eo, hc⟩ := cc_all hN hS hj
  obtain ⟨o', e, h'⟩ := pc_spread (N := N) (by omega) hS hj.1 hj.2.1 hj.2.2.1
  obtain ⟨oh', ec, hj'⟩ := hc o' _ _ h' hj.2.1 (q_vf_hv (q_dit_hv hS hj.2.1))
  refine ⟨P', oh', o', ?_, hj'⟩
  unfold ff_X12_dither
  simp only [eo, e, ec, Option.bind_some]
theorem cc_polish (hN : 100000 < N) (hS : sv S) (hj : jc o oh P S T H) : ∃ (P' : Nat → os_T) (oh' o' : os_T), ff_X12_polish N ot o oh (P 0) (P 1) (P 2) (P 3) (P 4) (P 5) (P 6) = some (Int32.ofInt (q_df S H (q_po S T (S 0 * S 1) H)), o', oh', P' 0, P' 1, P' 2, P' 3, P' 4, P' 5, P' 6) ∧ jc o' oh' P' S T (q_po S T (S 0 * S 1) H) := by
  obtain ⟨P', eo, hc⟩ := cc_all hN hS hj
  obtain ⟨o', e, h'⟩ := pc_refine (N := N) (by omega) hS hj.1 hj.2.1 hj.2.2.1
  obtain ⟨oh', ec, hj'⟩ := hc o' _ _ h' hj.2.1 (q_po_i hS hj.2.2.1 _ (Nat.le_refl _)).1
  refine ⟨P', oh', o', ?_, hj'⟩
  unfold ff_X12_polish
  simp only [eo, e, ec, Option.bind_some]
theorem cc_invert (hN : 100000 < N) (hS : sv S) (hj : jc o oh P S T H) : ∃ (P' : Nat → os_T) (oh' o' : os_T), ff_X12_invert N ot o oh (P 0) (P 1) (P 2) (P 3) (P 4) (P 5) (P 6) = some (Int32.ofInt (q_df S H (q_vf S H (q_fol S (q_neg T)))), o', oh', P' 0, P' 1, P' 2, P' 3, P' 4, P' 5, P' 6) ∧ jc o' oh' P' S (q_vf S T (q_neg T)) (q_vf S H (q_fol S (q_neg T))) := by
  obtain ⟨P', eo, hc⟩ := cc_all hN hS hj
  obtain ⟨o', e, h'⟩ := pc_negate (N := N) (by omega) hS hj.1 hj.2.1 (hj.2.2.1.wv hS)
  obtain ⟨oh', ec, hj'⟩ := hc o' _ _ h' (q_vf_tv (q_neg_tv hj.2.1)) (q_vf_hv (q_fol_hv hS (q_neg_tv hj.2.1)))
  refine ⟨P', oh', o', ?_, hj'⟩
  unfold ff_X12_invert
  simp only [eo, e, ec, Option.bind_some]
theorem cc_lighten (hN : 100000 < N) (hS : sv S) (hj : jc o oh P S T H) {a : Int} (ha : -255 ≤ a ∧ a ≤ 255) : ∃ (P' : Nat → os_T) (oh' o' : os_T), ff_X12_lighten N ot o oh (P 0) (P 1) (P 2) (P 3) (P 4) (P 5) (P 6) (Int32.ofInt a) = some (0, Int32.ofInt (q_df S H (q_vf S H (q_fol S (q_bri a T)))), o', oh', P' 0, P' 1, P' 2, P' 3, P' 4, P' 5, P' 6) ∧ jc o' oh' P' S (q_vf S T (q_bri a T)) (q_vf S H (q_fol S (q_bri a T))) := by
  obtain ⟨P', eo, hc⟩ := cc_all hN hS hj
  obtain ⟨o', e, h'⟩ := pc_brighten (N := N) (by omega) hS hj.1 hj.2.1 (hj.2.2.1.wv hS) ha
  obtain ⟨oh', ec, hj'⟩ := hc o' _ _ h' (q_vf_tv q_bri_tv) (q_vf_hv (q_fol_hv hS q_bri_tv))
  refine ⟨P', oh', o', ?_, hj'⟩
  unfold ff_X12_lighten
  rw [show (-255 : Int32) = Int32.ofInt (-255) from rfl, ii_255, ii_lt (by omega) (by omega), if_neg (by omega), ii_le (by omega) (by omega), if_pos (by omega)]
  simp only [eo, e, ec, Option.bind_some]
theorem cc_mirror (hN : 100000 < N) (hS : sv S) (hj : jc o oh P S T H) : ∃ (P' : Nat → os_T) (oh' o' : os_T), ff_X12_mirror N ot o oh (P 0) (P 1) (P 2) (P 3) (P 4) (P 5) (P 6) = some (Int32.ofInt (q_df S H (q_mir S H)), o', oh', P' 0, P' 1, P' 2, P' 3, P' 4, P' 5, P' 6) ∧ jc o' oh' P' S (q_mir S T) (q_mir S H) := by
  obtain ⟨P', eo, hc⟩ := cc_all hN hS hj
  obtain ⟨o', e, h'⟩ := pc_turn (N := N) (by omega) hS hj.1 hj.2.1.wv (hj.2.2.1.wv hS)
  obtain ⟨oh', ec, hj'⟩ := hc o' _ _ h' (q_mir_tv hj.2.1) (q_mir_hv hj.2.2.1)
  refine ⟨P', oh', o', ?_, hj'⟩
  unfold ff_X12_mirror
  simp only [eo, e, ec, Option.bind_some]
theorem cc_ease (hN : 100000 < N) (hS : sv S) (hj : jc o oh P S T H) : ∃ (P' : Nat → os_T) (oh' o' : os_T), ff_X12_ease N ot o oh (P 0) (P 1) (P 2) (P 3) (P 4) (P 5) (P 6) = some (Int32.ofInt (q_df S H (q_vf S H (q_eas S H))), o', oh', P' 0, P' 1, P' 2, P' 3, P' 4, P' 5, P' 6) ∧ jc o' oh' P' S T (q_vf S H (q_eas S H)) := by
  obtain ⟨P', eo, hc⟩ := cc_all hN hS hj
  obtain ⟨o', e, h'⟩ := pc_settle (N := N) (by omega) hS hj.1 hj.2.2.1
  obtain ⟨oh', ec, hj'⟩ := hc o' _ _ h' hj.2.1 (q_vf_hv (q_eas_hv hS hj.2.2.1))
  refine ⟨P', oh', o', ?_, hj'⟩
  unfold ff_X12_ease
  simp only [eo, e, ec, Option.bind_some]
theorem cc_smooth (hN : 100000 < N) (hS : sv S) (hj : jc o oh P S T H) {d : Int} (hd : 1 ≤ d ∧ d ≤ 20) : ∃ (P' : Nat → os_T) (oh' o' os' : os_T), ff_X12_smooth N ot o os oh (P 0) (P 1) (P 2) (P 3) (P 4) (P 5) (P 6) (Int32.ofInt d) = some (0, Int32.ofInt (q_df S H (q_vf S H (q_fa S H d))), o', os', oh', P' 0, P' 1, P' 2, P' 3, P' 4, P' 5, P' 6) ∧ jc o' oh' P' S T (q_vf S H (q_fa S H d)) := by
  obtain ⟨P', eo, hc⟩ := cc_all hN hS hj
  obtain ⟨o', os', e, h'⟩ := pc_flatten (N := N) (p := os) (by omega) hS hj.1 hj.2.2.1 hd
  obtain ⟨oh', ec, hj'⟩ := hc o' _ _ h' hj.2.1 (q_vf_hv (q_fa_hv hS hj.2.2.1 (by omega)))
  refine ⟨P', oh', o', os', ?_, hj'⟩
  have el : ff_X11_isLimit N (Int32.ofInt d) = some 1 := by
    unfold ff_X11_isLimit
    rw [ii_1, ii_20, ii_lt (by omega) (by omega), if_neg (by omega), ii_lt (by omega) (by omega), if_neg (by omega)]
  unfold ff_X12_smooth
  rw [el, Option.bind_some, if_neg (by decide)]
  simp only [eo, e, ec, Option.bind_some]
theorem cc_cell (hS : sv S) (h : cp o S T H) {x y : Int} (c : ic S x y) : ff_X12_checkCell N ot o (Int32.ofInt x) (Int32.ofInt y) = some 0 := by
  have hr := ic_r hS c
  unfold ff_X12_checkCell
  rw [pc_has hS h (by omega) (by omega), Option.bind_some, oz_ite, if_pos c]
theorem cc_toneOk {t : Int} (ht : 0 ≤ t ∧ t ≤ 255) : ff_X12_checkTone N ot (Int32.ofInt t) = some 0 := by
  unfold ff_X12_checkTone
  rw [pc_isTone (by omega), Option.bind_some, oz_ite, if_pos ht]
theorem cc_allowed (hS : sv S) (h : cp o S T H) {v : Int} (hv : (S 4 : Int) ≤ v ∧ v ≤ S 2) : ff_X12_checkAllowed N ot o (Int32.ofInt v) = some 0 := by
  have := sv_a hS
  unfold ff_X12_checkAllowed
  rw [pc_allows hS h (by omega), Option.bind_some, oz_ite, if_pos hv]
theorem cc_layer (hS : sv S) (h : cp o S T H) {v : Int} (hv : 1 ≤ v ∧ v ≤ S 2) : ff_X12_checkLayer N ot o (Int32.ofInt v) = some 0 := by
  have := sv_a hS
  unfold ff_X12_checkLayer
  rw [h.1 2 (by decide), ii_1, ii_lt (by omega) (by omega), if_neg (by omega), ii_le (by omega) (by omega), if_pos (by omega)]
theorem cc_step (hS : sv S) (h : cp o S T H) {v : Int} (hv : 0 ≤ v ∧ v ≤ S 2) : ff_X12_checkStep N ot o (Int32.ofInt v) = some 0 := by
  have := sv_a hS
  unfold ff_X12_checkStep
  simp only [i0_lt (show ib v by omega)]
  rw [h.1 2 (by decide), if_neg (by omega), ii_le (by omega) (by omega), if_pos (by omega)]
theorem cc_setTone (hN : 100000 < N) (hS : sv S) (hj : jc o oh P S T H) {x y t : Int} (c : ic S x y) (ht : 0 ≤ t ∧ t ≤ 255) : ∃ (P' : Nat → os_T) (oh' o' : os_T), ff_X12_setTone N ot o oh (P 0) (P 1) (P 2) (P 3) (P 4) (P 5) (P 6) (Int32.ofInt x) (Int32.ofInt y) (Int32.ofInt t) = some (0, Int32.ofInt (sh S (fl_w t.toNat)), o', oh', P' 0, P' 1, P' 2, P' 3, P' 4, P' 5, P' 6) ∧ jc o' oh' P' S (hu T x y t) (hu H x y (sh S (fl_w t.toNat))) := by
  have hr := ic_r hS c
  have hsr := sh_r hS (fl_w200 (t := t.toNat) (by omega))
  obtain ⟨P', eo, hc⟩ := cc_all hN hS hj
  obtain ⟨o', e, h'⟩ := pc_paint (N := N) (by omega) hS hj.1 (hj.2.2.1.wv hS) c ht
  have hT2 : tv S (hu T x y t) := fun a b ca => by
    unfold hu
    split
    · exact ht
    · exact hj.2.1 a b ca
  obtain ⟨oh', ec, hj'⟩ := hc o' _ _ h' hT2 (hu_hv hj.2.2.1 (by omega))
  refine ⟨P', oh', o', ?_, hj'⟩
  unfold ff_X12_setTone
  rw [cc_cell hS hj.1 c, Option.bind_some, if_pos rfl, cc_toneOk ht, Option.bind_some, if_pos rfl]
  simp only [eo, e, ec, Option.bind_some]
  rw [pc_heightAt hS h' (by omega) (by omega), if_pos c, hu_at]
  rfl
theorem cc_setHeight (hN : 100000 < N) (hS : sv S) (hj : jc o oh P S T H) {x y v : Int} (c : ic S x y) (hv' : (S 4 : Int) ≤ v ∧ v ≤ S 2) : ∃ (P' : Nat → os_T) (oh' o' : os_T), ff_X12_setHeight N ot o oh (P 0) (P 1) (P 2) (P 3) (P 4) (P 5) (P 6) (Int32.ofInt x) (Int32.ofInt y) (Int32.ofInt v) = some (0, Int32.ofInt (H x y), o', oh', P' 0, P' 1, P' 2, P' 3, P' 4, P' 5, P' 6) ∧ jc o' oh' P' S T (hu H x y v) := by
  have hr := ic_r hS c
  have hs := sv_a hS
  obtain ⟨P', eo, hc⟩ := cc_all hN hS hj
  obtain ⟨o', e, h'⟩ := pc_build (N := N) (v := v) hS hj.1 (hj.2.2.1.wv hS) c (by omega)
  obtain ⟨oh', ec, hj'⟩ := hc o' _ _ h' hj.2.1 (hu_hv hj.2.2.1 hv')
  refine ⟨P', oh', o', ?_, hj'⟩
  unfold ff_X12_setHeight
  rw [cc_cell hS hj.1 c, Option.bind_some, if_pos rfl, cc_allowed hS hj.1 hv', Option.bind_some, if_pos rfl, pc_heightAt hS hj.1 (by omega) (by omega), if_pos c, Option.bind_some]
  simp only [eo, e, ec, Option.bind_some]
theorem cc_fill (hN : 100000 < N) (hS : sv S) (hj : jc o oh P S T H) {x y v : Int} {w r : Nat} (c : ic S x y) (hw : 1 ≤ w ∧ x + w ≤ S 0) (hr : 1 ≤ r ∧ y + r ≤ S 1) (hv' : (S 4 : Int) ≤ v ∧ v ≤ S 2) : ∃ (P' : Nat → os_T) (oh' o' : os_T), ff_X12_fill N ot o oh (P 0) (P 1) (P 2) (P 3) (P 4) (P 5) (P 6) (Int32.ofInt x) (Int32.ofInt y) (Int32.ofInt (w : Int)) (Int32.ofInt (r : Int)) (Int32.ofInt v) = some (0, Int32.ofInt (q_df S H (q_rb H x y w v r 0)), o', oh', P' 0, P' 1, P' 2, P' 3, P' 4, P' 5, P' 6) ∧ jc o' oh' P' S T (q_rb H x y w v r 0) := by
  have hrr := ic_r hS c
  have hs := sv_a hS
  obtain ⟨P', eo, hc⟩ := cc_all hN hS hj
  obtain ⟨o', e, h'⟩ := pc_cover (N := N) (v := v) (by omega) hS hj.1 hj.2.2.1 (x := x) (y := y) (w := w) (r := r) ⟨c.1, hw.2⟩ ⟨c.2.2.1, hr.2⟩ hv'
  have hH2 : hv S (q_rb H x y w v r 0) := fun a b ca => by
    unfold q_rb
    split
    · exact hv'
    · exact hj.2.2.1 a b ca
  obtain ⟨oh', ec, hj'⟩ := hc o' _ _ h' hj.2.1 hH2
  refine ⟨P', oh', o', ?_, hj'⟩
  unfold ff_X12_fill
  rw [cc_cell hS hj.1 c, Option.bind_some, if_pos rfl, pc_fits hS hj.1 c (by omega) (by omega), Option.bind_some, oz_ite, if_pos (by omega), cc_allowed hS hj.1 hv', Option.bind_some, if_pos rfl]
  simp only [eo, e, ec, Option.bind_some]
end COps
