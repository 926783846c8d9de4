/-! LAYER 2. Questions about the whole panel, parts and hollows, cells of a height -/
section Asks2
variable {N : Nat} {o oh m w : os_T} {P : Nat → os_T} {S : Nat → Nat} {T H : Int → Int → Int} {n : Nat} {U : Nat → (Int → Int → Int) × (Int → Int → Int)}
theorem jw_volume {x : os_T} (hN : 100000 < N) (hS : sv S) (hj : jr o oh P m S T H n U) : ∃ c, ff_X12_volume N x o = some c ∧ ff_X13_volume N m = some (c, ss_I m 0 0) := by
  have hTv := hj.2.2.2.2.1
  have hHv := hj.2.2.2.2.2.1
  have hHw := hHv.wv hS
  have hr0 : rp (ss_I m 0 0) S T H := rp_I hj.2.2.1
  refine ⟨_, ?_, (congrArg (fun z => Option.bind z _) (rc_vol (by omega) hS hr0)).trans rfl⟩
  unfold ff_X12_volume
  rw [pc_sum (by omega) hS hj.1, Option.bind_some]
theorem jw_steepest {x : os_T} (hN : 100000 < N) (hS : sv S) (hj : jr o oh P m S T H n U) : ∃ c, ff_X12_steepest N x o = some c ∧ ff_X13_steepest N m = some (c, ss_I m 0 0) := by
  have hTv := hj.2.2.2.2.1
  have hHv := hj.2.2.2.2.2.1
  have hHw := hHv.wv hS
  have hr0 : rp (ss_I m 0 0) S T H := rp_I hj.2.2.1
  refine ⟨_, ?_, rc_steepL (by omega) hS hr0 hHw⟩
  unfold ff_X12_steepest
  rw [pc_steep (by omega) hS hj.1 hHw, Option.bind_some, q_st hS hHw]
theorem jw_safeSlope {x : os_T} (hN : 100000 < N) (hS : sv S) (hj : jr o oh P m S T H n U) : ∃ c, ff_X12_safeSlope N x o = some c ∧ ff_X13_safeSlope N m = some (c, ss_I m 0 0) := by
  have hTv := hj.2.2.2.2.1
  have hHv := hj.2.2.2.2.2.1
  have hHw := hHv.wv hS
  have hr0 : rp (ss_I m 0 0) S T H := rp_I hj.2.2.1
  refine ⟨_, ?_, rc_slopeL (by omega) hS hr0 hHv⟩
  unfold ff_X12_safeSlope
  rw [pc_slope (by omega) hS hj.1 hHv, Option.bind_some]
theorem jw_supportedCells {x : os_T} (hN : 100000 < N) (hS : sv S) (hj : jr o oh P m S T H n U) : ∃ c, ff_X12_supportedCells N x o = some c ∧ ff_X13_supportedCells N m = some (c, ss_I m 0 0) := by
  have hTv := hj.2.2.2.2.1
  have hHv := hj.2.2.2.2.2.1
  have hHw := hHv.wv hS
  have hr0 : rp (ss_I m 0 0) S T H := rp_I hj.2.2.1
  refine ⟨_, ?_, rc_supNL (by omega) hS hr0 hHw⟩
  unfold ff_X12_supportedCells
  rw [pc_supN (by omega) hS hj.1 hHw, Option.bind_some, q_supN hS]
theorem jw_supportVolume {x : os_T} (hN : 100000 < N) (hS : sv S) (hj : jr o oh P m S T H n U) : ∃ c, ff_X12_supportVolume N x o = some c ∧ ff_X13_supportVolume N m = some (c, ss_I m 0 0) := by
  have hTv := hj.2.2.2.2.1
  have hHv := hj.2.2.2.2.2.1
  have hHw := hHv.wv hS
  have hr0 : rp (ss_I m 0 0) S T H := rp_I hj.2.2.1
  refine ⟨_, ?_, rc_supVL (by omega) hS hr0 hHv⟩
  unfold ff_X12_supportVolume
  rw [pc_supV (by omega) hS hj.1 hHv, Option.bind_some]
theorem jw_meanError {x : os_T} (hN : 100000 < N) (hS : sv S) (hj : jr o oh P m S T H n U) : ∃ c, ff_X12_meanError N x o = some c ∧ ff_X13_meanError N m = some (c, ss_I m 0 0) := by
  have hTv := hj.2.2.2.2.1
  have hHv := hj.2.2.2.2.2.1
  have hHw := hHv.wv hS
  have hr0 : rp (ss_I m 0 0) S T H := rp_I hj.2.2.1
  refine ⟨_, ?_, rc_meanL (by omega) hS hr0 hHv hTv⟩
  unfold ff_X12_meanError
  rw [pc_mean (by omega) hS hj.1 hHv hTv, Option.bind_some]
theorem jw_worstCell {x : os_T} (hN : 100000 < N) (hS : sv S) (hj : jr o oh P m S T H n U) : ∃ c, ff_X12_worstCell N x o = some c ∧ ff_X13_worstCell N m = some (c, ss_I m 0 0) := by
  have hTv := hj.2.2.2.2.1
  have hHv := hj.2.2.2.2.2.1
  have hHw := hHv.wv hS
  have hr0 : rp (ss_I m 0 0) S T H := rp_I hj.2.2.1
  refine ⟨_, ?_, rc_worstL (by omega) hS hr0 hHv hTv⟩
  unfold ff_X12_worstCell
  rw [pc_worst (by omega) hS hj.1 hHv hTv, Option.bind_some]
theorem jw_fingerprint {x : os_T} (hN : 100000 < N) (hS : sv S) (hj : jr o oh P m S T H n U) : ∃ c, ff_X12_fingerprint N x o = some c ∧ ff_X13_fingerprint N m = some (c, ss_I m 0 0) := by
  have hTv := hj.2.2.2.2.1
  have hHv := hj.2.2.2.2.2.1
  have hHw := hHv.wv hS
  have hr0 : rp (ss_I m 0 0) S T H := rp_I hj.2.2.1
  refine ⟨_, ?_, rc_hashL (by omega) hS hr0 hHv⟩
  unfold ff_X12_fingerprint
  rw [pc_hash (by omega) hS hj.1 hHv, Option.bind_some]
theorem jw_brightest {x : os_T} (hN : 100000 < N) (hS : sv S) (hj : jr o oh P m S T H n U) : ∃ c, ff_X12_brightest N x o = some c ∧ ff_X13_brightest N m = some (c, ss_I m 0 0) := by
  have hTv := hj.2.2.2.2.1
  have hHv := hj.2.2.2.2.2.1
  have hHw := hHv.wv hS
  have hr0 : rp (ss_I m 0 0) S T H := rp_I hj.2.2.1
  refine ⟨_, ?_, (congrArg (fun z => Option.bind z _) (rc_bright (by omega) hS hr0 hHv hTv)).trans rfl⟩
  unfold ff_X12_brightest
  rw [pc_bright (by omega) hS hj.1 hHv hTv, Option.bind_some]
theorem jw_darkestRow {x : os_T} (hN : 100000 < N) (hS : sv S) (hj : jr o oh P m S T H n U) : ∃ c, ff_X12_darkestRow N x o = some c ∧ ff_X13_darkestRow N m = some (c, ss_I m 0 0) := by
  have hTv := hj.2.2.2.2.1
  have hHv := hj.2.2.2.2.2.1
  have hHw := hHv.wv hS
  have hr0 : rp (ss_I m 0 0) S T H := rp_I hj.2.2.1
  refine ⟨_, ?_, rc_darkL (by omega) hS hr0 hHv⟩
  unfold ff_X12_darkestRow
  rw [pc_dark (by omega) hS hj.1 hHv, Option.bind_some]
theorem jw_contrast {x : os_T} (hN : 100000 < N) (hS : sv S) (hj : jr o oh P m S T H n U) : ∃ c, ff_X12_contrast N x o = some c ∧ ff_X13_contrast N m = some (c, ss_I m 0 0) := by
  have hTv := hj.2.2.2.2.1
  have hHv := hj.2.2.2.2.2.1
  have hHw := hHv.wv hS
  have hr0 : rp (ss_I m 0 0) S T H := rp_I hj.2.2.1
  refine ⟨_, ?_, (congrArg (fun z => Option.bind z _) (rc_glow (by omega) hS hr0 hHv (ic_00 hS))).trans (rc_spanL (by omega) hS hr0 hHv hTv)⟩
  unfold ff_X12_contrast
  rw [pc_span (by omega) hS hj.1 hHv hTv, Option.bind_some]
theorem jw_allRectangles {x ol : os_T} (hN : 100000 < N) (hS : sv S) (hj : jr o oh P m S T H n U) : ∃ c, ff_X12_allRectangles N x o ol = some c ∧ ff_X13_allRectangles N m = some (c, ss_I m 0 0) := by
  have hHw := hj.2.2.2.2.2.1.wv hS
  have hr0 : rp (ss_I m 0 0) S T H := rp_I hj.2.2.1
  exact ⟨_, pc_allr (by omega) hS hj.1 hHw, rc_allrL (by omega) hS hr0 hHw⟩
theorem jw_thinCells {x : os_T} (hN : 100000 < N) (hS : sv S) (hj : jr o oh P m S T H n U) : ∃ c w2 m2, ff_X12_thinCells N x o w = some (c, w2) ∧ ff_X13_thinCells N m = some (c, m2) ∧ sy (fun i => i = 0) (fun j => j = 6) m m2 ∧ os_I m2 0 = 0 := by
  have hHw := hj.2.2.2.2.2.1.wv hS
  have hr0 : rp (ss_I m 0 0) S T H := rp_I hj.2.2.1
  obtain ⟨w2, e1, _⟩ := pc_mark (N := N) (ow := w) (by omega) hS hj.1 hHw
  obtain ⟨m2, e2, _, hx⟩ := rc_mark (N := N) (by omega) hS hr0 hHw
  refine ⟨Int32.ofInt (q_cnt S (q_th S H)), w2, m2, ?_, ?_, (show sy (fun i => i = 0) (fun j => j = 6) m (ss_I m 0 0) from sy_I rfl).tr hx.sy, hx.1 0⟩
  · unfold ff_X12_thinCells
    rw [e1, Option.bind_some]
  · unfold ff_X13_thinCells
    rw [e2, Option.bind_some]
theorem q_gp_ex {d : Int} {b : Bool} : ∃ Q : Int → Int → Bool, q_gp S H d b Q := by
  refine ⟨fun x y => @decide (q_mn (q_in S H d b) x y ∧ (b = true ∨ ¬ ∃ u v, q_rg (q_in S H d b) x y u v ∧ q_ed S u v)) (Classical.propDecidable _), fun x y _ => ?_⟩
  exact @decide_eq_true_iff _ (Classical.propDecidable _)
theorem jq_parts {x ol : os_T} {d : Int} (hN : 100000 < N) (hS : sv S) (hj : jr o oh P m S T H n U) (hd : ib d) : ∃ k c ol2 m2, ff_X12_parts N x o ol (Int32.ofInt d) = some (k, c, ol2) ∧ ff_X13_parts N m (Int32.ofInt d) = some (c, m2) ∧ sy (fun i => i = 0) (fun j => j = 9) m m2 ∧ ((k = 0 ∧ os_I m2 0 = 0) ∨ (k = 2 ∧ os_I m2 0 = 1)) := by
  have hHw := hj.2.2.2.2.2.1.wv hS
  have hr0 : rp (ss_I m 0 0) S T H := rp_I hj.2.2.1
  unfold ff_X12_parts ff_X13_parts ff_X4_countOfParts
  rw [pc_ckl hS hj.1 hd, Option.bind_some, rc_isLayer hS hj.2.2.1 hd, Option.bind_some, rc_goes, Option.bind_some]
  by_cases c : 1 ≤ d ∧ d ≤ (S 2 : Int)
  · obtain ⟨Q, hQ⟩ := q_gp_ex (S := S) (H := H) (d := d) (b := true)
    obtain ⟨ol2, e1⟩ := pc_groups (N := N) (w := ol) (by omega) hS hj.1 hHw hd hQ
    obtain ⟨m2, L, e2, hx, hL, hQ2, hF⟩ := rc_groups (N := N) (b := true) hN hS hr0 hHw hd
    have hr2 := hr0.sx hx (by decide) (by decide) (by decide)
    have e3 := rc_parts (N := N) (by omega) hS hr2 hHw hd hL hQ2 hF hQ
    refine ⟨0, Int32.ofInt (q_cnt S Q), ol2, m2, ?_, ?_, (show sy (fun i => i = 0) (fun j => j = 9) m (ss_I m 0 0) from sy_I rfl).tr hx.sy, Or.inl ⟨rfl, hx.1 0⟩⟩
    · have e1' : ff_X4_countOfGroups N ol o (Int32.ofInt d) (1 : Int32) = some (Int32.ofInt (q_cnt S Q), ol2) := e1
      rw [if_pos c, if_pos rfl, e1', Option.bind_some, Option.bind_some]
    · rw [decide_eq_true c]
      refine (oz_bt (b := true) rfl).trans ?_
      have e2' : ff_X13_groups N (ss_I m 0 0) (Int32.ofInt d) (1 : Int32) = some m2 := e2
      show ((ff_X13_groups N (ss_I m 0 0) (Int32.ofInt d) (1 : Int32)).bind _) = _
      rw [e2', Option.bind_some]
      exact e3
  · refine ⟨2, 0, ol, ss_I m 0 1, ?_, ?_, sy_I rfl, Or.inr ⟨rfl, rfl⟩⟩
    · rw [if_neg c, if_neg (by decide)]
    · rw [decide_eq_false c]; rfl
theorem jq_hollows {x ol : os_T} {d : Int} (hN : 100000 < N) (hS : sv S) (hj : jr o oh P m S T H n U) (hd : ib d) : ∃ k c ol2 m2, ff_X12_hollows N x o ol (Int32.ofInt d) = some (k, c, ol2) ∧ ff_X13_hollows N m (Int32.ofInt d) = some (c, m2) ∧ sy (fun i => i = 0) (fun j => j = 6 ∨ j = 9) m m2 ∧ ((k = 0 ∧ os_I m2 0 = 0) ∨ (k = 2 ∧ os_I m2 0 = 1)) := by
  have hHw := hj.2.2.2.2.2.1.wv hS
  have hr0 : rp (ss_I m 0 0) S T H := rp_I hj.2.2.1
  unfold ff_X12_hollows ff_X13_hollows ff_X4_countOfHollows
  rw [pc_ckl hS hj.1 hd, Option.bind_some, rc_isLayer hS hj.2.2.1 hd, Option.bind_some, rc_goes, Option.bind_some]
  by_cases c : 1 ≤ d ∧ d ≤ (S 2 : Int)
  · obtain ⟨Q, hQ⟩ := q_gp_ex (S := S) (H := H) (d := d) (b := false)
    obtain ⟨ol2, e1⟩ := pc_groups (N := N) (w := ol) (by omega) hS hj.1 hHw hd hQ
    obtain ⟨m2, L, e2, hx, hL, hQ2, hF⟩ := rc_groups (N := N) (b := false) hN hS hr0 hHw hd
    have hr2 := hr0.sx hx (by decide) (by decide) (by decide)
    obtain ⟨m3, e3, hx3⟩ := rc_hol (N := N) (by omega) hS hr2 hHw hd hL hQ2 hF hQ
    refine ⟨0, Int32.ofInt (q_cnt S Q), ol2, m3, ?_, ?_, ((show sy (fun i => i = 0) (fun j => j = 6 ∨ j = 9) m (ss_I m 0 0) from sy_I rfl).tr (hx.mono fun j e => Or.inr e).sy).tr (hx3.mono fun j e => Or.inl e).sy, Or.inl ⟨rfl, (hx3.1 0).trans (hx.1 0)⟩⟩
    · have e1' : ff_X4_countOfGroups N ol o (Int32.ofInt d) (0 : Int32) = some (Int32.ofInt (q_cnt S Q), ol2) := e1
      rw [if_pos c, if_pos rfl, e1', Option.bind_some, Option.bind_some]
    · rw [decide_eq_true c]
      refine (oz_bt (b := true) rfl).trans ?_
      have e2' : ff_X13_groups N (ss_I m 0 0) (Int32.ofInt d) (0 : Int32) = some m2 := e2
      show ((ff_X13_groups N (ss_I m 0 0) (Int32.ofInt d) (0 : Int32)).bind _) = _
      rw [e2', Option.bind_some]
      exact e3
  · refine ⟨2, 0, ol, ss_I m 0 1, ?_, ?_, sy_I rfl, Or.inr ⟨rfl, rfl⟩⟩
    · rw [if_neg c, if_neg (by decide)]
    · rw [decide_eq_false c]; rfl
end Asks2
