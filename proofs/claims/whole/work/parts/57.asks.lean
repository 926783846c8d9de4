/-! LAYER 2. Questions, pairwise: cells and layers -/
section Asks
variable {N : Nat} {o oh m w : os_T} {P : Nat → os_T} {S : Nat → Nat} {T H : Int → Int → Int} {n : Nat} {U : Nat → (Int → Int → Int) × (Int → Int → Int)}
theorem rp_I {v : Int32} (h : rp m S T H) : rp (ss_I m 0 v) S T H := ⟨h.1, h.2.1, h.2.2⟩
theorem pc_ckl {x : os_T} {d : Int} (hS : sv S) (h : cp o S T H) (hd : ib d) : ff_X12_checkLayer N x o (Int32.ofInt d) = some (if 1 ≤ d ∧ d ≤ (S 2 : Int) then 0 else 2) := by
  have hs := sv_a hS
  unfold ff_X12_checkLayer ff_X12_checkLayer_b16
  rw [h.1 2 (by decide), ii_1, ii_lt hd (by omega), ii_le hd (by omega)]
  by_cases c : 1 ≤ d ∧ d ≤ (S 2 : Int)
  · rw [if_neg (by omega), if_pos c.2, if_pos c]
  · rw [if_neg c]
    by_cases c1 : d < 1
    · rw [if_pos c1]
    · rw [if_neg c1, if_neg (by omega)]
theorem jq_tone {x : os_T} {a b : Int} (hN : 100000 < N) (hS : sv S) (hj : jr o oh P m S T H n U) (ha : ib a) (hb : ib b) : ∃ k c m2, ff_X12_tone N x o (Int32.ofInt a) (Int32.ofInt b) = some (k, c) ∧ ff_X13_tone N m (Int32.ofInt a) (Int32.ofInt b) = some (c, m2) ∧ sy (fun i => i = 0) (fun _ => False) m m2 ∧ ((k = 0 ∧ os_I m2 0 = 0) ∨ (k = 3 ∧ os_I m2 0 = 1)) := by
  have hTv := hj.2.2.2.2.1
  have hHv := hj.2.2.2.2.2.1
  have hr0 : rp (ss_I m 0 0) S T H := rp_I hj.2.2.1
  unfold ff_X12_tone ff_X13_tone
  rw [pc_chk hS hj.1 ha hb, Option.bind_some, rc_isCell hS hj.2.2.1 ha hb, Option.bind_some, rc_goes, Option.bind_some]
  by_cases c : ic S a b
  · have ht := hTv a b c
    refine ⟨0, Int32.ofInt (T a b), ss_I m 0 0, ?_, ?_, sy_I rfl, Or.inl ⟨rfl, rfl⟩⟩
    · rw [if_pos c, if_pos rfl, pc_toneAt hS hj.1 ha hb, if_pos c, Option.bind_some]
    · rw [decide_eq_true c]
      refine (oz_bt (b := true) rfl).trans ?_
      show (if os_in ((16 : Int32) * Int32.ofInt b + Int32.ofInt a) 192 then some (os_A m 3 (Int32.toNatClampNeg ((16 : Int32) * Int32.ofInt b + Int32.ofInt a)), ss_I m 0 0) else none) = _
      rw [if_pos (rp_in hS c), rp_na hS c, rp_t hj.2.2.1 hS c]
  · refine ⟨3, 0, ss_I m 0 1, ?_, ?_, sy_I rfl, Or.inr ⟨rfl, rfl⟩⟩
    · rw [if_neg c, if_neg (by decide)]
    · rw [decide_eq_false c]; rfl
theorem jq_height {x : os_T} {a b : Int} (hN : 100000 < N) (hS : sv S) (hj : jr o oh P m S T H n U) (ha : ib a) (hb : ib b) : ∃ k c m2, ff_X12_height N x o (Int32.ofInt a) (Int32.ofInt b) = some (k, c) ∧ ff_X13_height N m (Int32.ofInt a) (Int32.ofInt b) = some (c, m2) ∧ sy (fun i => i = 0) (fun _ => False) m m2 ∧ ((k = 0 ∧ os_I m2 0 = 0) ∨ (k = 3 ∧ os_I m2 0 = 1)) := by
  have hTv := hj.2.2.2.2.1
  have hHv := hj.2.2.2.2.2.1
  have hr0 : rp (ss_I m 0 0) S T H := rp_I hj.2.2.1
  unfold ff_X12_height ff_X13_height
  rw [pc_chk hS hj.1 ha hb, Option.bind_some, rc_isCell hS hj.2.2.1 ha hb, Option.bind_some, rc_goes, Option.bind_some]
  by_cases c : ic S a b
  · have ht := hTv a b c
    refine ⟨0, Int32.ofInt (H a b), ss_I m 0 0, ?_, ?_, sy_I rfl, Or.inl ⟨rfl, rfl⟩⟩
    · rw [if_pos c, if_pos rfl, pc_heightAt hS hj.1 ha hb, if_pos c, Option.bind_some]
    · rw [decide_eq_true c]
      refine (oz_bt (b := true) rfl).trans ?_
      show (if os_in ((16 : Int32) * Int32.ofInt b + Int32.ofInt a) 192 then some (os_A m 4 (Int32.toNatClampNeg ((16 : Int32) * Int32.ofInt b + Int32.ofInt a)), ss_I m 0 0) else none) = _
      rw [if_pos (rp_in hS c), rp_na hS c, rp_h hj.2.2.1 hS c]
  · refine ⟨3, 0, ss_I m 0 1, ?_, ?_, sy_I rfl, Or.inr ⟨rfl, rfl⟩⟩
    · rw [if_neg c, if_neg (by decide)]
    · rw [decide_eq_false c]; rfl
theorem jq_estimate {x : os_T} {a b : Int} (hN : 100000 < N) (hS : sv S) (hj : jr o oh P m S T H n U) (ha : ib a) (hb : ib b) : ∃ k c m2, ff_X12_estimate N x o (Int32.ofInt a) (Int32.ofInt b) = some (k, c) ∧ ff_X13_estimate N m (Int32.ofInt a) (Int32.ofInt b) = some (c, m2) ∧ sy (fun i => i = 0) (fun _ => False) m m2 ∧ ((k = 0 ∧ os_I m2 0 = 0) ∨ (k = 3 ∧ os_I m2 0 = 1)) := by
  have hTv := hj.2.2.2.2.1
  have hHv := hj.2.2.2.2.2.1
  have hr0 : rp (ss_I m 0 0) S T H := rp_I hj.2.2.1
  unfold ff_X12_estimate ff_X13_estimate
  rw [pc_chk hS hj.1 ha hb, Option.bind_some, rc_isCell hS hj.2.2.1 ha hb, Option.bind_some, rc_goes, Option.bind_some]
  by_cases c : ic S a b
  · have ht := hTv a b c
    refine ⟨0, g_e S H a b, ss_I m 0 0, ?_, ?_, sy_I rfl, Or.inl ⟨rfl, rfl⟩⟩
    · rw [if_pos c, if_pos rfl, pc_glow hS hj.1 hHv c, Option.bind_some]
    · rw [decide_eq_true c]
      refine (oz_bt (b := true) rfl).trans ?_
      show ((ff_X13_estimateAt N (ss_I m 0 0) (Int32.ofInt a) (Int32.ofInt b)).bind _) = _
      rw [rc_glow (by omega) hS hr0 hHv c, Option.bind_some]
      rfl
  · refine ⟨3, FP.fconst0, ss_I m 0 1, ?_, ?_, sy_I rfl, Or.inr ⟨rfl, rfl⟩⟩
    · rw [if_neg c, if_neg (by decide)]; rfl
    · rw [decide_eq_false c]; rfl
theorem jq_error {x : os_T} {a b : Int} (hN : 100000 < N) (hS : sv S) (hj : jr o oh P m S T H n U) (ha : ib a) (hb : ib b) : ∃ k c m2, ff_X12_error N x o (Int32.ofInt a) (Int32.ofInt b) = some (k, c) ∧ ff_X13_error N m (Int32.ofInt a) (Int32.ofInt b) = some (c, m2) ∧ sy (fun i => i = 0) (fun _ => False) m m2 ∧ ((k = 0 ∧ os_I m2 0 = 0) ∨ (k = 3 ∧ os_I m2 0 = 1)) := by
  have hTv := hj.2.2.2.2.1
  have hHv := hj.2.2.2.2.2.1
  have hr0 : rp (ss_I m 0 0) S T H := rp_I hj.2.2.1
  unfold ff_X12_error ff_X13_error
  rw [pc_chk hS hj.1 ha hb, Option.bind_some, rc_isCell hS hj.2.2.1 ha hb, Option.bind_some, rc_goes, Option.bind_some]
  by_cases c : ic S a b
  · have ht := hTv a b c
    refine ⟨0, g_m S T H a b, ss_I m 0 0, ?_, ?_, sy_I rfl, Or.inl ⟨rfl, rfl⟩⟩
    · rw [if_pos c, if_pos rfl, pc_miss hS hj.1 hHv hTv c, Option.bind_some]
    · rw [decide_eq_true c]
      refine (oz_bt (b := true) rfl).trans ?_
      show ((ff_X13_errorAt N (ss_I m 0 0) (Int32.ofInt a) (Int32.ofInt b)).bind _) = _
      rw [rc_miss (by omega) hS hr0 hHv hTv c, Option.bind_some]
      rfl
  · refine ⟨3, FP.fconst0, ss_I m 0 1, ?_, ?_, sy_I rfl, Or.inr ⟨rfl, rfl⟩⟩
    · rw [if_neg c, if_neg (by decide)]; rfl
    · rw [decide_eq_false c]; rfl
theorem jq_wanted {x : os_T} {a b : Int} (hN : 100000 < N) (hS : sv S) (hj : jr o oh P m S T H n U) (ha : ib a) (hb : ib b) : ∃ k c m2, ff_X12_wanted N x o (Int32.ofInt a) (Int32.ofInt b) = some (k, c) ∧ ff_X13_wanted N m (Int32.ofInt a) (Int32.ofInt b) = some (c, m2) ∧ sy (fun i => i = 0) (fun _ => False) m m2 ∧ ((k = 0 ∧ os_I m2 0 = 0) ∨ (k = 3 ∧ os_I m2 0 = 1)) := by
  have hTv := hj.2.2.2.2.1
  have hHv := hj.2.2.2.2.2.1
  have hr0 : rp (ss_I m 0 0) S T H := rp_I hj.2.2.1
  unfold ff_X12_wanted ff_X13_wanted
  rw [pc_chk hS hj.1 ha hb, Option.bind_some, rc_isCell hS hj.2.2.1 ha hb, Option.bind_some, rc_goes, Option.bind_some]
  by_cases c : ic S a b
  · have ht := hTv a b c
    refine ⟨0, fl_w (T a b).toNat, ss_I m 0 0, ?_, ?_, sy_I rfl, Or.inl ⟨rfl, rfl⟩⟩
    · rw [if_pos c, if_pos rfl, pc_wishAt hS hj.1 hTv c, Option.bind_some]
    · rw [decide_eq_true c]
      refine (oz_bt (b := true) rfl).trans ?_
      show (if os_in ((16 : Int32) * Int32.ofInt b + Int32.ofInt a) 192 then ((ff_X13_wantedBy N (os_A m 3 (Int32.toNatClampNeg ((16 : Int32) * Int32.ofInt b + Int32.ofInt a)))).bind fun u_7 => some (u_7, ss_I m 0 0)) else none) = _
      rw [if_pos (rp_in hS c), rp_na hS c, rp_t hj.2.2.1 hS c, rc_wantedBy ht.1 ht.2, Option.bind_some]
  · refine ⟨3, FP.fconst0, ss_I m 0 1, ?_, ?_, sy_I rfl, Or.inr ⟨rfl, rfl⟩⟩
    · rw [if_neg c, if_neg (by decide)]; rfl
    · rw [decide_eq_false c]; rfl
theorem jq_overhang {x : os_T} {a b : Int} (hN : 100000 < N) (hS : sv S) (hj : jr o oh P m S T H n U) (ha : ib a) (hb : ib b) : ∃ k c m2, ff_X12_overhang N x o (Int32.ofInt a) (Int32.ofInt b) = some (k, c) ∧ ff_X13_overhang N m (Int32.ofInt a) (Int32.ofInt b) = some (c, m2) ∧ sy (fun i => i = 0) (fun _ => False) m m2 ∧ ((k = 0 ∧ os_I m2 0 = 0) ∨ (k = 3 ∧ os_I m2 0 = 1)) := by
  have hTv := hj.2.2.2.2.1
  have hHv := hj.2.2.2.2.2.1
  have hr0 : rp (ss_I m 0 0) S T H := rp_I hj.2.2.1
  unfold ff_X12_overhang ff_X13_overhang
  rw [pc_chk hS hj.1 ha hb, Option.bind_some, rc_isCell hS hj.2.2.1 ha hb, Option.bind_some, rc_goes, Option.bind_some]
  by_cases c : ic S a b
  · have ht := hTv a b c
    refine ⟨0, Int32.ofInt (q_ex S H a b), ss_I m 0 0, ?_, ?_, sy_I rfl, Or.inl ⟨rfl, rfl⟩⟩
    · rw [if_pos c, if_pos rfl, pc_excess hS hj.1 (hHv.wv hS) c, Option.bind_some]
    · rw [decide_eq_true c]
      refine (oz_bt (b := true) rfl).trans ?_
      show ((ff_X13_standsOut N (ss_I m 0 0) (Int32.ofInt a) (Int32.ofInt b)).bind _) = _
      rw [rc_standsOut hS hr0 (hHv.wv hS) c, Option.bind_some]
      rfl
  · refine ⟨3, 0, ss_I m 0 1, ?_, ?_, sy_I rfl, Or.inr ⟨rfl, rfl⟩⟩
    · rw [if_neg c, if_neg (by decide)]
    · rw [decide_eq_false c]; rfl
theorem jq_layerCells {x ol : os_T} {d : Int} (hN : 100000 < N) (hS : sv S) (hj : jr o oh P m S T H n U) (hd : ib d) : ∃ k c m2, ff_X12_layerCells N x o ol (Int32.ofInt d) = some (k, c) ∧ ff_X13_layerCells N m (Int32.ofInt d) = some (c, m2) ∧ sy (fun i => i = 0) (fun _ => False) m m2 ∧ ((k = 0 ∧ os_I m2 0 = 0) ∨ (k = 2 ∧ os_I m2 0 = 1)) := by
  have hHw := hj.2.2.2.2.2.1.wv hS
  have hr0 : rp (ss_I m 0 0) S T H := rp_I hj.2.2.1
  unfold ff_X12_layerCells ff_X13_layerCells
  rw [pc_ckl hS hj.1 hd, Option.bind_some, rc_isLayer hS hj.2.2.1 hd, Option.bind_some, rc_goes, Option.bind_some]
  by_cases c : 1 ≤ d ∧ d ≤ (S 2 : Int)
  · refine ⟨0, Int32.ofInt (q_cnt S (fun x y => decide (il S H d x y))), ss_I m 0 0, ?_, ?_, sy_I rfl, Or.inl ⟨rfl, rfl⟩⟩
    · rw [if_pos c, if_pos rfl, pc_lcells (by omega) hS hj.1 hHw hd, Option.bind_some]
    · rw [decide_eq_true c]
      exact (oz_bt (b := true) rfl).trans (rc_lcellsL (by omega) hS hr0 hHw hd)
  · refine ⟨2, 0, ss_I m 0 1, ?_, ?_, sy_I rfl, Or.inr ⟨rfl, rfl⟩⟩
    · rw [if_neg c, if_neg (by decide)]
    · rw [decide_eq_false c]; rfl
theorem jq_runs {x ol : os_T} {d : Int} (hN : 100000 < N) (hS : sv S) (hj : jr o oh P m S T H n U) (hd : ib d) : ∃ k c m2, ff_X12_runs N x o ol (Int32.ofInt d) = some (k, c) ∧ ff_X13_runs N m (Int32.ofInt d) = some (c, m2) ∧ sy (fun i => i = 0) (fun _ => False) m m2 ∧ ((k = 0 ∧ os_I m2 0 = 0) ∨ (k = 2 ∧ os_I m2 0 = 1)) := by
  have hHw := hj.2.2.2.2.2.1.wv hS
  have hr0 : rp (ss_I m 0 0) S T H := rp_I hj.2.2.1
  unfold ff_X12_runs ff_X13_runs
  rw [pc_ckl hS hj.1 hd, Option.bind_some, rc_isLayer hS hj.2.2.1 hd, Option.bind_some, rc_goes, Option.bind_some]
  by_cases c : 1 ≤ d ∧ d ≤ (S 2 : Int)
  · refine ⟨0, Int32.ofInt (q_cnt S (q_br S H d)), ss_I m 0 0, ?_, ?_, sy_I rfl, Or.inl ⟨rfl, rfl⟩⟩
    · rw [if_pos c, if_pos rfl, pc_runs (by omega) hS hj.1 hHw hd, Option.bind_some]
    · rw [decide_eq_true c]
      exact (oz_bt (b := true) rfl).trans (rc_runsL (by omega) hS hr0 hHw hd)
  · refine ⟨2, 0, ss_I m 0 1, ?_, ?_, sy_I rfl, Or.inr ⟨rfl, rfl⟩⟩
    · rw [if_neg c, if_neg (by decide)]
    · rw [decide_eq_false c]; rfl
theorem jq_rectangles {x ol : os_T} {d : Int} (hN : 100000 < N) (hS : sv S) (hj : jr o oh P m S T H n U) (hd : ib d) : ∃ k c m2, ff_X12_rectangles N x o ol (Int32.ofInt d) = some (k, c) ∧ ff_X13_rectangles N m (Int32.ofInt d) = some (c, m2) ∧ sy (fun i => i = 0) (fun _ => False) m m2 ∧ ((k = 0 ∧ os_I m2 0 = 0) ∨ (k = 2 ∧ os_I m2 0 = 1)) := by
  have hHw := hj.2.2.2.2.2.1.wv hS
  have hr0 : rp (ss_I m 0 0) S T H := rp_I hj.2.2.1
  unfold ff_X12_rectangles ff_X13_rectangles
  rw [pc_ckl hS hj.1 hd, Option.bind_some, rc_isLayer hS hj.2.2.1 hd, Option.bind_some, rc_goes, Option.bind_some]
  by_cases c : 1 ≤ d ∧ d ≤ (S 2 : Int)
  · refine ⟨0, Int32.ofInt (q_cnt S (q_bb S H d)), ss_I m 0 0, ?_, ?_, sy_I rfl, Or.inl ⟨rfl, rfl⟩⟩
    · rw [if_pos c, if_pos rfl, pc_blocks (by omega) hS hj.1 hHw hd, Option.bind_some]
    · rw [decide_eq_true c]
      exact (oz_bt (b := true) rfl).trans ((congrArg (fun z => Option.bind z _) (rc_rects (by omega) hS hr0 hHw hd)).trans rfl)
  · refine ⟨2, 0, ss_I m 0 1, ?_, ?_, sy_I rfl, Or.inr ⟨rfl, rfl⟩⟩
    · rw [if_neg c, if_neg (by decide)]
    · rw [decide_eq_false c]; rfl
theorem jq_largest {x ol : os_T} {d : Int} (hN : 100000 < N) (hS : sv S) (hj : jr o oh P m S T H n U) (hd : ib d) : ∃ k c m2, ff_X12_largest N x o ol (Int32.ofInt d) = some (k, c) ∧ ff_X13_largest N m (Int32.ofInt d) = some (c, m2) ∧ sy (fun i => i = 0) (fun _ => False) m m2 ∧ ((k = 0 ∧ os_I m2 0 = 0) ∨ (k = 2 ∧ os_I m2 0 = 1)) := by
  have hHw := hj.2.2.2.2.2.1.wv hS
  have hr0 : rp (ss_I m 0 0) S T H := rp_I hj.2.2.1
  unfold ff_X12_largest ff_X13_largest
  rw [pc_ckl hS hj.1 hd, Option.bind_some, rc_isLayer hS hj.2.2.1 hd, Option.bind_some, rc_goes, Option.bind_some]
  by_cases c : 1 ≤ d ∧ d ≤ (S 2 : Int)
  · refine ⟨0, Int32.ofInt (gr (S 0) (S 1) (q_big S H d) (-1, 0, 0)).1, ss_I m 0 0, ?_, ?_, sy_I rfl, Or.inl ⟨rfl, rfl⟩⟩
    · rw [if_pos c, if_pos rfl, pc_big (by omega) hS hj.1 hHw hd, Option.bind_some]
    · rw [decide_eq_true c]
      exact (oz_bt (b := true) rfl).trans (rc_bigL (by omega) hS hr0 hHw hd)
  · refine ⟨2, 0, ss_I m 0 1, ?_, ?_, sy_I rfl, Or.inr ⟨rfl, rfl⟩⟩
    · rw [if_neg c, if_neg (by decide)]
    · rw [decide_eq_false c]; rfl
theorem jq_shortest {x ol : os_T} {d : Int} (hN : 100000 < N) (hS : sv S) (hj : jr o oh P m S T H n U) (hd : ib d) : ∃ k c m2, ff_X12_shortest N x o ol (Int32.ofInt d) = some (k, c) ∧ ff_X13_shortest N m (Int32.ofInt d) = some (c, m2) ∧ sy (fun i => i = 0) (fun _ => False) m m2 ∧ ((k = 0 ∧ os_I m2 0 = 0) ∨ (k = 2 ∧ os_I m2 0 = 1)) := by
  have hHw := hj.2.2.2.2.2.1.wv hS
  have hr0 : rp (ss_I m 0 0) S T H := rp_I hj.2.2.1
  unfold ff_X12_shortest ff_X13_shortest
  rw [pc_ckl hS hj.1 hd, Option.bind_some, rc_isLayer hS hj.2.2.1 hd, Option.bind_some, rc_goes, Option.bind_some]
  by_cases c : 1 ≤ d ∧ d ≤ (S 2 : Int)
  · refine ⟨0, Int32.ofInt (gr (S 0) (S 1) (q_sh S H d) 0), ss_I m 0 0, ?_, ?_, sy_I rfl, Or.inl ⟨rfl, rfl⟩⟩
    · rw [if_pos c, if_pos rfl, pc_short (by omega) hS hj.1 hHw hd, Option.bind_some]
    · rw [decide_eq_true c]
      exact (oz_bt (b := true) rfl).trans (rc_shortL (by omega) hS hr0 hHw hd)
  · refine ⟨2, 0, ss_I m 0 1, ?_, ?_, sy_I rfl, Or.inr ⟨rfl, rfl⟩⟩
    · rw [if_neg c, if_neg (by decide)]
    · rw [decide_eq_false c]; rfl
theorem jq_outline {x ol : os_T} {d : Int} (hN : 100000 < N) (hS : sv S) (hj : jr o oh P m S T H n U) (hd : ib d) : ∃ k c m2, ff_X12_outline N x o ol (Int32.ofInt d) = some (k, c) ∧ ff_X13_outline N m (Int32.ofInt d) = some (c, m2) ∧ sy (fun i => i = 0) (fun _ => False) m m2 ∧ ((k = 0 ∧ os_I m2 0 = 0) ∨ (k = 2 ∧ os_I m2 0 = 1)) := by
  have hHw := hj.2.2.2.2.2.1.wv hS
  have hr0 : rp (ss_I m 0 0) S T H := rp_I hj.2.2.1
  unfold ff_X12_outline ff_X13_outline
  rw [pc_ckl hS hj.1 hd, Option.bind_some, rc_isLayer hS hj.2.2.1 hd, Option.bind_some, rc_goes, Option.bind_some]
  by_cases c : 1 ≤ d ∧ d ≤ (S 2 : Int)
  · refine ⟨0, Int32.ofInt (gr (S 0) (S 1) (fun x y a => if il S H d x y then a + q_sd S H d x y else a) 0), ss_I m 0 0, ?_, ?_, sy_I rfl, Or.inl ⟨rfl, rfl⟩⟩
    · rw [if_pos c, if_pos rfl, pc_outl (by omega) hS hj.1 hHw hd, Option.bind_some]
    · rw [decide_eq_true c]
      exact (oz_bt (b := true) rfl).trans (rc_outlL (by omega) hS hr0 hHw hd)
  · refine ⟨2, 0, ss_I m 0 1, ?_, ?_, sy_I rfl, Or.inr ⟨rfl, rfl⟩⟩
    · rw [if_neg c, if_neg (by decide)]
    · rw [decide_eq_false c]; rfl
end Asks
