/-! LAYER 2. Further questions: thin cells, steps, tones, supports, cells of a height -/
section Asks3
variable {N : Nat} {o oh m w : os_T} {P : Nat → os_T} {S : Nat → Nat} {T H : Int → Int → Int} {n : Nat} {U : Nat → (Int → Int → Int) × (Int → Int → Int)}
theorem jq_isThin {x : os_T} {a b : Int} (hN : 100000 < N) (hS : sv S) (hj : jr o oh P m S T H n U) (ha : ib a) (hb : ib b) : ∃ k c m2, ff_X12_isThin N x o (Int32.ofInt a) (Int32.ofInt b) = some (k, c) ∧ ff_X13_isThin N m (Int32.ofInt a) (Int32.ofInt b) = some (c, m2) ∧ os_z c ∧ sy (fun i => i = 0) (fun _ => False) m m2 ∧ ((k = 0 ∧ os_I m2 0 = 0) ∨ (k = 3 ∧ os_I m2 0 = 1)) := by
  have hHw := hj.2.2.2.2.2.1.wv hS
  have hr0 : rp (ss_I m 0 0) S T H := rp_I hj.2.2.1
  unfold ff_X12_isThin ff_X13_isThin
  rw [pc_chk hS hj.1 ha hb, Option.bind_some, rc_isCell hS hj.2.2.1 ha hb, Option.bind_some, rc_goes, Option.bind_some]
  by_cases c : ic S a b
  · refine ⟨0, oz (q_th S H a b), ss_I m 0 0, ?_, ?_, oz_z _, sy_I rfl, Or.inl ⟨rfl, rfl⟩⟩
    · rw [if_pos c, if_pos rfl, pc_thin (by omega) hS hj.1 hHw c, Option.bind_some, if_pos (oz_z _)]
    · rw [decide_eq_true c]
      refine (oz_bt (b := true) rfl).trans ?_
      show ((ff_X13_thin N (ss_I m 0 0) (Int32.ofInt a) (Int32.ofInt b)).bind _) = _
      rw [rc_thin (by omega) hS hr0 hHw c, Option.bind_some]
      cases q_th S H a b <;> rfl
  · refine ⟨3, 0, ss_I m 0 1, ?_, ?_, Or.inl rfl, sy_I rfl, Or.inr ⟨rfl, rfl⟩⟩
    · rw [if_neg c, if_neg (by decide)]
    · rw [decide_eq_false c]; rfl
theorem pc_cks {x : os_T} {d : Int} (hS : sv S) (h : cp o S T H) (hd : ib d) : ff_X12_checkStep N x o (Int32.ofInt d) = some (if 0 ≤ d ∧ d ≤ (S 2 : Int) then 0 else 2) := by
  have hs := sv_a hS
  unfold ff_X12_checkStep ff_X12_checkStep_b15
  simp only [i0_lt hd]
  rw [h.1 2 (by decide), ii_le hd (by omega)]
  by_cases c : 0 ≤ d ∧ d ≤ (S 2 : Int)
  · rw [if_neg (by omega), if_pos c.2, if_pos c]
  · rw [if_neg c]
    by_cases c1 : d < 0
    · rw [if_pos c1]
    · rw [if_neg c1, if_neg (by omega)]
theorem jq_light {x : os_T} {d : Int} (hN : 100000 < N) (hS : sv S) (hj : jr o oh P m S T H n U) (hd : ib d) : ∃ k c m2, ff_X12_light N x o (Int32.ofInt d) = some (k, c) ∧ ff_X13_light N m (Int32.ofInt d) = some (c, m2) ∧ sy (fun i => i = 0) (fun _ => False) m m2 ∧ ((k = 0 ∧ os_I m2 0 = 0) ∨ (k = 2 ∧ os_I m2 0 = 1)) := by
  have hs := sv_a hS
  have hr0 : rp (ss_I m 0 0) S T H := rp_I hj.2.2.1
  unfold ff_X12_light ff_X13_light
  rw [pc_cks hS hj.1 hd, Option.bind_some, if_pos nw_2, rs_2 hj.2.2.1, ia_j hd.1 hd.2, ia_j (by omega) (by omega), ij_0, rc_isIn hd (by omega) (by omega), Option.bind_some, rc_goes, Option.bind_some]
  by_cases c : 0 ≤ d ∧ d ≤ (S 2 : Int)
  · refine ⟨0, fl_l (S 3) d.toNat, ss_I m 0 0, ?_, ?_, sy_I rfl, Or.inl ⟨rfl, rfl⟩⟩
    · rw [if_pos c, if_pos rfl, pc_lightOf hj.1 c.1 (by omega), Option.bind_some]
    · rw [decide_eq_true c]
      refine (oz_bt (b := true) rfl).trans ?_
      show ((ff_X13_lightOf N (ss_I m 0 0) (Int32.ofInt d)).bind _) = _
      rw [rc_lightOf (by omega) hS hr0 c.1 (by omega), Option.bind_some]
      rfl
  · refine ⟨2, FP.fconst0, ss_I m 0 1, ?_, ?_, sy_I rfl, Or.inr ⟨rfl, rfl⟩⟩
    · rw [if_neg c, if_neg (by decide)]; rfl
    · rw [decide_eq_false c]; rfl
theorem jq_heightFor {x : os_T} {d : Int} (hN : 100000 < N) (hS : sv S) (hj : jr o oh P m S T H n U) (hd : ib d) : ∃ k c m2, ff_X12_heightFor N x o (Int32.ofInt d) = some (k, c) ∧ ff_X13_heightFor N m (Int32.ofInt d) = some (c, m2) ∧ sy (fun i => i = 0) (fun _ => False) m m2 ∧ ((k = 0 ∧ os_I m2 0 = 0) ∨ (k = 2 ∧ os_I m2 0 = 1)) := by
  have hr0 : rp (ss_I m 0 0) S T H := rp_I hj.2.2.1
  unfold ff_X12_heightFor ff_X13_heightFor ff_X12_checkTone
  rw [pc_isTone hd, Option.bind_some, oz_ite, ia_j hd.1 hd.2, ij_0, ij_255, rc_isIn hd (by omega) (by omega), Option.bind_some, rc_goes, Option.bind_some]
  by_cases c : 0 ≤ d ∧ d ≤ 255
  · have hw : fw_m 200 (fl_w d.toNat) := fl_w200 (by omega)
    refine ⟨0, Int32.ofInt (sh S (fl_w d.toNat) : Int), ss_I m 0 0, ?_, ?_, sy_I rfl, Or.inl ⟨rfl, rfl⟩⟩
    · rw [if_pos c, Option.bind_some, if_pos rfl, pc_wish c.1 c.2, Option.bind_some, pc_stepFor (by omega) hS hj.1 hw, Option.bind_some]
    · rw [decide_eq_true c]
      refine (oz_bt (b := true) rfl).trans ?_
      show ((ff_X13_wantedBy N (Int32.ofInt d)).bind fun u_6 => ((ff_X13_heightBy N (ss_I m 0 0) u_6).bind _)) = _
      rw [rc_wantedBy c.1 c.2, Option.bind_some, rc_heightBy (by omega) hS hr0 hw, Option.bind_some]
      rfl
  · refine ⟨2, 0, ss_I m 0 1, ?_, ?_, sy_I rfl, Or.inr ⟨rfl, rfl⟩⟩
    · rw [if_neg c, Option.bind_some, if_neg (by decide)]
    · rw [decide_eq_false c]; rfl
theorem jq_supportOf {x : os_T} {a b d : Int} (hN : 100000 < N) (hS : sv S) (hj : jr o oh P m S T H n U) (ha : ib a) (hb : ib b) (hd : ib d) : ∃ k c m2, ff_X12_supportOf N x o (Int32.ofInt a) (Int32.ofInt b) (Int32.ofInt d) = some (k, c) ∧ ff_X13_supportOf N m (Int32.ofInt a) (Int32.ofInt b) (Int32.ofInt d) = some (c, m2) ∧ sy (fun i => i = 0) (fun _ => False) m m2 ∧ ((k = 0 ∧ os_I m2 0 = 0) ∨ (k = 3 ∧ os_I m2 0 = 1) ∨ (k = 2 ∧ os_I m2 0 = 2)) := by
  have hHw := hj.2.2.2.2.2.1.wv hS
  have hr0 : rp (ss_I m 0 0) S T H := rp_I hj.2.2.1
  unfold ff_X12_supportOf ff_X13_supportOf ff_X12_supportOf_b24
  rw [pc_chk hS hj.1 ha hb, Option.bind_some, rc_isCell hS hj.2.2.1 ha hb, Option.bind_some, oz_ite]
  by_cases c : ic S a b
  · have h0 := hHw a b c
    rw [if_pos c, if_pos c, if_pos rfl, if_pos (rp_in hS c), rp_na hS c, rp_h hj.2.2.1 hS c, ia_j hd.1 hd.2, ia_j (by omega) (by omega), ij_1, rc_isIn hd (by omega) (by omega), Option.bind_some, oz_ite, ii_1, ii_lt hd (by omega), pc_heightAt hS hj.1 ha hb, if_pos c, Option.bind_some, ii_le hd (by omega)]
    by_cases c1 : 1 ≤ d ∧ d ≤ H a b
    · refine ⟨0, Int32.ofInt (q_len S H a b d), ss_I m 0 0, ?_, ?_, sy_I rfl, Or.inl ⟨rfl, rfl⟩⟩
      · rw [if_neg (by omega), if_pos c1.2, pc_len (by omega) hS hj.1 hHw c hd, Option.bind_some]
      · rw [if_pos c1]
        unfold ff_X13_supportOf_b44
        rw [rc_t0, Option.bind_some]
        show ff_X13_supportOf_b49 N m _ _ _ 0 = _
        unfold ff_X13_supportOf_b49
        rw [if_pos (by decide), rc_len (by omega) hS hr0 hHw c hd, Option.bind_some]
    · refine ⟨2, 0, ss_I m 0 2, ?_, ?_, sy_I rfl, Or.inr (Or.inr ⟨rfl, rfl⟩)⟩
      · by_cases c2 : d < 1
        · rw [if_pos c2]
        · rw [if_neg c2, if_neg (by omega)]
      · rw [if_neg c1]; rfl
  · refine ⟨3, 0, ss_I m 0 1, ?_, ?_, sy_I rfl, Or.inr (Or.inl ⟨rfl, rfl⟩)⟩
    · rw [if_neg c, if_neg (by decide)]
    · rw [if_neg c]; rfl
theorem rc_cellsOfL (hN : 1000 < N) (hS : sv S) (h : rp m S T H) (hH : wv S H) {v : Int} (hv : ib v) : ff_X13_cellsOf_l26 N N (m, Int32.ofInt v, Int32.ofInt 0, Int32.ofInt ((0 : Nat) : Int)) = some (Int32.ofInt (q_cnt S (fun x y => decide (H x y = v))), m) := by
  have hs := sv_a hS
  have hwh := sv_wh hS
  unfold ff_X13_cellsOf_l26
  refine lo_fo (N := N) (fun (a : Int) k => (m, Int32.ofInt v, Int32.ofInt a, Int32.ofInt (k : Int))) (fg (S 0) (fun x y a => a + (bif decide (H x y = v) then 1 else 0))) 0 (S 0 * S 1) ?_ ?_ (by omega)
  · intro k a hk _ r
    have hc := ic_k hS hk
    have hr := ic_r hS hc
    have h0 := hH _ _ hc
    show ff_X13_cellsOf_c26 N r m (Int32.ofInt v) (Int32.ofInt a) (Int32.ofInt (k : Int)) = r (m, Int32.ofInt v, Int32.ofInt (a + (bif decide (H ((k % S 0 : Nat) : Int) ((k / S 0 : Nat) : Int) = v) then 1 else 0)), Int32.ofInt ((k + 1 : Nat) : Int))
    unfold ff_X13_cellsOf_c26 ff_X13_cellsOf_b54
    rw [rc_cellMany h, Option.bind_some, ii_le (by omega) (by omega), if_neg (by omega), rc_cellAt hS h (by omega), Option.bind_some, if_pos (ia_in (by omega) (by omega) (by omega)), ia_nat (by omega) (by omega), rp_h h hS hc, ii_eq (by omega) hv]
    by_cases e : H ((k % S 0 : Nat) : Int) ((k / S 0 : Nat) : Int) = v
    · rw [if_pos e, decide_eq_true e, show ff_X13_truth N 1 = some (Int32.ofInt 1) from rfl, Option.bind_some, ia_add, ii_1, ia_s]; rfl
    · rw [if_neg e, decide_eq_false e, rc_t0, Option.bind_some, ia_add, ii_1, ia_s]; rfl
  · intro r
    show ff_X13_cellsOf_c26 N r m (Int32.ofInt v) _ (Int32.ofInt ((S 0 * S 1 : Nat) : Int)) = _
    unfold ff_X13_cellsOf_c26
    rw [rc_cellMany h, Option.bind_some, if_pos (Int32.le_refl _)]
    rfl
theorem jq_cellsOf {x : os_T} {d : Int} (hN : 100000 < N) (hS : sv S) (hj : jr o oh P m S T H n U) (hd : ib d) : ∃ k c m2, ff_X12_cellsOf N x o (Int32.ofInt d) = some (k, c) ∧ ff_X13_cellsOf N m (Int32.ofInt d) = some (c, m2) ∧ sy (fun i => i = 0) (fun _ => False) m m2 ∧ ((k = 0 ∧ os_I m2 0 = 0) ∨ (k = 2 ∧ os_I m2 0 = 1)) := by
  have hs := sv_a hS
  have hHw := hj.2.2.2.2.2.1.wv hS
  have hr0 : rp (ss_I m 0 0) S T H := rp_I hj.2.2.1
  unfold ff_X12_cellsOf ff_X13_cellsOf
  rw [pc_cks hS hj.1 hd, Option.bind_some, if_pos nw_2, rs_2 hj.2.2.1, ia_j hd.1 hd.2, ia_j (by omega) (by omega), ij_0, rc_isIn hd (by omega) (by omega), Option.bind_some, rc_goes, Option.bind_some]
  by_cases c : 0 ≤ d ∧ d ≤ (S 2 : Int)
  · refine ⟨0, Int32.ofInt (q_cnt S (fun x y => decide (H x y = d))), ss_I m 0 0, ?_, ?_, sy_I rfl, Or.inl ⟨rfl, rfl⟩⟩
    · rw [if_pos c, if_pos rfl, pc_countOf (by omega) hS hj.1 hHw hd, Option.bind_some]
    · rw [decide_eq_true c]
      exact (oz_bt (b := true) rfl).trans (rc_cellsOfL (by omega) hS hr0 hHw hd)
  · refine ⟨2, 0, ss_I m 0 1, ?_, ?_, sy_I rfl, Or.inr ⟨rfl, rfl⟩⟩
    · rw [if_neg c, if_neg (by decide)]
    · rw [decide_eq_false c]; rfl
end Asks3
