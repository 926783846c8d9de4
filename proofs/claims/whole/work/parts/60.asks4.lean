/-! LAYER 2. Questions about single rectangles; settings -/
section Asks4
variable {N : Nat} {o oh m w : os_T} {P : Nat → os_T} {S : Nat → Nat} {T H : Int → Int → Int} {n : Nat} {U : Nat → (Int → Int → Int) × (Int → Int → Int)}
theorem jq_rectangleAt {x ol : os_T} {d a b : Int} (hN : 100000 < N) (hS : sv S) (hj : jr o oh P m S T H n U) (hd : ib d) (ha : ib a) (hb : ib b) : ∃ k c m2, ff_X12_rectangleAt N x o ol (Int32.ofInt d) (Int32.ofInt a) (Int32.ofInt b) = some (k, c) ∧ ff_X13_rectangleAt N m (Int32.ofInt d) (Int32.ofInt a) (Int32.ofInt b) = some (c, m2) ∧ sy (fun i => i = 0) (fun _ => False) m m2 ∧ ((k = 0 ∧ os_I m2 0 = 0) ∨ (k = 3 ∧ os_I m2 0 = 1) ∨ (k = 2 ∧ os_I m2 0 = 2)) := by
  have hHw := hj.2.2.2.2.2.1.wv hS
  have hr0 : rp (ss_I m 0 0) S T H := rp_I hj.2.2.1
  unfold ff_X12_rectangleAt ff_X13_rectangleAt
  rw [pc_chk hS hj.1 ha hb, Option.bind_some, rc_isCell hS hj.2.2.1 ha hb, Option.bind_some, oz_ite, pc_ckl hS hj.1 hd, Option.bind_some, rc_isLayer hS hj.2.2.1 hd, Option.bind_some, oz_ite]
  by_cases c : ic S a b
  · rw [if_pos c, if_pos c, if_pos rfl]
    by_cases c1 : 1 ≤ d ∧ d ≤ (S 2 : Int)
    · refine ⟨0, Int32.ofInt (if il S H d a b then q_num S H d a b else -1), ss_I m 0 0, ?_, ?_, sy_I rfl, Or.inl ⟨rfl, rfl⟩⟩
      · rw [if_pos c1, if_pos rfl, pc_block (by omega) hS hj.1 hHw hd c, Option.bind_some]
      · rw [if_pos c1]
        unfold ff_X13_rectangleAt_b27
        rw [rc_t0, Option.bind_some]
        show ff_X13_rectangleAt_b32 N m _ _ _ 0 = _
        unfold ff_X13_rectangleAt_b32
        rw [if_pos (by decide), rc_isOf hS hr0 hHw ha hb hd, Option.bind_some, oz_ite]
        by_cases ci : il S H d a b
        · rw [if_pos ci, if_pos ci]
          exact rc_blockL (by omega) hS hr0 hHw hd ci
        · rw [if_neg ci, if_neg ci]; rfl
    · refine ⟨2, 0, ss_I m 0 2, ?_, ?_, sy_I rfl, Or.inr (Or.inr ⟨rfl, rfl⟩)⟩
      · rw [if_neg c1, if_neg (by decide)]
      · rw [if_neg c1]; rfl
  · refine ⟨3, 0, ss_I m 0 1, ?_, ?_, sy_I rfl, Or.inr (Or.inl ⟨rfl, rfl⟩)⟩
    · rw [if_neg c, if_neg (by decide)]
    · rw [if_neg c]; rfl
theorem jq_rectangle {x ol : os_T} {d i v : Int} (hN : 100000 < N) (hS : sv S) (hj : jr o oh P m S T H n U) (hd : ib d) (hi : ib i) (hv : ib v) : ∃ k c m2, ff_X12_rectangle N x o ol (Int32.ofInt d) (Int32.ofInt i) (Int32.ofInt v) = some (k, c) ∧ ff_X13_rectangle N m (Int32.ofInt d) (Int32.ofInt i) (Int32.ofInt v) = some (c, m2) ∧ sy (fun i => i = 0) (fun _ => False) m m2 ∧ ((k = 0 ∧ os_I m2 0 = 0) ∨ (k = 2 ∧ os_I m2 0 = 1) ∨ (k = 3 ∧ os_I m2 0 = 2)) := by
  have hHw := hj.2.2.2.2.2.1.wv hS
  have hwh := sv_wh hS
  have hr0 : rp (ss_I m 0 0) S T H := rp_I hj.2.2.1
  have hqb := q_ah_b (S := S) (H := H) (d := d) (S 0 * S 1)
  rw [q_ah_all] at hqb
  unfold ff_X12_rectangle ff_X13_rectangle ff_X12_rectangle_b14 ff_X13_rectangle_b21
  rw [pc_ckl hS hj.1 hd, Option.bind_some, rc_isLayer hS hj.2.2.1 hd, Option.bind_some, oz_ite, ia_j hv.1 hv.2, ij_0, ij_3, rc_isIn hv (by omega) (by omega), Option.bind_some, oz_ite, rc_rects (by omega) hS hj.2.2.1 hHw hd, Option.bind_some, ia_j hi.1 hi.2, ii_1, ia_sub, ia_j (by omega) (by omega), rc_isIn hi (by omega) (by omega), Option.bind_some, oz_ite]
  have e1 : ff_X13_rectangle_b52 N m (Int32.ofInt d) (Int32.ofInt i) (Int32.ofInt v) (Int32.ofInt 1) = some (0, ss_I m 0 1) := rfl
  have e2 : ff_X13_rectangle_b47 N m (Int32.ofInt d) (Int32.ofInt i) (Int32.ofInt v) (Int32.ofInt 1) = some (0, ss_I m 0 2) := rfl
  by_cases c1 : 1 ≤ d ∧ d ≤ (S 2 : Int)
  · rw [if_pos c1, if_pos c1, if_pos rfl]
    simp only [i0_lt hv]
    by_cases c2 : 0 ≤ v ∧ v ≤ 3
    · rw [if_neg (show ¬ v < 0 by omega), ii_3, ii_le hv (by omega), if_pos c2.2, if_pos c2]
      by_cases c3 : 0 ≤ i ∧ i ≤ q_cnt S (q_bb S H d) - 1
      · obtain ⟨k, hk, hbk, hak⟩ := q_ah_ex (S := S) (H := H) (d := d) c3.1 (S 0 * S 1) (by rw [q_ah_all]; omega)
        have hck := ic_k hS hk
        have hrk := ic_r hS hck
        have hbr : q_br S H d ((k % S 0 : Nat) : Int) ((k / S 0 : Nat) : Int) = true := by
          have h1 : q_bb S H d ((k % S 0 : Nat) : Int) ((k / S 0 : Nat) : Int) = true := hbk
          unfold q_bb at h1
          exact (Bool.and_eq_true _ _ ▸ h1).1
        refine ⟨0, Int32.ofInt (q_rv S H d v ((k % S 0 : Nat) : Int) ((k / S 0 : Nat) : Int)), ss_I m 0 0, ?_, ?_, sy_I rfl, Or.inl ⟨rfl, rfl⟩⟩
        · rw [pc_cornerY (by omega) hS hj.1 hHw hd hi hk hbk hak, Option.bind_some, ← ii_1, m1_eq (by omega), if_neg (by omega), pc_size (by omega) hS hj.1 hHw hd c2 hbr, Option.bind_some]
        · rw [if_pos c3]
          unfold ff_X13_rectangle_b47
          rw [rc_t0, Option.bind_some]
          show ff_X13_rectangle_b52 N m _ _ _ 0 = _
          unfold ff_X13_rectangle_b52
          rw [if_pos (by decide)]
          exact rc_rectL (by omega) hS hr0 hHw hd c2 hi hk hbk hak
      · refine ⟨3, 0, ss_I m 0 2, ?_, ?_, sy_I rfl, Or.inr (Or.inr ⟨rfl, rfl⟩)⟩
        · rw [pc_cornerN (by omega) hS hj.1 hHw hd hi (by omega), Option.bind_some]; rfl
        · rw [if_neg c3]; exact e2
    · refine ⟨2, 0, ss_I m 0 1, ?_, ?_, sy_I rfl, Or.inr (Or.inl ⟨rfl, rfl⟩)⟩
      · by_cases c3 : v < 0
        · rw [if_pos c3]
        · rw [if_neg c3, ii_3, ii_le hv (by omega), if_neg (by omega)]
      · rw [if_neg c2]; exact e1
  · refine ⟨2, 0, ss_I m 0 1, ?_, ?_, sy_I rfl, Or.inr (Or.inl ⟨rfl, rfl⟩)⟩
    · rw [if_neg c1, if_neg (by decide)]
    · rw [if_neg c1]; exact e1
end Asks4
