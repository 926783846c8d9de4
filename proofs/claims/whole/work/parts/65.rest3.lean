/-! LAYER 2. restore of the class against the reference's -/
section Rest3
variable {N : Nat} {x o oh m p sv0 sv1 : os_T} {P : Nat → os_T} {S : Nat → Nat} {T H : Int → Int → Int} {n : Nat} {U : Nat → (Int → Int → Int) × (Int → Int → Int)}
theorem pc_slot {a : Int} (ha : ib a) : ff_X12_checkSlot N x (Int32.ofInt a) = some (if 0 ≤ a ∧ a < 2 then 0 else 2) := by
  unfold ff_X12_checkSlot ff_X12_checkSlot_b9
  simp only [i0_lt ha]
  rw [ii_2, ii_lt ha (by omega)]
  by_cases c : 0 ≤ a ∧ a < 2
  · rw [if_neg (by omega), if_pos c.2, if_pos c]
  · rw [if_neg c]
    by_cases c1 : a < 0
    · rw [if_pos c1]
    · rw [if_neg c1, if_neg (by omega)]
theorem jr_restore {a : Int} (hN : 100000 < N) (hS : sv S) (hj : jr o oh P m S T H n U) (h0 : sl x m sv0 0) (h1 : sl x m sv1 1) (ha : ib a) : ∃ k c o2 oh2 m2 H2 n2, ff_X12_restore N x o sv0 sv1 oh (Int32.ofInt a) = some (k, c, o2, oh2) ∧ ff_X13_restore N m (Int32.ofInt a) = some (c, m2) ∧ jr o2 oh2 P m2 S T H2 n2 U ∧ fr m m2 ∧ ((k = 0 ∧ os_I m2 0 = 0) ∨ (k = 2 ∧ os_I m2 0 = 1) ∨ (k = 1 ∧ os_I m2 0 = 2)) := by
  unfold ff_X12_restore ff_X12_restore_b30
  rw [pc_slot ha, Option.bind_some]
  by_cases c : 0 ≤ a ∧ a < 2
  · rw [if_pos c, if_pos rfl]
    have hc : a = 0 ∨ a = 1 := by omega
    rcases hc with rfl | rfl
    · have in0 : os_in (0 : Int32) 2 := by decide
      have e0 : Int32.ofInt 0 = 0 := rfl
      have n0 : Int32.toNatClampNeg (0 : Int32) = 0 := by decide
      simp only [e0, if_pos in0, if_pos, n0]
      rcases jr_rest (j := 0) (N := N) (by decide) hN hS hj h0 with ⟨er, hz⟩ | ⟨hz, hf, c', o2, oh2, m2, H2, ed, ec, ef, er, hj2, hfr, h00⟩
      · refine ⟨1, 0, o, oh, ss_I m 0 2, H, n, ?_, er, jr_I hj, fr_I, Or.inr (Or.inr ⟨rfl, rfl⟩)⟩
        by_cases z : os_A x 0 0 = 0
        · rw [if_pos z]
        · rw [if_neg z, hz.resolve_left z, Option.bind_some, if_pos rfl]
      · refine ⟨0, c', o2, oh2, m2, H2, 0, ?_, er, hj2, hfr, Or.inl ⟨rfl, h00⟩⟩
        rw [if_neg hz, hf, Option.bind_some, if_neg (by decide), ed, Option.bind_some, ec, Option.bind_some, ef, Option.bind_some]
    · have in1 : os_in (Int32.ofInt 1) 2 := by decide
      have e1 : Int32.ofInt 1 = 1 := rfl
      have e10 : ¬ ((1 : Int32) = 0) := by decide
      have n1 : Int32.toNatClampNeg (1 : Int32) = 1 := by decide
      have in1' : os_in (1 : Int32) 2 := by decide
      simp only [e1, if_pos in1', if_neg e10, if_pos, n1]
      rcases jr_rest (j := 1) (N := N) (by decide) hN hS hj h1 with ⟨er, hz⟩ | ⟨hz, hf, c', o2, oh2, m2, H2, ed, ec, ef, er, hj2, hfr, h00⟩
      · refine ⟨1, 0, o, oh, ss_I m 0 2, H, n, ?_, er, jr_I hj, fr_I, Or.inr (Or.inr ⟨rfl, rfl⟩)⟩
        by_cases z : os_A x 0 1 = 0
        · rw [if_pos z]
        · rw [if_neg z, hz.resolve_left z, Option.bind_some, if_pos rfl]
      · refine ⟨0, c', o2, oh2, m2, H2, 0, ?_, er, hj2, hfr, Or.inl ⟨rfl, h00⟩⟩
        rw [if_neg hz, hf, Option.bind_some, if_neg (by decide), ed, Option.bind_some, ec, Option.bind_some, ef, Option.bind_some]
  · refine ⟨2, 0, o, oh, ss_I m 0 1, H, n, ?_, ?_, jr_I hj, fr_I, Or.inr (Or.inl ⟨rfl, rfl⟩)⟩
    · rw [if_neg c, if_neg (by decide)]
    · unfold ff_X13_restore
      rw [ia_j ha.1 ha.2, ij_0, ij_1, rc_isIn ha (by omega) (by omega), Option.bind_some, oz_ite, if_neg (by omega)]
      rfl
end Rest3
