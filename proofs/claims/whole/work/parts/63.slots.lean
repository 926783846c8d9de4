/-! LAYER 2. Restoring, pairwise -/
section Slots
variable {N : Nat} {x o oh m p q : os_T} {P : Nat → os_T} {S : Nat → Nat} {T H : Int → Int → Int} {n : Nat} {U : Nat → (Int → Int → Int) × (Int → Int → Int)}
/-- what is kept in slot j on both sides -/
def sl (x m p : os_T) (j : Nat) : Prop := (os_A x 0 j = 0 ∧ os_A m 22 j = 0) ∨ (os_A x 0 j ≠ 0 ∧ os_A m 22 j ≠ 0 ∧ ∃ (S2 : Nat → Nat) (T2 H2 : Int → Int → Int), sv S2 ∧ hv S2 H2 ∧ cp p S2 T2 H2 ∧ (os_A m 21 (4 * j) = Int32.ofInt (S2 0 : Int) ∧ os_A m 21 (4 * j + 1) = Int32.ofInt (S2 1 : Int) ∧ os_A m 21 (4 * j + 2) = Int32.ofInt (S2 2 : Int) ∧ os_A m 21 (4 * j + 3) = Int32.ofInt (S2 4 : Int)) ∧ a16 (fun k => os_A m 20 (192 * j + k)) H2 ∧ ∀ a b : Int, 0 ≤ a → a < 16 → 0 ≤ b → b < 12 → ¬ ic S2 a b → H2 a b = 0)
theorem rc_can0 {j : Nat} (hj : j < 2) (z : os_A m 22 j = 0) : ff_X13_canRestore N m (Int32.ofInt (j : Int)) = some 0 := by
  unfold ff_X13_canRestore
  rw [if_pos (ia_in (by omega) (by omega) (by omega)), ia_nat (by omega) (by omega), Int.toNat_natCast, z, if_pos rfl]
theorem rc_can1 {S2 : Nat → Nat} (hS : sv S) (hS2 : sv S2) (h : rp m S T H) {j : Nat} (hj : j < 2) (z : os_A m 22 j ≠ 0) (hf : os_A m 21 (4 * j) = Int32.ofInt (S2 0 : Int) ∧ os_A m 21 (4 * j + 1) = Int32.ofInt (S2 1 : Int) ∧ os_A m 21 (4 * j + 2) = Int32.ofInt (S2 2 : Int) ∧ os_A m 21 (4 * j + 3) = Int32.ofInt (S2 4 : Int)) : ff_X13_canRestore N m (Int32.ofInt (j : Int)) = some (oz (decide (S 0 = S2 0 ∧ S 1 = S2 1 ∧ S 2 = S2 2 ∧ S 4 = S2 4))) := by
  have a := sv_a hS
  have b := sv_a hS2
  obtain ⟨f0, f1, f2, f3⟩ := hf
  have e0 : (4 : Int32) * Int32.ofInt (j : Int) = Int32.ofInt ((4 * j : Nat) : Int) := by rw [ii_4, ia_mul]; rfl
  have hin0 : os_in (Int32.ofInt ((4 * j : Nat) : Int)) 8 := ia_in (by omega) (by omega) (by omega)
  have hin1 : os_in (Int32.ofInt ((4 * j + 1 : Nat) : Int)) 8 := ia_in (by omega) (by omega) (by omega)
  have hin2 : os_in (Int32.ofInt ((4 * j + 2 : Nat) : Int)) 8 := ia_in (by omega) (by omega) (by omega)
  have hin3 : os_in (Int32.ofInt ((4 * j + 3 : Nat) : Int)) 8 := ia_in (by omega) (by omega) (by omega)
  have e1 : Int32.ofInt ((4 * j : Nat) : Int) + (1 : Int32) = Int32.ofInt ((4 * j + 1 : Nat) : Int) := by rw [ii_1, ia_add]; rfl
  have e2 : Int32.ofInt ((4 * j : Nat) : Int) + (2 : Int32) = Int32.ofInt ((4 * j + 2 : Nat) : Int) := by rw [ii_2, ia_add]; rfl
  have e3 : Int32.ofInt ((4 * j : Nat) : Int) + (3 : Int32) = Int32.ofInt ((4 * j + 3 : Nat) : Int) := by rw [ii_3, ia_add]; rfl
  unfold ff_X13_canRestore
  rw [e0, e1, e2, e3, rs_0 h, rs_1 h, rs_2 h, rs_4 h]
  simp only [if_pos nw_0, if_pos nw_1, if_pos nw_2, if_pos nw_4, if_pos hin0, if_pos hin1, if_pos hin2, if_pos hin3]
  rw [if_pos (ia_in (by omega) (by omega) (by omega)), ia_nat (a := (j : Int)) (by omega) (by omega), Int.toNat_natCast, if_neg z, ia_nat (a := ((4 * j : Nat) : Int)) (by omega) (by omega), ia_nat (a := ((4 * j + 1 : Nat) : Int)) (by omega) (by omega), ia_nat (a := ((4 * j + 2 : Nat) : Int)) (by omega) (by omega), ia_nat (a := ((4 * j + 3 : Nat) : Int)) (by omega) (by omega), Int.toNat_natCast, Int.toNat_natCast, Int.toNat_natCast, Int.toNat_natCast, f0, f1, f2, f3, ii_eq (by omega) (by omega), ii_eq (by omega) (by omega), ii_eq (by omega) (by omega), ii_eq (by omega) (by omega)]
  by_cases c : S 0 = S2 0 ∧ S 1 = S2 1 ∧ S 2 = S2 2 ∧ S 4 = S2 4
  · rw [decide_eq_true c, if_pos (by omega), if_pos (by omega), if_pos (by omega), if_pos (by omega)]; rfl
  · rw [decide_eq_false c]
    repeat' split
    all_goals first | rfl | (exfalso; omega)
end Slots
