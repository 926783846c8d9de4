/-! LAYER 2. Settings -/
section Setting
variable {N : Nat} {o oh m w : os_T} {P : Nat → os_T} {S : Nat → Nat} {T H : Int → Int → Int} {n : Nat} {U : Nat → (Int → Int → Int) × (Int → Int → Int)}
theorem jq_setting {x : os_T} {i : Int} (hS : sv S) (hj : jr o oh P m S T H n U) (hi : ib i) : ∃ k c m2, ff_X12_setting N x o (Int32.ofInt i) = some (k, c) ∧ ff_X13_setting N m (Int32.ofInt i) = some (c, m2) ∧ sy (fun i => i = 0) (fun _ => False) m m2 ∧ ((k = 0 ∧ os_I m2 0 = 0) ∨ (k = 2 ∧ os_I m2 0 = 1)) := by
  have h1 := hj.1.1
  have h2 := hj.2.2.1.1
  unfold ff_X13_setting
  rw [ia_j hi.1 hi.2, ij_0, ij_6, rc_isIn hi (by omega) (by omega), Option.bind_some, rc_goes, Option.bind_some]
  by_cases c : 0 ≤ i ∧ i ≤ 6
  · refine ⟨0, Int32.ofInt (S i.toNat), ss_I m 0 0, ?_, ?_, sy_I rfl, Or.inl ⟨rfl, rfl⟩⟩
    · have hc : i = 0 ∨ i = 1 ∨ i = 2 ∨ i = 3 ∨ i = 4 ∨ i = 5 ∨ i = 6 := by omega
      unfold ff_X12_setting
      rcases hc with rfl | rfl | rfl | rfl | rfl | rfl | rfl
      · exact congrArg some (congrArg (Prod.mk 0) (h1 0 (by decide)))
      · exact congrArg some (congrArg (Prod.mk 0) (h1 1 (by decide)))
      · exact congrArg some (congrArg (Prod.mk 0) (h1 2 (by decide)))
      · exact congrArg some (congrArg (Prod.mk 0) (h1 3 (by decide)))
      · exact congrArg some (congrArg (Prod.mk 0) (h1 4 (by decide)))
      · exact congrArg some (congrArg (Prod.mk 0) (h1 5 (by decide)))
      · exact congrArg some (congrArg (Prod.mk 0) (h1 6 (by decide)))
    · rw [decide_eq_true c]
      refine (oz_bt (b := true) rfl).trans ?_
      show (if os_in (Int32.ofInt i) 7 then some (os_A m 1 (Int32.toNatClampNeg (Int32.ofInt i)), ss_I m 0 0) else none) = _
      rw [if_pos (ia_in (by omega) (by omega) (by omega)), ia_nat (by omega) (by omega), h2 _ (by omega)]
  · refine ⟨2, 0, ss_I m 0 1, ?_, ?_, sy_I rfl, Or.inr ⟨rfl, rfl⟩⟩
    · unfold ff_X12_setting
      simp only [i0_eq hi]
      rw [if_neg (by omega)]
      rw [show (1 : Int32) = Int32.ofInt 1 from rfl, show (2 : Int32) = Int32.ofInt 2 from rfl, show (3 : Int32) = Int32.ofInt 3 from rfl, show (4 : Int32) = Int32.ofInt 4 from rfl, show (5 : Int32) = Int32.ofInt 5 from rfl, show (6 : Int32) = Int32.ofInt 6 from rfl]
      rw [ii_eq hi (by omega), if_neg (by omega), ii_eq hi (by omega), if_neg (by omega), ii_eq hi (by omega), if_neg (by omega), ii_eq hi (by omega), if_neg (by omega), ii_eq hi (by omega), if_neg (by omega), ii_eq hi (by omega), if_neg (by omega)]
    · rw [decide_eq_false c]; rfl
/-- the heights of another panel of the same form -/
theorem pc_copyF {p : os_T} {S2 : Nat → Nat} {T2 H2 : Int → Int → Int} (hS : sv S) (h : cp o S T H) (hp : cp p S2 T2 H2) (e0 : S2 0 = S 0) (e1 : S2 1 = S 1) : ∃ o', ff_X5_copyHeightsFrom N o p = some o' ∧ cp o' S T H2 := by
  refine ⟨_, rfl, h.1, h.2.1, fun x y c => ?_, h.2.2.2⟩
  have := ic_r hS c
  have c2 : ic S2 x y := by unfold ic at c ⊢; rw [e0, e1]; exact c
  exact (va_c (show (16 * y + x).toNat < 192 by omega)).trans (hp.2.2.1 x y c2)
theorem pc_form {p : os_T} {S2 : Nat → Nat} {T2 H2 : Int → Int → Int} (hS : sv S) (hS2 : sv S2) (h : cp o S T H) (hp : cp p S2 T2 H2) : ff_X5_hasFormOf N o p = some (oz (decide (S 0 = S2 0 ∧ S 1 = S2 1 ∧ S 2 = S2 2 ∧ S 4 = S2 4))) := by
  have a := sv_a hS
  have b := sv_a hS2
  unfold ff_X5_hasFormOf
  rw [h.1 0 (by decide), h.1 1 (by decide), h.1 2 (by decide), h.1 4 (by decide), hp.1 0 (by decide), hp.1 1 (by decide), hp.1 2 (by decide), hp.1 4 (by decide), ii_eq (by omega) (by omega), ii_eq (by omega) (by omega), ii_eq (by omega) (by omega), ii_eq (by omega) (by omega)]
  by_cases c : S 0 = S2 0 ∧ S 1 = S2 1 ∧ S 2 = S2 2 ∧ S 4 = S2 4
  · rw [decide_eq_true c, if_pos (by omega), if_pos (by omega), if_pos (by omega), if_pos (by omega)]; rfl
  · rw [decide_eq_false c]
    repeat' split
    all_goals first | rfl | (exfalso; omega)
end Setting
