/-! LAYER 2. Saving, pairwise -/
section Save2
variable {N : Nat} {x o oh m p sv0 sv1 : os_T} {P : Nat → os_T} {S : Nat → Nat} {T H : Int → Int → Int} {n : Nat} {U : Nat → (Int → Int → Int) × (Int → Int → Int)}
/-- a slot that neither side touched -/
theorem sl_keep {x2 m2 : os_T} {j : Nat} (h : sl x m p j) (e0 : os_A x2 0 j = os_A x 0 j) (e1 : os_A m2 22 j = os_A m 22 j) (e2 : ∀ k, k < 4 → os_A m2 21 (4 * j + k) = os_A m 21 (4 * j + k)) (e3 : ∀ k, k < 192 → os_A m2 20 (192 * j + k) = os_A m 20 (192 * j + k)) : sl x2 m2 p j := by
  rcases h with ⟨z1, z2⟩ | ⟨z1, z2, S2, T2, H2, hS2, hH2, hp, hf, h20, hout⟩
  · exact Or.inl ⟨by rw [e0]; exact z1, by rw [e1]; exact z2⟩
  · exact Or.inr ⟨by rw [e0]; exact z1, by rw [e1]; exact z2, S2, T2, H2, hS2, hH2, hp, ⟨(e2 0 (by decide)).trans hf.1, (e2 1 (by decide)).trans hf.2.1, (e2 2 (by decide)).trans hf.2.2.1, (e2 3 (by decide)).trans hf.2.2.2⟩, fun k hk => (e3 k hk).trans (h20 k hk), hout⟩
theorem sl_new {x2 m2 : os_T} {j : Nat} (hS : sv S) (hj : jr o oh P m S T H n U) (hc : cp p S T H) (z1 : os_A x2 0 j ≠ 0) (z2 : os_A m2 22 j ≠ 0) (hf : os_A m2 21 (4 * j) = Int32.ofInt (S 0 : Int) ∧ os_A m2 21 (4 * j + 1) = Int32.ofInt (S 1 : Int) ∧ os_A m2 21 (4 * j + 2) = Int32.ofInt (S 2 : Int) ∧ os_A m2 21 (4 * j + 3) = Int32.ofInt (S 4 : Int)) (h20 : a16 (fun k => os_A m2 20 (192 * j + k)) H) : sl x2 m2 p j :=
  Or.inr ⟨z1, z2, S, T, H, hS, hj.2.2.2.2.2.1, hc, hf, h20, fun a b h1 h2 h3 h4 h5 => (hj.2.2.2.2.2.2.1 a b h1 h2 h3 h4 h5).2⟩
theorem jr_save {a : Int} (hN : 100000 < N) (hS : sv S) (hj : jr o oh P m S T H n U) (h0 : sl x m sv0 0) (h1 : sl x m sv1 1) (ha : ib a) : ∃ k c x2 s0 s1 m2, ff_X12_save N x o sv0 sv1 (Int32.ofInt a) = some (k, c, x2, s0, s1) ∧ ff_X13_save N m (Int32.ofInt a) = some (c, m2) ∧ jr o oh P m2 S T H n U ∧ sl x2 m2 s0 0 ∧ sl x2 m2 s1 1 ∧ sy (fun i => i = 0) (fun j => j = 20 ∨ j = 21 ∨ j = 22) m m2 ∧ ((k = 0 ∧ os_I m2 0 = 0) ∨ (k = 2 ∧ os_I m2 0 = 1)) := by
  have hr0 : rp (ss_I m 0 0) S T H := rp_I hj.2.2.1
  unfold ff_X12_save ff_X13_save
  rw [pc_slot ha, Option.bind_some, ia_j ha.1 ha.2, ij_0, ij_1, rc_isIn ha (by omega) (by omega), Option.bind_some, rc_goes, Option.bind_some]
  by_cases c : 0 ≤ a ∧ a ≤ 1
  · rw [if_pos (show 0 ≤ a ∧ a < 2 by omega), if_pos rfl, decide_eq_true c]
    have hc : a = 0 ∨ a = 1 := by omega
    rcases hc with rfl | rfl
    · obtain ⟨m2, e2, hx, z2, hf, h20, hk⟩ := rc_save (N := N) (j := 0) (by omega) hS hr0 (by decide)
      obtain ⟨s0, es, cs⟩ := pc_copy (N := N) (p := sv0) hS hj.1
      have hy : sy (fun i => i = 0) (fun j => j = 20 ∨ j = 21 ∨ j = 22) m m2 := (show sy (fun i => i = 0) (fun j => j = 20 ∨ j = 21 ∨ j = 22) m (ss_I m 0 0) from sy_I rfl).tr hx.sy
      refine ⟨0, Int32.ofInt (q_sum S H), ss_A x 0 (upd (os_A x 0) 0 1), s0, sv1, m2, ?_, (oz_bt (b := true) rfl).trans e2, hj.sy hy (by decide) (by decide) (by decide) (by decide) (by decide), sl_new hS hj cs (show upd (os_A x 0) 0 1 0 ≠ 0 by rw [up_eq]; decide) z2 hf h20, ?_, hy, Or.inl ⟨rfl, hx.1 0⟩⟩
      · have in0 : os_in (0 : Int32) 2 := by decide
        have e0 : Int32.ofInt 0 = 0 := rfl
        have n0 : Int32.toNatClampNeg (0 : Int32) = 0 := by decide
        simp only [e0, if_pos in0, if_pos, n0, nar_1]
        rw [es, Option.bind_some, pc_sum (by omega) hS hj.1, Option.bind_some]
      · obtain ⟨k1, k2, k3⟩ := hk 1 (by decide)
        exact sl_keep h1 (show upd (os_A x 0) 0 1 1 = os_A x 0 1 from up_ne (by decide)) k1 k2 k3
    · obtain ⟨m2, e2, hx, z2, hf, h20, hk⟩ := rc_save (N := N) (j := 1) (by omega) hS hr0 (by decide)
      obtain ⟨s1, es, cs⟩ := pc_copy (N := N) (p := sv1) hS hj.1
      have hy : sy (fun i => i = 0) (fun j => j = 20 ∨ j = 21 ∨ j = 22) m m2 := (show sy (fun i => i = 0) (fun j => j = 20 ∨ j = 21 ∨ j = 22) m (ss_I m 0 0) from sy_I rfl).tr hx.sy
      refine ⟨0, Int32.ofInt (q_sum S H), ss_A x 0 (upd (os_A x 0) 1 1), sv0, s1, m2, ?_, (oz_bt (b := true) rfl).trans e2, hj.sy hy (by decide) (by decide) (by decide) (by decide) (by decide), ?_, sl_new hS hj cs (show upd (os_A x 0) 1 1 1 ≠ 0 by rw [up_eq]; decide) z2 hf h20, hy, Or.inl ⟨rfl, hx.1 0⟩⟩
      · have in1 : os_in (1 : Int32) 2 := by decide
        have e1 : Int32.ofInt 1 = 1 := rfl
        have e10 : ¬ ((1 : Int32) = 0) := by decide
        have n1 : Int32.toNatClampNeg (1 : Int32) = 1 := by decide
        simp only [e1, if_pos in1, if_neg e10, if_pos, n1, nar_1]
        rw [es, Option.bind_some, pc_sum (by omega) hS hj.1, Option.bind_some]
      · obtain ⟨k1, k2, k3⟩ := hk 0 (by decide)
        exact sl_keep h0 (show upd (os_A x 0) 1 1 0 = os_A x 0 0 from up_ne (by decide)) k1 k2 k3
  · refine ⟨2, 0, x, sv0, sv1, ss_I m 0 1, ?_, ?_, jr_I hj, sl_keep h0 rfl rfl (fun _ _ => rfl) (fun _ _ => rfl), sl_keep h1 rfl rfl (fun _ _ => rfl) (fun _ _ => rfl), sy_I rfl, Or.inr ⟨rfl, rfl⟩⟩
    · rw [if_neg (show ¬ (0 ≤ a ∧ a < 2) by omega), if_neg (by decide)]
    · rw [decide_eq_false c]; rfl
end Save2
