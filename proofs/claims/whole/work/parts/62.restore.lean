/-! LAYER 2. What the reference lays back when it restores -/
section Restore
variable {N : Nat} {m : os_T} {S : Nat → Nat} {T H H2 : Int → Int → Int}
theorem rc_rest (hN : 1000 < N) (h : rp m S T H) {j : Nat} (hj : j < 2) (hA : a16 (fun k => os_A m 20 (192 * j + k)) H2) (b1 : ∀ k, k < 192 → ib (H ((k % 16 : Nat) : Int) ((k / 16 : Nat) : Int)) ∧ ib (H2 ((k % 16 : Nat) : Int) ((k / 16 : Nat) : Int))) : ∃ m2, ff_X13_restore_l52 N N (m, Int32.ofInt (j : Int), Int32.ofInt 0, Int32.ofInt ((0 : Nat) : Int)) = some (Int32.ofInt (q_16 H H2 192), m2) ∧ rp m2 S T H2 ∧ os_I m2 29 = 0 ∧ sy (fun i => i = 29) (fun j => j = 4) m m2 := by
  have key : ∃ v, (∃ m2, v = some (Int32.ofInt (q_16 H H2 192), m2) ∧ os_I m2 29 = 0 ∧ sy (fun i => i = 29) (fun j => j = 4) m m2 ∧ a16 (os_A m2 4) H2) ∧ ff_X13_restore_l52 N N (m, Int32.ofInt (j : Int), Int32.ofInt 0, Int32.ofInt ((0 : Nat) : Int)) = v := by
    unfold ff_X13_restore_l52
    refine lo_cnt (N := N) (fun k s => ∃ m2, s = (m2, Int32.ofInt (j : Int), Int32.ofInt (q_16 H H2 k), Int32.ofInt (k : Int)) ∧ sx (fun j => j = 4) m m2 ∧ (∀ i, i < k → os_A m2 4 i = Int32.ofInt (H2 ((i % 16 : Nat) : Int) ((i / 16 : Nat) : Int))) ∧ ∀ i, k ≤ i → i < 192 → os_A m2 4 i = Int32.ofInt (H ((i % 16 : Nat) : Int) ((i / 16 : Nat) : Int))) (fun v => ∃ m2, v = some (Int32.ofInt (q_16 H H2 192), m2) ∧ os_I m2 29 = 0 ∧ sy (fun i => i = 29) (fun j => j = 4) m m2 ∧ a16 (os_A m2 4) H2) 192 ?_ ?_ (by omega) ⟨m, rfl, sx.rf, fun i hi => absurd hi (Nat.not_lt_zero i), fun i _ hi => (rp_a h).2 i hi⟩
    · rintro k s hk ⟨m2, rfl, hx, hm1, hm2⟩
      obtain ⟨c1, c2⟩ := b1 k hk
      have h20 : os_A m2 20 (192 * j + k) = Int32.ofInt (H2 ((k % 16 : Nat) : Int) ((k / 16 : Nat) : Int)) := by rw [hx.2.2 20 (by decide)]; exact hA k hk
      refine ⟨_, ⟨ss_A m2 4 (upd (os_A m2 4) k (Int32.ofInt (H2 ((k % 16 : Nat) : Int) ((k / 16 : Nat) : Int)))), rfl, hx.tr (sx_A rfl), fun i hi => ?_, fun i hi hi2 => ?_⟩, fun r => ?_⟩
      · show upd (os_A m2 4) k _ i = _
        by_cases e : i = k
        · rw [e, up_eq]
        · rw [up_ne e]; exact hm1 i (by omega)
      · show upd (os_A m2 4) k _ i = _
        rw [up_ne (by omega)]; exact hm2 i (by omega) hi2
      · show ff_X13_restore_c52 N r m2 (Int32.ofInt (j : Int)) (Int32.ofInt (q_16 H H2 k)) (Int32.ofInt (k : Int)) = r (_, Int32.ofInt (j : Int), Int32.ofInt (q_16 H H2 k + (bif decide (H ((k % 16 : Nat) : Int) ((k / 16 : Nat) : Int) ≠ H2 ((k % 16 : Nat) : Int) ((k / 16 : Nat) : Int)) then 1 else 0)), _)
        have hk4 := hm2 k (Nat.le_refl k) hk
        have hin : os_in (Int32.ofInt (k : Int)) 192 := ia_in (by omega) (by omega) (by omega)
        have e1 : (192 : Int32) * Int32.ofInt (j : Int) + Int32.ofInt (k : Int) = Int32.ofInt ((192 * j + k : Nat) : Int) := by rw [ii_192, ia_mul, ia_add]; rfl
        have hin2 : os_in (Int32.ofInt ((192 * j + k : Nat) : Int)) 384 := ia_in (by omega) (by omega) (by omega)
        unfold ff_X13_restore_c52 ff_X13_restore_b89
        rw [e1]
        simp only [if_pos hin, if_pos hin2]
        rw [show (192 : Int32) = Int32.ofInt 192 from rfl, ii_le (by omega) (by omega), if_neg (by omega), ia_nat (by omega) (by omega), ia_nat (by omega) (by omega), Int.toNat_natCast, Int.toNat_natCast, hk4, h20, ii_eq c1 c2]
        by_cases e : H ((k % 16 : Nat) : Int) ((k / 16 : Nat) : Int) = H2 ((k % 16 : Nat) : Int) ((k / 16 : Nat) : Int)
        · rw [if_pos e, decide_eq_false (fun z => z e), rc_t0, Option.bind_some, ia_add, ii_1, ia_s]; rfl
        · rw [if_neg e, decide_eq_true e, show ff_X13_truth N 1 = some (Int32.ofInt 1) from rfl, Option.bind_some, ia_add, ii_1, ia_s]; rfl
    · rintro s ⟨m2, rfl, hx, hm1, hm2⟩
      refine ⟨_, ⟨ss_I m2 29 0, rfl, rfl, (hx.sy (K := fun i => i = 29)).tr (sy_I rfl), fun k hk => hm1 k hk⟩, fun r => ?_⟩
      show ff_X13_restore_c52 N r m2 _ _ (Int32.ofInt ((192 : Nat) : Int)) = _
      unfold ff_X13_restore_c52
      rw [if_pos (by decide)]
  obtain ⟨v, ⟨m2, rfl, h29, hx, q4⟩, e⟩ := key
  have hr := rp_a h
  exact ⟨m2, e, rp_mk (fun i hi => by rw [hx.2.2 1 (by decide)]; exact h.1 i hi) (by rw [hx.2.2 3 (by decide)]; exact hr.1) q4, h29, hx⟩
end Restore
