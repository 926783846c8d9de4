/-! LAYER 2. What the reference keeps when it saves -/
section Save
variable {N : Nat} {m : os_T} {S : Nat → Nat} {T H : Int → Int → Int}
theorem rc_save (hN : 1000 < N) (hS : sv S) (h : rp m S T H) {j : Nat} (hj : j < 2) : ∃ m2, ff_X13_save_l18 N N (m, Int32.ofInt (j : Int), Int32.ofInt ((0 : Nat) : Int)) = some (Int32.ofInt (q_sum S H), m2) ∧ sx (fun j => j = 20 ∨ j = 21 ∨ j = 22) m m2 ∧ os_A m2 22 j ≠ 0 ∧ (os_A m2 21 (4 * j) = Int32.ofInt (S 0 : Int) ∧ os_A m2 21 (4 * j + 1) = Int32.ofInt (S 1 : Int) ∧ os_A m2 21 (4 * j + 2) = Int32.ofInt (S 2 : Int) ∧ os_A m2 21 (4 * j + 3) = Int32.ofInt (S 4 : Int)) ∧ a16 (fun k => os_A m2 20 (192 * j + k)) H ∧ (∀ i, i ≠ j → os_A m2 22 i = os_A m 22 i ∧ (∀ k, k < 4 → os_A m2 21 (4 * i + k) = os_A m 21 (4 * i + k)) ∧ ∀ k, k < 192 → os_A m2 20 (192 * i + k) = os_A m 20 (192 * i + k)) := by
  have key : ∃ v, (∃ m2, v = some (Int32.ofInt (q_sum S H), m2) ∧ sx (fun j => j = 20 ∨ j = 21 ∨ j = 22) m m2 ∧ os_A m2 22 j ≠ 0 ∧ (os_A m2 21 (4 * j) = Int32.ofInt (S 0 : Int) ∧ os_A m2 21 (4 * j + 1) = Int32.ofInt (S 1 : Int) ∧ os_A m2 21 (4 * j + 2) = Int32.ofInt (S 2 : Int) ∧ os_A m2 21 (4 * j + 3) = Int32.ofInt (S 4 : Int)) ∧ a16 (fun k => os_A m2 20 (192 * j + k)) H ∧ (∀ i, i ≠ j → os_A m2 22 i = os_A m 22 i ∧ (∀ k, k < 4 → os_A m2 21 (4 * i + k) = os_A m 21 (4 * i + k)) ∧ ∀ k, k < 192 → os_A m2 20 (192 * i + k) = os_A m 20 (192 * i + k))) ∧ ff_X13_save_l18 N N (m, Int32.ofInt (j : Int), Int32.ofInt ((0 : Nat) : Int)) = v := by
    unfold ff_X13_save_l18
    refine lo_cnt (N := N) (fun k s => ∃ m2, s = (m2, Int32.ofInt (j : Int), Int32.ofInt (k : Int)) ∧ sx (fun j => j = 20) m m2 ∧ (∀ i, i < k → os_A m2 20 (192 * j + i) = os_A m 4 i) ∧ ∀ i, i ≠ j → ∀ k, k < 192 → os_A m2 20 (192 * i + k) = os_A m 20 (192 * i + k)) _ 192 ?_ ?_ (by omega) ⟨m, rfl, sx.rf, fun i hi => absurd hi (Nat.not_lt_zero i), fun _ _ _ _ => rfl⟩
    · rintro k s hk ⟨m2, rfl, hx, hm1, hm2⟩
      refine ⟨_, ⟨ss_A m2 20 (upd (os_A m2 20) (192 * j + k) (os_A m2 4 k)), rfl, hx.tr (sx_A rfl), fun i hi => ?_, fun i hi k2 hk2 => ?_⟩, fun r => ?_⟩
      · show upd (os_A m2 20) (192 * j + k) _ (192 * j + i) = _
        by_cases e : i = k
        · rw [e, up_eq, hx.2.2 4 (by decide)]
        · rw [up_ne (by omega)]; exact hm1 i (by omega)
      · show upd (os_A m2 20) (192 * j + k) _ (192 * i + k2) = _
        rw [up_ne (by omega)]; exact hm2 i hi k2 hk2
      · show ff_X13_save_c18 N r m2 (Int32.ofInt (j : Int)) (Int32.ofInt (k : Int)) = _
        unfold ff_X13_save_c18
        have hin : os_in (Int32.ofInt (k : Int)) 192 := ia_in (by omega) (by omega) (by omega)
        have e1 : (192 : Int32) * Int32.ofInt (j : Int) + Int32.ofInt (k : Int) = Int32.ofInt ((192 * j + k : Nat) : Int) := by rw [ii_192, ia_mul, ia_add]; rfl
        have hin2 : os_in (Int32.ofInt ((192 * j + k : Nat) : Int)) 384 := ia_in (by omega) (by omega) (by omega)
        rw [e1]
        rw [if_neg (show ¬ ((192 : Int32) ≤ Int32.ofInt (k : Int)) by rw [ii_192, ia_le (by omega) (by omega) (by omega) (by omega)]; omega), if_pos hin, if_pos hin2, ia_nat (by omega) (by omega), ia_nat (by omega) (by omega), Int.toNat_natCast, Int.toNat_natCast, ii_1, ia_s]
    · rintro s ⟨m2, rfl, hx, hm1, hm2⟩
      have h2 := h.sx hx (by decide) (by decide) (by decide)
      have e0 : (4 : Int32) * Int32.ofInt (j : Int) = Int32.ofInt ((4 * j : Nat) : Int) := by rw [ii_4, ia_mul]; rfl
      have hin0 : os_in (Int32.ofInt ((4 * j : Nat) : Int)) 8 := ia_in (by omega) (by omega) (by omega)
      have hin1 : os_in (Int32.ofInt ((4 * j + 1 : Nat) : Int)) 8 := ia_in (by omega) (by omega) (by omega)
      have hin2 : os_in (Int32.ofInt ((4 * j + 2 : Nat) : Int)) 8 := ia_in (by omega) (by omega) (by omega)
      have hin3 : os_in (Int32.ofInt ((4 * j + 3 : Nat) : Int)) 8 := ia_in (by omega) (by omega) (by omega)
      have hinj : os_in (Int32.ofInt (j : Int)) 2 := ia_in (by omega) (by omega) (by omega)
      have e1 : Int32.ofInt ((4 * j : Nat) : Int) + (1 : Int32) = Int32.ofInt ((4 * j + 1 : Nat) : Int) := by rw [ii_1, ia_add]; rfl
      have e2 : Int32.ofInt ((4 * j : Nat) : Int) + (2 : Int32) = Int32.ofInt ((4 * j + 2 : Nat) : Int) := by rw [ii_2, ia_add]; rfl
      have e3 : Int32.ofInt ((4 * j : Nat) : Int) + (3 : Int32) = Int32.ofInt ((4 * j + 3 : Nat) : Int) := by rw [ii_3, ia_add]; rfl
      have n0 : Int32.toNatClampNeg (Int32.ofInt ((4 * j : Nat) : Int)) = 4 * j := by rw [ia_nat (by omega) (by omega), Int.toNat_natCast]
      have n1 : Int32.toNatClampNeg (Int32.ofInt ((4 * j + 1 : Nat) : Int)) = 4 * j + 1 := by rw [ia_nat (by omega) (by omega), Int.toNat_natCast]
      have n2 : Int32.toNatClampNeg (Int32.ofInt ((4 * j + 2 : Nat) : Int)) = 4 * j + 2 := by rw [ia_nat (by omega) (by omega), Int.toNat_natCast]
      have n3 : Int32.toNatClampNeg (Int32.ofInt ((4 * j + 3 : Nat) : Int)) = 4 * j + 3 := by rw [ia_nat (by omega) (by omega), Int.toNat_natCast]
      have nj : Int32.toNatClampNeg (Int32.ofInt (j : Int)) = j := by rw [ia_nat (by omega) (by omega), Int.toNat_natCast]
      generalize hm3 : ss_A (ss_A m2 21 (upd (upd (upd (upd (os_A m2 21) (4 * j) (Int32.ofInt (S 0 : Int))) (4 * j + 1) (Int32.ofInt (S 1 : Int))) (4 * j + 2) (Int32.ofInt (S 2 : Int))) (4 * j + 3) (Int32.ofInt (S 4 : Int)))) 22 (upd (os_A m2 22) j 1) = m3
      have x3 : sx (fun j => j = 21 ∨ j = 22) m2 m3 := by rw [← hm3]; exact (sx_A (Or.inl rfl)).tr (sx_A (Or.inr rfl))
      have a21 : os_A m3 21 = upd (upd (upd (upd (os_A m2 21) (4 * j) (Int32.ofInt (S 0 : Int))) (4 * j + 1) (Int32.ofInt (S 1 : Int))) (4 * j + 2) (Int32.ofInt (S 2 : Int))) (4 * j + 3) (Int32.ofInt (S 4 : Int)) := by rw [← hm3]; rfl
      have a22 : os_A m3 22 = upd (os_A m2 22) j 1 := by rw [← hm3]; rfl
      have a20 : os_A m3 20 = os_A m2 20 := x3.2.2 20 (by decide)
      have h3 := h2.sx x3 (by decide) (by decide) (by decide)
      refine ⟨_, ⟨m3, rfl, (hx.mono (fun j e => Or.inl e)).tr (x3.mono (fun j e => Or.inr e)), ?_, ⟨?_, ?_, ?_, ?_⟩, fun k hk => ?_, fun i hi => ⟨?_, fun k hk => ?_, fun k hk => ?_⟩⟩, fun r => ?_⟩
      · rw [a22, up_eq]; decide
      · rw [a21, up_ne (by omega), up_ne (by omega), up_ne (by omega), up_eq]
      · rw [a21, up_ne (by omega), up_ne (by omega), up_eq]
      · rw [a21, up_ne (by omega), up_eq]
      · rw [a21, up_eq]
      · show os_A m3 20 (192 * j + k) = _
        rw [a20, hm1 k hk]; exact (rp_a h).2 k hk
      · rw [a22, up_ne hi, hx.2.2 22 (by decide)]
      · rw [a21, up_ne (by omega), up_ne (by omega), up_ne (by omega), up_ne (by omega), hx.2.2 21 (by decide)]
      · rw [a20]; exact hm2 i hi k hk
      · show ff_X13_save_c18 N r m2 (Int32.ofInt (j : Int)) (Int32.ofInt ((192 : Nat) : Int)) = _
        unfold ff_X13_save_c18
        rw [if_pos (by decide), e0, e1, e2, e3]
        simp only [if_pos nw_0, if_pos nw_1, if_pos nw_2, if_pos nw_4, if_pos hin0, if_pos hin1, if_pos hin2, if_pos hin3, if_pos hinj]
        rw [n0, n1, n2, n3, nj, rs_0 h2, rs_1 h2, rs_2 h2, rs_4 h2, nar_1, hm3, rc_vol hN hS h3, Option.bind_some]
  obtain ⟨v, ⟨m2, rfl, hm⟩, e⟩ := key
  exact ⟨m2, e, hm⟩
end Save
