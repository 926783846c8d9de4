/-! LAYER 2. Restoring, pairwise -/
section Rest2
variable {N : Nat} {x o oh m p sv0 sv1 : os_T} {P : Nat → os_T} {S : Nat → Nat} {T H : Int → Int → Int} {n : Nat} {U : Nat → (Int → Int → Int) × (Int → Int → Int)}
theorem pc_diffF {S2 : Nat → Nat} {T2 H2 : Int → Int → Int} (hN : 1000 < N) (hS : sv S) (hS2 : sv S2) (h : cp o S T H) (hH : wv S H) (hp : cp p S2 T2 H2) (f0 : S 0 = S2 0) (f1 : S 1 = S2 1) (hH2 : wv S H2) : ff_X5_differencesTo N o p  = some (Int32.ofInt (q_df S H H2)) := by
  have hs := sv_a hS
  unfold ff_X5_differencesTo ff_X5_differencesTo_l4
  refine lo_grid (N := N) (step2 := fun k2 r2 s1 => ff_X5_differencesTo_c15 N o p k2 r2 s1.1 s1.2.1 s1.2.2) (fun (a : Int) (y : Nat) => (Int32.ofInt a, Int32.ofInt (y : Int))) (fun (a : Int) (y x : Nat) => (Int32.ofInt a, Int32.ofInt (y : Int), Int32.ofInt (x : Int))) (S 0) (S 1) (fun x y a => a + (bif decide (H x y ≠ H2 x y) then 1 else 0)) (0) ?_ ?_ ?_ ?_ (by omega) (by omega)
  · intro a y r hy
    show ff_X5_differencesTo_c4 N o p r (Int32.ofInt a) (Int32.ofInt (y : Int)) = _
    unfold ff_X5_differencesTo_c4
    rw [if_neg (pc_rN hS h (by omega))]
    rfl
  · intro a x y k r hx hy ha
    have hc : ic S (x : Int) (y : Int) := ic_n hx (by omega)
    have hr := ic_r hS hc
    show ff_X5_differencesTo_c15 N o p k r (Int32.ofInt a) (Int32.ofInt (y : Int)) (Int32.ofInt (x : Int)) = _
    unfold ff_X5_differencesTo_c15
    rw [if_neg (pc_wN hS h hx)]
    have h0 := hH _ _ hc
    have h1 := hH2 _ _ hc
    have hc2 : ic S2 (x : Int) (y : Int) := by unfold ic at hc ⊢; rw [← f0, ← f1]; exact hc
    rw [pc_heightAt hS h (by omega) (by omega), if_pos hc, Option.bind_some, pc_heightAt hS2 hp (by omega) (by omega), if_pos hc2, Option.bind_some, ii_eq (by omega) (by omega)]
    unfold ff_X5_differencesTo_b44
    show _ = r (Int32.ofInt (a + (bif decide (H x y ≠ H2 x y) then 1 else 0)), _, _)
    by_cases c : H x y = H2 x y
    · rw [if_pos c, decide_eq_false (fun z => z c), ii_1, ia_s]
      show _ = r (Int32.ofInt (a + 0), _, _)
      rw [Int.add_zero]
    · rw [if_neg c, decide_eq_true c, ii_1, ia_add, ia_s]; rfl
  · intro a y k r hy ha
    show ff_X5_differencesTo_c15 N o p k r (Int32.ofInt a) (Int32.ofInt (y : Int)) (Int32.ofInt (S 0 : Int)) = _
    unfold ff_X5_differencesTo_c15
    rw [if_pos (pc_wE h), ii_1, ia_add]
    rfl
  · intro r
    show ff_X5_differencesTo_c4 N o p r _ (Int32.ofInt (S 1 : Int)) = _
    unfold ff_X5_differencesTo_c4
    rw [if_pos (pc_rE h)]
    all_goals rfl
theorem q_df_y {A B : Int → Int → Int} (hS : sv S) (h : ∀ a b : Int, 0 ≤ a → a < 16 → 0 ≤ b → b < 12 → ¬ ic S a b → A a b = B a b) : q_16 A B 192 = q_df S B A := q_16df hS h
theorem jr_rest {j : Nat} (hj2 : j < 2) (hN : 100000 < N) (hS : sv S) (hj : jr o oh P m S T H n U) (hs : sl x m p j) : (ff_X13_restore N m (Int32.ofInt (j : Int)) = some (0, ss_I m 0 2) ∧ (os_A x 0 j = 0 ∨ ff_X5_hasFormOf N o p = some 0)) ∨ (os_A x 0 j ≠ 0 ∧ ff_X5_hasFormOf N o p = some 1 ∧ ∃ c o2 oh2 m2 H2, ff_X5_differencesTo N o p = some c ∧ ff_X5_copyHeightsFrom N o p = some o2 ∧ ff_X3_forget N oh = some oh2 ∧ ff_X13_restore N m (Int32.ofInt (j : Int)) = some (c, m2) ∧ jr o2 oh2 P m2 S T H2 0 U ∧ fr m m2 ∧ os_I m2 0 = 0) := by
  obtain ⟨j1, j2, j3, j4, j5, j6, jo, jU⟩ := id hj
  have b1 : 0 ≤ (j : Int) ∧ (j : Int) ≤ 1 := by omega
  have e2 : ff_X13_restore_b30 N m (Int32.ofInt (j : Int)) (1 : Int32) = some (0, ss_I m 0 2) := rfl
  unfold ff_X13_restore
  rw [ia_j (by omega) (by omega), ij_0, ij_1, rc_isIn (by omega) (by omega) (by omega), Option.bind_some, oz_ite, if_pos b1]
  rcases hs with ⟨z1, z2⟩ | ⟨z1, z2, S2, T2, H2, hS2, hH2, hp, hf, h20, hout⟩
  · refine Or.inl ⟨?_, Or.inl z1⟩
    rw [rc_can0 hj2 z2, Option.bind_some, if_pos rfl]
    exact e2
  · rw [rc_can1 hS hS2 j3 hj2 z2 hf, Option.bind_some, oz_ite]
    have hform := pc_form (N := N) hS hS2 j1 hp
    by_cases c : S 0 = S2 0 ∧ S 1 = S2 1 ∧ S 2 = S2 2 ∧ S 4 = S2 4
    · have hic : ∀ a b, ic S a b ↔ ic S2 a b := fun a b => by unfold ic; rw [c.1, c.2.1]
      have hH2S : hv S H2 := fun a b ci => by have := hH2 a b ((hic a b).mp ci); rw [c.2.2.1, c.2.2.2]; exact this
      have hov2 : ov S T H2 := fun a b h1 h2 h3 h4 h5 => ⟨(jo a b h1 h2 h3 h4 h5).1, hout a b h1 h2 h3 h4 (fun z => h5 ((hic a b).mpr z))⟩
      have ed := pc_diffF (N := N) (by omega) hS hS2 j1 (j6.wv hS) hp c.1 c.2.1 (hH2S.wv hS)
      obtain ⟨o2, ec, c2⟩ := pc_copyF (N := N) hS j1 hp c.1.symm c.2.1.symm
      obtain ⟨oh2, ef, hc2⟩ := pc_forget (N := N) (S' := S) (U' := U) j2
      have b2 := ov_16 hS j5 hH2S hov2
      have b3 := ov_16 hS j5 j6 jo
      obtain ⟨m2, em, r2, h29, hx⟩ := rc_rest (N := N) (by omega) (rp_I (v := 0) j3) hj2 h20 (fun k hk => ⟨(b3 k hk).1, (b2 k hk).1⟩)
      have hq : q_16 H H2 192 = q_df S H H2 := by
        rw [q_16df hS (fun a b h1 h2 h3 h4 h5 => by rw [(jo a b h1 h2 h3 h4 h5).2, (hov2 a b h1 h2 h3 h4 h5).2]), q_df_sy]
      rw [hq] at em
      have hfr : fr m m2 := fr_I.tr (hx.mono (fun i e => Or.inr e) (fun j e => Or.inr (Or.inl e)))
      refine Or.inr ⟨z1, ?_, Int32.ofInt (q_df S H H2), o2, oh2, m2, H2, ed, ec, ef, ?_, ⟨c2, hc2, r2, ⟨by omega, h29, fun i hi => absurd hi (Nat.not_lt_zero i)⟩, j5, hH2S, hov2, fun i hi => absurd hi (Nat.not_lt_zero i)⟩, hfr, ?_⟩
      · rw [hform, decide_eq_true c]; rfl
      · rw [if_pos c]
        unfold ff_X13_restore_b30
        rw [rc_t0, Option.bind_some]
        show ff_X13_restore_b35 N m (Int32.ofInt (j : Int)) 0 = _
        unfold ff_X13_restore_b35
        rw [if_pos (by decide)]
        exact em
      · exact hx.1 0 (by decide)
    · refine Or.inl ⟨?_, Or.inr ?_⟩
      · rw [if_neg c]; exact e2
      · rw [hform, decide_eq_false c]; rfl
end Rest2
