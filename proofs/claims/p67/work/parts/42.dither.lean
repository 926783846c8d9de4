/-! LAYER 2. Dithering -/
section Dither
variable {N : Nat} {o : os_T} {S : Nat → Nat} {T H : Int → Int → Int}
def q_le (S : Nat → Nat) (T : Int → Int → Int) (y : Int) : Nat → UInt32
  | 0 => FP.fconst0
  | x + 1 => FP.fsub (FP.fadd (fl_w (T x y).toNat) (q_le S T y x)) (fl_l (S 3) (sh S (FP.fadd (fl_w (T x y).toNat) (q_le S T y x))))
def q_lw (S : Nat → Nat) (T : Int → Int → Int) (y : Int) (x : Nat) : UInt32 := FP.fadd (fl_w (T x y).toNat) (q_le S T y x)
def q_dit (S : Nat → Nat) (T : Int → Int → Int) : Int → Int → Int := fun a b => (sh S (q_lw S T b a.toNat) : Int)
theorem fw_0 : fw_m 128 FP.fconst0 := by decide
theorem q_le_b (hS : sv S) (hT : tv S T) {y : Nat} (hy : y < S 1) : ∀ x : Nat, x ≤ S 0 → fw_m (128 + 4 * x) (q_le S T y x) := by
  have hs := sv_a hS
  intro x
  induction x with
  | zero => intro _; exact fw_0
  | succ x ih =>
    intro hx
    have hi := ih (by omega)
    have ht := hT _ _ (ic_n (S := S) (x := x) (y := y) (by omega) hy)
    have hw : fw_m (128 + 4 * x + 2) (FP.fadd (fl_w (T x y).toNat) (q_le S T y x)) := fw_add (fw_le (fl_wm (by omega)) (by omega)) hi (by omega)
    have hr := sh_r hS (fw_le hw (L := 200) (by omega))
    have hl : fw_m 128 (fl_l (S 3) (sh S (FP.fadd (fl_w (T x y).toNat) (q_le S T y x)))) := fl_m (by omega) (by omega) (by omega)
    exact fw_sub (K := 128 + 4 * x + 2) hw (fw_le hl (by omega)) (by omega)
theorem q_lw_b (hS : sv S) (hT : tv S T) {x y : Nat} (hx : x < S 0) (hy : y < S 1) : fw_m (128 + 4 * x + 2) (q_lw S T y x) := by
  have hs := sv_a hS
  have ht := hT _ _ (ic_n (S := S) (x := x) (y := y) hx hy)
  exact fw_add (fw_le (fl_wm (by omega)) (by omega)) (q_le_b hS hT hy x (by omega)) (by omega)
theorem q_lw_2 (hS : sv S) (hT : tv S T) {x y : Nat} (hx : x < S 0) (hy : y < S 1) : fw_m 200 (q_lw S T y x) := fw_le (q_lw_b hS hT hx hy) (by have := sv_a hS; omega)
theorem q_dit_r (hS : sv S) (hT : tv S T) {x y : Nat} (hx : x < S 0) (hy : y < S 1) : S 4 ≤ sh S (q_lw S T y x) ∧ sh S (q_lw S T y x) ≤ S 2 := sh_r hS (q_lw_2 hS hT hx hy)
theorem q_dit_at {x y : Nat} : q_dit S T x y = (sh S (q_lw S T y x) : Int) := by unfold q_dit; rw [Int.toNat_natCast]
theorem q_dit_hv (hS : sv S) (hT : tv S T) : hv S (q_dit S T) := fun x y c => by
  obtain ⟨c1, c2, c3, c4⟩ := c
  have := q_dit_r hS hT (x := x.toNat) (y := y.toNat) (by omega) (by omega)
  unfold q_dit
  rw [Int.toNat_of_nonneg c3] at this
  omega
theorem pc_spread (hN : 1000 < N) (hS : sv S) (h : cp o S T H) (hT : tv S T) (hH : hv S H) : ∃ o', ff_X2_spread N o = some (Int32.ofInt (q_df S H (q_vf S H (q_dit S T))), o') ∧ cp o' S T (q_vf S H (q_dit S T)) := by
  have hs := sv_a hS
  unfold ff_X2_spread ff_X2_spread_l4
  have key : ∃ v, (∃ o', v = some (Int32.ofInt (q_df S H (q_vf S H (q_dit S T))), o') ∧ cp o' S T (q_vf S H (q_dit S T))) ∧ os_loop (fun k4 s1 => ff_X2_spread_c4 N k4 s1.1 s1.2.1 s1.2.2) N (o, Int32.ofInt (q_df S H (q_vg S H (q_dit S T) 0 0)), Int32.ofInt ((0 : Nat) : Int)) = v := by
    refine vis_any (N := N) (step2 := fun k2 r2 s1 => ff_X2_spread_c17 N k2 r2 s1.1 s1.2.1 s1.2.2.1 s1.2.2.2.1 s1.2.2.2.2) hN hS (fun o G => cp o S T G) H (q_dit S T) h (fun o y => (o, Int32.ofInt (q_df S H (q_vg S H (q_dit S T) y 0)), Int32.ofInt (y : Int))) (fun o y x => (o, Int32.ofInt (q_df S H (q_vg S H (q_dit S T) y x)), Int32.ofInt (y : Int), q_le S T y x, Int32.ofInt (x : Int))) (fun v => ∃ o', v = some (Int32.ofInt (q_df S H (q_vf S H (q_dit S T))), o') ∧ cp o' S T (q_vf S H (q_dit S T))) ?_ ?_ ?_ ?_
    · intro y o' G hy h' r
      show ff_X2_spread_c4 N r o' _ (Int32.ofInt (y : Int)) = _
      unfold ff_X2_spread_c4
      rw [if_neg (pc_rN hS h' hy)]
      rfl
    · intro x y o' hx hy h'
      have hc : ic S (x : Int) (y : Int) := ic_n hx hy
      have ht := hT _ _ hc
      have hd := q_dit_r hS hT hx hy
      have hw := q_lw_2 hS hT hx hy
      have hle := q_le_b hS hT hy x (by omega)
      have hl : fw_m 128 (fl_l (S 3) (sh S (q_lw S T y x))) := fl_m (by omega) (by omega) (by omega)
      obtain ⟨o2, e2, h2⟩ := pc_build (N := N) (v := q_dit S T x y) hS h' (q_vg_wv (hH.wv hS) ((q_dit_hv hS hT).wv hS) y x) hc (by rw [q_dit_at]; omega)
      refine ⟨o2, h2, fun k r => ?_⟩
      rw [q_vg_at] at e2
      rw [q_dit_at] at e2 h2
      show ff_X2_spread_c17 N k r o' _ (Int32.ofInt (y : Int)) (q_le S T y x) (Int32.ofInt (x : Int)) = _
      unfold ff_X2_spread_c17
      rw [if_neg (pc_wN hS h' hx), pc_wishAt hS h' hT hc, Option.bind_some]
      show (if os_nn (q_lw S T y x) then _ else _) = _
      rw [if_pos (fq_nnF (fw_F hw (by decide)))]
      show ((ff_X5_stepFor N o' (q_lw S T y x)).bind _) = _
      rw [pc_stepFor hN hS h' hw, Option.bind_some, e2, Option.bind_some, pc_lightOf h2 (by omega) (by omega), Option.bind_some, Int.toNat_natCast]
      show (if os_nn (q_le S T y (x + 1)) then r (o2, Int32.ofInt (q_df S H (q_vg S H (q_dit S T) y x)) + Int32.ofInt (if H x y = (sh S (q_lw S T y x) : Int) then 0 else 1), _, q_le S T y (x + 1), _) else _) = _
      rw [if_pos (fq_nnF (fw_F (q_le_b hS hT hy (x + 1) (by omega)) (by omega))), ia_add, ← q_dit_at, ← q_df_hu hc q_vg_at, q_vg_s hc, ii_1, ia_s]
    · intro y o' G hy h' k r
      show ff_X2_spread_c17 N k r o' _ (Int32.ofInt (y : Int)) (q_le S T y (S 0)) (Int32.ofInt (S 0 : Int)) = _
      unfold ff_X2_spread_c17
      rw [if_pos (pc_wE h'), ii_1, ia_s, q_vg_r]
    · intro o' h'
      refine ⟨_, ⟨o', rfl, h'⟩, fun r => ?_⟩
      show ff_X2_spread_c4 N r o' _ (Int32.ofInt (S 1 : Int)) = _
      unfold ff_X2_spread_c4
      rw [if_pos (pc_rE h'), q_vg_f]
  obtain ⟨v, ⟨o', rfl, hm⟩, e⟩ := key
  rw [q_vg_0, q_df_self] at e
  exact ⟨o', e, hm⟩
end Dither
