/-! LAYER 2. Polishing -/
section Polish
variable {N : Nat} {o : os_T} {S : Nat → Nat} {T H G : Int → Int → Int}
theorem fq_z0 {b : UInt32} (hb : fF b) (h : fz b = 0) : b = FP.fconst0 ∨ b = FP.Core.fzeroNeg := by
  have h1 : FP.Core.fcmp b 0 = some .eq := FP.Core.fcmp_eq.mpr ⟨hb.ne_nan, fq_0.ne_nan, h.trans fz_0.symm⟩
  have h2 := (FP.Core.zero_bits232 b).mp (FP.Core.zero_iff32.mp h1)
  have h3 := b.toNat_lt
  by_cases c : b.toNat = 0
  · exact Or.inl (UInt32.toNat_inj.mp c)
  · refine Or.inr (UInt32.toNat_inj.mp ?_)
    show b.toNat = 2147483648
    omega
theorem fz_1 : fz (1 : UInt32) = 1 := by decide +kernel
theorem fz_1F : FP.Core.val32 (1 : UInt32) ≠ .nan := by decide +kernel
theorem fz_z : fz FP.Core.fzeroNeg = 0 := by decide +kernel
theorem fq_anz {a b : UInt32} (ha : fF a) (hb : fF b) (a0 : 0 ≤ fz a) (b0 : 0 ≤ fz b) (hn : a ≠ FP.Core.fzeroNeg) : FP.fadd a b ≠ FP.Core.fzeroNeg := by
  intro e
  by_cases c : 0 < fz a + fz b
  · have := fz_add_ge (V := 1) ha hb fz_1F (by rw [fz_1]; omega)
    rw [e, fz_1, fz_z] at this
    omega
  · rcases fq_z0 ha (by omega) with rfl | rfl
    · rcases fq_z0 hb (by omega) with rfl | rfl
      · revert e; decide +kernel
      · revert e; decide +kernel
    · exact hn rfl
def fp_s (n : Nat) (a : UInt32) : Prop := fF a ∧ 0 ≤ fz a ∧ fz a ≤ n * fz f_1 ∧ a ≠ FP.Core.fzeroNeg
theorem fp_0 : fp_s 0 FP.fconst0 := ⟨fq_0, by rw [fz_0]; omega, by rw [fz_0]; simp, by decide⟩
theorem fp_add {a b : UInt32} {n : Nat} (hn : n + 1 ≤ 1000) (ha : fp_s n a) (hb : fF b ∧ 0 ≤ fz b ∧ fz b ≤ fz f_1) : fp_s (n + 1) (FP.fadd a b) := by
  obtain ⟨_, h2, h3, h4⟩ := fi_add hn ha.1 hb.1 ha.2.1 ha.2.2.1 hb.2.1 hb.2.2
  exact ⟨h2, h3, h4, fq_anz ha.1 hb.1 ha.2.1 hb.2.1 ha.2.2.2⟩
theorem fp_z {a : UInt32} {n : Nat} (ha : fp_s n a) : FP.fadd a FP.fconst0 = a := FP.Core.fadd_zero ha.1.ne_nan ha.2.2.2
theorem fp_n {a : UInt32} {n : Nat} (ha : fp_s n a) : os_nn a := fq_nnF ha.1
def q_51 (S : Nat → Nat) (T G : Int → Int → Int) (x y : Int) : UInt32 := FP.fadd FP.fconst0 (g_z S T G x y)
def q_52 (S : Nat → Nat) (T G : Int → Int → Int) (x y : Int) : UInt32 := FP.fadd (q_51 S T G x y) (g_z S T G (x - 1) y)
def q_53 (S : Nat → Nat) (T G : Int → Int → Int) (x y : Int) : UInt32 := FP.fadd (q_52 S T G x y) (g_z S T G (x + 1) y)
def q_54 (S : Nat → Nat) (T G : Int → Int → Int) (x y : Int) : UInt32 := FP.fadd (q_53 S T G x y) (g_z S T G x (y - 1))
def q_55 (S : Nat → Nat) (T G : Int → Int → Int) (x y : Int) : UInt32 := FP.fadd (q_54 S T G x y) (g_z S T G x (y + 1))
theorem q_5s (hS : sv S) (hG : hv S G) (hT : tv S T) {x y : Int} : fp_s 1 (q_51 S T G x y) ∧ fp_s 2 (q_52 S T G x y) ∧ fp_s 3 (q_53 S T G x y) ∧ fp_s 4 (q_54 S T G x y) ∧ fp_s 5 (q_55 S T G x y) := by
  have h1 := fp_add (by decide) fp_0 (g_zb hS hG hT (x := x) (y := y))
  have h2 := fp_add (by decide) h1 (g_zb hS hG hT (x := x - 1) (y := y))
  have h3 := fp_add (by decide) h2 (g_zb hS hG hT (x := x + 1) (y := y))
  have h4 := fp_add (by decide) h3 (g_zb hS hG hT (x := x) (y := y - 1))
  have h5 := fp_add (by decide) h4 (g_zb hS hG hT (x := x) (y := y + 1))
  exact ⟨h1, h2, h3, h4, h5⟩
theorem g_z_out {x y : Int} (c : ¬ ic S x y) : g_z S T G x y = FP.fconst0 := if_neg c
theorem hu_hu {x y u v : Int} : hu (hu G x y u) x y v = hu G x y v := by
  funext a b
  unfold hu
  split <;> rfl
def q_bf (S : Nat → Nat) (T G : Int → Int → Int) (x y lo : Int) : Nat → Int × UInt32
  | 0 => (lo, q_55 S T (hu G x y lo) x y)
  | n + 1 => if fz (q_55 S T (hu G x y (lo + ((n + 1 : Nat) : Int))) x y) < fz (q_bf S T G x y lo n).2 then (lo + ((n + 1 : Nat) : Int), q_55 S T (hu G x y (lo + ((n + 1 : Nat) : Int))) x y) else q_bf S T G x y lo n
def q_lo (S : Nat → Nat) (G : Int → Int → Int) (x y : Int) : Int := max (S 4) (G x y - 1)
def q_hi (S : Nat → Nat) (G : Int → Int → Int) (x y : Int) : Int := min (S 2) (G x y + 1)
def q_be (S : Nat → Nat) (T G : Int → Int → Int) (x y : Int) : Int := (q_bf S T G x y (q_lo S G x y) (q_hi S G x y - q_lo S G x y).toNat).1
theorem q_bf_r {x y lo : Int} (n : Nat) : lo ≤ (q_bf S T G x y lo n).1 ∧ (q_bf S T G x y lo n).1 ≤ lo + n := by
  induction n with
  | zero => exact ⟨Int.le_refl _, by show lo ≤ lo + (0 : Nat); omega⟩
  | succ n ih =>
    unfold q_bf
    split
    · show lo ≤ lo + ((n + 1 : Nat) : Int) ∧ lo + ((n + 1 : Nat) : Int) ≤ _; omega
    · omega
theorem q_bf_F (hS : sv S) (hG : hv S G) (hT : tv S T) {x y lo : Int} (n : Nat) (h1 : (S 4 : Int) ≤ lo) (h2 : lo + n ≤ S 2) : fF (q_bf S T G x y lo n).2 := by
  induction n with
  | zero => exact (q_5s hS (hu_hv hG (by omega)) hT).2.2.2.2.1
  | succ n ih =>
    unfold q_bf
    split
    · exact (q_5s hS (hu_hv hG (by omega)) hT).2.2.2.2.1
    · exact ih (by omega)
theorem q_be_r (hG : hv S G) {x y : Int} (hc : ic S x y) : (S 4 : Int) ≤ q_be S T G x y ∧ q_be S T G x y ≤ S 2 := by
  have h0 := hG x y hc
  have := q_bf_r (S := S) (T := T) (G := G) (x := x) (y := y) (lo := q_lo S G x y) (q_hi S G x y - q_lo S G x y).toNat
  unfold q_be
  unfold q_lo q_hi at *
  omega
theorem pc_cell (hN : 1000 < N) (hS : sv S) (h : cp o S T G) (hG : hv S G) (hT : tv S T) {x y : Int} (hc : ic S x y) : ∃ o', ff_X2_refineCell N o (Int32.ofInt x) (Int32.ofInt y) = some (Int32.ofInt (if G x y = q_be S T G x y then 0 else 1), o') ∧ cp o' S T (hu G x y (q_be S T G x y)) := by
  have hs := sv_a hS
  have hr := ic_r hS hc
  have h0 := hG x y hc
  have elo : (if Int32.ofInt (G x y) - 1 < os_I o 4 then os_I o 4 else Int32.ofInt (G x y) - 1) = Int32.ofInt (q_lo S G x y) := by
    unfold q_lo
    rw [h.1 4 (by decide), ii_1, ia_sub, ii_lt (by omega) (by omega)]
    by_cases c : G x y - 1 < S 4
    · rw [if_pos c, Int.max_eq_left (by omega)]
    · rw [if_neg c, Int.max_eq_right (by omega)]
  have ehi : (if os_I o 2 < Int32.ofInt (G x y) + 1 then os_I o 2 else Int32.ofInt (G x y) + 1) = Int32.ofInt (q_hi S G x y) := by
    unfold q_hi
    rw [h.1 2 (by decide), ii_1, ia_add, ii_lt (by omega) (by omega)]
    by_cases c : (S 2 : Int) < G x y + 1
    · rw [if_pos c, Int.min_eq_left (by omega)]
    · rw [if_neg c, Int.min_eq_right (by omega)]
  unfold ff_X2_refineCell
  rw [pc_heightAt hS h (by omega) (by omega), if_pos hc, Option.bind_some, elo, ehi]
  have hlh : q_lo S G x y ≤ q_hi S G x y ∧ (S 4 : Int) ≤ q_lo S G x y ∧ q_hi S G x y ≤ S 2 := by unfold q_lo q_hi; omega
  have hbe : q_be S T G x y = (q_bf S T G x y (q_lo S G x y) (q_hi S G x y - q_lo S G x y).toNat).1 := rfl
  have hber := q_be_r (T := T) hG hc
  generalize q_lo S G x y = lo at *
  generalize q_hi S G x y = hi at *
  have key : ∃ v, (∃ o', v = some (Int32.ofInt (if G x y = q_be S T G x y then 0 else 1), o') ∧ cp o' S T (hu G x y (q_be S T G x y))) ∧ ff_X2_refineCell_l42 N N (o, Int32.ofInt x, Int32.ofInt y, Int32.ofInt (G x y), Int32.ofInt lo, Int32.ofInt hi, Int32.ofInt lo, FP.fconst0, Int32.ofInt lo) = v := by
    unfold ff_X2_refineCell_l42
    refine lo_cnt (N := N) (fun k s => ∃ o' b w u, s = (o', Int32.ofInt x, Int32.ofInt y, Int32.ofInt (G x y), Int32.ofInt lo, Int32.ofInt hi, Int32.ofInt b, w, Int32.ofInt (lo + (k : Int))) ∧ cp o' S T (hu G x y u) ∧ ((S 4 : Int) ≤ u ∧ u ≤ S 2) ∧ ∀ j : Nat, k = j + 1 → (b, w) = q_bf S T G x y lo j) (fun v => ∃ o', v = some (Int32.ofInt (if G x y = q_be S T G x y then 0 else 1), o') ∧ cp o' S T (hu G x y (q_be S T G x y))) ((hi - lo).toNat + 1) ?_ ?_ (by omega) ⟨o, lo, FP.fconst0, G x y, by rw [show lo + ((0 : Nat) : Int) = lo from Int.add_zero lo], by rw [hu_id]; exact h, h0, fun j e => by omega⟩
    · rintro k s hk ⟨o', b, w, u, rfl, h', hu', hb⟩
      have hv1 : (S 4 : Int) ≤ lo + k ∧ lo + k ≤ S 2 := by omega
      have hG1 := hu_hv (x := x) (y := y) hG hv1
      obtain ⟨o2, e2, h2⟩ := pc_build (N := N) (v := lo + k) hS h' ((hu_hv hG hu').wv hS) hc (by omega)
      rw [hu_hu] at h2
      obtain ⟨s1, s2, s3, s4, s5⟩ := q_5s hS hG1 hT (x := x) (y := y)
      have hstep : ∀ (r : _ → _), ff_X2_refineCell_c42 N r o' (Int32.ofInt x) (Int32.ofInt y) (Int32.ofInt (G x y)) (Int32.ofInt lo) (Int32.ofInt hi) (Int32.ofInt b) w (Int32.ofInt (lo + (k : Int))) = (if Int32.ofInt (lo + (k : Int)) = Int32.ofInt lo then r (o2, Int32.ofInt x, Int32.ofInt y, Int32.ofInt (G x y), Int32.ofInt lo, Int32.ofInt hi, Int32.ofInt (lo + (k : Int)), q_55 S T (hu G x y (lo + k)) x y, Int32.ofInt (lo + ((k + 1 : Nat) : Int))) else (if 0 ≤ (Op.cmpValue (FP.fcmp (q_55 S T (hu G x y (lo + k)) x y) w) CmpOp.g) then r (o2, Int32.ofInt x, Int32.ofInt y, Int32.ofInt (G x y), Int32.ofInt lo, Int32.ofInt hi, Int32.ofInt b, w, Int32.ofInt (lo + ((k + 1 : Nat) : Int))) else r (o2, Int32.ofInt x, Int32.ofInt y, Int32.ofInt (G x y), Int32.ofInt lo, Int32.ofInt hi, Int32.ofInt (lo + (k : Int)), q_55 S T (hu G x y (lo + k)) x y, Int32.ofInt (lo + ((k + 1 : Nat) : Int))))) := by
        intro r
        unfold ff_X2_refineCell_c42 ff_X2_refineCell_b139 ff_X2_refineCell_b147
        rw [ii_lt (by omega) (by omega), if_neg (by omega), e2, Option.bind_some, pc_size0 hS h2 hG1 hT (by omega) (by omega), Option.bind_some]
        show (if os_nn (q_51 S T (hu G x y (lo + k)) x y) then _ else _) = _
        rw [if_pos (fp_n s1), ii_1, ia_sub, pc_size0 hS h2 hG1 hT (by omega) (by omega), Option.bind_some]
        show (if os_nn (q_52 S T (hu G x y (lo + k)) x y) then _ else _) = _
        rw [if_pos (fp_n s2), ia_add, pc_size0 hS h2 hG1 hT (by omega) (by omega), Option.bind_some]
        show (if os_nn (q_53 S T (hu G x y (lo + k)) x y) then _ else _) = _
        rw [if_pos (fp_n s3), ia_sub, pc_size0 hS h2 hG1 hT (by omega) (by omega), Option.bind_some]
        show (if os_nn (q_54 S T (hu G x y (lo + k)) x y) then _ else _) = _
        rw [if_pos (fp_n s4), ia_add, pc_size0 hS h2 hG1 hT (by omega) (by omega), Option.bind_some]
        show (if os_nn (q_55 S T (hu G x y (lo + k)) x y) then _ else _) = _
        rw [if_pos (fp_n s5), show Int32.ofInt (lo + (k : Int)) + Int32.ofInt 1 = Int32.ofInt (lo + ((k + 1 : Nat) : Int)) by rw [ia_add, Int.add_assoc]; rfl]
        rfl
      by_cases ck : k = 0
      · subst ck
        refine ⟨_, ⟨o2, lo + ((0 : Nat) : Int), q_55 S T (hu G x y (lo + ((0 : Nat) : Int))) x y, lo + ((0 : Nat) : Int), rfl, h2, hv1, fun j ej => ?_⟩, fun r => (hstep r).trans ?_⟩
        · have : j = 0 := by omega
          subst this
          rw [show lo + ((0 : Nat) : Int) = lo from Int.add_zero lo]
          rfl
        · rw [if_pos (by rw [show lo + ((0 : Nat) : Int) = lo from Int.add_zero lo])]
      · obtain ⟨j, rfl⟩ : ∃ j, k = j + 1 := ⟨k - 1, by omega⟩
        have hbj := hb j rfl
        have hwF := q_bf_F hS hG hT (x := x) (y := y) (lo := lo) j hlh.2.1 (by omega)
        have hcm : (0 ≤ Op.cmpValue (FP.fcmp (q_55 S T (hu G x y (lo + ((j + 1 : Nat) : Int))) x y) w) CmpOp.g) = ¬ (fz (q_55 S T (hu G x y (lo + ((j + 1 : Nat) : Int))) x y) < fz w) := by
          rw [show w = (q_bf S T G x y lo j).2 by rw [← hbj]] 
          simp only [cq_geg, ne_eq, fq_lt s5.1 hwF]
        have hne : ¬ (Int32.ofInt (lo + ((j + 1 : Nat) : Int)) = Int32.ofInt lo) := by
          rw [ia_eq (by omega) (by omega) (by omega) (by omega)]; omega
        by_cases cc : fz (q_55 S T (hu G x y (lo + ((j + 1 : Nat) : Int))) x y) < fz w
        · refine ⟨_, ⟨o2, lo + ((j + 1 : Nat) : Int), q_55 S T (hu G x y (lo + ((j + 1 : Nat) : Int))) x y, lo + ((j + 1 : Nat) : Int), rfl, h2, hv1, fun i ei => ?_⟩, fun r => (hstep r).trans ?_⟩
          · have : i = j + 1 := by omega
            subst this
            unfold q_bf
            rw [if_pos (by rw [← hbj]; exact cc)]
          · rw [if_neg hne]
            simp only [hcm]
            rw [if_neg (fun z => z cc)]
        · refine ⟨_, ⟨o2, b, w, lo + ((j + 1 : Nat) : Int), rfl, h2, hv1, fun i ei => ?_⟩, fun r => (hstep r).trans ?_⟩
          · have : i = j + 1 := by omega
            subst this
            unfold q_bf
            rw [if_neg (by rw [← hbj]; exact cc)]
            exact hbj
          · rw [if_neg hne]
            simp only [hcm]
            rw [if_pos cc]
    · rintro s ⟨o', b, w, u, rfl, h', hu', hb⟩
      have hbj := hb _ rfl
      have hb1 : b = q_be S T G x y := by rw [hbe, ← hbj]
      obtain ⟨o2, e2, h2⟩ := pc_build (N := N) (v := q_be S T G x y) hS h' ((hu_hv hG hu').wv hS) hc (by omega)
      rw [hu_hu] at h2
      refine ⟨_, ⟨o2, rfl, h2⟩, fun r => ?_⟩
      show ff_X2_refineCell_c42 N r o' (Int32.ofInt x) (Int32.ofInt y) (Int32.ofInt (G x y)) (Int32.ofInt lo) (Int32.ofInt hi) (Int32.ofInt b) w (Int32.ofInt (lo + (((hi - lo).toNat + 1 : Nat) : Int))) = _
      unfold ff_X2_refineCell_c42
      rw [ii_lt (by omega) (by omega), if_pos (by omega), hb1, e2, Option.bind_some, ii_eq (by omega) (by omega)]
      by_cases c : q_be S T G x y = G x y
      · rw [if_pos c, if_pos c.symm]; rfl
      · rw [if_neg c, if_neg (show ¬ (G x y = q_be S T G x y) from fun z => c z.symm)]; rfl
  obtain ⟨v, ⟨o', rfl, hm⟩, e⟩ := key
  exact ⟨o', e, hm⟩
/-! all cells, one after another -/
def q_po (S : Nat → Nat) (T : Int → Int → Int) (n : Nat) (H : Int → Int → Int) : Int → Int → Int := fo (fg (S 0) (fun x y G => hu G x y (q_be S T G x y))) n H
theorem q_po_s (n : Nat) : q_po S T (n + 1) H = hu (q_po S T n H) ((n % S 0 : Nat) : Int) ((n / S 0 : Nat) : Int) (q_be S T (q_po S T n H) ((n % S 0 : Nat) : Int) ((n / S 0 : Nat) : Int)) := rfl
theorem q_po_i (hS : sv S) (hH : hv S H) (n : Nat) (hn : n ≤ S 0 * S 1) : hv S (q_po S T n H) ∧ (∀ x y, ¬ ic S x y → q_po S T n H x y = H x y) ∧ ∀ j, n ≤ j → j < S 0 * S 1 → q_po S T n H ((j % S 0 : Nat) : Int) ((j / S 0 : Nat) : Int) = H ((j % S 0 : Nat) : Int) ((j / S 0 : Nat) : Int) := by
  induction n with
  | zero => exact ⟨hH, fun _ _ _ => rfl, fun _ _ _ => rfl⟩
  | succ n ih =>
    obtain ⟨i1, i2, i3⟩ := ih (by omega)
    have hcn := ic_k hS (show n < S 0 * S 1 by omega)
    have hr := q_be_r (T := T) i1 hcn
    rw [q_po_s]
    refine ⟨hu_hv i1 hr, fun x y c => ?_, fun j hj hj2 => ?_⟩
    · rw [hu_ne (fun z => c (by rw [z.1, z.2]; exact hcn))]
      exact i2 x y c
    · rw [hu_ne (fun z => by have := ck_inj (Int.ofNat_inj.mp z.1) (Int.ofNat_inj.mp z.2); omega)]
      exact i3 j (by omega) hj2
theorem q_po_at (hS : sv S) (hH : hv S H) {x y : Nat} (hx : x < S 0) (hy : y < S 1) : q_po S T (S 0 * y + x) H x y = H x y := by
  have hlt := fg_lt hx hy
  have := (q_po_i (T := T) hS hH (S 0 * y + x) (by omega)).2.2 (S 0 * y + x) (Nat.le_refl _) hlt
  rw [fg_mod hx, fg_div hx] at this
  exact this
theorem q_po_x {x y : Nat} (hx : x < S 0) : hu (q_po S T (S 0 * y + x) H) x y (q_be S T (q_po S T (S 0 * y + x) H) x y) = q_po S T (S 0 * y + (x + 1)) H := by
  rw [← Nat.add_assoc, q_po_s, fg_mod hx, fg_div hx]
theorem pc_refine (hN : 1000 < N) (hS : sv S) (h : cp o S T H) (hT : tv S T) (hH : hv S H) : ∃ o', ff_X2_refine N o = some (Int32.ofInt (q_df S H (q_po S T (S 0 * S 1) H)), o') ∧ cp o' S T (q_po S T (S 0 * S 1) H) := by
  have hs := sv_a hS
  have key : ∃ v, (∃ o', v = some (Int32.ofInt (q_df S H (q_po S T (S 0 * S 1) H)), o') ∧ cp o' S T (q_po S T (S 0 * S 1) H)) ∧ ff_X2_refine_l4 N N (o, Int32.ofInt 0, Int32.ofInt ((0 : Nat) : Int)) = v := by
    unfold ff_X2_refine_l4
    refine lo_gridI (N := N) (step2 := fun k2 r2 s1 => ff_X2_refine_c14 N k2 r2 s1.1 s1.2.1 s1.2.2.1 s1.2.2.2) (fun y s => ∃ o', s = (o', Int32.ofInt (q_df S H (q_po S T (S 0 * y) H)), Int32.ofInt (y : Int)) ∧ cp o' S T (q_po S T (S 0 * y) H)) (fun y x s => ∃ o', s = (o', Int32.ofInt (q_df S H (q_po S T (S 0 * y + x) H)), Int32.ofInt (y : Int), Int32.ofInt (x : Int)) ∧ cp o' S T (q_po S T (S 0 * y + x) H)) (fun v => ∃ o', v = some (Int32.ofInt (q_df S H (q_po S T (S 0 * S 1) H)), o') ∧ cp o' S T (q_po S T (S 0 * S 1) H)) (S 0) (S 1) ?_ ?_ ?_ ?_ (by omega) (by omega) ⟨o, by rw [Nat.mul_zero, show q_po S T 0 H = H from rfl, q_df_self], h⟩
    · rintro y s hy ⟨o', rfl, h'⟩
      refine ⟨_, ⟨o', rfl, h'⟩, fun r => ?_⟩
      show ff_X2_refine_c4 N r o' _ (Int32.ofInt (y : Int)) = _
      unfold ff_X2_refine_c4
      rw [if_neg (pc_rN hS h' hy)]
      rfl
    · rintro x y s hx hy ⟨o', rfl, h'⟩
      have hc : ic S (x : Int) (y : Int) := ic_n hx hy
      have hlt := fg_lt hx hy
      have hG := (q_po_i (T := T) hS hH (S 0 * y + x) (by omega)).1
      have hat := q_po_at (T := T) hS hH hx hy
      obtain ⟨o2, e2, h2⟩ := pc_cell (N := N) hN hS h' hG hT hc
      refine ⟨_, ⟨o2, rfl, by rw [← q_po_x hx]; exact h2⟩, fun k r => ?_⟩
      show ff_X2_refine_c14 N k r o' _ (Int32.ofInt (y : Int)) (Int32.ofInt (x : Int)) = _
      unfold ff_X2_refine_c14
      rw [if_neg (pc_wN hS h' hx), e2, Option.bind_some]
      show r (_, Int32.ofInt (q_df S H (q_po S T (S 0 * y + x) H)) + Int32.ofInt (if q_po S T (S 0 * y + x) H x y = _ then 0 else 1), _, _) = _
      rw [hat, ia_add, ← q_df_hu hc hat, q_po_x hx, ii_1, ia_s]
    · rintro y s hy ⟨o', rfl, h'⟩
      refine ⟨_, ⟨o', rfl, by rw [Nat.mul_succ]; exact h'⟩, fun k r => ?_⟩
      show ff_X2_refine_c14 N k r o' _ (Int32.ofInt (y : Int)) (Int32.ofInt (S 0 : Int)) = _
      unfold ff_X2_refine_c14
      rw [if_pos (pc_wE h'), ii_1, ia_s, Nat.mul_succ]
    · rintro s ⟨o', rfl, h'⟩
      refine ⟨_, ⟨o', rfl, h'⟩, fun r => ?_⟩
      show ff_X2_refine_c4 N r o' _ (Int32.ofInt (S 1 : Int)) = _
      unfold ff_X2_refine_c4
      rw [if_pos (pc_rE h')]
  obtain ⟨v, ⟨o', rfl, hm⟩, e⟩ := key
  exact ⟨o', e, hm⟩
end Polish
