/-! LAYER 2. One change of both -/
section Acts
variable {zz : Nat → Nat → Nat} {N : Nat} {ot o os oh ow x p q : os_T} {P : Nat → os_T} {S : Nat → Nat} {T H F G : Int → Int → Int}
theorem ia_and (v : Int32) : ∃ a : Int, v &&& (2147483647 : Int32) = Int32.ofInt a ∧ 0 ≤ a ∧ a ≤ 2147483647 := by
  refine ⟨(v &&& (2147483647 : Int32)).toInt, (Int32.ofInt_toInt _).symm, ?_, by have := Int32.toInt_lt (v &&& (2147483647 : Int32)); omega⟩
  have hm : (v &&& (2147483647 : Int32)).toBitVec.msb = false := by
    rw [Int32.toBitVec_and, BitVec.msb_and]
    rw [show (2147483647 : Int32).toBitVec.msb = false by decide, Bool.and_false]
  show 0 ≤ (v &&& (2147483647 : Int32)).toBitVec.toInt
  rw [BitVec.toInt_eq_msb_cond, hm]
  simp only [Bool.false_eq_true, if_false]
  exact Int.natCast_nonneg _
theorem ia_mod {a b : Int} (h0 : 0 ≤ a) (h1 : a ≤ 2147483647) (h2 : 0 < b) (h3 : b ≤ 2147483647) : Int32.ofInt a - Int32.ofInt a / Int32.ofInt b * Int32.ofInt b = Int32.ofInt (a % b) := by
  rw [ia_div h0 h1 h2 h3, ia_mul, ia_sub, ia_emod]
theorem lp_cell (hzz : zz 4 1 ≤ 2147483647) {k : Int} (h0 : 0 ≤ k) (h1 : k ≤ 2147483647) : ∃ v, ff_L_cell zz N (Int32.ofInt k) = some v := by
  unfold ff_L_cell
  have e : Int32.ofNat (zz 4 1) = Int32.ofInt (zz 4 1 : Nat) := Int32.ofInt_eq_ofNat.symm
  rw [e, ii_le (by omega) (by omega)]
  by_cases c : ((zz 4 1 : Nat) : Int) ≤ k
  · rw [if_pos c]; exact ⟨_, rfl⟩
  · rw [if_neg c, if_pos (ia_in h0 (by omega) h1)]; exact ⟨_, rfl⟩
theorem lp_pick (hzz : zz 4 1 ≤ 2147483647) {k n : Int} (h0 : 0 ≤ k) (h1 : k ≤ 2147483647) (h2 : 1 ≤ n) (h3 : n ≤ 2147483647) : ∃ r, ff_L_pick zz N (Int32.ofInt k) (Int32.ofInt n) = some (Int32.ofInt r) ∧ 0 ≤ r ∧ r < n := by
  obtain ⟨v, ev⟩ := lp_cell (N := N) hzz h0 h1
  obtain ⟨a, ea, a0, a1⟩ := ia_and v
  refine ⟨a % n, ?_, Int.emod_nonneg _ (by omega), Int.emod_lt_of_pos _ (by omega)⟩
  unfold ff_L_pick
  rw [ev, Option.bind_some, ea, ia_mod a0 a1 (by omega) h3, if_pos (show ¬ (Int32.ofInt n = 0) by rw [i0_eq (by omega)]; omega)]
theorem q_rt_n {a b : Int} (h : 0 ≤ T a b ∧ T a b ≤ 255) : q_rt (-1) 255 T a b = q_neg T a b := by unfold q_rt q_neg; omega
theorem q_rt_b {m a b : Int} : q_rt 1 m T a b = q_bri m T a b := by unfold q_rt q_bri; rw [Int.one_mul]
theorem q_vf_cg {F V W : Int → Int → Int} (h : ∀ a b, ic S a b → V a b = W a b) (a b : Int) : q_vf S F V a b = q_vf S F W a b := by
  unfold q_vf
  split
  · rename_i c; exact h a b c
  · rfl
theorem q_fol_cg {V W : Int → Int → Int} (h : ∀ a b, ic S a b → V a b = W a b) (a b : Int) (c : ic S a b) : q_fol S V a b = q_fol S W a b := by
  unfold q_fol
  rw [h a b c]
/-- what holds of both behind a change -/
def la_R (S : Nat → Nat) (ot : os_T) (r : Option (Int32 × os_T × os_T × os_T × os_T × os_T × os_T × os_T × os_T × os_T × os_T × os_T × os_T × os_T × os_T)) : Prop := ∃ (P' : Nat → os_T) (o' os' oh' ow' q' p' : os_T) (T' H' : Int → Int → Int), r = some ((1 : Int32), ot, o', os', oh', P' 0, P' 1, P' 2, P' 3, P' 4, P' 5, P' 6, ow', q', p') ∧ jc o' oh' P' S T' H' ∧ wm q' S T' ∧ wm p' S H'
theorem la_fill (hN : 100000 < N) (hS : sv S) (hj : jc o oh P S T H) (hx : wh x S) (hq : wm q S T) (hp : wm p S H) {vo vh vt : os_T} (hvh : wm vh S H) {cx cy v : Int} {w r : Nat} (c : ic S cx cy) (hw : 1 ≤ w ∧ cx + w ≤ S 0) (hr : 1 ≤ r ∧ cy + r ≤ S 1) (hv' : (S 4 : Int) ≤ v ∧ v ≤ S 2) : la_R S ot (ff_L_acts_l283 zz N x N (ot, p, q, o, os, oh, P 0, P 1, P 2, P 3, P 4, P 5, P 6, ow, vo, vh, vt, Int32.ofInt cx, Int32.ofInt cy, Int32.ofInt v, Int32.ofInt (w : Int), Int32.ofInt (r : Int), Int32.ofInt cy)) := by
  have hs := sv_a hS
  have hH := hj.2.2.1
  obtain ⟨P', oh', o', e1, hj'⟩ := cc_fill (N := N) (ot := ot) hN hS hj c hw hr hv'
  have key : ∃ p', wm p' S (q_rb H cx cy w v r 0) ∧ ∀ _ : Unit, ff_L_acts_l283 zz N x N (ot, p, q, o, os, oh, P 0, P 1, P 2, P 3, P 4, P 5, P 6, ow, vo, vh, vt, Int32.ofInt cx, Int32.ofInt cy, Int32.ofInt v, Int32.ofInt (w : Int), Int32.ofInt (r : Int), Int32.ofInt cy) = some ((1 : Int32), ot, o', os, oh', P' 0, P' 1, P' 2, P' 3, P' 4, P' 5, P' 6, ow, q, p') := by
    unfold ff_L_acts_l283
    refine lo_gridP (K := Unit) (N := N) (M := N) (step1 := fun _ k283 s1 => ff_L_acts_c283 zz N x k283 s1.1 s1.2.1 s1.2.2.1 s1.2.2.2.1 s1.2.2.2.2.1 s1.2.2.2.2.2.1 s1.2.2.2.2.2.2.1 s1.2.2.2.2.2.2.2.1 s1.2.2.2.2.2.2.2.2.1 s1.2.2.2.2.2.2.2.2.2.1 s1.2.2.2.2.2.2.2.2.2.2.1 s1.2.2.2.2.2.2.2.2.2.2.2.1 s1.2.2.2.2.2.2.2.2.2.2.2.2.1 s1.2.2.2.2.2.2.2.2.2.2.2.2.2.1 s1.2.2.2.2.2.2.2.2.2.2.2.2.2.2.1 s1.2.2.2.2.2.2.2.2.2.2.2.2.2.2.2.1 s1.2.2.2.2.2.2.2.2.2.2.2.2.2.2.2.2.1 s1.2.2.2.2.2.2.2.2.2.2.2.2.2.2.2.2.2.1 s1.2.2.2.2.2.2.2.2.2.2.2.2.2.2.2.2.2.2.1 s1.2.2.2.2.2.2.2.2.2.2.2.2.2.2.2.2.2.2.2.1 s1.2.2.2.2.2.2.2.2.2.2.2.2.2.2.2.2.2.2.2.2.1 s1.2.2.2.2.2.2.2.2.2.2.2.2.2.2.2.2.2.2.2.2.2.1 s1.2.2.2.2.2.2.2.2.2.2.2.2.2.2.2.2.2.2.2.2.2.2) (step2 := fun _ k283 k297 s1 => ff_L_acts_c297 zz N x k283 k297 s1.1 s1.2.1 s1.2.2.1 s1.2.2.2.1 s1.2.2.2.2.1 s1.2.2.2.2.2.1 s1.2.2.2.2.2.2.1 s1.2.2.2.2.2.2.2.1 s1.2.2.2.2.2.2.2.2.1 s1.2.2.2.2.2.2.2.2.2.1 s1.2.2.2.2.2.2.2.2.2.2.1 s1.2.2.2.2.2.2.2.2.2.2.2.1 s1.2.2.2.2.2.2.2.2.2.2.2.2.1 s1.2.2.2.2.2.2.2.2.2.2.2.2.2.1 s1.2.2.2.2.2.2.2.2.2.2.2.2.2.2.1 s1.2.2.2.2.2.2.2.2.2.2.2.2.2.2.2.1 s1.2.2.2.2.2.2.2.2.2.2.2.2.2.2.2.2.1 s1.2.2.2.2.2.2.2.2.2.2.2.2.2.2.2.2.2.1 s1.2.2.2.2.2.2.2.2.2.2.2.2.2.2.2.2.2.2.1 s1.2.2.2.2.2.2.2.2.2.2.2.2.2.2.2.2.2.2.2.1 s1.2.2.2.2.2.2.2.2.2.2.2.2.2.2.2.2.2.2.2.2.1 s1.2.2.2.2.2.2.2.2.2.2.2.2.2.2.2.2.2.2.2.2.2.1 s1.2.2.2.2.2.2.2.2.2.2.2.2.2.2.2.2.2.2.2.2.2.2.1 s1.2.2.2.2.2.2.2.2.2.2.2.2.2.2.2.2.2.2.2.2.2.2.2) (fun _ p' => some ((1 : Int32), ot, o', os, oh', P' 0, P' 1, P' 2, P' 3, P' 4, P' 5, P' 6, ow, q, p')) (fun (j : Nat) s => ∃ p', s = (ot, p', q, o, os, oh, P 0, P 1, P 2, P 3, P 4, P 5, P 6, ow, vo, vh, vt, Int32.ofInt cx, Int32.ofInt cy, Int32.ofInt v, Int32.ofInt (w : Int), Int32.ofInt (r : Int), Int32.ofInt (cy + j)) ∧ wm p' S (q_rb H cx cy w v j 0)) (fun (j i : Nat) s => ∃ p', s = (ot, p', q, o, os, oh, P 0, P 1, P 2, P 3, P 4, P 5, P 6, ow, vo, vh, vt, Int32.ofInt cx, Int32.ofInt cy, Int32.ofInt v, Int32.ofInt (w : Int), Int32.ofInt (r : Int), Int32.ofInt (cy + j), Int32.ofInt (cx + i)) ∧ wm p' S (q_rb H cx cy w v j i)) (fun p' => wm p' S (q_rb H cx cy w v r 0)) w r ?_ ?_ ?_ ?_ (by omega) (by omega) ⟨p, by rw [show cy + ((0 : Nat) : Int) = cy by omega], by rw [q_rb_0]; exact hp⟩
    · rintro j s hj1 ⟨p', rfl, h'⟩
      refine ⟨_, ⟨p', rfl, h'⟩, fun k rr => ?_⟩
      show ff_L_acts_c283 zz N x rr ot p' q o os oh (P 0) (P 1) (P 2) (P 3) (P 4) (P 5) (P 6) ow vo vh vt (Int32.ofInt cx) (Int32.ofInt cy) (Int32.ofInt v) (Int32.ofInt (w : Int)) (Int32.ofInt (r : Int)) (Int32.ofInt (cy + j)) = _
      unfold ff_L_acts_c283
      rw [ia_add, ii_le (by omega) (by omega), if_neg (by omega), show cx + ((0 : Nat) : Int) = cx by omega]
      rfl
    · rintro i j s hi hj1 ⟨p', rfl, h'⟩
      have hc : ic S (cx + i) (cy + j) := by unfold ic at c ⊢; omega
      obtain ⟨k1, k2, k3, k4⟩ := wg hS h' hc
      refine ⟨_, ⟨_, rfl, by rw [← q_rb_s hi]; exact wm_hu hS h' hc⟩, fun k rr r2 => ?_⟩
      show ff_L_acts_c297 zz N x rr r2 ot p' q o os oh (P 0) (P 1) (P 2) (P 3) (P 4) (P 5) (P 6) ow vo vh vt (Int32.ofInt cx) (Int32.ofInt cy) (Int32.ofInt v) (Int32.ofInt (w : Int)) (Int32.ofInt (r : Int)) (Int32.ofInt (cy + j)) (Int32.ofInt (cx + i)) = _
      unfold ff_L_acts_c297
      rw [ia_add, ii_le (by omega) (by omega), if_neg (by omega)]
      simp only [k1, k2, k3, if_true]
      rw [ii_1, ia_add, show cx + (i : Int) + 1 = cx + ((i + 1 : Nat) : Int) by omega]
    · rintro j s hj1 ⟨p', rfl, h'⟩
      refine ⟨_, ⟨p', rfl, by rw [← q_rb_r]; exact h'⟩, fun k rr r2 => ?_⟩
      show ff_L_acts_c297 zz N x rr r2 ot p' q o os oh (P 0) (P 1) (P 2) (P 3) (P 4) (P 5) (P 6) ow vo vh vt (Int32.ofInt cx) (Int32.ofInt cy) (Int32.ofInt v) (Int32.ofInt (w : Int)) (Int32.ofInt (r : Int)) (Int32.ofInt (cy + j)) (Int32.ofInt (cx + w)) = _
      unfold ff_L_acts_c297
      rw [ia_add, if_pos (Int32.le_refl _), ii_1, ia_add, show cy + (j : Int) + 1 = cy + ((j + 1 : Nat) : Int) by omega]
    · rintro s ⟨p', rfl, h'⟩
      refine ⟨p', h', fun k rr => ?_⟩
      show ff_L_acts_c283 zz N x rr ot p' q o os oh (P 0) (P 1) (P 2) (P 3) (P 4) (P 5) (P 6) ow vo vh vt (Int32.ofInt cx) (Int32.ofInt cy) (Int32.ofInt v) (Int32.ofInt (w : Int)) (Int32.ofInt (r : Int)) (Int32.ofInt (cy + r)) = _
      unfold ff_L_acts_c283
      rw [ia_add, if_pos (Int32.le_refl _), e1, Option.bind_some, if_pos rfl, wc_others (by omega) hS hx h' hvh ((q_rb_hv hH hv').wv hS) (hH.wv hS), Option.bind_some, q_df_sy, if_pos rfl]
  obtain ⟨p', hp', e⟩ := key
  exact ⟨P', o', os, oh', ow, q, p', T, _, e (), hj', hq, hp'⟩
theorem la_acts (hN : 100000 < N) (hzz : zz 4 1 ≤ 2147483647) (hS : sv S) (hz : wz S) (hj : jc o oh P S T H) (hx : wh x S) (hq : wm q S T) (hp : wm p S H) {i : Int} (hi : 0 ≤ i ∧ i ≤ 5) : la_R S ot (ff_L_acts zz N ot o os oh (P 0) (P 1) (P 2) (P 3) (P 4) (P 5) (P 6) ow x q p (Int32.ofInt i)) := by
  have hs := sv_a hS
  have hT := hj.2.1
  have hH := hj.2.2.1
  obtain ⟨r1, e1, a1, b1⟩ := lp_pick (N := N) (k := 300 + i) (n := 13) hzz (by omega) (by omega) (by omega) (by omega)
  obtain ⟨cx, e2, a2, b2⟩ := lp_pick (N := N) (k := 340 + i) (n := S 0) hzz (by omega) (by omega) (by omega) (by omega)
  obtain ⟨cy, e3, a3, b3⟩ := lp_pick (N := N) (k := 380 + i) (n := S 1) hzz (by omega) (by omega) (by omega) (by omega)
  obtain ⟨v, e4, a4, b4⟩ := lp_pick (N := N) (k := 420 + i) (n := 256) hzz (by omega) (by omega) (by omega) (by omega)
  have c : ic S cx cy := ⟨a2, b2, a3, b3⟩
  obtain ⟨vo, vt, vh, ec, hvo, hvt, hvh⟩ := wc_copy (N := N) hS hz hx hq hp
  have x0 := hx 0 (by decide)
  have x1 := hx 1 (by decide)
  have x2 := hx 2 (by decide)
  have x4 := hx 4 (by decide)
  have en : os_I x 2 - os_I x 4 + (1 : Int32) = Int32.ofInt ((S 2 : Int) - S 4 + 1) := by rw [x2, x4, ii_1, ia_sub, ia_add]
  have eh : os_I x 4 + (Int32.ofInt v - Int32.ofInt v / Int32.ofInt ((S 2 : Int) - S 4 + 1) * Int32.ofInt ((S 2 : Int) - S 4 + 1)) = Int32.ofInt (S 4 + v % ((S 2 : Int) - S 4 + 1)) := by rw [ia_mod (by omega) (by omega) (by omega) (by omega), x4, ia_add]
  have bh : (S 4 : Int) ≤ S 4 + v % ((S 2 : Int) - S 4 + 1) ∧ S 4 + v % ((S 2 : Int) - S 4 + 1) ≤ S 2 := by
    have m1 := Int.emod_nonneg v (show (S 2 : Int) - S 4 + 1 ≠ 0 by omega)
    have m2 := Int.emod_lt_of_pos v (show 0 < (S 2 : Int) - S 4 + 1 by omega)
    omega
  generalize S 4 + v % ((S 2 : Int) - S 4 + 1) = hh at eh bh
  obtain ⟨g1, g2, g3, g4⟩ := wg hS hq c
  obtain ⟨k1, k2, k3, k4⟩ := wg hS hp c
  obtain ⟨m1, m2, m3, m4⟩ := wg hS hvh c
  have ew : (1 : Int32) + (Int32.ofInt v - Int32.ofInt v / (os_I x 0 - Int32.ofInt cx) * (os_I x 0 - Int32.ofInt cx)) = Int32.ofInt ((1 + v % ((S 0 : Int) - cx)).toNat : Int) := by
    have n1 := Int.emod_nonneg v (show (S 0 : Int) - cx ≠ 0 by omega)
    rw [x0, ia_sub, ia_mod (by omega) (by omega) (by omega) (by omega), ii_1, ia_add, Int.toNat_of_nonneg (by omega)]
  have er : (1 : Int32) + (Int32.ofInt v - Int32.ofInt v / (os_I x 1 - Int32.ofInt cy) * (os_I x 1 - Int32.ofInt cy)) = Int32.ofInt ((1 + v % ((S 1 : Int) - cy)).toNat : Int) := by
    have n1 := Int.emod_nonneg v (show (S 1 : Int) - cy ≠ 0 by omega)
    rw [x1, ia_sub, ia_mod (by omega) (by omega) (by omega) (by omega), ii_1, ia_add, Int.toNat_of_nonneg (by omega)]
  have nw : ¬ (os_I x 0 - Int32.ofInt cx = 0) := by rw [x0, ia_sub, i0_eq (by omega)]; omega
  have nr : ¬ (os_I x 1 - Int32.ofInt cy = 0) := by rw [x1, ia_sub, i0_eq (by omega)]; omega
  have fw : 1 ≤ (1 + v % ((S 0 : Int) - cx)).toNat ∧ cx + (1 + v % ((S 0 : Int) - cx)).toNat ≤ S 0 := by
    have n1 := Int.emod_nonneg v (show (S 0 : Int) - cx ≠ 0 by omega)
    have n2 := Int.emod_lt_of_pos v (show 0 < (S 0 : Int) - cx by omega)
    omega
  have fr : 1 ≤ (1 + v % ((S 1 : Int) - cy)).toNat ∧ cy + (1 + v % ((S 1 : Int) - cy)).toNat ≤ S 1 := by
    have n1 := Int.emod_nonneg v (show (S 1 : Int) - cy ≠ 0 by omega)
    have n2 := Int.emod_lt_of_pos v (show 0 < (S 1 : Int) - cy by omega)
    omega
  unfold ff_L_acts
  rw [show (300 : Int32) + Int32.ofInt i = Int32.ofInt (300 + i) from ia_add 300 i, show (340 : Int32) + Int32.ofInt i = Int32.ofInt (340 + i) from ia_add 340 i, show (380 : Int32) + Int32.ofInt i = Int32.ofInt (380 + i) from ia_add 380 i, show (420 : Int32) + Int32.ofInt i = Int32.ofInt (420 + i) from ia_add 420 i, show (13 : Int32) = Int32.ofInt 13 from rfl, e1, Option.bind_some, x0, e2, Option.bind_some, x1, e3, Option.bind_some, show (256 : Int32) = Int32.ofInt 256 from rfl, e4, Option.bind_some, en, if_pos (show ¬ (Int32.ofInt ((S 2 : Int) - S 4 + 1) = 0) by rw [i0_eq (by omega)]; omega), ec, Option.bind_some, eh]
  rw [← x0, ← x1]
  obtain rfl | rfl | rfl | rfl | rfl | rfl | rfl | rfl | rfl | rfl | rfl | rfl | rfl : r1 = 0 ∨ r1 = 1 ∨ r1 = 2 ∨ r1 = 3 ∨ r1 = 4 ∨ r1 = 5 ∨ r1 = 6 ∨ r1 = 7 ∨ r1 = 8 ∨ r1 = 9 ∨ r1 = 10 ∨ r1 = 11 ∨ r1 = 12 := by omega
  · have hw : fw_m 200 (fl_w v.toNat) := fl_w200 (by omega)
    have hsr := sh_r hS hw
    obtain ⟨P', oh', o', e5, hj'⟩ := cc_setTone (N := N) (ot := ot) (t := v) hN hS hj c (by omega)
    have hp2 := wm_hu hS hp c (v := (sh S (fl_w v.toNat) : Int))
    have hq2 := wm_hu hS hq c (v := v)
    obtain ⟨y1, y2, y3, y4⟩ := wg hS hp2 c
    rw [hu_at] at y4
    refine ⟨P', o', os, oh', ow, _, _, _, _, ?_, hj', hq2, hp2⟩
    rw [if_pos (show Int32.ofInt 0 = 0 from rfl)]
    simp only [g1, g2, g3, k1, k2, k3, if_true, fl_wT a4]
    rw [if_pos (fl_wn (by omega)), wc_heightFor (by omega) hS hx hw, Option.bind_some, e5, Option.bind_some, if_pos rfl]
    simp only [y1, y2, y3, y4, if_true]
  · obtain ⟨P', oh', o', e5, hj'⟩ := cc_setHeight (N := N) (ot := ot) (v := hh) hN hS hj c bh
    have hp2 := wm_hu hS hp c (v := hh)
    refine ⟨P', o', os, oh', ow, q, _, T, _, ?_, hj', hq, hp2⟩
    rw [if_neg (show ¬ (Int32.ofInt 1 = 0) by decide), if_pos (show Int32.ofInt 1 = 1 from rfl)]
    simp only [k1, k2, k3, if_true]
    rw [e5, Option.bind_some, if_pos rfl]
    simp only [m1, m2, m3, m4, if_true]
  · obtain ⟨P', oh', o', e5, hj'⟩ := cc_setHeight (N := N) (ot := ot) (v := hh) hN hS hj c bh
    have hp2 := wm_hu hS hp c (v := hh)
    refine ⟨P', o', os, oh', ow, q, _, T, _, ?_, hj', hq, hp2⟩
    rw [if_neg (show ¬ (Int32.ofInt 2 = 0) by decide), if_neg (show ¬ (Int32.ofInt 2 = 1) by decide), if_pos (show Int32.ofInt 2 = 2 from rfl)]
    simp only [k1, k2, k3, if_true]
    rw [e5, Option.bind_some, if_pos rfl]
    simp only [m1, m2, m3, m4, if_true]
  · rw [if_neg (show ¬ (Int32.ofInt 3 = 0) by decide), if_neg (show ¬ (Int32.ofInt 3 = 1) by decide), if_neg (show ¬ (Int32.ofInt 3 = 2) by decide), if_pos (show Int32.ofInt 3 = 3 from rfl), if_pos nw, if_pos nr, ew, er]
    exact la_fill hN hS hj hx hq hp hvh c fw fr bh
  · rw [if_neg (show ¬ (Int32.ofInt 4 = 0) by decide), if_neg (show ¬ (Int32.ofInt 4 = 1) by decide), if_neg (show ¬ (Int32.ofInt 4 = 2) by decide), if_neg (show ¬ (Int32.ofInt 4 = 3) by decide), if_pos (show Int32.ofInt 4 = 4 from rfl), if_pos nw, if_pos nr, ew, er]
    exact la_fill hN hS hj hx hq hp hvh c fw fr bh
  · obtain ⟨P', oh', o', ow', e5, hj'⟩ := cc_repair (N := N) (ot := ot) (ow := ow) hN hS hj
    obtain ⟨p', e6, h'⟩ := wc_repair (N := N) (by omega) hS hz hx hp hH
    refine ⟨P', o', os, oh', ow', q, p', T, _, ?_, hj', hq, h'⟩
    rw [if_neg (show ¬ (Int32.ofInt 5 = 0) by decide), if_neg (show ¬ (Int32.ofInt 5 = 1) by decide), if_neg (show ¬ (Int32.ofInt 5 = 2) by decide), if_neg (show ¬ (Int32.ofInt 5 = 3) by decide), if_neg (show ¬ (Int32.ofInt 5 = 4) by decide), if_pos (show Int32.ofInt 5 = 5 from rfl), e5, Option.bind_some, e6, Option.bind_some, if_pos rfl]
  · obtain ⟨P', oh', o', e5, hj'⟩ := cc_dither (N := N) (ot := ot) hN hS hj
    obtain ⟨p', e6, h'⟩ := wc_dither (N := N) (by omega) hS hz hx hq hT hp hH
    refine ⟨P', o', os, oh', ow, q, p', T, _, ?_, hj', hq, h'⟩
    rw [if_neg (show ¬ (Int32.ofInt 6 = 0) by decide), if_neg (show ¬ (Int32.ofInt 6 = 1) by decide), if_neg (show ¬ (Int32.ofInt 6 = 2) by decide), if_neg (show ¬ (Int32.ofInt 6 = 3) by decide), if_neg (show ¬ (Int32.ofInt 6 = 4) by decide), if_neg (show ¬ (Int32.ofInt 6 = 5) by decide), if_pos (show Int32.ofInt 6 = 6 from rfl), e5, Option.bind_some, e6, Option.bind_some, if_pos rfl]
  · obtain ⟨P', oh', o', e5, hj'⟩ := cc_polish (N := N) (ot := ot) hN hS hj
    obtain ⟨p', e6, h'⟩ := wc_polish (N := N) (by omega) hS hz hx hq hT hp hH
    refine ⟨P', o', os, oh', ow, q, p', T, _, ?_, hj', hq, h'⟩
    rw [if_neg (show ¬ (Int32.ofInt 7 = 0) by decide), if_neg (show ¬ (Int32.ofInt 7 = 1) by decide), if_neg (show ¬ (Int32.ofInt 7 = 2) by decide), if_neg (show ¬ (Int32.ofInt 7 = 3) by decide), if_neg (show ¬ (Int32.ofInt 7 = 4) by decide), if_neg (show ¬ (Int32.ofInt 7 = 5) by decide), if_neg (show ¬ (Int32.ofInt 7 = 6) by decide), if_pos (show Int32.ofInt 7 = 7 from rfl), e5, Option.bind_some, e6, Option.bind_some, if_pos rfl]
  · obtain ⟨P', oh', o', e5, hj'⟩ := cc_invert (N := N) (ot := ot) hN hS hj
    obtain ⟨q', p', e6, hq', h'⟩ := wc_retone (N := N) (b := -1) (m := 255) (by omega) hS hz hx hq hT hp hH (Or.inr rfl) (by omega)
    have t1 : ∀ a b, ic S a b → q_rt (-1) 255 T a b = q_neg T a b := fun a b ca => q_rt_n (hT a b ca)
    have t2 : ∀ a b, ic S a b → q_vf S H (q_fol S (q_rt (-1) 255 T)) a b = q_vf S H (q_fol S (q_neg T)) a b := fun a b ca => q_vf_cg (q_fol_cg t1) a b
    refine ⟨P', o', os, oh', ow, q', p', _, _, ?_, hj', hq'.cg (fun a b ca => q_vf_cg t1 a b), h'.cg t2⟩
    rw [q_df_cg hS t2] at e6
    rw [if_neg (show ¬ (Int32.ofInt 8 = 0) by decide), if_neg (show ¬ (Int32.ofInt 8 = 1) by decide), if_neg (show ¬ (Int32.ofInt 8 = 2) by decide), if_neg (show ¬ (Int32.ofInt 8 = 3) by decide), if_neg (show ¬ (Int32.ofInt 8 = 4) by decide), if_neg (show ¬ (Int32.ofInt 8 = 5) by decide), if_neg (show ¬ (Int32.ofInt 8 = 6) by decide), if_neg (show ¬ (Int32.ofInt 8 = 7) by decide), if_pos (show Int32.ofInt 8 = 8 from rfl), e5, Option.bind_some, show (-1 : Int32) = Int32.ofInt (-1) from rfl, show (255 : Int32) = Int32.ofInt 255 from rfl, e6, Option.bind_some, if_pos rfl]
  · obtain ⟨P', oh', o', e5, hj'⟩ := cc_lighten (N := N) (ot := ot) (a := v - 128) hN hS hj (by omega)
    obtain ⟨q', p', e6, hq', h'⟩ := wc_retone (N := N) (b := 1) (m := v - 128) (by omega) hS hz hx hq hT hp hH (Or.inl rfl) (by omega)
    have t1 : ∀ a b, ic S a b → q_rt 1 (v - 128) T a b = q_bri (v - 128) T a b := fun a b ca => q_rt_b
    have t2 : ∀ a b, ic S a b → q_vf S H (q_fol S (q_rt 1 (v - 128) T)) a b = q_vf S H (q_fol S (q_bri (v - 128) T)) a b := fun a b ca => q_vf_cg (q_fol_cg t1) a b
    refine ⟨P', o', os, oh', ow, q', p', _, _, ?_, hj', hq'.cg (fun a b ca => q_vf_cg t1 a b), h'.cg t2⟩
    rw [q_df_cg hS t2] at e6
    rw [if_neg (show ¬ (Int32.ofInt 9 = 0) by decide), if_neg (show ¬ (Int32.ofInt 9 = 1) by decide), if_neg (show ¬ (Int32.ofInt 9 = 2) by decide), if_neg (show ¬ (Int32.ofInt 9 = 3) by decide), if_neg (show ¬ (Int32.ofInt 9 = 4) by decide), if_neg (show ¬ (Int32.ofInt 9 = 5) by decide), if_neg (show ¬ (Int32.ofInt 9 = 6) by decide), if_neg (show ¬ (Int32.ofInt 9 = 7) by decide), if_neg (show ¬ (Int32.ofInt 9 = 8) by decide), if_pos (show Int32.ofInt 9 = 9 from rfl), show Int32.ofInt v - (128 : Int32) = Int32.ofInt (v - 128) from ia_sub v 128, e5, Option.bind_some, if_pos rfl, show (1 : Int32) = Int32.ofInt 1 from rfl, e6, Option.bind_some, if_pos rfl]
  · obtain ⟨P', oh', o', e5, hj'⟩ := cc_mirror (N := N) (ot := ot) hN hS hj
    obtain ⟨q', p', e6, hq', h'⟩ := wc_mirror (N := N) (by omega) hS hz hx hq hp hH
    refine ⟨P', o', os, oh', ow, q', p', _, _, ?_, hj', hq', h'⟩
    rw [if_neg (show ¬ (Int32.ofInt 10 = 0) by decide), if_neg (show ¬ (Int32.ofInt 10 = 1) by decide), if_neg (show ¬ (Int32.ofInt 10 = 2) by decide), if_neg (show ¬ (Int32.ofInt 10 = 3) by decide), if_neg (show ¬ (Int32.ofInt 10 = 4) by decide), if_neg (show ¬ (Int32.ofInt 10 = 5) by decide), if_neg (show ¬ (Int32.ofInt 10 = 6) by decide), if_neg (show ¬ (Int32.ofInt 10 = 7) by decide), if_neg (show ¬ (Int32.ofInt 10 = 8) by decide), if_neg (show ¬ (Int32.ofInt 10 = 9) by decide), if_pos (show Int32.ofInt 10 = 10 from rfl), e5, Option.bind_some, e6, Option.bind_some, if_pos rfl]
  · obtain ⟨P', oh', o', e5, hj'⟩ := cc_ease (N := N) (ot := ot) hN hS hj
    obtain ⟨p', e6, h'⟩ := wc_ease (N := N) (by omega) hS hz hx hq hp hH
    refine ⟨P', o', os, oh', ow, q, p', T, _, ?_, hj', hq, h'⟩
    rw [if_neg (show ¬ (Int32.ofInt 11 = 0) by decide), if_neg (show ¬ (Int32.ofInt 11 = 1) by decide), if_neg (show ¬ (Int32.ofInt 11 = 2) by decide), if_neg (show ¬ (Int32.ofInt 11 = 3) by decide), if_neg (show ¬ (Int32.ofInt 11 = 4) by decide), if_neg (show ¬ (Int32.ofInt 11 = 5) by decide), if_neg (show ¬ (Int32.ofInt 11 = 6) by decide), if_neg (show ¬ (Int32.ofInt 11 = 7) by decide), if_neg (show ¬ (Int32.ofInt 11 = 8) by decide), if_neg (show ¬ (Int32.ofInt 11 = 9) by decide), if_neg (show ¬ (Int32.ofInt 11 = 10) by decide), if_pos (show Int32.ofInt 11 = 11 from rfl), e5, Option.bind_some, e6, Option.bind_some, if_pos rfl]
  · have n1 := Int.emod_nonneg v (show (9 : Int) ≠ 0 by omega)
    have n2 := Int.emod_lt_of_pos v (show (0 : Int) < 9 by omega)
    have e9 : (1 : Int32) + (Int32.ofInt v - Int32.ofInt v / (9 : Int32) * (9 : Int32)) = Int32.ofInt (1 + v % 9) := by rw [show (9 : Int32) = Int32.ofInt 9 from rfl, ia_mod (by omega) (by omega) (by omega) (by omega), ii_1, ia_add]
    obtain ⟨P', oh', o', os', e5, hj'⟩ := cc_smooth (N := N) (ot := ot) (os := os) (d := 1 + v % 9) hN hS hj (by omega)
    obtain ⟨p', e6, h'⟩ := wc_smooth (N := N) (d := 1 + v % 9) (by omega) hS hz hx hq hp hH (by omega)
    refine ⟨P', o', os', oh', ow, q, p', T, _, ?_, hj', hq, h'⟩
    rw [if_neg (show ¬ (Int32.ofInt 12 = 0) by decide), if_neg (show ¬ (Int32.ofInt 12 = 1) by decide), if_neg (show ¬ (Int32.ofInt 12 = 2) by decide), if_neg (show ¬ (Int32.ofInt 12 = 3) by decide), if_neg (show ¬ (Int32.ofInt 12 = 4) by decide), if_neg (show ¬ (Int32.ofInt 12 = 5) by decide), if_neg (show ¬ (Int32.ofInt 12 = 6) by decide), if_neg (show ¬ (Int32.ofInt 12 = 7) by decide), if_neg (show ¬ (Int32.ofInt 12 = 8) by decide), if_neg (show ¬ (Int32.ofInt 12 = 9) by decide), if_neg (show ¬ (Int32.ofInt 12 = 10) by decide), if_neg (show ¬ (Int32.ofInt 12 = 11) by decide), e9, e5, Option.bind_some, if_pos rfl, e6, Option.bind_some, if_pos rfl]
end Acts
