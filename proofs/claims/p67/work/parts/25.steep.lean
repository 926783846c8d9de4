/-! LAYER 2. The steepest step, supports -/
def q_ab (v : Int) : Int := if v < 0 then -v else v
theorem ia_abs {v : Int} (hv : -2147483647 ≤ v ∧ v ≤ 2147483647) : (if (0 : Int32) ≤ Int32.ofInt v then Int32.ofInt v else 0 - Int32.ofInt v) = Int32.ofInt (q_ab v) := by
  rw [ii_0, ii_le (by omega) (by omega), ia_sub]
  unfold q_ab
  by_cases c : v < 0
  · rw [if_neg (by omega), if_pos c, Int.zero_sub]
  · rw [if_pos (by omega), if_neg c]
theorem ia_mx {a b : Int} (ha : ib a) (hb : ib b) : (if Int32.ofInt a < Int32.ofInt b then Int32.ofInt b else Int32.ofInt a) = Int32.ofInt (max a b) := by
  rw [ii_lt ha hb]
  by_cases c : a < b
  · rw [if_pos c, Int.max_eq_right (by omega)]
  · rw [if_neg c, Int.max_eq_left (by omega)]
theorem ia_mn {a b : Int} (ha : ib a) (hb : ib b) : (if Int32.ofInt a < Int32.ofInt b then Int32.ofInt a else Int32.ofInt b) = Int32.ofInt (min a b) := by
  rw [ii_lt ha hb]
  by_cases c : a < b
  · rw [if_pos c, Int.min_eq_left (by omega)]
  · rw [if_neg c, Int.min_eq_right (by omega)]
theorem fo_maxb {w h n : Nat} {f : Int → Int → Int} {c M : Int} (hn : n ≤ w * h) (hf : ∀ x y : Nat, x < w → y < h → f x y ≤ M) (hc : c ≤ M) : c ≤ fo (fg w (fun x y a => max a (f x y))) n c ∧ fo (fg w (fun x y a => max a (f x y))) n c ≤ M := by
  refine fo_inv (fun _ a => c ≤ a ∧ a ≤ M) ⟨Int.le_refl _, hc⟩ ?_
  intro k hk a ha
  have hk2 : k < w * h := by omega
  have hw : 0 < w := Nat.pos_of_ne_zero fun e => by subst e; simp at hk2
  have := hf (k % w) (k / w) (Nat.mod_lt _ hw) (Nat.div_lt_of_lt_mul hk2)
  show c ≤ max _ _ ∧ max _ _ ≤ M
  omega
theorem fg_lt {w h x y : Nat} (hx : x < w) (hy : y < h) : w * y + x < w * h := by
  have : w * (y + 1) ≤ w * h := Nat.mul_le_mul_left _ hy
  rw [Nat.mul_add, Nat.mul_one] at this
  omega
theorem sv_nz {S : Nat → Nat} (hS : sv S) : ¬ (Int32.ofInt (S 0 : Int) = 0) := by
  have := sv_a hS
  rw [show (0 : Int32) = Int32.ofInt 0 from rfl, ia_eq (by omega) (by omega) (by omega) (by omega)]
  omega
section Steep
variable {N : Nat} {o : os_T} {S : Nat → Nat} {T H : Int → Int → Int}
def q_stC (S : Nat → Nat) (H : Int → Int → Int) (x y : Int) : Int := max (if ic S (x + 1) y then q_ab (H x y - H (x + 1) y) else 0) (if ic S x (y + 1) then q_ab (H x y - H x (y + 1)) else 0)
def q_stR (H : Int → Int → Int) (x y : Int) : Int := max (if 0 < x then q_ab (H x y - H (x - 1) y) else 0) (if 0 < y then q_ab (H x y - H x (y - 1)) else 0)
theorem q_abb {v : Int} {n : Int} (h : -n ≤ v ∧ v ≤ n) : 0 ≤ q_ab v ∧ q_ab v ≤ n := by
  unfold q_ab
  split <;> omega
theorem q_stCb (hS : sv S) (hH : wv S H) {x y : Int} (c : ic S x y) : 0 ≤ q_stC S H x y ∧ q_stC S H x y ≤ 2000000 := by
  have h0 := hH x y c
  unfold q_stC
  have h1 : 0 ≤ (if ic S (x + 1) y then q_ab (H x y - H (x + 1) y) else 0) ∧ (if ic S (x + 1) y then q_ab (H x y - H (x + 1) y) else 0) ≤ 2000000 := by
    split
    · rename_i c2
      have := hH _ _ c2
      exact q_abb (by omega)
    · omega
  have h2 : 0 ≤ (if ic S x (y + 1) then q_ab (H x y - H x (y + 1)) else 0) ∧ (if ic S x (y + 1) then q_ab (H x y - H x (y + 1)) else 0) ≤ 2000000 := by
    split
    · rename_i c2
      have := hH _ _ c2
      exact q_abb (by omega)
    · omega
  omega
theorem q_stRb (hS : sv S) (hH : wv S H) {x y : Int} (c : ic S x y) : 0 ≤ q_stR H x y ∧ q_stR H x y ≤ 2000000 := by
  have h0 := hH x y c
  unfold q_stR
  have h1 : 0 ≤ (if 0 < x then q_ab (H x y - H (x - 1) y) else 0) ∧ (if 0 < x then q_ab (H x y - H (x - 1) y) else 0) ≤ 2000000 := by
    split
    · have := hH (x - 1) y (by omega)
      exact q_abb (by omega)
    · omega
  have h2 : 0 ≤ (if 0 < y then q_ab (H x y - H x (y - 1)) else 0) ∧ (if 0 < y then q_ab (H x y - H x (y - 1)) else 0) ≤ 2000000 := by
    split
    · have := hH x (y - 1) (by omega)
      exact q_abb (by omega)
    · omega
  omega
theorem q_abs (a b : Int) : q_ab (a - b) = q_ab (b - a) := by
  unfold q_ab
  split <;> split <;> omega
/-- the greatest difference of neighbors, either way of going through them -/
theorem q_st (hS : sv S) (hH : wv S H) : gr (S 0) (S 1) (fun x y a => max a (q_stC S H x y)) 0 = gr (S 0) (S 1) (fun x y a => max a (q_stR H x y)) 0 := by
  apply Int.le_antisymm
  · refine gr_max.mpr ⟨(gr_max.mp (Int.le_refl _)).1, ?_⟩
    intro x y hx hy
    have hm := (gr_max (f := q_stR H).mp (Int.le_refl (gr (S 0) (S 1) (fun x y a => max a (q_stR H x y)) 0)))
    generalize gr (S 0) (S 1) (fun x y a => max a (q_stR H x y)) 0 = M at *
    have h0 := hm.1
    unfold q_stC
    have h1 : (if ic S ((x : Int) + 1) y then q_ab (H x y - H (x + 1) y) else 0) ≤ M := by
      split
      · rename_i c
        have := hm.2 (x + 1) y (by omega) hy
        unfold q_stR at this
        rw [if_pos (show (0 : Int) < ((x + 1 : Nat) : Int) by omega), show ((x + 1 : Nat) : Int) = (x : Int) + 1 from rfl, Int.add_sub_cancel, q_abs] at this
        omega
      · exact h0
    have h2 : (if ic S (x : Int) (y + 1) then q_ab (H x y - H x (y + 1)) else 0) ≤ M := by
      split
      · rename_i c
        have := hm.2 x (y + 1) hx (by omega)
        unfold q_stR at this
        rw [if_pos (show (0 : Int) < ((y + 1 : Nat) : Int) by omega), show ((y + 1 : Nat) : Int) = (y : Int) + 1 from rfl, Int.add_sub_cancel, q_abs (H x (y + 1)) (H x y)] at this
        omega
      · exact h0
    omega
  · refine gr_max.mpr ⟨(gr_max.mp (Int.le_refl _)).1, ?_⟩
    intro x y hx hy
    have hm := (gr_max (f := q_stC S H).mp (Int.le_refl (gr (S 0) (S 1) (fun x y a => max a (q_stC S H x y)) 0)))
    generalize gr (S 0) (S 1) (fun x y a => max a (q_stC S H x y)) 0 = M at *
    have h0 := hm.1
    have hc := ic_n (S := S) hx hy
    unfold q_stR
    have h1 : (if 0 < (x : Int) then q_ab (H x y - H (x - 1) y) else 0) ≤ M := by
      split
      · rename_i c
        obtain ⟨z, rfl⟩ : ∃ z, x = z + 1 := ⟨x - 1, by omega⟩
        have := hm.2 z y (by omega) hy
        unfold q_stC at this
        rw [if_pos (show ic S ((z : Int) + 1) y from hc)] at this
        rw [show ((z + 1 : Nat) : Int) = (z : Int) + 1 from rfl, Int.add_sub_cancel, q_abs]
        omega
      · exact h0
    have h2 : (if 0 < (y : Int) then q_ab (H x y - H x (y - 1)) else 0) ≤ M := by
      split
      · rename_i c
        obtain ⟨z, rfl⟩ : ∃ z, y = z + 1 := ⟨y - 1, by omega⟩
        have := hm.2 x z hx (by omega)
        unfold q_stC at this
        rw [if_pos (show ic S (x : Int) ((z : Int) + 1) from hc)] at this
        rw [show ((z + 1 : Nat) : Int) = (z : Int) + 1 from rfl, Int.add_sub_cancel, q_abs]
        omega
      · exact h0
    omega

theorem pc_steep (hN : 1000 < N) (hS : sv S) (h : cp o S T H) (hH : wv S H) : ff_X5_greatestStep N o  = some (Int32.ofInt (gr (S 0) (S 1) (fun x y a => max a (q_stC S H x y)) 0)) := by
  have hs := sv_a hS
  unfold ff_X5_greatestStep ff_X5_greatestStep_l4
  refine lo_grid (N := N) (step2 := fun k2 r2 s1 => ff_X5_greatestStep_c14 N o k2 r2 s1.1 s1.2.1 s1.2.2) (fun (a : Int) (y : Nat) => (Int32.ofInt a, Int32.ofInt (y : Int))) (fun (a : Int) (y x : Nat) => (Int32.ofInt a, Int32.ofInt (y : Int), Int32.ofInt (x : Int))) (S 0) (S 1) (fun x y a => max a (q_stC S H x y)) (0) ?_ ?_ ?_ ?_ (by omega) (by omega)
  · intro a y r hy
    show ff_X5_greatestStep_c4 N o r (Int32.ofInt a) (Int32.ofInt (y : Int)) = _
    unfold ff_X5_greatestStep_c4
    rw [if_neg (pc_rN hS h (by omega))]
    rfl
  · intro a x y k r hx hy ha
    have hc : ic S (x : Int) (y : Int) := ic_n hx (by omega)
    have hr := ic_r hS hc
    show ff_X5_greatestStep_c14 N o k r (Int32.ofInt a) (Int32.ofInt (y : Int)) (Int32.ofInt (x : Int)) = _
    unfold ff_X5_greatestStep_c14
    rw [if_neg (pc_wN hS h hx)]
    have hab := fo_maxb (f := q_stC S H) (c := 0) (M := 2000000) (Nat.le_of_lt (fg_lt hx hy)) (fun x y hx hy => (q_stCb hS hH (ic_n hx hy)).2) (by omega)
    rw [← ha] at hab
    have h0 := hH _ _ hc
    have hq := q_stCb hS hH hc
    have e1 : (if ic S ((x : Int) + 1) y then q_ab (H x y - H (x + 1) y) else 0) = (if ic S ((x : Int) + 1) y then q_ab (H x y - H (x + 1) y) else 0) := rfl
    have key : ∀ t0 : Int, 0 ≤ t0 ∧ t0 ≤ 2000000 → ff_X5_greatestStep_b55 N o k r (Int32.ofInt a) (Int32.ofInt (y : Int)) (Int32.ofInt (x : Int)) (Int32.ofInt t0) = r (Int32.ofInt (max a (max t0 (if ic S (x : Int) (y + 1) then q_ab (H x y - H x (y + 1)) else 0))), Int32.ofInt (y : Int), Int32.ofInt ((x + 1 : Nat) : Int)) := by
      intro t0 ht0
      unfold ff_X5_greatestStep_b55
      rw [ii_1, ia_add, pc_has hS h (by omega) (by omega), Option.bind_some, oz_ite]
      by_cases c : ic S (x : Int) ((y : Int) + 1)
      · have h1 := hH _ _ c
        have hb := q_abb (v := H x y - H x (y + 1)) (n := 2000000) (by omega)
        rw [if_pos c, if_pos c, pc_heightAt hS h (by omega) (by omega), if_pos hc, Option.bind_some, pc_heightAt hS h (by omega) (by omega), if_pos c, Option.bind_some, ia_sub, ia_abs (by omega)]
        unfold ff_X5_greatestStep_b90
        rw [ia_mx (by omega) (by omega), ia_mx (by omega) (by omega), ii_1, ia_s]
      · rw [if_neg c, if_neg c]
        unfold ff_X5_greatestStep_b90
        rw [ii_0, ia_mx (by omega) (by omega), ia_mx (by omega) (by omega), ii_1, ia_s]
    rw [ii_1, ia_add, pc_has hS h (by omega) (by omega), Option.bind_some, oz_ite]
    show _ = r (Int32.ofInt (max a (q_stC S H x y)), _, _)
    unfold q_stC
    by_cases c : ic S ((x : Int) + 1) y
    · have h1 := hH _ _ c
      have hb := q_abb (v := H x y - H (x + 1) y) (n := 2000000) (by omega)
      rw [if_pos c, if_pos c, pc_heightAt hS h (by omega) (by omega), if_pos hc, Option.bind_some, pc_heightAt hS h (by omega) (by omega), if_pos c, Option.bind_some, ia_sub, ia_abs (by omega)]
      exact key _ hb
    · rw [if_neg c, if_neg c]
      exact key 0 (by omega)
  · intro a y k r hy ha
    show ff_X5_greatestStep_c14 N o k r (Int32.ofInt a) (Int32.ofInt (y : Int)) (Int32.ofInt (S 0 : Int)) = _
    unfold ff_X5_greatestStep_c14
    rw [if_pos (pc_wE h), ii_1, ia_add]
    rfl
  · intro r
    show ff_X5_greatestStep_c4 N o r _ (Int32.ofInt (S 1 : Int)) = _
    unfold ff_X5_greatestStep_c4
    rw [if_pos (pc_rE h)]
    all_goals rfl

end Steep
