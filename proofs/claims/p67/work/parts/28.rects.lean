/-! LAYER 2. Rectangles by their numbers -/
section Rec
variable {N : Nat} {o ol : os_T} {S : Nat → Nat} {T H : Int → Int → Int} {d : Int}
def q_ah (S : Nat → Nat) (H : Int → Int → Int) (d : Int) (n : Nat) : Int := fo (fg (S 0) (fun x y a => a + (bif q_bb S H d x y then 1 else 0))) n 0
def q_bk (S : Nat → Nat) (H : Int → Int → Int) (d : Int) (k : Nat) : Bool := q_bb S H d ((k % S 0 : Nat) : Int) ((k / S 0 : Nat) : Int)
theorem q_ah_s (k : Nat) : q_ah S H d (k + 1) = q_ah S H d k + (bif q_bk S H d k then 1 else 0) := rfl
theorem q_ah_b (n : Nat) : 0 ≤ q_ah S H d n ∧ q_ah S H d n ≤ n := by
  induction n with
  | zero => exact ⟨Int.le_refl _, Int.le_refl _⟩
  | succ n ih => rw [q_ah_s]; cases q_bk S H d n <;> simp only [cond_true, cond_false] <;> omega
theorem q_ah_le {m n : Nat} (hmn : m ≤ n) : q_ah S H d m ≤ q_ah S H d n := by
  induction n with
  | zero => obtain rfl : m = 0 := by omega
            exact Int.le_refl _
  | succ n ih =>
    by_cases e : m = n + 1
    · rw [e]; exact Int.le_refl _
    · have := ih (by omega)
      rw [q_ah_s]; cases q_bk S H d n <;> simp only [cond_true, cond_false] <;> omega
theorem q_ah_ex {i : Int} (h0 : 0 ≤ i) : ∀ n : Nat, i < q_ah S H d n → ∃ m, m < n ∧ q_bk S H d m = true ∧ q_ah S H d m = i := by
  intro n
  induction n with
  | zero => intro h; exact absurd h (by show ¬ i < 0; omega)
  | succ n ih =>
    intro h
    by_cases c : i < q_ah S H d n
    · obtain ⟨m, h1, h2, h3⟩ := ih c
      exact ⟨m, by omega, h2, h3⟩
    · rw [q_ah_s] at h
      cases hb : q_bk S H d n with
      | false => rw [hb] at h; simp only [cond_false] at h; omega
      | true => rw [hb] at h; simp only [cond_true] at h; exact ⟨n, by omega, hb, by omega⟩
theorem q_ah_lt {m k : Nat} (hk : k < m) (hb : q_bk S H d k = true) : q_ah S H d k < q_ah S H d m := by
  have := q_ah_le (S := S) (H := H) (d := d) (show k + 1 ≤ m from hk)
  rw [q_ah_s, hb] at this
  simp only [cond_true] at this
  omega
theorem pc_aheadI (hN : 1000 < N) (hS : sv S) (h : cp o S T H) (hH : wv S H) (hd : ib d) {y e : Nat} (hy : y < S 1) (he : e ≤ S 0) (ex ey : Int32) (r : (Int32 × Int32 × Int32 × Int32 × Int32) → Option Int32) : ff_X4_blocksAhead_b29 N ol o r (Int32.ofInt d) ex ey (Int32.ofInt (q_ah S H d (S 0 * y))) (Int32.ofInt (y : Int)) (Int32.ofInt (e : Int)) = r (Int32.ofInt d, ex, ey, Int32.ofInt (q_ah S H d (S 0 * y + e)), Int32.ofInt ((y + 1 : Nat) : Int)) := by
  have hs := sv_a hS
  unfold ff_X4_blocksAhead_b29 ff_X4_blocksAhead_l34
  refine lo_run (fun x : Nat => (Int32.ofInt d, ex, ey, Int32.ofInt (q_ah S H d (S 0 * y + x)), Int32.ofInt (y : Int), Int32.ofInt (e : Int), Int32.ofInt (x : Int))) e ?_ ?_ (by omega)
  · intro x hx r2
    show ff_X4_blocksAhead_c34 N ol o r r2 (Int32.ofInt d) ex ey (Int32.ofInt (q_ah S H d (S 0 * y + x))) (Int32.ofInt (y : Int)) (Int32.ofInt (e : Int)) (Int32.ofInt (x : Int)) = _
    unfold ff_X4_blocksAhead_c34 ff_X4_blocksAhead_b60
    rw [ii_le (by omega) (by omega), if_neg (by omega), pc_bb hN hS h hH (by omega) (by omega) hd, Option.bind_some]
    have e1 : q_ah S H d (S 0 * y + (x + 1)) = q_ah S H d (S 0 * y + x) + (bif q_bb S H d x y then 1 else 0) := by
      rw [← Nat.add_assoc, q_ah_s]
      unfold q_bk
      rw [fg_mod (by omega), fg_div (by omega)]
    show _ = r2 (Int32.ofInt d, ex, ey, Int32.ofInt (q_ah S H d (S 0 * y + (x + 1))), _, _, _)
    rw [e1]
    cases hb : q_bb S H d x y with
    | true => rw [oz_bt rfl, ii_1, ia_add, ia_s]; rfl
    | false => rw [oz_bf rfl, ii_0, ii_1, ia_add, ia_s]; rfl
  · intro r2
    show ff_X4_blocksAhead_c34 N ol o r r2 (Int32.ofInt d) ex ey (Int32.ofInt (q_ah S H d (S 0 * y + e))) (Int32.ofInt (y : Int)) (Int32.ofInt (e : Int)) (Int32.ofInt (e : Int)) = _
    unfold ff_X4_blocksAhead_c34
    rw [if_pos (Int32.le_refl _), ii_1, ia_s]
theorem pc_ahead (hN : 1000 < N) (hS : sv S) (h : cp o S T H) (hH : wv S H) (hd : ib d) {ex ey : Nat} (hy : ey < S 1) (he : ex ≤ S 0) : ff_X4_blocksAhead N ol o (Int32.ofInt d) (Int32.ofInt (ex : Int)) (Int32.ofInt (ey : Int)) = some (Int32.ofInt (q_ah S H d (S 0 * ey + ex))) := by
  have hs := sv_a hS
  unfold ff_X4_blocksAhead ff_X4_blocksAhead_l6
  have e0 : (Int32.ofInt d, Int32.ofInt (ex : Int), Int32.ofInt (ey : Int), (0 : Int32), (0 : Int32)) = (fun y : Nat => if y ≤ ey then (Int32.ofInt d, Int32.ofInt (ex : Int), Int32.ofInt (ey : Int), Int32.ofInt (q_ah S H d (S 0 * y)), Int32.ofInt (y : Int)) else (Int32.ofInt d, Int32.ofInt (ex : Int), Int32.ofInt (ey : Int), Int32.ofInt (q_ah S H d (S 0 * ey + ex)), Int32.ofInt ((ey + 1 : Nat) : Int))) 0 := by
    show _ = if 0 ≤ ey then _ else _
    rw [if_pos (Nat.zero_le _)]
    rfl
  refine (congrArg (os_loop _ N) e0).trans (lo_run (N := N) (fun y : Nat => if y ≤ ey then (Int32.ofInt d, Int32.ofInt (ex : Int), Int32.ofInt (ey : Int), Int32.ofInt (q_ah S H d (S 0 * y)), Int32.ofInt (y : Int)) else (Int32.ofInt d, Int32.ofInt (ex : Int), Int32.ofInt (ey : Int), Int32.ofInt (q_ah S H d (S 0 * ey + ex)), Int32.ofInt ((ey + 1 : Nat) : Int))) (ey + 1) ?_ ?_ (by omega))
  · intro y hy2 r
    show ff_X4_blocksAhead_c6 N ol o r _ _ _ _ _ = _
    simp only [if_pos (show y ≤ ey by omega)]
    unfold ff_X4_blocksAhead_c6
    rw [ii_lt (by omega) (by omega), if_neg (by omega), ii_le (by omega) (by omega)]
    by_cases c : (ey : Int) ≤ y
    · obtain rfl : y = ey := by omega
      rw [if_pos c, pc_aheadI hN hS h hH hd hy he, if_neg (by omega)]
    · rw [if_neg c, h.1 0 (by decide), pc_aheadI hN hS h hH hd (by omega) (Nat.le_refl _), if_pos (by omega), Nat.mul_add, Nat.mul_one]
  · intro r
    show ff_X4_blocksAhead_c6 N ol o r _ _ _ _ _ = _
    simp only [if_neg (show ¬ (ey + 1 ≤ ey) by omega)]
    unfold ff_X4_blocksAhead_c6
    rw [ii_lt (by omega) (by omega), if_pos (by omega)]
theorem q_ah_all : q_ah S H d (S 0 * S 1) = q_cnt S (q_bb S H d) := rfl
theorem pc_blocks (hN : 1000 < N) (hS : sv S) (h : cp o S T H) (hH : wv S H) (hd : ib d) : ff_X4_countOfBlocks N ol o (Int32.ofInt d) = some (Int32.ofInt (q_cnt S (q_bb S H d))) := by
  have hs := sv_a hS
  unfold ff_X4_countOfBlocks
  rw [h.1 0 (by decide), h.1 1 (by decide), ii_1, ia_sub, show ((S 1 : Nat) : Int) - 1 = ((S 1 - 1 : Nat) : Int) by omega, pc_ahead hN hS h hH hd (by omega) (Nat.le_refl _), Option.bind_some, ← q_ah_all]
  have e : S 0 * (S 1 - 1) + S 0 = S 0 * S 1 := by
    obtain ⟨n, hn⟩ : ∃ n, S 1 = n + 1 := ⟨S 1 - 1, by omega⟩
    rw [hn, Nat.add_sub_cancel, Nat.mul_add, Nat.mul_one]
  rw [e]
theorem q_rr (hS : sv S) {x y : Int} (c : ic S x y) : 0 ≤ (q_rl S H d x y : Int) * (q_ro S H d x y : Int) ∧ (q_rl S H d x y : Int) * (q_ro S H d x y : Int) ≤ 192 := by
  have h1 := (q_rls hS (H := H) (d := d) (x := x) (y := y) c.1).2.2
  have h2 := (q_ros hS (H := H) (d := d) (x := x) (y := y) c.2.2.1).2.2
  have h3 := Nat.mul_le_mul h1 h2
  rw [← Int.natCast_mul]
  omega
def q_big (S : Nat → Nat) (H : Int → Int → Int) (d : Int) : Int → Int → Int × Int × Int → Int × Int × Int := fun x y a => if q_bb S H d x y = true then (if a.2.1 < (q_rl S H d x y : Int) * (q_ro S H d x y : Int) then (a.2.2, (q_rl S H d x y : Int) * (q_ro S H d x y : Int), a.2.2 + 1) else (a.1, a.2.1, a.2.2 + 1)) else a
theorem q_bigb (hS : sv S) {n : Nat} (hn : n ≤ S 0 * S 1) : 0 ≤ (fo (fg (S 0) (q_big S H d)) n (-1, 0, 0)).2.1 ∧ (fo (fg (S 0) (q_big S H d)) n (-1, 0, 0)).2.1 ≤ 192 := by
  refine fo_inv (fun _ (a : Int × Int × Int) => 0 ≤ a.2.1 ∧ a.2.1 ≤ 192) ⟨Int.le_refl _, by decide⟩ ?_
  intro k hk a ha
  have := q_rr hS (H := H) (d := d) (ic_k hS (show k < S 0 * S 1 by omega))
  show 0 ≤ (q_big S H d _ _ a).2.1 ∧ (q_big S H d _ _ a).2.1 ≤ 192
  unfold q_big
  split
  · split
    · exact this
    · exact ha
  · exact ha

def q_sh (S : Nat → Nat) (H : Int → Int → Int) (d : Int) : Int → Int → Int → Int := fun x y a => if q_br S H d x y = true then (if a = 0 then (q_rl S H d x y : Int) else min (q_rl S H d x y : Int) a) else a
theorem q_shb (hS : sv S) {n : Nat} (hn : n ≤ S 0 * S 1) : 0 ≤ fo (fg (S 0) (q_sh S H d)) n 0 ∧ fo (fg (S 0) (q_sh S H d)) n 0 ≤ 16 := by
  refine fo_inv (fun _ a => 0 ≤ a ∧ a ≤ 16) ⟨Int.le_refl _, by decide⟩ ?_
  intro k hk a ha
  have := (q_rls hS (H := H) (d := d) (x := ((k % S 0 : Nat) : Int)) (y := ((k / S 0 : Nat) : Int)) (Int.natCast_nonneg _)).2.2
  show 0 ≤ q_sh S H d _ _ a ∧ q_sh S H d _ _ a ≤ 16
  unfold q_sh
  split
  · split <;> omega
  · exact ha
theorem q_rl1 {x y : Int} (hb : q_br S H d x y = true) : 1 ≤ q_rl S H d x y := by
  unfold q_rl q_first
  have : decide (il S H d (x + ((0 : Nat) : Int)) y) = true := by
    rw [show x + ((0 : Nat) : Int) = x from Int.add_zero x]
    exact decide_eq_true (q_br_t.mp hb).1
  rw [if_pos this]
  omega

def q_sd (S : Nat → Nat) (H : Int → Int → Int) (d x y : Int) : Int := (bif decide (il S H d (x - 1) y) then 0 else 1) + (bif decide (il S H d (x + 1) y) then 0 else 1) + (bif decide (il S H d x (y - 1)) then 0 else 1) + (bif decide (il S H d x (y + 1)) then 0 else 1)
theorem pc_sides (hS : sv S) (h : cp o S T H) (hH : wv S H) (hd : ib d) {x y : Int} (c : ic S x y) : ff_X4_freeSides N ol o (Int32.ofInt d) (Int32.ofInt x) (Int32.ofInt y) = some (Int32.ofInt (q_sd S H d x y)) := by
  have hr := ic_r hS c
  unfold ff_X4_freeSides ff_X4_freeSides_b20 ff_X4_freeSides_b42 ff_X4_freeSides_b64 ff_X4_freeSides_b86 q_sd
  simp only [ii_1, ii_0, ia_sub, ia_add]
  rw [pc_reaches hS h hH (by omega) (by omega) hd]
  simp only [Option.bind_some]
  rw [pc_reaches hS h hH (by omega) (by omega) hd, pc_reaches hS h hH (by omega) (by omega) hd, pc_reaches hS h hH (by omega) (by omega) hd]
  simp only [Option.bind_some]
  cases decide (il S H d (x - 1) y) <;> cases decide (il S H d (x + 1) y) <;> cases decide (il S H d x (y - 1)) <;> cases decide (il S H d x (y + 1)) <;> rfl

theorem pc_outl (hN : 1000 < N) (hS : sv S) (h : cp o S T H) (hH : wv S H) (hd : ib d) : ff_X4_countOfSides N ol o (Int32.ofInt d) = some (Int32.ofInt (gr (S 0) (S 1) (fun x y a => if il S H d x y then a + q_sd S H d x y else a) 0)) := by
  have hs := sv_a hS
  unfold ff_X4_countOfSides ff_X4_countOfSides_l4
  refine lo_grid (N := N) (step2 := fun k2 r2 s1 => ff_X4_countOfSides_c18 N ol o k2 r2 s1.1 s1.2.1 s1.2.2.1 s1.2.2.2) (fun (a : Int) (y : Nat) => (Int32.ofInt d, Int32.ofInt a, Int32.ofInt (y : Int))) (fun (a : Int) (y x : Nat) => (Int32.ofInt d, Int32.ofInt a, Int32.ofInt (y : Int), Int32.ofInt (x : Int))) (S 0) (S 1) (fun x y a => if il S H d x y then a + q_sd S H d x y else a) (0) ?_ ?_ ?_ ?_ (by omega) (by omega)
  · intro a y r hy
    show ff_X4_countOfSides_c4 N ol o r (Int32.ofInt d) (Int32.ofInt a) (Int32.ofInt (y : Int)) = _
    unfold ff_X4_countOfSides_c4
    rw [if_neg (pc_rN hS h (by omega))]
    rfl
  · intro a x y k r hx hy ha
    have hc : ic S (x : Int) (y : Int) := ic_n hx (by omega)
    have hr := ic_r hS hc
    show ff_X4_countOfSides_c18 N ol o k r (Int32.ofInt d) (Int32.ofInt a) (Int32.ofInt (y : Int)) (Int32.ofInt (x : Int)) = _
    unfold ff_X4_countOfSides_c18
    rw [if_neg (pc_wN hS h hx)]
    rw [pc_reaches hS h hH (by omega) (by omega) hd, Option.bind_some, oz_ite]
    unfold ff_X4_countOfSides_b57
    show _ = r (Int32.ofInt d, Int32.ofInt (if il S H d x y then a + q_sd S H d x y else a), _, _)
    by_cases c : il S H d x y
    · rw [if_pos c, if_pos c, pc_sides hS h hH hd hc, Option.bind_some, ia_add, ii_1, ia_s]
    · rw [if_neg c, if_neg c, ii_0, ii_1, ia_add, ia_s, Int.add_zero]
  · intro a y k r hy ha
    show ff_X4_countOfSides_c18 N ol o k r (Int32.ofInt d) (Int32.ofInt a) (Int32.ofInt (y : Int)) (Int32.ofInt (S 0 : Int)) = _
    unfold ff_X4_countOfSides_c18
    rw [if_pos (pc_wE h), ii_1, ia_add]
    rfl
  · intro r
    show ff_X4_countOfSides_c4 N ol o r (Int32.ofInt d) _ (Int32.ofInt (S 1 : Int)) = _
    unfold ff_X4_countOfSides_c4
    rw [if_pos (pc_rE h)]
    all_goals rfl

end Rec
