/-! LAYER 2. Walls: what is thin -/
theorem vn_oz (b : Bool) : vp_nar .boolean (oz b) = oz b := by cases b <;> rfl
theorem vn_1 : vp_nar .boolean (1 : Int32) = 1 := rfl
theorem vn_0 : vp_nar .boolean (0 : Int32) = 0 := rfl
section Wall
variable {N : Nat} {o : os_T} {S : Nat → Nat} {T H : Int → Int → Int}

def q_uh (S : Nat → Nat) (H : Int → Int → Int) (x y : Int) : Nat := q_first (fun k => decide (il S H (H x y) (x + (1 + (k : Int)) * 1) (y + (1 + (k : Int)) * 0))) 16
def q_wh (S : Nat → Nat) (H : Int → Int → Int) (x y : Int) : Nat := q_first (fun k => decide (il S H (H x y) (x - (1 + (k : Int)) * 1) (y - (1 + (k : Int)) * 0))) 16
theorem q_uhs (hS : sv S) {x y : Int} (c : ic S x y) : (∀ k : Nat, k < q_uh S H x y → il S H (H x y) (x + (1 + (k : Int)) * 1) (y + (1 + (k : Int)) * 0)) ∧ ¬ il S H (H x y) (x + (1 + (q_uh S H x y : Int)) * 1) (y + (1 + (q_uh S H x y : Int)) * 0) ∧ q_uh S H x y ≤ 16 := by
  have hs := sv_a hS
  obtain ⟨i1, i2, i3⟩ := q_first_spec 16 (fun k => decide (il S H (H x y) (x + (1 + (k : Int)) * 1) (y + (1 + (k : Int)) * 0))) ⟨16, Nat.le_refl _, decide_eq_false (fun z => by omega)⟩
  exact ⟨fun k hk => of_decide_eq_true (i1 k hk), of_decide_eq_false i2, i3⟩
theorem q_whs (hS : sv S) {x y : Int} (c : ic S x y) : (∀ k : Nat, k < q_wh S H x y → il S H (H x y) (x - (1 + (k : Int)) * 1) (y - (1 + (k : Int)) * 0)) ∧ ¬ il S H (H x y) (x - (1 + (q_wh S H x y : Int)) * 1) (y - (1 + (q_wh S H x y : Int)) * 0) ∧ q_wh S H x y ≤ 16 := by
  have hs := sv_a hS
  obtain ⟨i1, i2, i3⟩ := q_first_spec 16 (fun k => decide (il S H (H x y) (x - (1 + (k : Int)) * 1) (y - (1 + (k : Int)) * 0))) ⟨16, Nat.le_refl _, decide_eq_false (fun z => by omega)⟩
  exact ⟨fun k hk => of_decide_eq_true (i1 k hk), of_decide_eq_false i2, i3⟩
theorem pc_rth (hN : 1000 < N) (hS : sv S) (h : cp o S T H) (hH : wv S H) {x y : Int} (c : ic S x y) : ff_X11_runThrough N o (Int32.ofInt x) (Int32.ofInt y) (1 : Int32) (0 : Int32) = some (Int32.ofInt ((1 + min (S 5 - 1) (q_uh S H x y) + min (S 5 - 1) (q_wh S H x y) : Nat) : Int)) := by
  have hs := sv_a hS
  have hr := ic_r hS c
  have h0 := hH x y c
  obtain ⟨u1, u2, u3⟩ := q_uhs hS (H := H) c
  obtain ⟨w1, w2, w3⟩ := q_whs hS (H := H) c
  unfold ff_X11_runThrough
  rw [pc_heightAt hS h (by omega) (by omega), if_pos c, Option.bind_some, ii_1, ii_0]
  have e2 : ∀ m : Nat, ff_X11_runThrough_b54 N o (Int32.ofInt x) (Int32.ofInt y) (Int32.ofInt 1) (Int32.ofInt 0) (Int32.ofInt (H x y)) (Int32.ofInt ((1 + m : Nat) : Int)) = some (Int32.ofInt ((1 + m + min (S 5 - 1) (q_wh S H x y) : Nat) : Int)) := by
    intro m
    unfold ff_X11_runThrough_b54 ff_X11_runThrough_l57
    refine lo_run (N := N) (fun k : Nat => (Int32.ofInt x, Int32.ofInt y, Int32.ofInt 1, Int32.ofInt 0, Int32.ofInt (H x y), Int32.ofInt ((1 + m + k : Nat) : Int), Int32.ofInt ((1 + k : Nat) : Int))) (min (S 5 - 1) (q_wh S H x y)) ?_ ?_ (by omega)
    · intro k hk r
      show ff_X11_runThrough_c57 N o r (Int32.ofInt x) (Int32.ofInt y) (Int32.ofInt 1) (Int32.ofInt 0) (Int32.ofInt (H x y)) (Int32.ofInt ((1 + m + k : Nat) : Int)) (Int32.ofInt ((1 + k : Nat) : Int)) = _
      unfold ff_X11_runThrough_c57
      rw [h.1 5 (by decide), ii_le (by omega) (by omega), if_neg (by omega), ia_mul, ia_mul, ia_sub, ia_sub, show ((1 + k : Nat) : Int) = 1 + (k : Int) by omega, pc_reaches hS h hH (by omega) (by omega) (by omega), Option.bind_some, oz_ite, if_pos (w1 k (by omega)), ii_1, ia_s, ia_add, show 1 + (k : Int) + 1 = ((1 + (k + 1) : Nat) : Int) by omega]
      rfl
    · intro r
      show ff_X11_runThrough_c57 N o r (Int32.ofInt x) (Int32.ofInt y) (Int32.ofInt 1) (Int32.ofInt 0) (Int32.ofInt (H x y)) (Int32.ofInt ((1 + m + min (S 5 - 1) (q_wh S H x y) : Nat) : Int)) (Int32.ofInt ((1 + min (S 5 - 1) (q_wh S H x y) : Nat) : Int)) = _
      unfold ff_X11_runThrough_c57
      rw [h.1 5 (by decide), ii_le (by omega) (by omega)]
      by_cases cw : (S 5 : Int) ≤ ((1 + min (S 5 - 1) (q_wh S H x y) : Nat) : Int)
      · rw [if_pos cw]
      · have em : min (S 5 - 1) (q_wh S H x y) = q_wh S H x y := by omega
        rw [if_neg cw, em, ia_mul, ia_mul, ia_sub, ia_sub, show ((1 + q_wh S H x y : Nat) : Int) = 1 + (q_wh S H x y : Int) by omega, pc_reaches hS h hH (by omega) (by omega) (by omega), Option.bind_some, oz_ite, if_neg w2]
  unfold ff_X11_runThrough_l14
  refine lo_run (N := N) (fun k : Nat => (Int32.ofInt x, Int32.ofInt y, Int32.ofInt 1, Int32.ofInt 0, Int32.ofInt (H x y), Int32.ofInt ((1 + k : Nat) : Int), Int32.ofInt ((1 + k : Nat) : Int))) (min (S 5 - 1) (q_uh S H x y)) ?_ ?_ (by omega)
  · intro k hk r
    show ff_X11_runThrough_c14 N o r (Int32.ofInt x) (Int32.ofInt y) (Int32.ofInt 1) (Int32.ofInt 0) (Int32.ofInt (H x y)) (Int32.ofInt ((1 + k : Nat) : Int)) (Int32.ofInt ((1 + k : Nat) : Int)) = _
    unfold ff_X11_runThrough_c14
    rw [h.1 5 (by decide), ii_le (by omega) (by omega), if_neg (by omega), ia_mul, ia_mul, ia_add, ia_add, show ((1 + k : Nat) : Int) = 1 + (k : Int) by omega, pc_reaches hS h hH (by omega) (by omega) (by omega), Option.bind_some, oz_ite, if_pos (u1 k (by omega)), ii_1, ia_add, show 1 + (k : Int) + 1 = ((1 + (k + 1) : Nat) : Int) by omega]
  · intro r
    show ff_X11_runThrough_c14 N o r (Int32.ofInt x) (Int32.ofInt y) (Int32.ofInt 1) (Int32.ofInt 0) (Int32.ofInt (H x y)) (Int32.ofInt ((1 + min (S 5 - 1) (q_uh S H x y) : Nat) : Int)) (Int32.ofInt ((1 + min (S 5 - 1) (q_uh S H x y) : Nat) : Int)) = _
    unfold ff_X11_runThrough_c14
    rw [e2, h.1 5 (by decide), ii_le (by omega) (by omega)]
    by_cases cw : (S 5 : Int) ≤ ((1 + min (S 5 - 1) (q_uh S H x y) : Nat) : Int)
    · rw [if_pos cw]
    · have em : min (S 5 - 1) (q_uh S H x y) = q_uh S H x y := by omega
      rw [if_neg cw, em, ia_mul, ia_mul, ia_add, ia_add, show ((1 + q_uh S H x y : Nat) : Int) = 1 + (q_uh S H x y : Int) by omega, pc_reaches hS h hH (by omega) (by omega) (by omega), Option.bind_some, oz_ite, if_neg u2]
def q_uv (S : Nat → Nat) (H : Int → Int → Int) (x y : Int) : Nat := q_first (fun k => decide (il S H (H x y) (x + (1 + (k : Int)) * 0) (y + (1 + (k : Int)) * 1))) 16
def q_wv (S : Nat → Nat) (H : Int → Int → Int) (x y : Int) : Nat := q_first (fun k => decide (il S H (H x y) (x - (1 + (k : Int)) * 0) (y - (1 + (k : Int)) * 1))) 16
theorem q_uvs (hS : sv S) {x y : Int} (c : ic S x y) : (∀ k : Nat, k < q_uv S H x y → il S H (H x y) (x + (1 + (k : Int)) * 0) (y + (1 + (k : Int)) * 1)) ∧ ¬ il S H (H x y) (x + (1 + (q_uv S H x y : Int)) * 0) (y + (1 + (q_uv S H x y : Int)) * 1) ∧ q_uv S H x y ≤ 16 := by
  have hs := sv_a hS
  obtain ⟨i1, i2, i3⟩ := q_first_spec 16 (fun k => decide (il S H (H x y) (x + (1 + (k : Int)) * 0) (y + (1 + (k : Int)) * 1))) ⟨16, Nat.le_refl _, decide_eq_false (fun z => by omega)⟩
  exact ⟨fun k hk => of_decide_eq_true (i1 k hk), of_decide_eq_false i2, i3⟩
theorem q_wvs (hS : sv S) {x y : Int} (c : ic S x y) : (∀ k : Nat, k < q_wv S H x y → il S H (H x y) (x - (1 + (k : Int)) * 0) (y - (1 + (k : Int)) * 1)) ∧ ¬ il S H (H x y) (x - (1 + (q_wv S H x y : Int)) * 0) (y - (1 + (q_wv S H x y : Int)) * 1) ∧ q_wv S H x y ≤ 16 := by
  have hs := sv_a hS
  obtain ⟨i1, i2, i3⟩ := q_first_spec 16 (fun k => decide (il S H (H x y) (x - (1 + (k : Int)) * 0) (y - (1 + (k : Int)) * 1))) ⟨16, Nat.le_refl _, decide_eq_false (fun z => by omega)⟩
  exact ⟨fun k hk => of_decide_eq_true (i1 k hk), of_decide_eq_false i2, i3⟩
theorem pc_rtv (hN : 1000 < N) (hS : sv S) (h : cp o S T H) (hH : wv S H) {x y : Int} (c : ic S x y) : ff_X11_runThrough N o (Int32.ofInt x) (Int32.ofInt y) (0 : Int32) (1 : Int32) = some (Int32.ofInt ((1 + min (S 5 - 1) (q_uv S H x y) + min (S 5 - 1) (q_wv S H x y) : Nat) : Int)) := by
  have hs := sv_a hS
  have hr := ic_r hS c
  have h0 := hH x y c
  obtain ⟨u1, u2, u3⟩ := q_uvs hS (H := H) c
  obtain ⟨w1, w2, w3⟩ := q_wvs hS (H := H) c
  unfold ff_X11_runThrough
  rw [pc_heightAt hS h (by omega) (by omega), if_pos c, Option.bind_some, ii_1, ii_0]
  have e2 : ∀ m : Nat, ff_X11_runThrough_b54 N o (Int32.ofInt x) (Int32.ofInt y) (Int32.ofInt 0) (Int32.ofInt 1) (Int32.ofInt (H x y)) (Int32.ofInt ((1 + m : Nat) : Int)) = some (Int32.ofInt ((1 + m + min (S 5 - 1) (q_wv S H x y) : Nat) : Int)) := by
    intro m
    unfold ff_X11_runThrough_b54 ff_X11_runThrough_l57
    refine lo_run (N := N) (fun k : Nat => (Int32.ofInt x, Int32.ofInt y, Int32.ofInt 0, Int32.ofInt 1, Int32.ofInt (H x y), Int32.ofInt ((1 + m + k : Nat) : Int), Int32.ofInt ((1 + k : Nat) : Int))) (min (S 5 - 1) (q_wv S H x y)) ?_ ?_ (by omega)
    · intro k hk r
      show ff_X11_runThrough_c57 N o r (Int32.ofInt x) (Int32.ofInt y) (Int32.ofInt 0) (Int32.ofInt 1) (Int32.ofInt (H x y)) (Int32.ofInt ((1 + m + k : Nat) : Int)) (Int32.ofInt ((1 + k : Nat) : Int)) = _
      unfold ff_X11_runThrough_c57
      rw [h.1 5 (by decide), ii_le (by omega) (by omega), if_neg (by omega), ia_mul, ia_mul, ia_sub, ia_sub, show ((1 + k : Nat) : Int) = 1 + (k : Int) by omega, pc_reaches hS h hH (by omega) (by omega) (by omega), Option.bind_some, oz_ite, if_pos (w1 k (by omega)), ii_1, ia_s, ia_add, show 1 + (k : Int) + 1 = ((1 + (k + 1) : Nat) : Int) by omega]
      rfl
    · intro r
      show ff_X11_runThrough_c57 N o r (Int32.ofInt x) (Int32.ofInt y) (Int32.ofInt 0) (Int32.ofInt 1) (Int32.ofInt (H x y)) (Int32.ofInt ((1 + m + min (S 5 - 1) (q_wv S H x y) : Nat) : Int)) (Int32.ofInt ((1 + min (S 5 - 1) (q_wv S H x y) : Nat) : Int)) = _
      unfold ff_X11_runThrough_c57
      rw [h.1 5 (by decide), ii_le (by omega) (by omega)]
      by_cases cw : (S 5 : Int) ≤ ((1 + min (S 5 - 1) (q_wv S H x y) : Nat) : Int)
      · rw [if_pos cw]
      · have em : min (S 5 - 1) (q_wv S H x y) = q_wv S H x y := by omega
        rw [if_neg cw, em, ia_mul, ia_mul, ia_sub, ia_sub, show ((1 + q_wv S H x y : Nat) : Int) = 1 + (q_wv S H x y : Int) by omega, pc_reaches hS h hH (by omega) (by omega) (by omega), Option.bind_some, oz_ite, if_neg w2]
  unfold ff_X11_runThrough_l14
  refine lo_run (N := N) (fun k : Nat => (Int32.ofInt x, Int32.ofInt y, Int32.ofInt 0, Int32.ofInt 1, Int32.ofInt (H x y), Int32.ofInt ((1 + k : Nat) : Int), Int32.ofInt ((1 + k : Nat) : Int))) (min (S 5 - 1) (q_uv S H x y)) ?_ ?_ (by omega)
  · intro k hk r
    show ff_X11_runThrough_c14 N o r (Int32.ofInt x) (Int32.ofInt y) (Int32.ofInt 0) (Int32.ofInt 1) (Int32.ofInt (H x y)) (Int32.ofInt ((1 + k : Nat) : Int)) (Int32.ofInt ((1 + k : Nat) : Int)) = _
    unfold ff_X11_runThrough_c14
    rw [h.1 5 (by decide), ii_le (by omega) (by omega), if_neg (by omega), ia_mul, ia_mul, ia_add, ia_add, show ((1 + k : Nat) : Int) = 1 + (k : Int) by omega, pc_reaches hS h hH (by omega) (by omega) (by omega), Option.bind_some, oz_ite, if_pos (u1 k (by omega)), ii_1, ia_add, show 1 + (k : Int) + 1 = ((1 + (k + 1) : Nat) : Int) by omega]
  · intro r
    show ff_X11_runThrough_c14 N o r (Int32.ofInt x) (Int32.ofInt y) (Int32.ofInt 0) (Int32.ofInt 1) (Int32.ofInt (H x y)) (Int32.ofInt ((1 + min (S 5 - 1) (q_uv S H x y) : Nat) : Int)) (Int32.ofInt ((1 + min (S 5 - 1) (q_uv S H x y) : Nat) : Int)) = _
    unfold ff_X11_runThrough_c14
    rw [e2, h.1 5 (by decide), ii_le (by omega) (by omega)]
    by_cases cw : (S 5 : Int) ≤ ((1 + min (S 5 - 1) (q_uv S H x y) : Nat) : Int)
    · rw [if_pos cw]
    · have em : min (S 5 - 1) (q_uv S H x y) = q_uv S H x y := by omega
      rw [if_neg cw, em, ia_mul, ia_mul, ia_add, ia_add, show ((1 + q_uv S H x y : Nat) : Int) = 1 + (q_uv S H x y : Int) by omega, pc_reaches hS h hH (by omega) (by omega) (by omega), Option.bind_some, oz_ite, if_neg u2]
def q_th (S : Nat → Nat) (H : Int → Int → Int) (x y : Int) : Bool := decide ((S 4 : Int) < H x y ∧ 1 + q_uh S H x y + q_wh S H x y < S 5 ∧ 1 + q_uv S H x y + q_wv S H x y < S 5)
theorem pc_thin (hN : 1000 < N) (hS : sv S) (h : cp o S T H) (hH : wv S H) {x y : Int} (c : ic S x y) : ff_X11_isNarrow N o (Int32.ofInt x) (Int32.ofInt y) = some (oz (q_th S H x y)) := by
  have hs := sv_a hS
  have hr := ic_r hS c
  have h0 := hH x y c
  have u3 := (q_uhs hS (H := H) c).2.2
  have w3 := (q_whs hS (H := H) c).2.2
  have u4 := (q_uvs hS (H := H) c).2.2
  have w4 := (q_wvs hS (H := H) c).2.2
  unfold ff_X11_isNarrow
  rw [pc_heightAt hS h (by omega) (by omega), if_pos c, Option.bind_some, h.1 4 (by decide), h.1 5 (by decide), pc_rth hN hS h hH c, pc_rtv hN hS h hH c, ii_le (by omega) (by omega)]
  simp only [Option.bind_some]
  rw [ii_le (by omega) (by omega), ii_le (by omega) (by omega)]
  unfold q_th
  by_cases ct : (S 4 : Int) < H x y ∧ 1 + q_uh S H x y + q_wh S H x y < S 5 ∧ 1 + q_uv S H x y + q_wv S H x y < S 5
  · rw [decide_eq_true ct, if_neg (by omega), if_neg (by omega), if_neg (by omega)]; rfl
  · rw [decide_eq_false ct]
    repeat' split
    all_goals first | rfl | (exfalso; omega)
end Wall
