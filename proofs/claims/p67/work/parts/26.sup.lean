/-! LAYER 2. Supports -/
theorem i0_lt {a : Int} (ha : ib a) : (Int32.ofInt a < 0) = (a < 0) := ia_lt (b := 0) ha.1 ha.2 (by omega) (by omega)
theorem i0_gt {a : Int} (ha : ib a) : (0 < Int32.ofInt a) = (0 < a) := ia_lt (a := 0) (by omega) (by omega) ha.1 ha.2
theorem i0_le {a : Int} (ha : ib a) : (Int32.ofInt a ≤ 0) = (a ≤ 0) := ia_le (b := 0) ha.1 ha.2 (by omega) (by omega)
theorem i0_eq {a : Int} (ha : ib a) : (Int32.ofInt a = 0) = (a = 0) := ia_eq (b := 0) ha.1 ha.2 (by omega) (by omega)
section Sup
variable {N : Nat} {o : os_T} {S : Nat → Nat} {T H : Int → Int → Int}
def q_ex (S : Nat → Nat) (H : Int → Int → Int) (x y : Int) : Int := if y = 0 then 0 else max 0 (H x y - H x (y - 1) - S 6)
theorem q_exb (hS : sv S) (hH : wv S H) {x y : Int} (c : ic S x y) : 0 ≤ q_ex S H x y ∧ q_ex S H x y ≤ 2000000 := by
  have := sv_a hS
  have := hH x y c
  unfold q_ex
  split
  · omega
  · have := hH x (y - 1) (by omega)
    omega
theorem pc_excess (hS : sv S) (h : cp o S T H) (hH : wv S H) {x y : Int} (c : ic S x y) : ff_X9_excess N o (Int32.ofInt x) (Int32.ofInt y) = some (Int32.ofInt (q_ex S H x y)) := by
  have hs := sv_a hS
  have hr := ic_r hS c
  have h0 := hH x y c
  unfold ff_X9_excess q_ex
  simp only [i0_gt (show ib y by omega)]
  by_cases cy : y = 0
  · rw [if_neg (by omega), if_pos cy]; rfl
  · have c2 : ic S x (y - 1) := by omega
    have h1 := hH x (y - 1) c2
    rw [if_pos (by omega), if_neg cy, pc_heightAt hS h (by omega) (by omega), if_pos c, Option.bind_some, ii_1, ia_sub, pc_heightAt hS h (by omega) (by omega), if_pos c2, Option.bind_some, h.1 6 (by decide), ia_add, ia_sub, ii_0, ia_mx (by omega) (by omega), Int.sub_sub]
def q_sl (H : Int → Int → Int) (x d : Int) : Nat → Int
  | 0 => 0
  | n + 1 => if H x n < d then 1 + q_sl H x d n else 0
theorem pc_slL (hS : sv S) (h : cp o S T H) (hH : wv S H) {x d : Int} (hd : ib d) : ∀ (n : Nat) (len : Int) (M : Nat), n < M → (n = 0 ∨ ic S x ((n : Int) - 1)) → os_loop (fun k27 s1 => ff_X9_lengthOf_c27 N o k27 s1.1 s1.2.1 s1.2.2.1 s1.2.2.2) M (Int32.ofInt x, Int32.ofInt d, Int32.ofInt len, Int32.ofInt ((n : Int) - 1)) = some (Int32.ofInt (len + q_sl H x d n)) := by
  have hs := sv_a hS
  intro n
  induction n with
  | zero =>
    intro len M hM _
    obtain ⟨M, rfl⟩ : ∃ m, M = m + 1 := ⟨M - 1, by omega⟩
    show ff_X9_lengthOf_c27 N o _ (Int32.ofInt x) (Int32.ofInt d) (Int32.ofInt len) (Int32.ofInt (-1)) = _
    unfold ff_X9_lengthOf_c27 q_sl
    rw [if_pos (by decide), Int.add_zero]
  | succ n ih =>
    intro len M hM hc
    obtain ⟨M, rfl⟩ : ∃ m, M = m + 1 := ⟨M - 1, by omega⟩
    have c : ic S x (n : Int) := by
      rcases hc with hc | hc
      · omega
      · rwa [show ((n + 1 : Nat) : Int) - 1 = (n : Int) by omega] at hc
    have hr := ic_r hS c
    have h0 := hH _ _ c
    rw [show ((n + 1 : Nat) : Int) - 1 = (n : Int) by omega]
    show ff_X9_lengthOf_c27 N o _ (Int32.ofInt x) (Int32.ofInt d) (Int32.ofInt len) (Int32.ofInt (n : Int)) = _
    unfold ff_X9_lengthOf_c27 q_sl
    simp only [i0_lt (show ib (n : Int) by omega)]
    rw [if_neg (by omega), pc_heightAt hS h (by omega) (by omega), if_pos c, Option.bind_some, ii_le hd (by omega)]
    by_cases c2 : H x n < d
    · rw [if_neg (by omega), if_pos c2, ii_m1, ii_1, ia_add, ia_add, ← Int.add_assoc]
      exact ih (len + 1) M (by omega) (by omega)
    · rw [if_pos (by omega), if_neg c2, Int.add_zero]
def q_len (S : Nat → Nat) (H : Int → Int → Int) (x y d : Int) : Int := if H x y - q_ex S H x y < d then q_sl H x d y.toNat else 0
theorem pc_len (hN : 1000 < N) (hS : sv S) (h : cp o S T H) (hH : wv S H) {x y d : Int} (c : ic S x y) (hd : ib d) : ff_X9_lengthOf N o (Int32.ofInt x) (Int32.ofInt y) (Int32.ofInt d) = some (Int32.ofInt (q_len S H x y d)) := by
  have hs := sv_a hS
  have hr := ic_r hS c
  have h0 := hH x y c
  have hq := q_exb hS hH c
  unfold ff_X9_lengthOf q_len
  rw [pc_heightAt hS h (by omega) (by omega), if_pos c, Option.bind_some, pc_excess hS h hH c, Option.bind_some, ia_sub, ii_lt (by omega) hd]
  by_cases c2 : H x y - q_ex S H x y < d
  · rw [if_pos c2, if_pos c2, ii_1, ia_sub, ii_0]
    have := pc_slL (N := N) hS h hH (x := x) hd y.toNat 0 N (by omega) (by omega)
    rw [Int.toNat_of_nonneg (by omega), Int.zero_add] at this
    exact this
  · rw [if_neg c2, if_neg c2]; rfl
theorem fo_sh {f : Nat → Int} (n : Nat) (a : Int) : fo (fun j b => b + f j) n a = a + fo (fun j b => b + f j) n 0 := by
  induction n with
  | zero => exact (Int.add_zero a).symm
  | succ n ih => rw [fo_s, fo_s, ih, Int.add_assoc]
def q_csum (S : Nat → Nat) (H : Int → Int → Int) (x y : Int) : Int := fo (fun j b => b + q_len S H x y (H x y - q_ex S H x y + 1 + j)) (q_ex S H x y).toNat 0
theorem q_csR (hS : sv S) (hH : hv S H) {x y : Int} (c : ic S x y) (a : Int) : fo (fun j b => b + q_len S H x y (1 + j)) (H x y).toNat a = a + q_csum S H x y := by
  have hs := sv_a hS
  have h0 := hH x y c
  have hq := q_exb hS (hH.wv hS) c
  have hle : q_ex S H x y ≤ H x y := by
    unfold q_ex
    split
    · omega
    · have := hH x (y - 1) (by have := ic_r hS c; omega)
      omega
  obtain ⟨m, hm⟩ : ∃ m : Nat, (m : Int) = H x y - q_ex S H x y := ⟨(H x y - q_ex S H x y).toNat, by omega⟩
  rw [fo_sh, show (H x y).toNat = m + (q_ex S H x y).toNat by omega, fo_add]
  have e1 : fo (fun j b => b + q_len S H x y (1 + j)) m 0 = 0 := by
    refine fo_inv (fun _ b => b = 0) rfl ?_
    intro k hk b hb
    show b + q_len S H x y (1 + k) = 0
    unfold q_len
    rw [if_neg (by omega), hb]; rfl
  rw [e1]
  unfold q_csum
  congr 1
  refine fo_congr ?_
  intro k hk b _
  show b + q_len S H x y (1 + ((m + k : Nat) : Int)) = _
  congr 2
  omega
theorem pc_csum (hN : 1000 < N) (hS : sv S) (h : cp o S T H) (hH : hv S H) {x y : Int} (c : ic S x y) : ff_X9_sumOfCell N o (Int32.ofInt x) (Int32.ofInt y) = some (Int32.ofInt (q_csum S H x y)) := by
  have hs := sv_a hS
  have hr := ic_r hS c
  have h0 := hH x y c
  have hw := hH.wv hS
  have hq := q_exb hS hw c
  have hle : q_ex S H x y ≤ 20 := by
    unfold q_ex
    split
    · omega
    · have := hH x (y - 1) (by omega)
      omega
  unfold ff_X9_sumOfCell
  rw [pc_heightAt hS h (by omega) (by omega), if_pos c, Option.bind_some, pc_excess hS h hw c, Option.bind_some, ii_1, ia_sub, ia_add]
  unfold ff_X9_sumOfCell_l23
  have eh : H x y - q_ex S H x y + 1 = H x y - q_ex S H x y + 1 + ((0 : Nat) : Int) := (Int.add_zero _).symm
  rw [eh]
  refine lo_fo (fun (a : Int) j => (Int32.ofInt x, Int32.ofInt y, Int32.ofInt a, Int32.ofInt (H x y), Int32.ofInt (H x y - q_ex S H x y + 1 + (j : Int)))) (fun j b => b + q_len S H x y (H x y - q_ex S H x y + 1 + j)) 0 (q_ex S H x y).toNat ?_ ?_ (by omega)
  · intro j a hj ha r
    show ff_X9_sumOfCell_c23 N o r (Int32.ofInt x) (Int32.ofInt y) (Int32.ofInt a) (Int32.ofInt (H x y)) (Int32.ofInt (H x y - q_ex S H x y + 1 + (j : Int))) = _
    unfold ff_X9_sumOfCell_c23
    rw [ii_lt (by omega) (by omega), if_neg (by omega), pc_len hN hS h hw c (by omega), Option.bind_some, ia_add, ii_1, ia_add, Int.add_assoc (_ + 1)]
    rfl
  · intro r
    show ff_X9_sumOfCell_c23 N o r (Int32.ofInt x) (Int32.ofInt y) _ (Int32.ofInt (H x y)) (Int32.ofInt (H x y - q_ex S H x y + 1 + ((q_ex S H x y).toNat : Int))) = _
    unfold ff_X9_sumOfCell_c23
    rw [ii_lt (by omega) (by omega), if_pos (by omega)]
    rfl

theorem gr_t1 {σ : Type} {w h : Nat} {g : Int → Int → σ → σ} {a : σ} : gr w h (fun x y => g x (y + 1)) a = gr w h (fun x y => g x (y + 1)) a := rfl
theorem pc_supN (hN : 1000 < N) (hS : sv S) (h : cp o S T H) (hH : wv S H) : ff_X9_countOfCells N o  = some (Int32.ofInt (gr (S 0) (S 1 - 1) (fun x y a => a + (bif decide (0 < q_ex S H x (y + 1)) then 1 else 0)) 0)) := by
  have hs := sv_a hS
  unfold ff_X9_countOfCells ff_X9_countOfCells_l4
  refine lo_grid (N := N) (step2 := fun k2 r2 s1 => ff_X9_countOfCells_c14 N o k2 r2 s1.1 s1.2.1 s1.2.2) (fun (a : Int) (y : Nat) => (Int32.ofInt a, Int32.ofInt ((y + 1 : Nat) : Int))) (fun (a : Int) (y x : Nat) => (Int32.ofInt a, Int32.ofInt ((y + 1 : Nat) : Int), Int32.ofInt (x : Int))) (S 0) (S 1 - 1) (fun x y a => a + (bif decide (0 < q_ex S H x (y + 1)) then 1 else 0)) (0) ?_ ?_ ?_ ?_ (by omega) (by omega)
  · intro a y r hy
    show ff_X9_countOfCells_c4 N o r (Int32.ofInt a) (Int32.ofInt ((y + 1 : Nat) : Int)) = _
    unfold ff_X9_countOfCells_c4
    rw [if_neg (pc_rN hS h (by omega))]
    rfl
  · intro a x y k r hx hy ha
    have hc : ic S (x : Int) ((y + 1 : Nat) : Int) := ic_n hx (by omega)
    have hr := ic_r hS hc
    show ff_X9_countOfCells_c14 N o k r (Int32.ofInt a) (Int32.ofInt ((y + 1 : Nat) : Int)) (Int32.ofInt (x : Int)) = _
    unfold ff_X9_countOfCells_c14
    rw [if_neg (pc_wN hS h hx)]
    have hq := q_exb hS hH hc
    rw [pc_excess hS h hH hc, Option.bind_some]
    simp only [i0_le (show ib (q_ex S H (x : Int) ((y + 1 : Nat) : Int)) by omega)]
    unfold ff_X9_countOfCells_b37
    show _ = r (Int32.ofInt (a + (bif decide (0 < q_ex S H (x : Int) ((y + 1 : Nat) : Int)) then 1 else 0)), _, _)
    by_cases c : 0 < q_ex S H (x : Int) ((y + 1 : Nat) : Int)
    · rw [if_neg (by omega), decide_eq_true c, ii_1, ia_add, ia_s]; rfl
    · rw [if_pos (by omega), decide_eq_false c, ii_0, ii_1, ia_add, ia_s]; rfl
  · intro a y k r hy ha
    show ff_X9_countOfCells_c14 N o k r (Int32.ofInt a) (Int32.ofInt ((y + 1 : Nat) : Int)) (Int32.ofInt (S 0 : Int)) = _
    unfold ff_X9_countOfCells_c14
    rw [if_pos (pc_wE h), ii_1, ia_add]
    rfl
  · intro r
    show ff_X9_countOfCells_c4 N o r _ (Int32.ofInt ((S 1 - 1 + 1 : Nat) : Int)) = _
    unfold ff_X9_countOfCells_c4
    rw [if_pos (pc_rE1 hS h)]
    all_goals rfl

theorem pc_supV (hN : 1000 < N) (hS : sv S) (h : cp o S T H) (hH : hv S H) : ff_X9_sumOfLengths N o  = some (Int32.ofInt (gr (S 0) (S 1 - 1) (fun x y a => a + q_csum S H x (y + 1)) 0)) := by
  have hs := sv_a hS
  unfold ff_X9_sumOfLengths ff_X9_sumOfLengths_l4
  refine lo_grid (N := N) (step2 := fun k2 r2 s1 => ff_X9_sumOfLengths_c14 N o k2 r2 s1.1 s1.2.1 s1.2.2) (fun (a : Int) (y : Nat) => (Int32.ofInt a, Int32.ofInt ((y + 1 : Nat) : Int))) (fun (a : Int) (y x : Nat) => (Int32.ofInt a, Int32.ofInt ((y + 1 : Nat) : Int), Int32.ofInt (x : Int))) (S 0) (S 1 - 1) (fun x y a => a + q_csum S H x (y + 1)) (0) ?_ ?_ ?_ ?_ (by omega) (by omega)
  · intro a y r hy
    show ff_X9_sumOfLengths_c4 N o r (Int32.ofInt a) (Int32.ofInt ((y + 1 : Nat) : Int)) = _
    unfold ff_X9_sumOfLengths_c4
    rw [if_neg (pc_rN hS h (by omega))]
    rfl
  · intro a x y k r hx hy ha
    have hc : ic S (x : Int) ((y + 1 : Nat) : Int) := ic_n hx (by omega)
    have hr := ic_r hS hc
    show ff_X9_sumOfLengths_c14 N o k r (Int32.ofInt a) (Int32.ofInt ((y + 1 : Nat) : Int)) (Int32.ofInt (x : Int)) = _
    unfold ff_X9_sumOfLengths_c14
    rw [if_neg (pc_wN hS h hx)]
    rw [pc_csum hN hS h hH hc, Option.bind_some, ia_add, ii_1, ia_s]
    rfl
  · intro a y k r hy ha
    show ff_X9_sumOfLengths_c14 N o k r (Int32.ofInt a) (Int32.ofInt ((y + 1 : Nat) : Int)) (Int32.ofInt (S 0 : Int)) = _
    unfold ff_X9_sumOfLengths_c14
    rw [if_pos (pc_wE h), ii_1, ia_add]
    rfl
  · intro r
    show ff_X9_sumOfLengths_c4 N o r _ (Int32.ofInt ((S 1 - 1 + 1 : Nat) : Int)) = _
    unfold ff_X9_sumOfLengths_c4
    rw [if_pos (pc_rE1 hS h)]
    all_goals rfl

theorem pc_slope (hN : 1000 < N) (hS : sv S) (h : cp o S T H) (hH : hv S H) : ff_X9_leastSlope N o  = some (Int32.ofInt (gr (S 0) (S 1 - 1) (fun x y a => max a (H x (y + 1) - H x y)) 0)) := by
  have hs := sv_a hS
  unfold ff_X9_leastSlope ff_X9_leastSlope_l4
  refine lo_grid (N := N) (step2 := fun k2 r2 s1 => ff_X9_leastSlope_c14 N o k2 r2 s1.1 s1.2.1 s1.2.2) (fun (a : Int) (y : Nat) => (Int32.ofInt a, Int32.ofInt ((y + 1 : Nat) : Int))) (fun (a : Int) (y x : Nat) => (Int32.ofInt a, Int32.ofInt ((y + 1 : Nat) : Int), Int32.ofInt (x : Int))) (S 0) (S 1 - 1) (fun x y a => max a (H x (y + 1) - H x y)) (0) ?_ ?_ ?_ ?_ (by omega) (by omega)
  · intro a y r hy
    show ff_X9_leastSlope_c4 N o r (Int32.ofInt a) (Int32.ofInt ((y + 1 : Nat) : Int)) = _
    unfold ff_X9_leastSlope_c4
    rw [if_neg (pc_rN hS h (by omega))]
    rfl
  · intro a x y k r hx hy ha
    have hc : ic S (x : Int) ((y + 1 : Nat) : Int) := ic_n hx (by omega)
    have hr := ic_r hS hc
    show ff_X9_leastSlope_c14 N o k r (Int32.ofInt a) (Int32.ofInt ((y + 1 : Nat) : Int)) (Int32.ofInt (x : Int)) = _
    unfold ff_X9_leastSlope_c14
    rw [if_neg (pc_wN hS h hx)]
    have hab := fo_maxb (f := fun x y => H x (y + 1) - H x y) (c := 0) (M := 20) (Nat.le_of_lt (fg_lt hx hy)) (fun x y hx hy => by
      have h1 := hH x ((y + 1 : Nat) : Int) (ic_n hx (by omega))
      have h2 := hH x y (ic_n hx (by omega))
      show H x ((y + 1 : Nat) : Int) - H x y ≤ 20
      omega) (by omega)
    rw [← ha] at hab
    have c2 : ic S (x : Int) (((y + 1 : Nat) : Int) - 1) := by omega
    have h1 := hH _ _ hc
    have h2 := hH _ _ c2
    rw [pc_heightAt hS h (by omega) (by omega), if_pos hc, Option.bind_some, ii_1, ia_sub, pc_heightAt hS h (by omega) (by omega), if_pos c2, Option.bind_some, ia_sub, ia_mx (by omega) (by omega), ia_s, show ((y + 1 : Nat) : Int) - 1 = (y : Int) by omega]
    rfl
  · intro a y k r hy ha
    show ff_X9_leastSlope_c14 N o k r (Int32.ofInt a) (Int32.ofInt ((y + 1 : Nat) : Int)) (Int32.ofInt (S 0 : Int)) = _
    unfold ff_X9_leastSlope_c14
    rw [if_pos (pc_wE h), ii_1, ia_add]
    rfl
  · intro r
    show ff_X9_leastSlope_c4 N o r _ (Int32.ofInt ((S 1 - 1 + 1 : Nat) : Int)) = _
    unfold ff_X9_leastSlope_c4
    rw [if_pos (pc_rE1 hS h)]
    all_goals rfl

theorem q_supN (hS : sv S) : gr (S 0) (S 1 - 1) (fun x y a => a + (bif decide (0 < q_ex S H x (y + 1)) then 1 else 0)) 0 = q_cnt S (fun x y => decide (0 < q_ex S H x y)) := by
  have hs := sv_a hS
  refine (gr_skip (g := fun x y a => a + (bif decide (0 < q_ex S H x y) then 1 else 0)) (by omega) (fun x hx a => ?_)).symm
  show a + (bif decide (0 < q_ex S H x 0) then 1 else 0) = a
  rw [decide_eq_false (by unfold q_ex; rw [if_pos rfl]; omega)]
  exact Int.add_zero a
end Sup
