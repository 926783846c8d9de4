/-! LAYER 2. A rectangle by its number, the rectangle that has a cell, the rectangles of all layers -/
section Rat
variable {N : Nat} {o ol : os_T} {S : Nat → Nat} {T H : Int → Int → Int} {d : Int}
def q_rv (S : Nat → Nat) (H : Int → Int → Int) (d w x y : Int) : Int := if w = 0 then x else if w = 1 then y else if w = 2 then (q_rl S H d x y : Int) else (q_ro S H d x y : Int)
theorem pc_size (hN : 1000 < N) (hS : sv S) (h : cp o S T H) (hH : wv S H) (hd : ib d) {w x y : Int} (hw : 0 ≤ w ∧ w ≤ 3) (hb : q_br S H d x y = true) : ff_X4_sizeOf N ol o (Int32.ofInt d) (Int32.ofInt (16 * y + x)) (Int32.ofInt w) = some (Int32.ofInt (q_rv S H d w x y)) := by
  have hs := sv_a hS
  have hq := br_x hb
  obtain ⟨e1, e2⟩ := ia_c16 (x := x) (y := y) (by omega) (by omega) (by omega) (by omega)
  unfold ff_X4_sizeOf q_rv
  rw [e1, e2, pc_rl hN hS h hH (by omega) (by omega) hd, pc_ro hN hS h hH hb hd]
  have h0 : (Int32.ofInt w = 0) = (w = 0) := i0_eq (by omega)
  have h1 : (Int32.ofInt w = 1) = (w = 1) := ia_eq (b := 1) (by omega) (by omega) (by omega) (by omega)
  have h2 : (Int32.ofInt w = 2) = (w = 2) := ia_eq (b := 2) (by omega) (by omega) (by omega) (by omega)
  simp only [h0, h1, h2, Option.bind_some]
  repeat' split
  all_goals rfl
theorem rc_rectL (hN : 1000 < N) (hS : sv S) (h : rp o S T H) (hH : wv S H) (hd : ib d) {w i : Int} (hw : 0 ≤ w ∧ w ≤ 3) (hi : ib i) {m : Nat} (hm : m < S 0 * S 1) (hb : q_bk S H d m = true) (ha : q_ah S H d m = i) : ff_X13_rectangle_l70 N N (o, Int32.ofInt d, Int32.ofInt w, Int32.ofInt 0, Int32.ofInt i) = some (Int32.ofInt (q_rv S H d w ((m % S 0 : Nat) : Int) ((m / S 0 : Nat) : Int)), o) := by
  have hs := sv_a hS
  have hwh := sv_wh hS
  have key : ∀ (k : Nat) (L : Int) (r : (os_T × Int32 × Int32 × Int32 × Int32) → Option (Int32 × os_T)), k < S 0 * S 1 → ff_X13_rectangle_b101 N r o (Int32.ofInt d) (Int32.ofInt w) (Int32.ofInt (k : Int)) (Int32.ofInt L) = r (o, Int32.ofInt d, Int32.ofInt w, Int32.ofInt ((k + 1 : Nat) : Int), Int32.ofInt (L - (bif q_bk S H d k then 1 else 0))) := by
    intro k L r hk
    have hc := ic_k hS hk
    have hr := ic_r hS hc
    unfold ff_X13_rectangle_b101
    rw [if_pos nw_0, rs_0 h, if_pos (sv_nz hS), if_pos nw_0, if_pos (sv_nz hS), ia_modN (by omega) (by omega) (by omega), ia_divN (by omega) (by omega) (by omega), rc_bb hN hS h hH (by omega) (by omega) hd, Option.bind_some, rc_truth, Option.bind_some, oz_i, ia_sub, ii_1, ia_s]
    rfl
  unfold ff_X13_rectangle_l70
  have e0 : i = i - q_ah S H d 0 := (Int.sub_zero i).symm
  refine (congrArg (fun z => os_loop _ N (o, Int32.ofInt d, Int32.ofInt w, Int32.ofInt 0, Int32.ofInt z)) e0).trans (lo_run (N := N) (fun k : Nat => (o, Int32.ofInt d, Int32.ofInt w, Int32.ofInt (k : Int), Int32.ofInt (i - q_ah S H d k))) m ?_ ?_ (by omega))
  · intro k hk r
    have hc := ic_k hS (show k < S 0 * S 1 by omega)
    have hr := ic_r hS hc
    have hab := q_ah_b (S := S) (H := H) (d := d) k
    have hle := q_ah_le (S := S) (H := H) (d := d) (Nat.le_of_lt hk)
    have hmb := q_ah_b (S := S) (H := H) (d := d) m
    show ff_X13_rectangle_c70 N r o (Int32.ofInt d) (Int32.ofInt w) (Int32.ofInt (k : Int)) (Int32.ofInt (i - q_ah S H d k)) = _
    unfold ff_X13_rectangle_c70
    have e1 : i - q_ah S H d (k + 1) = i - q_ah S H d k - (bif q_bk S H d k then 1 else 0) := by rw [q_ah_s]; omega
    show _ = r (o, Int32.ofInt d, Int32.ofInt w, Int32.ofInt ((k + 1 : Nat) : Int), Int32.ofInt (i - q_ah S H d (k + 1)))
    rw [e1, ← key k _ r (by omega)]
    simp only [i0_gt (show ib (i - q_ah S H d k) by omega)]
    by_cases c : 0 < i - q_ah S H d k
    · rw [if_pos c]
    · rw [if_neg c, if_pos nw_0, rs_0 h, if_pos (sv_nz hS), if_pos nw_0, if_pos (sv_nz hS), ia_modN (by omega) (by omega) (by omega), ia_divN (by omega) (by omega) (by omega), rc_bb hN hS h hH (by omega) (by omega) hd, Option.bind_some]
      have hf : q_bk S H d k = false := by
        cases hb2 : q_bk S H d k with
        | false => rfl
        | true => have := q_ah_lt hk hb2; omega
      rw [oz_bf (show q_bb S H d ((k % S 0 : Nat) : Int) ((k / S 0 : Nat) : Int) = false from hf)]
  · intro r
    have hc := ic_k hS hm
    have hr := ic_r hS hc
    show ff_X13_rectangle_c70 N r o (Int32.ofInt d) (Int32.ofInt w) (Int32.ofInt (m : Int)) (Int32.ofInt (i - q_ah S H d m)) = _
    unfold ff_X13_rectangle_c70
    have hbr : q_br S H d ((m % S 0 : Nat) : Int) ((m / S 0 : Nat) : Int) = true := by unfold q_bk q_bb at hb; exact ((Bool.and_eq_true _ _).mp hb).1
    unfold q_bk at hb
    simp only [i0_gt (show ib (i - q_ah S H d m) by omega)]
    rw [if_neg (by omega), if_pos nw_0, rs_0 h, if_pos (sv_nz hS), if_pos nw_0, if_pos (sv_nz hS), ia_modN (by omega) (by omega) (by omega), ia_divN (by omega) (by omega) (by omega), rc_bb hN hS h hH (by omega) (by omega) hd, Option.bind_some, oz_bt hb, if_pos nw_0, if_pos (sv_nz hS), if_pos nw_0, if_pos (sv_nz hS), rc_rl hN hS h hH (by omega) (by omega) hd, rc_ro hN hS h hH hbr hd]
    have h0 : (Int32.ofInt w = 0) = (w = 0) := i0_eq (by omega)
    have h2 : (Int32.ofInt w = 2) = (w = 2) := ia_eq (b := 2) (by omega) (by omega) (by omega) (by omega)
    have h3 : ((2 : Int32) ≤ Int32.ofInt w) = (2 ≤ w) := ia_le (a := 2) (by omega) (by omega) (by omega) (by omega)
    simp only [h0, h2, h3, Option.bind_some]
    unfold q_rv
    repeat' split
    all_goals first | rfl | (exfalso; omega)
/-! the rectangle that has a cell -/
def q_lf (S : Nat → Nat) (H : Int → Int → Int) (d x y : Int) : Nat := q_first (fun k => decide (il S H d (x - 1 - k) y)) 16
def q_dn (S : Nat → Nat) (H : Int → Int → Int) (d l y : Int) : Nat := q_first (fun k => q_tw S H d l y (y - 1 - k)) 12
def q_num (S : Nat → Nat) (H : Int → Int → Int) (d x y : Int) : Int := q_ah S H d (S 0 * (y - q_dn S H d (x - q_lf S H d x y) y).toNat + (x - q_lf S H d x y).toNat)
theorem q_lfs (hS : sv S) {x y : Int} (c : il S H d x y) : (∀ k : Nat, k < q_lf S H d x y → il S H d (x - 1 - k) y) ∧ ¬ il S H d (x - 1 - q_lf S H d x y) y ∧ q_lf S H d x y ≤ 16 ∧ q_br S H d (x - q_lf S H d x y) y = true := by
  have hs := sv_a hS
  obtain ⟨i1, i2, i3⟩ := q_first_spec 16 (fun k => decide (il S H d (x - 1 - k) y)) ⟨16, Nat.le_refl _, decide_eq_false (fun z => by omega)⟩
  have j1 : ∀ k : Nat, k < q_lf S H d x y → il S H d (x - 1 - k) y := fun k hk => of_decide_eq_true (i1 k hk)
  have j2 : ¬ il S H d (x - 1 - q_lf S H d x y) y := of_decide_eq_false i2
  refine ⟨j1, j2, i3, q_br_t.mpr ⟨?_, ?_⟩⟩
  · by_cases e : q_lf S H d x y = 0
    · rw [e]
      rwa [show x - ((0 : Nat) : Int) = x from Int.sub_zero x]
    · have := j1 (q_lf S H d x y - 1) (by omega)
      rwa [show x - 1 - ((q_lf S H d x y - 1 : Nat) : Int) = x - (q_lf S H d x y : Int) by omega] at this
  · rwa [show x - (q_lf S H d x y : Int) - 1 = x - 1 - (q_lf S H d x y : Int) by omega]
theorem q_dns (hS : sv S) {l y : Int} (hb : q_br S H d l y = true) : (∀ k : Nat, k < q_dn S H d l y → q_tw S H d l y (y - 1 - k) = true) ∧ q_tw S H d l y (y - 1 - q_dn S H d l y) = false ∧ q_dn S H d l y ≤ 12 ∧ ∀ k : Nat, k ≤ q_dn S H d l y → q_br S H d l (y - k) = true ∧ q_rl S H d l (y - k) = q_rl S H d l y := by
  have hs := sv_a hS
  have hq := br_x hb
  obtain ⟨i1, i2, i3⟩ := q_first_spec 12 (fun k => q_tw S H d l y (y - 1 - k)) ⟨12, Nat.le_refl _, by
    have : q_br S H d l (y - 1 - (12 : Nat)) = false := by
      cases e : q_br S H d l (y - 1 - (12 : Nat)) with
      | false => rfl
      | true => have := br_x e; omega
    show (q_br S H d l (y - 1 - (12 : Nat)) && _) = false
    rw [this]; rfl⟩
  refine ⟨i1, i2, i3, fun k hk => ?_⟩
  rcases k with _ | k
  · rw [show y - ((0 : Nat) : Int) = y from Int.sub_zero y]
    exact ⟨hb, rfl⟩
  · have := i1 k hk
    have e : y - 1 - (k : Int) = y - ((k + 1 : Nat) : Int) := by omega
    have h2 : q_tw S H d l y (y - ((k + 1 : Nat) : Int)) = true := by rw [← e]; exact this
    unfold q_tw at h2
    have h3 := (Bool.and_eq_true _ _).mp h2
    exact ⟨h3.1, of_decide_eq_true h3.2⟩
theorem pc_block (hN : 1000 < N) (hS : sv S) (h : cp o S T H) (hH : wv S H) (hd : ib d) {x y : Int} (c : ic S x y) : ff_X4_blockAt N ol o (Int32.ofInt d) (Int32.ofInt x) (Int32.ofInt y) = some (Int32.ofInt (if il S H d x y then q_num S H d x y else -1)) := by
  have hs := sv_a hS
  have hr := ic_r hS c
  unfold ff_X4_blockAt
  rw [pc_reaches hS h hH (by omega) (by omega) hd, Option.bind_some, oz_ite]
  by_cases ci : il S H d x y
  · rw [if_pos ci, if_pos ci]
    obtain ⟨i1, i2, i3, i4⟩ := q_lfs hS ci
    have hq := br_x i4
    have q4 := (q_rls hS (H := H) (d := d) (x := x - q_lf S H d x y) (y := y) (by omega)).2.2
    have e0 : x = x - ((0 : Nat) : Int) := (Int.sub_zero x).symm
    have eb : ff_X4_blockAt_b53 N ol o (Int32.ofInt d) (Int32.ofInt y) (Int32.ofInt (x - q_lf S H d x y)) = some (Int32.ofInt (q_num S H d x y)) := by
      obtain ⟨j1, j2, j3, j4⟩ := q_dns hS i4
      have hy := br_x (j4 _ (Nat.le_refl _)).1
      have eb1 : ff_X4_blockAt_b101 N ol o (Int32.ofInt d) (Int32.ofInt (x - q_lf S H d x y)) (Int32.ofInt (y - q_dn S H d (x - q_lf S H d x y) y)) = some (Int32.ofInt (q_num S H d x y)) := by
        unfold ff_X4_blockAt_b101 q_num
        have := pc_ahead (ol := ol) hN hS h hH hd (ex := (x - q_lf S H d x y).toNat) (ey := (y - q_dn S H d (x - q_lf S H d x y) y).toNat) (by omega) (by omega)
        rw [Int.toNat_of_nonneg (by omega), Int.toNat_of_nonneg (by omega)] at this
        rw [this]
        rfl
      unfold ff_X4_blockAt_b53
      rw [pc_rl hN hS h hH (by omega) (by omega) hd, Option.bind_some]
      unfold ff_X4_blockAt_l69
      generalize x - (q_lf S H d x y : Int) = l at *
      have e1 : y = y - ((0 : Nat) : Int) := (Int.sub_zero y).symm
      refine (congrArg (fun z => os_loop _ N (Int32.ofInt d, Int32.ofInt l, Int32.ofInt (q_rl S H d l y : Int), Int32.ofInt z, Int32.ofInt ((0 : Nat) : Int))) e1).trans (lo_run (N := N) (fun k : Nat => (Int32.ofInt d, Int32.ofInt l, Int32.ofInt (q_rl S H d l y : Int), Int32.ofInt (y - (k : Int)), Int32.ofInt (k : Int))) (q_dn S H d l y) ?_ ?_ (by omega))
      · intro k hk r
        have ht := j1 k hk
        show ff_X4_blockAt_c69 N ol o r (Int32.ofInt d) (Int32.ofInt l) (Int32.ofInt (q_rl S H d l y : Int)) (Int32.ofInt (y - (k : Int))) (Int32.ofInt (k : Int)) = _
        unfold ff_X4_blockAt_c69
        rw [show (12 : Int32) = Int32.ofInt 12 from rfl, ii_le (by omega) (by omega), if_neg (by omega), ii_m1, ii_1, ia_sub, show y - (k : Int) - 1 = y - 1 - (k : Int) by omega, pc_isRun hN hS h hH (by omega) (by omega) (by omega) hd, Option.bind_some, oz_bt (show (q_br S H d l (y - 1 - k) && decide (q_rl S H d l (y - 1 - k) = q_rl S H d l y)) = true from ht), ia_add, ia_s, show y - (k : Int) + -1 = y - ((k + 1 : Nat) : Int) by omega]
      · intro r
        show ff_X4_blockAt_c69 N ol o r (Int32.ofInt d) (Int32.ofInt l) (Int32.ofInt (q_rl S H d l y : Int)) (Int32.ofInt (y - (q_dn S H d l y : Int))) (Int32.ofInt (q_dn S H d l y : Int)) = _
        unfold ff_X4_blockAt_c69
        rw [eb1, ii_m1, ii_1, ia_sub, show y - (q_dn S H d l y : Int) - 1 = y - 1 - (q_dn S H d l y : Int) by omega, pc_isRun hN hS h hH (by omega) (by omega) (by omega) hd, Option.bind_some, oz_bf (show (q_br S H d l (y - 1 - (q_dn S H d l y : Nat)) && decide (q_rl S H d l (y - 1 - (q_dn S H d l y : Nat)) = q_rl S H d l y)) = false from j2)]
        split <;> rfl
    unfold ff_X4_blockAt_l21
    refine (congrArg (fun z => os_loop _ N (Int32.ofInt d, Int32.ofInt y, Int32.ofInt z, Int32.ofInt ((0 : Nat) : Int))) e0).trans (lo_run (N := N) (fun k : Nat => (Int32.ofInt d, Int32.ofInt y, Int32.ofInt (x - (k : Int)), Int32.ofInt (k : Int))) (q_lf S H d x y) ?_ ?_ (by omega))
    · intro k hk r
      show ff_X4_blockAt_c21 N ol o r (Int32.ofInt d) (Int32.ofInt y) (Int32.ofInt (x - (k : Int))) (Int32.ofInt (k : Int)) = _
      unfold ff_X4_blockAt_c21
      rw [ii_16, ii_le (by omega) (by omega), if_neg (by omega), ii_m1, ii_1, ia_sub, show x - (k : Int) - 1 = x - 1 - (k : Int) by omega, pc_reaches hS h hH (by omega) (by omega) hd, Option.bind_some, oz_ite, if_pos (i1 k hk), ia_add, ia_s, show x - (k : Int) + -1 = x - ((k + 1 : Nat) : Int) by omega]
    · intro r
      show ff_X4_blockAt_c21 N ol o r (Int32.ofInt d) (Int32.ofInt y) (Int32.ofInt (x - (q_lf S H d x y : Int))) (Int32.ofInt (q_lf S H d x y : Int)) = _
      unfold ff_X4_blockAt_c21
      rw [eb, ii_m1, ii_1, ia_sub, show x - (q_lf S H d x y : Int) - 1 = x - 1 - (q_lf S H d x y : Int) by omega, pc_reaches hS h hH (by omega) (by omega) hd, Option.bind_some, oz_ite, if_neg i2]
      split <;> rfl
  · rw [if_neg ci, if_neg ci]; rfl
theorem rc_blockL (hN : 1000 < N) (hS : sv S) (h : rp o S T H) (hH : wv S H) (hd : ib d) {x y : Int} (ci : il S H d x y) : ff_X13_rectangleAt_l59 N N (o, Int32.ofInt d, Int32.ofInt y, Int32.ofInt x) = some (Int32.ofInt (q_num S H d x y), o) := by
  have hs := sv_a hS
  have hwh := sv_wh hS
  have hr := ic_r hS ci.1
  obtain ⟨i1, i2, i3, i4⟩ := q_lfs hS ci
  have hq := br_x i4
  obtain ⟨j1, j2, j3, j4⟩ := q_dns hS i4
  have hy := br_x (j4 _ (Nat.le_refl _)).1
  have ec : ff_X13_rectangleAt_l103 N N (o, Int32.ofInt d, Int32.ofInt (x - q_lf S H d x y), Int32.ofInt (y - q_dn S H d (x - q_lf S H d x y) y), Int32.ofInt 0, Int32.ofInt ((0 : Nat) : Int)) = some (Int32.ofInt (q_num S H d x y), o) := by
    unfold q_num
    generalize x - (q_lf S H d x y : Int) = l at *
    generalize y - (q_dn S H d l y : Int) = z at *
    obtain ⟨ln, rfl⟩ : ∃ n : Nat, l = n := ⟨l.toNat, by omega⟩
    obtain ⟨zn, rfl⟩ : ∃ n : Nat, z = n := ⟨z.toNat, by omega⟩
    rw [Int.toNat_natCast, Int.toNat_natCast]
    have hlt : S 0 * zn + ln < S 0 * S 1 := fg_lt (by omega) (by omega)
    unfold ff_X13_rectangleAt_l103
    refine lo_run (N := N) (fun k : Nat => (o, Int32.ofInt d, Int32.ofInt (ln : Int), Int32.ofInt (zn : Int), Int32.ofInt (q_ah S H d k), Int32.ofInt (k : Int))) (S 0 * zn + ln) ?_ ?_ (by omega)
    · intro k hk r
      have hc := ic_k hS (show k < S 0 * S 1 by omega)
      have hr := ic_r hS hc
      show ff_X13_rectangleAt_c103 N r o (Int32.ofInt d) (Int32.ofInt (ln : Int)) (Int32.ofInt (zn : Int)) (Int32.ofInt (q_ah S H d k)) (Int32.ofInt (k : Int)) = _
      unfold ff_X13_rectangleAt_c103
      rw [if_pos nw_0, rs_0 h, ia_mul, ia_add, show (S 0 : Int) * (zn : Int) + (ln : Int) = ((S 0 * zn + ln : Nat) : Int) from rfl, ii_le (by omega) (by omega), if_neg (by omega), if_pos nw_0, if_pos (sv_nz hS), if_pos nw_0, if_pos (sv_nz hS), ia_modN (by omega) (by omega) (by omega), ia_divN (by omega) (by omega) (by omega), rc_bb hN hS h hH (by omega) (by omega) hd, Option.bind_some, rc_truth, Option.bind_some, oz_i, ia_add, ii_1, ia_s]
      rfl
    · intro r
      show ff_X13_rectangleAt_c103 N r o (Int32.ofInt d) (Int32.ofInt (ln : Int)) (Int32.ofInt (zn : Int)) (Int32.ofInt (q_ah S H d (S 0 * zn + ln))) (Int32.ofInt ((S 0 * zn + ln : Nat) : Int)) = _
      unfold ff_X13_rectangleAt_c103
      rw [if_pos nw_0, rs_0 h, ia_mul, ia_add, show (S 0 : Int) * (zn : Int) + (ln : Int) = ((S 0 * zn + ln : Nat) : Int) from rfl, if_pos (Int32.le_refl _)]
  have eb : ff_X13_rectangleAt_l79 N N (o, Int32.ofInt d, Int32.ofInt (x - q_lf S H d x y), Int32.ofInt y) = some (Int32.ofInt (q_num S H d x y), o) := by
    unfold ff_X13_rectangleAt_l79
    generalize x - (q_lf S H d x y : Int) = l at *
    have e1 : y = y - ((0 : Nat) : Int) := (Int.sub_zero y).symm
    refine (congrArg (fun z => os_loop _ N (o, Int32.ofInt d, Int32.ofInt l, Int32.ofInt z)) e1).trans (lo_run (N := N) (fun k : Nat => (o, Int32.ofInt d, Int32.ofInt l, Int32.ofInt (y - (k : Int)))) (q_dn S H d l y) ?_ ?_ (by omega))
    · intro k hk r
      have hb4 := j4 k (by omega)
      have ht := j1 k hk
      have hq2 := br_x hb4.1
      have hf : q_bb S H d l (y - k) = false := by
        unfold q_bb
        have : q_tw S H d l (y - k) (y - k - 1) = true := by
          unfold q_tw
          rw [hb4.2, show y - (k : Int) - 1 = y - 1 - (k : Int) by omega]
          exact ht
        rw [this, Bool.not_true, Bool.and_false]
      show ff_X13_rectangleAt_c79 N r o (Int32.ofInt d) (Int32.ofInt l) (Int32.ofInt (y - (k : Int))) = _
      unfold ff_X13_rectangleAt_c79
      rw [rc_bb hN hS h hH (by omega) (by omega) hd, Option.bind_some, oz_bf hf, ii_m1, ia_add, show y - (k : Int) + -1 = y - ((k + 1 : Nat) : Int) by omega]
    · intro r
      have hb4 := j4 _ (Nat.le_refl _)
      have ht : q_bb S H d l (y - (q_dn S H d l y : Nat)) = true := by
        unfold q_bb
        have : q_tw S H d l (y - (q_dn S H d l y : Nat)) (y - (q_dn S H d l y : Nat) - 1) = false := by
          unfold q_tw
          rw [hb4.2, show y - ((q_dn S H d l y : Nat) : Int) - 1 = y - 1 - ((q_dn S H d l y : Nat) : Int) by omega]
          exact j2
        rw [this, hb4.1]; rfl
      show ff_X13_rectangleAt_c79 N r o (Int32.ofInt d) (Int32.ofInt l) (Int32.ofInt (y - (q_dn S H d l y : Int))) = _
      unfold ff_X13_rectangleAt_c79
      rw [rc_bb hN hS h hH (by omega) (by omega) hd, Option.bind_some, oz_bt ht]
      exact ec
  unfold ff_X13_rectangleAt_l59
  have e0 : x = x - ((0 : Nat) : Int) := (Int.sub_zero x).symm
  refine (congrArg (fun z => os_loop _ N (o, Int32.ofInt d, Int32.ofInt y, Int32.ofInt z)) e0).trans (lo_run (N := N) (fun k : Nat => (o, Int32.ofInt d, Int32.ofInt y, Int32.ofInt (x - (k : Int)))) (q_lf S H d x y) ?_ ?_ (by omega))
  · intro k hk r
    have hf : q_br S H d (x - k) y = false := by
      cases e : q_br S H d (x - k) y with
      | false => rfl
      | true =>
        have := (q_br_t.mp e).2
        exact absurd (show il S H d (x - k - 1) y by rw [show x - (k : Int) - 1 = x - 1 - (k : Int) by omega]; exact i1 k hk) this
    show ff_X13_rectangleAt_c59 N r o (Int32.ofInt d) (Int32.ofInt y) (Int32.ofInt (x - (k : Int))) = _
    unfold ff_X13_rectangleAt_c59
    rw [rc_br hS h hH (by omega) (by omega) hd, Option.bind_some, oz_bf hf, ii_m1, ia_add, show x - (k : Int) + -1 = x - ((k + 1 : Nat) : Int) by omega]
  · intro r
    show ff_X13_rectangleAt_c59 N r o (Int32.ofInt d) (Int32.ofInt y) (Int32.ofInt (x - (q_lf S H d x y : Int))) = _
    unfold ff_X13_rectangleAt_c59
    rw [rc_br hS h hH (by omega) (by omega) hd, Option.bind_some, oz_bt i4]
    exact eb
/-! all layers together -/
def q_allr (S : Nat → Nat) (H : Int → Int → Int) : Int := fo (fun k a => a + q_cnt S (q_bb S H (1 + k))) (S 2) 0
theorem pc_allr (hN : 1000 < N) (hS : sv S) (h : cp o S T H) (hH : wv S H) {ox : os_T} : ff_X12_allRectangles N ox o ol = some (Int32.ofInt (q_allr S H)) := by
  have hs := sv_a hS
  unfold ff_X12_allRectangles ff_X12_allRectangles_l4
  refine lo_fo (N := N) (fun (a : Int) k => (Int32.ofInt a, Int32.ofInt (1 + (k : Int)))) (fun k a => a + q_cnt S (q_bb S H (1 + k))) 0 (S 2) ?_ ?_ (by omega)
  · intro k a hk ha r
    show ff_X12_allRectangles_c4 N ox o ol r (Int32.ofInt a) (Int32.ofInt (1 + (k : Int))) = _
    unfold ff_X12_allRectangles_c4
    rw [h.1 2 (by decide), ii_lt (by omega) (by omega), if_neg (by omega), pc_blocks hN hS h hH (by omega), Option.bind_some, ia_add, ii_1, ia_add, Int.add_assoc 1]
    rfl
  · intro r
    show ff_X12_allRectangles_c4 N ox o ol r _ (Int32.ofInt (1 + (S 2 : Int))) = _
    unfold ff_X12_allRectangles_c4
    rw [h.1 2 (by decide), ii_lt (by omega) (by omega), if_pos (by omega)]
    rfl
theorem rc_allrL (hN : 1000 < N) (hS : sv S) (h : rp o S T H) (hH : wv S H) : ff_X13_allRectangles_l9 N N (o, Int32.ofInt 0, Int32.ofInt 1) = some (Int32.ofInt (q_allr S H), o) := by
  have hs := sv_a hS
  unfold ff_X13_allRectangles_l9
  refine lo_fo (N := N) (fun (a : Int) k => (o, Int32.ofInt a, Int32.ofInt (1 + (k : Int)))) (fun k a => a + q_cnt S (q_bb S H (1 + k))) 0 (S 2) ?_ ?_ (by omega)
  · intro k a hk ha r
    show ff_X13_allRectangles_c9 N r o (Int32.ofInt a) (Int32.ofInt (1 + (k : Int))) = _
    unfold ff_X13_allRectangles_c9
    rw [if_pos nw_2, rs_2 h, ii_lt (by omega) (by omega), if_neg (by omega), rc_rects hN hS h hH (by omega), Option.bind_some, ia_add, ii_1, ia_add, Int.add_assoc 1]
    rfl
  · intro r
    show ff_X13_allRectangles_c9 N r o _ (Int32.ofInt (1 + (S 2 : Int))) = _
    unfold ff_X13_allRectangles_c9
    rw [if_pos nw_2, rs_2 h, ii_lt (by omega) (by omega), if_pos (by omega)]
    rfl
end Rat
