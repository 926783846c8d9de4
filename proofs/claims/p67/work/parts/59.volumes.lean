/-! LAYER 2. Layers hold the volume; parts, rectangles, runs, cells -/
section Vol
variable {N : Nat} {ot o ol x : os_T} {S : Nat → Nat} {T H G : Int → Int → Int} {d : Int}
def q_lc (S : Nat → Nat) (H : Int → Int → Int) (d : Int) : Int := q_cnt S (fun x y => decide (il S H d x y))
theorem q_lc_le {e : Int} (h : d ≤ e) : q_lc S H e ≤ q_lc S H d :=
  q_cnt_le fun x y c z => decide_eq_true ⟨c, Int.le_trans h (of_decide_eq_true z).2⟩
theorem gr_ad {w h : Nat} {f g t : Int → Int → Int} (e : ∀ x y : Nat, x < w → y < h → f x y = g x y + t x y) : gr w h (fun x y a => a + f x y) 0 = gr w h (fun x y a => a + g x y) 0 + gr w h (fun x y a => a + t x y) 0 := by
  have := gr_sub (w := w) (h := h) (f := g) (g := f) (t := t) (fun x y hx hy => by rw [e x y hx hy]; omega)
  omega
def q_cap (S : Nat → Nat) (H : Int → Int → Int) (d : Int) : Int := q_sum S (fun x y => min (H x y) d)
theorem q_cap_s (d : Int) : q_cap S H (d + 1) = q_cap S H d + q_lc S H (d + 1) := by
  unfold q_cap q_sum q_lc q_cnt
  refine gr_ad fun x y hx hy => ?_
  have hc : ic S (x : Int) (y : Int) := ic_n hx hy
  show min (H x y) (d + 1) = min (H x y) d + (bif decide (il S H (d + 1) x y) then 1 else 0)
  by_cases c : d + 1 ≤ H x y
  · rw [decide_eq_true ⟨hc, c⟩, cond_true]; omega
  · rw [decide_eq_false (fun z => c z.2), cond_false]; omega
theorem q_cap_0 (hH : hv S H) : q_cap S H 0 = 0 := by
  have : q_cap S H 0 = q_sum S (fun _ _ => 0) := q_sum_eq fun x y c => by
    have := hH x y c
    show min (H x y) 0 = 0
    omega
  rw [this]; exact gr_z
theorem q_cap_t (hH : hv S H) : q_cap S H (S 2) = q_sum S H := q_sum_eq fun x y c => by
  have := hH x y c
  show min (H x y) (S 2) = H x y
  omega
def q_low (S : Nat → Nat) (H : Int → Int → Int) (d : Int) : Int := q_sum S (fun x y => if H x y < d then H x y else 0)
theorem gr_mulc {w h : Nat} (k : Int) (P : Int → Int → Bool) : gr w h (fun x y a => a + (bif P x y then k else 0)) 0 = k * gr w h (fun x y a => a + (bif P x y then 1 else 0)) 0 := by
  unfold gr
  generalize w * h = n
  induction n with
  | zero => show (0 : Int) = k * 0; rw [Int.mul_zero]
  | succ n ih =>
    rw [fo_s, fo_s]
    show fo (fg w (fun x y a => a + (bif P x y then k else 0))) n 0 + (bif P ((n % w : Nat) : Int) ((n / w : Nat) : Int) then k else 0) = k * (fo (fg w (fun x y a => a + (bif P x y then 1 else 0))) n 0 + (bif P ((n % w : Nat) : Int) ((n / w : Nat) : Int) then 1 else 0))
    rw [ih, Int.mul_add]
    cases P ((n % w : Nat) : Int) ((n / w : Nat) : Int) with
    | true => rw [cond_true, cond_true, Int.mul_one]
    | false => rw [cond_false, cond_false, Int.mul_zero]
theorem q_low_s (d : Int) : q_low S H (d + 1) = q_low S H d + d * q_cnt S (fun x y => decide (H x y = d)) := by
  unfold q_low q_sum q_cnt
  rw [← gr_mulc]
  refine gr_ad fun x y hx hy => ?_
  show (if H x y < d + 1 then H x y else 0) = (if H x y < d then H x y else 0) + (bif decide (H x y = d) then d else 0)
  by_cases c : H x y = d
  · rw [decide_eq_true c, cond_true, if_pos (by omega), if_neg (by omega)]; omega
  · rw [decide_eq_false c, cond_false]
    by_cases c2 : H x y < d
    · rw [if_pos (by omega), if_pos c2]; omega
    · rw [if_neg (by omega), if_neg c2]; omega
theorem q_low_0 (hH : hv S H) : q_low S H 0 = 0 := by
  have : q_low S H 0 = q_sum S (fun _ _ => 0) := q_sum_eq fun x y c => by
    have := hH x y c
    show (if H x y < 0 then H x y else 0) = 0
    rw [if_neg (by omega)]
  rw [this]; exact gr_z
theorem q_low_t (hH : hv S H) : q_low S H (S 2 + 1) = q_sum S H := q_sum_eq fun x y c => by
  have := hH x y c
  show (if H x y < (S 2 : Int) + 1 then H x y else 0) = H x y
  rw [if_pos (by omega)]
/-! parts begin rectangles, these begin runs -/
theorem q_bb_br {x y : Int} (h : q_bb S H d x y = true) : q_br S H d x y = true := by
  unfold q_bb at h
  exact ((Bool.and_eq_true _ _).mp h).1
theorem q_br_il {x y : Int} (h : q_br S H d x y = true) : il S H d x y := by
  unfold q_br at h
  exact of_decide_eq_true ((Bool.and_eq_true _ _).mp h).1
theorem q_mn_bb {x y : Int} (h : q_mn (q_in S H d true) x y) : q_bb S H d x y = true := by
  obtain ⟨⟨hc, hd⟩, hmin⟩ := h
  have hd' := of_decide_eq_true hd
  have nope : ∀ u v, q_nb x y u v → 16 * v + u < 16 * y + x → ¬ il S H d u v := fun u v hn hl hi => by
    have := hmin u v (q_rg_1 ⟨hc, hd⟩ ⟨hi.1, decide_eq_true hi.2⟩ hn)
    omega
  have hbr : q_br S H d x y = true := by
    unfold q_br
    rw [decide_eq_true (⟨hc, hd'⟩ : il S H d x y), decide_eq_false (nope (x - 1) y (Or.inl ⟨rfl, rfl⟩) (by omega))]
    rfl
  unfold q_bb
  rw [hbr]
  cases ht : q_tw S H d x y (y - 1) with
  | false => rfl
  | true =>
    exfalso
    unfold q_tw at ht
    exact nope x (y - 1) (Or.inr (Or.inr (Or.inl ⟨rfl, rfl⟩))) (by omega) (q_br_il ((Bool.and_eq_true _ _).mp ht).1)
theorem q_gp_ex : ∃ P, q_gp S H d true P ∧ ∀ x y, ic S x y → P x y = true → q_bb S H d x y = true := by
  refine ⟨fun x y => @decide (q_mn (q_in S H d true) x y) (Classical.propDecidable _), fun x y _ => ⟨fun h => ⟨(@decide_eq_true_iff _ (Classical.propDecidable _)).mp h, Or.inl rfl⟩, fun h => (@decide_eq_true_iff _ (Classical.propDecidable _)).mpr h.1⟩, fun x y _ h => q_mn_bb ((@decide_eq_true_iff _ (Classical.propDecidable _)).mp h)⟩
def q_out (S : Nat → Nat) (H : Int → Int → Int) (d : Int) : Int := gr (S 0) (S 1) (fun x y a => if il S H d x y then a + q_sd S H d x y else a) 0
theorem q_sdb {x y : Int} : 0 ≤ q_sd S H d x y ∧ q_sd S H d x y ≤ 4 := by
  unfold q_sd
  cases decide (il S H d (x - 1) y) <;> cases decide (il S H d (x + 1) y) <;> cases decide (il S H d x (y - 1)) <;> cases decide (il S H d x (y + 1)) <;> decide
theorem q_out_sum : q_out S H d = gr (S 0) (S 1) (fun x y a => a + (if il S H d x y then q_sd S H d x y else 0)) 0 :=
  gr_congr fun x y _ _ a => by
    show (if il S H d x y then a + q_sd S H d x y else a) = a + (if il S H d x y then q_sd S H d x y else 0)
    split
    · rfl
    · omega
theorem q_out_b (hS : sv S) : 0 ≤ q_out S H d ∧ q_out S H d ≤ 768 := by
  have hwh := sv_wh hS
  rw [q_out_sum]
  have : 0 ≤ gr (S 0) (S 1) (fun x y a => a + (if il S H d x y then q_sd S H d x y else 0)) (0 : Int) ∧ gr (S 0) (S 1) (fun x y a => a + (if il S H d x y then q_sd S H d x y else 0)) 0 ≤ 4 * ((S 0 * S 1 : Nat) : Int) := gr_inv (fun n a => 0 ≤ a ∧ a ≤ 4 * (n : Int)) ⟨Int.le_refl _, by decide⟩ fun x y hx hy a ha => by
    have h0 := q_sdb (S := S) (H := H) (d := d) (x := x) (y := y)
    show 0 ≤ a + (if il S H d x y then q_sd S H d x y else 0) ∧ a + (if il S H d x y then q_sd S H d x y else 0) ≤ 4 * ((S 0 * y + x + 1 : Nat) : Int)
    split <;> omega
  omega
theorem q_out_0 : q_lc S H d = 0 ↔ q_out S H d = 0 := by
  rw [q_out_sum]
  have hz : gr (S 0) (S 1) (fun _ _ a => a + 0) (0 : Int) = 0 := gr_z
  constructor
  · intro h
    have h0 := q_cnt_0.mp h
    refine Eq.trans (gr_eq fun x y hx hy => if_neg fun z => ?_) hz
    have := h0 x y (ic_n hx hy)
    rw [decide_eq_true z] at this
    cases this
  · intro h
    refine q_cnt_0.mpr fun x y c => decide_eq_false fun z => ?_
    -- the first cell of the layer
    obtain ⟨k, hk, rfl, rfl⟩ := ck_of c
    obtain ⟨i1, i2, i3⟩ := q_first_spec k (fun k => decide (¬ il S H d ((k % S 0 : Nat) : Int) ((k / S 0 : Nat) : Int))) ⟨k, Nat.le_refl _, decide_eq_false (fun n => n z)⟩
    generalize q_first (fun k => decide (¬ il S H d ((k % S 0 : Nat) : Int) ((k / S 0 : Nat) : Int))) k = m at i1 i2 i3
    have hil : il S H d ((m % S 0 : Nat) : Int) ((m / S 0 : Nat) : Int) := Classical.not_not.mp (of_decide_eq_false i2)
    have hx : m % S 0 < S 0 := Nat.mod_lt _ (by have := hil.1; unfold ic at this; omega)
    have hy : m / S 0 < S 1 := Nat.div_lt_of_lt_mul (by omega)
    have hup : ¬ il S H d ((m % S 0 : Nat) : Int) (((m / S 0 : Nat) : Int) - 1) := fun u => by
      have uc := u.1
      have h1 : 1 ≤ m / S 0 := by unfold ic at uc; omega
      have hm := Nat.div_add_mod m (S 0)
      have hge : S 0 ≤ m := by
        have : S 0 * 1 ≤ S 0 * (m / S 0) := Nat.mul_le_mul_left _ h1
        omega
      have e1 : (m - S 0) % S 0 = m % S 0 := (Nat.mod_eq_sub_mod hge).symm
      have e2 : (m - S 0) / S 0 = m / S 0 - 1 := by rw [Nat.div_eq_sub_div (by omega) hge, Nat.add_sub_cancel]
      have := of_decide_eq_true (i1 (m - S 0) (by omega))
      rw [e1, e2, show ((m / S 0 - 1 : Nat) : Int) = ((m / S 0 : Nat) : Int) - 1 by omega] at this
      exact this u
    have pos : 0 < gr (S 0) (S 1) (fun x y a => a + (if il S H d x y then q_sd S H d x y else 0)) 0 := by
      refine Int.lt_of_le_of_lt (Int.le_of_eq hz.symm) (gr_lt (fun a b _ _ => ?_) hx hy ?_)
      · show (0 : Int) ≤ if il S H d a b then q_sd S H d a b else 0
        have h0 := q_sdb (S := S) (H := H) (d := d) (x := a) (y := b)
        split <;> omega
      · show (0 : Int) < if il S H d ((m % S 0 : Nat) : Int) ((m / S 0 : Nat) : Int) then q_sd S H d ((m % S 0 : Nat) : Int) ((m / S 0 : Nat) : Int) else 0
        rw [if_pos hil]
        unfold q_sd
        rw [decide_eq_false hup]
        cases decide (il S H d (((m % S 0 : Nat) : Int) - 1) ((m / S 0 : Nat) : Int)) <;> cases decide (il S H d (((m % S 0 : Nat) : Int) + 1) ((m / S 0 : Nat) : Int)) <;> cases decide (il S H d ((m % S 0 : Nat) : Int) (((m / S 0 : Nat) : Int) + 1)) <;> decide
    omega
/-! what the class answers -/
theorem cc_volume (hN : 1000 < N) (hS : sv S) (h : cp o S T H) : ff_X12_volume N ot o = some (Int32.ofInt (q_sum S H)) := by
  unfold ff_X12_volume
  rw [pc_sum hN hS h, Option.bind_some]
theorem cc_lcells (hN : 1000 < N) (hS : sv S) (h : cp o S T H) (hH : wv S H) (hd : 1 ≤ d ∧ d ≤ S 2) : ff_X12_layerCells N ot o ol (Int32.ofInt d) = some (0, Int32.ofInt (q_lc S H d)) := by
  have := sv_a hS
  unfold ff_X12_layerCells
  rw [cc_layer hS h hd, Option.bind_some, if_pos rfl, pc_lcells hN hS h hH (by omega), Option.bind_some]
  rfl
theorem cc_runs (hN : 1000 < N) (hS : sv S) (h : cp o S T H) (hH : wv S H) (hd : 1 ≤ d ∧ d ≤ S 2) : ff_X12_runs N ot o ol (Int32.ofInt d) = some (0, Int32.ofInt (q_cnt S (q_br S H d))) := by
  have := sv_a hS
  unfold ff_X12_runs
  rw [cc_layer hS h hd, Option.bind_some, if_pos rfl, pc_runs hN hS h hH (by omega), Option.bind_some]
theorem cc_blocks (hN : 1000 < N) (hS : sv S) (h : cp o S T H) (hH : wv S H) (hd : 1 ≤ d ∧ d ≤ S 2) : ff_X12_rectangles N ot o ol (Int32.ofInt d) = some (0, Int32.ofInt (q_cnt S (q_bb S H d))) := by
  have := sv_a hS
  unfold ff_X12_rectangles
  rw [cc_layer hS h hd, Option.bind_some, if_pos rfl, pc_blocks hN hS h hH (by omega), Option.bind_some]
theorem cc_outl (hN : 1000 < N) (hS : sv S) (h : cp o S T H) (hH : wv S H) (hd : 1 ≤ d ∧ d ≤ S 2) : ff_X12_outline N ot o ol (Int32.ofInt d) = some (0, Int32.ofInt (q_out S H d)) := by
  have := sv_a hS
  unfold ff_X12_outline
  rw [cc_layer hS h hd, Option.bind_some, if_pos rfl, pc_outl hN hS h hH (by omega), Option.bind_some]
  rfl
theorem cc_parts (hN : 1000 < N) (hS : sv S) (h : cp o S T H) (hH : wv S H) (hd : 1 ≤ d ∧ d ≤ S 2) : ∃ (n : Int) (ol' : os_T), ff_X12_parts N ot o ol (Int32.ofInt d) = some (0, Int32.ofInt n, ol') ∧ 0 ≤ n ∧ n ≤ q_cnt S (q_bb S H d) := by
  have := sv_a hS
  obtain ⟨P, hP, hb⟩ := q_gp_ex (S := S) (H := H) (d := d)
  obtain ⟨w', e⟩ := pc_groups (N := N) (w := ol) hN hS h hH (by omega) hP
  refine ⟨q_cnt S P, w', ?_, q_cnt_nn, q_cnt_le hb⟩
  unfold ff_X12_parts ff_X4_countOfParts
  rw [cc_layer hS h hd, Option.bind_some, if_pos rfl]
  show ((ff_X4_countOfGroups N ol o (Int32.ofInt d) (oz true)).bind _).bind _ = _
  rw [e]
  rfl
theorem cc_cellsOf (hN : 1000 < N) (hS : sv S) (h : cp o S T H) (hH : wv S H) {v : Int} (hv : 0 ≤ v ∧ v ≤ S 2) : ff_X12_cellsOf N ot o (Int32.ofInt v) = some (0, Int32.ofInt (q_cnt S (fun x y => decide (H x y = v)))) := by
  have := sv_a hS
  unfold ff_X12_cellsOf
  rw [cc_step hS h hv, Option.bind_some, if_pos rfl, pc_countOf hN hS h hH (by omega), Option.bind_some]
theorem q_cap_b (hS : sv S) (hH : hv S H) : ∀ d : Nat, 0 ≤ q_cap S H d ∧ q_cap S H d ≤ 3840 := fun d => by
  have h1 := q_sumb hS hH
  have hz : q_sum S (fun _ _ => 0) = 0 := gr_z
  have a : q_sum S (fun _ _ => 0) ≤ q_cap S H d := q_sum_le fun x y c => by
    have := hH x y c
    show (0 : Int) ≤ min (H x y) d
    omega
  have b : q_cap S H d ≤ q_sum S H := q_sum_le fun x y c => by
    show min (H x y) d ≤ H x y
    omega
  omega
theorem lv_all (hN : 1000 < N) (hS : sv S) (h : cp o S T H) (hH : hv S H) (hx : wh x S) : ∃ ol', ff_L_volumes N ot o ol x = some (1, ol') := by
  have hs := sv_a hS
  have hwh := sv_wh hS
  have hw := hH.wv hS
  have hcap := q_cap_b hS hH
  have x2 := hx 2 (by decide)
  have hsum := q_sumb hS hH
  have part2 : ∀ ol : os_T, ff_L_volumes_l128 N ot o x 25 (ol, Int32.ofInt (q_sum S H), (0 : Int32), (0 : Int32)) = some (1, ol) := by
    intro ol
    unfold ff_L_volumes_l128
    have z := lo_run (N := 25) (step := fun k128 s1 => ff_L_volumes_c128 N ot o x k128 s1.1 s1.2.1 s1.2.2.1 s1.2.2.2) (out := some ((1 : Int32), ol)) (fun k : Nat => (ol, Int32.ofInt (q_sum S H), Int32.ofInt (q_low S H k), Int32.ofInt (k : Int))) (S 2 + 1) ?_ ?_ (by omega)
    · rw [show ((0 : Nat) : Int) = 0 from rfl, q_low_0 hH] at z
      exact z
    · intro k hk r
      show ff_L_volumes_c128 N ot o x r ol (Int32.ofInt (q_sum S H)) (Int32.ofInt (q_low S H k)) (Int32.ofInt (k : Int)) = _
      unfold ff_L_volumes_c128
      rw [x2, ii_lt (by omega) (by omega), if_neg (by omega), cc_cellsOf hN hS h hw (by omega), Option.bind_some, if_pos rfl]
      show r (ol, _, Int32.ofInt (q_low S H k) + Int32.ofInt (k : Int) * Int32.ofInt (q_cnt S (fun x y => decide (H x y = (k : Int)))), _) = _
      rw [ia_mul, ia_add, ← q_low_s, ii_1, ia_s]
      rfl
    · intro r
      show ff_L_volumes_c128 N ot o x r ol (Int32.ofInt (q_sum S H)) (Int32.ofInt (q_low S H ((S 2 + 1 : Nat) : Int))) (Int32.ofInt ((S 2 + 1 : Nat) : Int)) = some (1, ol)
      unfold ff_L_volumes_c128
      rw [x2, ii_lt (by omega) (by omega), if_pos (by omega), cc_volume hN hS h, Option.bind_some, if_pos rfl, show ((S 2 + 1 : Nat) : Int) = (S 2 : Int) + 1 from rfl, q_low_t hH, if_pos rfl]
  unfold ff_L_volumes
  rw [hx 0 (by decide), hx 1 (by decide), ia_mul]
  have key : ∃ v, (∃ ol', v = some ((1 : Int32), ol')) ∧ ff_L_volumes_l18 N ot o x 25 (ol, Int32.ofInt (q_cap S H ((0 : Nat) : Int)), Int32.ofInt ((S 0 : Int) * S 1), (0 : Int32), Int32.ofInt ((0 + 1 : Nat) : Int)) = v := by
    unfold ff_L_volumes_l18
    refine lo_cnt (fun (k : Nat) s => ∃ (ol' : os_T) (last : Int), s = (ol', Int32.ofInt (q_cap S H k), Int32.ofInt last, (0 : Int32), Int32.ofInt ((k + 1 : Nat) : Int)) ∧ 0 ≤ last ∧ last ≤ 192 ∧ q_lc S H ((k + 1 : Nat) : Int) ≤ last) (fun v => ∃ ol', v = some ((1 : Int32), ol')) (S 2) ?_ ?_ (by omega) ⟨ol, _, rfl, ?_, ?_, ?_⟩
    · rintro k s hk ⟨ol', last, rfl, l0, l1, l2⟩
      have hd : (1 : Int) ≤ ((k + 1 : Nat) : Int) ∧ ((k + 1 : Nat) : Int) ≤ S 2 := by omega
      have ecap : q_cap S H k + q_lc S H ((k + 1 : Nat) : Int) = q_cap S H ((k + 1 : Nat) : Int) := (q_cap_s (S := S) (H := H) (k : Int)).symm
      obtain ⟨n, ol2, ep, n0, n1⟩ := cc_parts (N := N) (ot := ot) (ol := ol') hN hS h hw hd
      have b1 : q_cnt S (q_bb S H ((k + 1 : Nat) : Int)) ≤ q_cnt S (q_br S H ((k + 1 : Nat) : Int)) := q_cnt_le fun _ _ _ => q_bb_br
      have b2 : q_cnt S (q_br S H ((k + 1 : Nat) : Int)) ≤ q_lc S H ((k + 1 : Nat) : Int) := q_cnt_le fun _ _ _ z => decide_eq_true (q_br_il z)
      have c0 : 0 ≤ q_cnt S (q_bb S H ((k + 1 : Nat) : Int)) := q_cnt_nn
      have ob := q_out_b (H := H) (d := ((k + 1 : Nat) : Int)) hS
      have oz0 := q_out_0 (S := S) (H := H) (d := ((k + 1 : Nat) : Int))
      have nx : q_lc S H ((k + 1 + 1 : Nat) : Int) ≤ q_lc S H ((k + 1 : Nat) : Int) := q_lc_le (by omega)
      refine ⟨_, ⟨ol2, q_lc S H ((k + 1 : Nat) : Int), rfl, by omega, by omega, nx⟩, fun r => ?_⟩
      show ff_L_volumes_c18 N ot o x r ol' (Int32.ofInt (q_cap S H k)) (Int32.ofInt last) (0 : Int32) (Int32.ofInt ((k + 1 : Nat) : Int)) = _
      unfold ff_L_volumes_c18
      rw [x2, ii_lt (by omega) (by omega), if_neg (by omega), cc_lcells hN hS h hw hd, Option.bind_some, if_pos rfl]
      simp only []
      rw [ii_lt (by omega) (by omega), if_neg (by omega), cc_blocks hN hS h hw hd, Option.bind_some, if_pos rfl, cc_runs hN hS h hw hd, Option.bind_some, if_pos rfl]
      simp only []
      rw [ii_lt (by omega) (by omega), if_neg (by omega), ep, Option.bind_some, if_pos rfl]
      simp only []
      rw [cc_blocks hN hS h hw hd, Option.bind_some, if_pos rfl]
      simp only []
      rw [ii_lt (by omega) (by omega), if_neg (by omega), cc_runs hN hS h hw hd, Option.bind_some, if_pos rfl]
      simp only []
      rw [ii_lt (by omega) (by omega), if_neg (by omega)]
      unfold ff_L_volumes_b92
      rw [cc_outl hN hS h hw hd, Option.bind_some, if_pos rfl]
      simp only [i0_eq (show ib (q_lc S H ((k + 1 : Nat) : Int)) by omega), i0_eq (show ib (q_out S H ((k + 1 : Nat) : Int)) by omega), Option.bind_some]
      unfold ff_L_volumes_b106
      by_cases z : q_lc S H ((k + 1 : Nat) : Int) = 0
      · have z2 := oz0.mp z
        simp only [z2, if_true]
        rw [if_pos z, ia_add, ecap, ii_1, ia_s]
      · have z2 : ¬ q_out S H ((k + 1 : Nat) : Int) = 0 := fun w => z (oz0.mpr w)
        rw [if_neg z]
        simp only [z2, if_false, if_true]
        rw [ia_add, ecap, ii_1, ia_s]
    · rintro s ⟨ol', last, rfl, l0, l1, l2⟩
      refine ⟨_, ⟨ol', rfl⟩, fun r => ?_⟩
      show ff_L_volumes_c18 N ot o x r ol' (Int32.ofInt (q_cap S H (S 2))) (Int32.ofInt last) (0 : Int32) (Int32.ofInt ((S 2 + 1 : Nat) : Int)) = _
      unfold ff_L_volumes_c18
      rw [x2, ii_lt (by omega) (by omega), if_pos (by omega), q_cap_t hH]
      exact part2 ol'
    · exact Int.mul_nonneg (by omega) (by omega)
    · rw [← Int.natCast_mul]; omega
    · rw [← Int.natCast_mul]; exact q_cnt_up
  obtain ⟨v, ⟨ol', rfl⟩, e⟩ := key
  rw [show ((0 : Nat) : Int) = 0 from rfl, q_cap_0 hH] at e
  exact ⟨ol', e⟩
end Vol
