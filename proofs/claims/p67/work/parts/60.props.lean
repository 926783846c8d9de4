/-! LAYER 2. What the law asks of repair, ease, smooth, mirror, invert -/
section Props
variable {N : Nat} {ot o oh ow os x : os_T} {P : Nat → os_T} {S : Nat → Nat} {T H G : Int → Int → Int} {d : Int}
theorem cc_loss (hN : 100000 < N) (hS : sv S) (h : cp o S T H) (hH : hv S H) : ∃ os' ow', ff_X12_repairLoss N ot o os ow = some (Int32.ofInt (q_sum S H - q_sum S (q_hs S H (q_np S H))), os', ow') := by
  obtain ⟨s1, e1, h1⟩ := pc_copy (N := N) (p := os) hS h
  obtain ⟨ow', s2, e2, h2⟩ := pc_take (N := N) (ow := ow) hN hS h1 hH
  refine ⟨s2, ow', ?_⟩
  unfold ff_X12_repairLoss
  rw [e1, Option.bind_some, e2, Option.bind_some, pc_sum (by omega) hS h, Option.bind_some, pc_sum (by omega) hS h2, Option.bind_some, ia_sub]
theorem cc_thin (hN : 1000 < N) (hS : sv S) (h : cp o S T H) (hH : wv S H) : ∃ ow', ff_X12_thinCells N ot o ow = some (Int32.ofInt (q_cnt S (q_th S H)), ow') := by
  obtain ⟨ow', e, -⟩ := pc_mark (N := N) (ow := ow) hN hS h hH
  refine ⟨ow', ?_⟩
  unfold ff_X12_thinCells
  rw [e, Option.bind_some]
theorem q_np_1 (hS : sv S) (hH : hv S H) : q_cnt S (q_th S (q_hs S H (q_np S H))) = 0 := by
  have h1 := (q_nps hS hH).2.1
  have h2 : 0 ≤ q_cnt S (q_th S (q_hs S H (q_np S H))) := q_cnt_nn
  omega
theorem q_np_2 (hS : sv S) (hH : hv S H) : q_np S (q_hs S H (q_np S H)) = 0 := by
  have hH2 := q_hsv hS hH (q_np S H)
  have h1 := (q_nps hS hH2).1
  refine Classical.byContradiction fun z => ?_
  have := h1 0 (by omega)
  have h2 := q_np_1 hS hH
  have e : q_hs S (q_hs S H (q_np S H)) 0 = q_hs S H (q_np S H) := rfl
  rw [e] at this
  omega
/-! ease -/
theorem q_eas_n {a b : Int} (c : ic S a b) (hb : 1 ≤ b) : q_eas S H a b = H a b - max 0 (H a b - q_eas S H a (b - 1) - S 6) := by
  obtain ⟨u, v, rfl, rfl, hu, hv⟩ := ic_nat c
  exact q_eas_s (by omega)
theorem q_eas_up {a b : Int} (c : ic S a b) (hb : 1 ≤ b) : q_eas S H a b ≤ q_eas S H a (b - 1) + S 6 := by
  rw [q_eas_n c hb]; omega
theorem q_eas_ex {a b : Int} (c : ic S a b) : q_ex S (q_vf S H (q_eas S H)) a b = 0 := by
  unfold q_ex
  by_cases e : b = 0
  · rw [if_pos e]
  · have cu : ic S a (b - 1) := by unfold ic at c ⊢; omega
    have := q_eas_up (H := H) c (by unfold ic at c; omega)
    rw [if_neg e, q_vf_in c, q_vf_in cu]
    omega
theorem q_eas_id (hex : ∀ a b, ic S a b → q_ex S G a b = 0) : ∀ (n : Nat) (a : Int), 0 ≤ a → a < S 0 → n < S 1 → q_ea S G a n = G a n := by
  intro n
  induction n with
  | zero => intro a _ _ _; rfl
  | succ n ih =>
    intro a h0 h1 hn
    have := hex a ((n : Int) + 1) (by unfold ic; omega)
    unfold q_ex at this
    rw [if_neg (by omega), show (n : Int) + 1 - 1 = n by omega] at this
    show G a ((n : Int) + 1) - max 0 (G a ((n : Int) + 1) - q_ea S G a n - S 6) = G a ((n : Int) + 1)
    rw [ih a h0 h1 (by omega)]
    omega
theorem q_eas_2 (hex : ∀ a b, ic S a b → q_ex S G a b = 0) : q_df S G (q_vf S G (q_eas S G)) = 0 := by
  refine q_df_0.mpr fun a b c => ?_
  rw [q_vf_in c]
  obtain ⟨u, v, rfl, rfl, hu, hv⟩ := ic_nat c
  exact (q_eas_id hex v u (by omega) (by omega) hv).symm
theorem cc_supN (hN : 1000 < N) (hS : sv S) (h : cp o S T H) (hH : hv S H) (hex : ∀ a b, ic S a b → q_ex S H a b = 0) : ff_X12_supportedCells N ot o = some 0 := by
  have hs := sv_a hS
  unfold ff_X12_supportedCells
  rw [pc_supN hN hS h (hH.wv hS), Option.bind_some]
  have hz : gr (S 0) (S 1 - 1) (fun _ _ a => a + 0) (0 : Int) = 0 := gr_z
  have : gr (S 0) (S 1 - 1) (fun x y a => a + (bif decide (0 < q_ex S H x (y + 1)) then 1 else 0)) (0 : Int) = 0 := Eq.trans (gr_eq (w := S 0) (h := S 1 - 1) (f := fun x y => bif decide (0 < q_ex S H x (y + 1)) then 1 else 0) (g := fun _ _ => 0) fun x y hx hy => by
    show (bif decide (0 < q_ex S H x ((y : Int) + 1)) then (1 : Int) else 0) = 0
    rw [hex x ((y : Int) + 1) (by unfold ic; omega)]; rfl) hz
  rw [this]; rfl
theorem cc_supV (hN : 1000 < N) (hS : sv S) (h : cp o S T H) (hH : hv S H) (hex : ∀ a b, ic S a b → q_ex S H a b = 0) : ff_X12_supportVolume N ot o = some 0 := by
  have hs := sv_a hS
  unfold ff_X12_supportVolume
  rw [pc_supV hN hS h hH, Option.bind_some]
  have hz : gr (S 0) (S 1 - 1) (fun _ _ a => a + 0) (0 : Int) = 0 := gr_z
  have : gr (S 0) (S 1 - 1) (fun x y a => a + q_csum S H x (y + 1)) 0 = 0 := Eq.trans (gr_eq (w := S 0) (h := S 1 - 1) (f := fun x y => q_csum S H x (y + 1)) (g := fun _ _ => 0) fun x y hx hy => by
    show q_csum S H x ((y : Int) + 1) = 0
    unfold q_csum
    rw [hex x ((y : Int) + 1) (by unfold ic; omega)]; rfl) hz
  rw [this]; rfl
theorem cc_safe (hN : 1000 < N) (hS : sv S) (h : cp o S T H) (hH : hv S H) (hex : ∀ a b, ic S a b → q_ex S H a b = 0) : ∃ v : Int, ff_X12_safeSlope N ot o = some (Int32.ofInt v) ∧ 0 ≤ v ∧ v ≤ S 6 := by
  have hs := sv_a hS
  refine ⟨gr (S 0) (S 1 - 1) (fun x y a => max a (H x (y + 1) - H x y)) 0, ?_, ?_, ?_⟩
  · unfold ff_X12_safeSlope
    rw [pc_slope hN hS h hH, Option.bind_some]
  · exact ((gr_max (w := S 0) (h := S 1 - 1) (f := fun x y => H x (y + 1) - H x y) (c := 0)).mp (Int.le_refl _)).1
  · refine gr_max.mpr ⟨by omega, fun x y hx hy => ?_⟩
    have := hex x ((y : Int) + 1) (by unfold ic; omega)
    unfold q_ex at this
    rw [if_neg (by omega), show (y : Int) + 1 - 1 = y by omega] at this
    omega
/-! smooth -/
theorem q_av_t (a b c : Int) : q_av (a - c) ≤ q_av (a - b) + q_av (b - c) := by unfold q_av; split <;> split <;> split <;> omega
theorem q_fa_2 (hS : sv S) (hd : 0 ≤ d) {a b : Int} (c : ic S a b) : q_fa S (q_vf S H (q_fa S H d)) d a b = q_fa S H d a b := by
  refine Int.le_antisymm ?_ ?_
  · refine q_fa_b hS c fun i j ci => ?_
    unfold q_ft
    rw [q_vf_in ci]
    have hub : q_fa S H d i j ≤ q_fa S H d a b + d * (q_av (i - a) + q_av (j - b)) := ?_
    · omega
    refine q_fa_b hS ci fun k l ck => ?_
    have h1 := q_fa_g (H := H) (d := d) ck a b
    have t1 := q_av_t k i a
    have t2 := q_av_t l j b
    have hm : d * (q_av (k - a) + q_av (l - b)) ≤ d * ((q_av (k - i) + q_av (l - j)) + (q_av (i - a) + q_av (j - b))) := Int.mul_le_mul_of_nonneg_left (by omega) hd
    rw [Int.mul_add d (q_av (k - i) + q_av (l - j)) (q_av (i - a) + q_av (j - b))] at hm
    unfold q_ft at h1 ⊢
    omega
  · have := q_fa_h (S := S) (H := q_vf S H (q_fa S H d)) (d := d) a b
    rwa [q_vf_in c] at this
theorem q_fa_df (hS : sv S) (hd : 0 ≤ d) : q_df S (q_vf S H (q_fa S H d)) (q_vf S (q_vf S H (q_fa S H d)) (q_fa S (q_vf S H (q_fa S H d)) d)) = 0 :=
  q_df_0.mpr fun a b c => by rw [q_vf_in c, q_vf_in c, q_fa_2 hS hd c]
theorem q_av_1 (i x : Int) : q_av (i - (x + 1)) ≤ q_av (i - x) + 1 ∧ q_av (i - x) ≤ q_av (i - (x + 1)) + 1 := by unfold q_av; constructor <;> split <;> split <;> omega
theorem q_fa_nx (hS : sv S) (hd : 0 ≤ d) {a b : Int} (c : ic S a b) : (ic S (a + 1) b → q_ab (q_fa S H d a b - q_fa S H d (a + 1) b) ≤ d) ∧ (ic S a (b + 1) → q_ab (q_fa S H d a b - q_fa S H d a (b + 1)) ≤ d) := by
  refine ⟨fun c2 => ?_, fun c2 => ?_⟩
  · have h1 := q_fa_lip (H := H) (d := d) hS hd c (x2 := a + 1) (y2 := b) fun i j => by have := (q_av_1 i a).1; omega
    have h2 := q_fa_lip (H := H) (d := d) hS hd c2 (x2 := a) (y2 := b) fun i j => by have := (q_av_1 i a).2; omega
    unfold q_ab
    split <;> omega
  · have h1 := q_fa_lip (H := H) (d := d) hS hd c (x2 := a) (y2 := b + 1) fun i j => by have := (q_av_1 j b).1; omega
    have h2 := q_fa_lip (H := H) (d := d) hS hd c2 (x2 := a) (y2 := b) fun i j => by have := (q_av_1 j b).2; omega
    unfold q_ab
    split <;> omega
theorem cc_steep (hN : 1000 < N) (hS : sv S) (hd : 0 ≤ d) (hv0 : hv S (q_vf S H (q_fa S H d))) (h : cp o S T (q_vf S H (q_fa S H d))) : ∃ v : Int, ff_X12_steepest N ot o = some (Int32.ofInt v) ∧ 0 ≤ v ∧ v ≤ d := by
  have hs := sv_a hS
  refine ⟨gr (S 0) (S 1) (fun x y a => max a (q_stC S (q_vf S H (q_fa S H d)) x y)) 0, ?_, ?_, ?_⟩
  · unfold ff_X12_steepest
    rw [pc_steep hN hS h (hv0.wv hS), Option.bind_some]
  · exact ((gr_max (w := S 0) (h := S 1) (f := fun x y => q_stC S (q_vf S H (q_fa S H d)) x y) (c := 0)).mp (Int.le_refl _)).1
  · refine gr_max.mpr ⟨hd, fun x y hx hy => ?_⟩
    have hc : ic S (x : Int) (y : Int) := ic_n hx hy
    obtain ⟨n1, n2⟩ := q_fa_nx (H := H) hS hd hc
    unfold q_stC
    refine Int.max_le.mpr ⟨?_, ?_⟩
    · by_cases c : ic S ((x : Int) + 1) y
      · rw [if_pos c, q_vf_in hc, q_vf_in c]; exact n1 c
      · rw [if_neg c]; exact hd
    · by_cases c : ic S (x : Int) ((y : Int) + 1)
      · rw [if_pos c, q_vf_in hc, q_vf_in c]; exact n2 c
      · rw [if_neg c]; exact hd
theorem q_fa_up : ∀ a b, ic S a b → H a b ≤ q_vf S H (q_fa S H d) a b := fun a b c => by rw [q_vf_in c]; exact q_fa_h a b
theorem q_fa_vol : q_df S H (q_vf S H (q_fa S H d)) = 0 ↔ q_sum S (q_vf S H (q_fa S H d)) = q_sum S H := by
  constructor
  · intro h
    exact (q_sum_eq fun a b c => q_df_0.mp h a b c).symm
  · intro h
    refine q_df_0.mpr fun a b c => ?_
    refine Classical.byContradiction fun z => ?_
    have h1 := q_fa_up (S := S) (H := H) (d := d) a b c
    have := q_sum_lt (q_fa_up (S := S) (H := H) (d := d)) c (by omega)
    omega
/-! mirror -/
theorem q_mir_2 : q_mir S (q_mir S H) = H := by
  funext a b
  unfold q_mir
  by_cases c : ic S a b
  · have c2 : ic S ((S 0 : Int) - 1 - a) b := by unfold ic at c ⊢; omega
    rw [if_pos c, if_pos c2, show (S 0 : Int) - 1 - ((S 0 : Int) - 1 - a) = a by omega]
  · rw [if_neg c, if_neg c]
/-! invert -/
theorem q_neg_2 (a b : Int) : q_vf S (q_vf S T (q_neg T)) (q_neg (q_vf S T (q_neg T))) a b = T a b := by
  unfold q_vf
  by_cases c : ic S a b
  · rw [if_pos c]
    unfold q_neg
    show 255 - (if ic S a b then 255 - T a b else T a b) = T a b
    rw [if_pos c]; omega
  · rw [if_neg c, if_neg c]
theorem cc_height (hS : sv S) (h : cp o S T H) {a b : Int} (c : ic S a b) : ff_X12_height N ot o (Int32.ofInt a) (Int32.ofInt b) = some (0, Int32.ofInt (H a b)) := by
  have := ic_r hS c
  unfold ff_X12_height
  rw [cc_cell hS h c, Option.bind_some, if_pos rfl, pc_heightAt hS h (by omega) (by omega), if_pos c, Option.bind_some]
theorem cc_tone (hS : sv S) (h : cp o S T H) {a b : Int} (c : ic S a b) : ff_X12_tone N ot o (Int32.ofInt a) (Int32.ofInt b) = some (0, Int32.ofInt (T a b)) := by
  have := ic_r hS c
  unfold ff_X12_tone
  rw [cc_cell hS h c, Option.bind_some, if_pos rfl, pc_toneAt hS h (by omega) (by omega), if_pos c, Option.bind_some]
theorem cc_hfor (hN : 1000 < N) (hS : sv S) (h : cp o S T H) {t : Int} (ht : 0 ≤ t ∧ t ≤ 255) : ff_X12_heightFor N ot o (Int32.ofInt t) = some (0, Int32.ofInt (sh S (fl_w t.toNat))) := by
  unfold ff_X12_heightFor
  rw [cc_toneOk ht, Option.bind_some, if_pos rfl, pc_wish ht.1 ht.2, Option.bind_some, pc_stepFor hN hS h (fl_w200 (by omega)), Option.bind_some]
theorem cc_print (hN : 1000 < N) (hS : sv S) (h : cp o S T H) (hH : hv S H) : ff_X12_fingerprint N ot o = some (gr (S 0) (S 1) (lq_fp S H) 17) := by
  unfold ff_X12_fingerprint
  rw [pc_hash hN hS h hH, Option.bind_some]
end Props
