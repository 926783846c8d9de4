/-! LAYER 2. The law's picture: smooth, repair -/
section WS
variable {N : Nat} {o p q : os_T} {S : Nat → Nat} {T H F G : Int → Int → Int}
theorem q_fold_b (hS : sv S) (hH : hv S H) {d : Int} (hd : 1 ≤ d ∧ d ≤ 20) {x y : Int} (c : ic S x y) {n : Nat} (hn : n ≤ S 0 * S 1) : 0 ≤ fo (fg (S 0) (fun i j a => max a (q_ft H d x y i j))) n (H x y) ∧ fo (fg (S 0) (fun i j a => max a (q_ft H d x y i j))) n (H x y) ≤ 20 := by
  have hs := sv_a hS
  have h0 := hH x y c
  refine ⟨Int.le_trans (by omega) (q_fm n).1, q_fb n (by omega) fun k hk => (q_ft_b hS hH hd c (ic_k hS (by omega))).2.2.2.2.2.2.2⟩
theorem wc_smooth1 (hN : 1000 < N) (hS : sv S) (h : wh o S) {ow qw pw : os_T} (hwp : wm pw S H) (hH : hv S H) {d : Int} (hd : 1 ≤ d ∧ d ≤ 20) {x y : Nat} (hx : x < S 0) (hy : y < S 1) {G0 : Int → Int → Int} (e0 : G0 x y = H x y) {p' : os_T} (h' : wm p' S G0) : ∃ t, wm t S (hu G0 x y (q_fa S H d x y)) ∧ ∀ K : ((os_T × os_T × os_T × os_T × Int32 × Int32) → Option (Int32 × os_T)) × ((os_T × os_T × os_T × os_T × Int32 × Int32 × Int32) → Option (Int32 × os_T)), ff_X13_smooth_l30 N o q K.1 K.2 N (p', ow, pw, qw, Int32.ofInt d, Int32.ofInt (y : Int), Int32.ofInt (x : Int), (0 : Int32)) = K.2 (t, ow, pw, qw, Int32.ofInt d, Int32.ofInt (y : Int), Int32.ofInt ((x + 1 : Nat) : Int)) := by
  have hs := sv_a hS
  have hc : ic S (x : Int) (y : Int) := ic_n hx hy
  unfold ff_X13_smooth_l30
  refine lo_gridP (N := N) (M := N) (step1 := fun (K : ((os_T × os_T × os_T × os_T × Int32 × Int32) → Option (Int32 × os_T)) × ((os_T × os_T × os_T × os_T × Int32 × Int32 × Int32) → Option (Int32 × os_T))) k30 s1 => ff_X13_smooth_c30 N o q K.1 K.2 k30 s1.1 s1.2.1 s1.2.2.1 s1.2.2.2.1 s1.2.2.2.2.1 s1.2.2.2.2.2.1 s1.2.2.2.2.2.2.1 s1.2.2.2.2.2.2.2) (step2 := fun K k30 k42 s1 => ff_X13_smooth_c42 N o q K.1 K.2 k30 k42 s1.1 s1.2.1 s1.2.2.1 s1.2.2.2.1 s1.2.2.2.2.1 s1.2.2.2.2.2.1 s1.2.2.2.2.2.2.1 s1.2.2.2.2.2.2.2.1 s1.2.2.2.2.2.2.2.2) (fun K (t : os_T) => K.2 (t, ow, pw, qw, Int32.ofInt d, Int32.ofInt (y : Int), Int32.ofInt ((x + 1 : Nat) : Int))) (fun j s => ∃ p2, s = (p2, ow, pw, qw, Int32.ofInt d, Int32.ofInt (y : Int), Int32.ofInt (x : Int), Int32.ofInt (j : Int)) ∧ wm p2 S (hu G0 x y (fo (fg (S 0) (fun i j a => max a (q_ft H d x y i j))) (S 0 * j) (H x y)))) (fun j i s => ∃ p2, s = (p2, ow, pw, qw, Int32.ofInt d, Int32.ofInt (y : Int), Int32.ofInt (x : Int), Int32.ofInt (j : Int), Int32.ofInt (i : Int)) ∧ wm p2 S (hu G0 x y (fo (fg (S 0) (fun i j a => max a (q_ft H d x y i j))) (S 0 * j + i) (H x y)))) (fun t => wm t S (hu G0 x y (q_fa S H d x y))) (S 0) (S 1) ?_ ?_ ?_ ?_ (by omega) (by omega) ⟨p', rfl, by rw [Nat.mul_zero, fo_0, ← e0, hu_id]; exact h'⟩
  · rintro j s hj ⟨p2, rfl, h2⟩
    refine ⟨_, ⟨p2, rfl, h2⟩, fun k r => ?_⟩
    show ff_X13_smooth_c30 N o q k.1 k.2 r p2 ow pw qw (Int32.ofInt d) (Int32.ofInt (y : Int)) (Int32.ofInt (x : Int)) (Int32.ofInt (j : Int)) = _
    unfold ff_X13_smooth_c30
    simp only [ww_r hS h hj, if_false]
    rfl
  · rintro i j s hi hj ⟨p2, rfl, h2⟩
    have hci : ic S (i : Int) (j : Int) := ic_n hi hj
    have hlt := fg_lt hi hj
    obtain ⟨k1, k2, k3, k4⟩ := wg hS h2 hc
    obtain ⟨m1, m2, m3, m4⟩ := wg hS hwp hci
    rw [hu_at] at k4
    have hb := q_fold_b hS hH hd hc (n := S 0 * j + i) (by omega)
    have ht := q_ft_b hS hH hd hc hci
    have en : fo (fg (S 0) (fun i j a => max a (q_ft H d x y i j))) (S 0 * j + (i + 1)) (H x y) = max (fo (fg (S 0) (fun i j a => max a (q_ft H d x y i j))) (S 0 * j + i) (H x y)) (q_ft H d x y i j) := by
      rw [show S 0 * j + (i + 1) = S 0 * j + i + 1 from rfl, fo_s, fg_at hi]
    generalize fo (fg (S 0) (fun i j a => max a (q_ft H d x y i j))) (S 0 * j + i) (H x y) = a at *
    refine ⟨_, ⟨_, rfl, by rw [en, ← hu_hu (u := a)]; exact wm_hu hS h2 hc⟩, fun k r r2 => ?_⟩
    show ff_X13_smooth_c42 N o q k.1 k.2 r r2 p2 ow pw qw (Int32.ofInt d) (Int32.ofInt (y : Int)) (Int32.ofInt (x : Int)) (Int32.ofInt (j : Int)) (Int32.ofInt (i : Int)) = _
    unfold ff_X13_smooth_c42
    simp only [ww_w hS h hi, k1, k2, k3, k4, m1, m2, m3, m4, if_true, if_false]
    have av : ∀ u v : Nat, u < 16 → v < 16 → (if 0 ≤ Int32.ofInt (u : Int) - Int32.ofInt (v : Int) then Int32.ofInt (u : Int) - Int32.ofInt (v : Int) else 0 - (Int32.ofInt (u : Int) - Int32.ofInt (v : Int))) = Int32.ofInt (q_av ((u : Int) - v)) := fun u v hu hv => by
      rw [ia_sub, ii_0, ii_le (by omega) (by omega), ia_sub]
      unfold q_av
      by_cases c : 0 ≤ (u : Int) - v
      · rw [if_pos c, if_neg (by omega)]
      · rw [if_neg c, if_pos (by omega), Int.zero_sub]
    rw [av i x (by omega) (by omega), av j y (by omega) (by omega), ia_add, ia_mul, ia_sub]
    show r2 (ss_A p2 _ (upd _ _ (if Int32.ofInt a < Int32.ofInt (q_ft H d x y i j) then Int32.ofInt (q_ft H d x y i j) else Int32.ofInt a)), _) = _
    rw [ii_lt (by omega) (by omega), ii_1, ia_s]
    by_cases c : a < q_ft H d x y i j
    · rw [if_pos c, Int.max_eq_right (by omega)]
    · rw [if_neg c, Int.max_eq_left (by omega)]
  · rintro j s hj ⟨p2, rfl, h2⟩
    refine ⟨_, ⟨p2, rfl, by rw [Nat.mul_succ]; exact h2⟩, fun k r r2 => ?_⟩
    show ff_X13_smooth_c42 N o q k.1 k.2 r r2 p2 ow pw qw (Int32.ofInt d) (Int32.ofInt (y : Int)) (Int32.ofInt (x : Int)) (Int32.ofInt (j : Int)) (Int32.ofInt (S 0 : Int)) = _
    unfold ff_X13_smooth_c42
    simp only [ww_W h, if_true]
    rw [ii_1, ia_s]
  · rintro s ⟨p2, rfl, h2⟩
    refine ⟨p2, h2, fun k r => ?_⟩
    show ff_X13_smooth_c30 N o q k.1 k.2 r p2 ow pw qw (Int32.ofInt d) (Int32.ofInt (y : Int)) (Int32.ofInt (x : Int)) (Int32.ofInt (S 1 : Int)) = _
    unfold ff_X13_smooth_c30
    simp only [ww_R h, if_true]
    rw [ii_1, ia_s]
theorem wc_smooth (hN : 1000 < N) (hS : sv S) (hz : wz S) (h : wh o S) (hq : wm q S T) (hp : wm p S H) (hH : hv S H) {d : Int} (hd : 1 ≤ d ∧ d ≤ 20) : ∃ p', ff_X13_smooth N o q p (Int32.ofInt d) = some (Int32.ofInt (q_df S H (q_vf S H (q_fa S H d))), p') ∧ wm p' S (q_vf S H (q_fa S H d)) := by
  have hs := sv_a hS
  obtain ⟨ow, qw, pw, ew, hwo, hwq, hwp⟩ := wc_copy (N := N) hS hz h hq hp
  unfold ff_X13_smooth
  rw [ew, Option.bind_some]
  unfold ff_X13_smooth_l7
  have key := vis_w (K := Unit) (o := p) (S := S) (N := N) (M := N) (step1 := fun _ k7 s1 => ff_X13_smooth_c7 N o q k7 s1.1 s1.2.1 s1.2.2.1 s1.2.2.2.1 s1.2.2.2.2.1 s1.2.2.2.2.2) (step2 := fun _ k7 k18 s1 => ff_X13_smooth_c18 N o q k7 k18 s1.1 s1.2.1 s1.2.2.1 s1.2.2.2.1 s1.2.2.2.2.1 s1.2.2.2.2.2.1 s1.2.2.2.2.2.2) (fun _ (t : os_T) => some (Int32.ofInt (q_df S H (q_vf S H (q_fa S H d))), t)) (fun p' G => wm p' S G) H (q_fa S H d) hp 0 (by omega) (fun a b c l => by unfold ic at c; omega) (by omega) (by omega) (fun p' y => (p', ow, pw, qw, Int32.ofInt d, Int32.ofInt (y : Int))) (fun p' y x => (p', ow, pw, qw, Int32.ofInt d, Int32.ofInt (y : Int), Int32.ofInt (x : Int))) (fun p' => wm p' S (q_vf S H (q_fa S H d))) ?_ ?_ ?_ ?_
  · obtain ⟨p', hp', e⟩ := key
    exact ⟨p', e (), hp'⟩
  · intro y p' G hy h' k r
    show ff_X13_smooth_c7 N o q r p' ow pw qw (Int32.ofInt d) (Int32.ofInt (y : Int)) = _
    unfold ff_X13_smooth_c7
    simp only [ww_r hS h hy, if_false]
    rfl
  · intro x y p' hx hy _ h'
    obtain ⟨t, ht, e⟩ := wc_smooth1 (N := N) (o := o) (q := q) (ow := ow) (qw := qw) hN hS h hwp hH hd hx hy (q_vg_at (V := q_fa S H d)) h'
    refine ⟨t, ht, fun k r r2 => ?_⟩
    show ff_X13_smooth_c18 N o q r r2 p' ow pw qw (Int32.ofInt d) (Int32.ofInt (y : Int)) (Int32.ofInt (x : Int)) = _
    unfold ff_X13_smooth_c18
    simp only [ww_w hS h hx, if_false]
    exact e (r, r2)
  · intro y p' G hy h' k r r2
    show ff_X13_smooth_c18 N o q r r2 p' ow pw qw (Int32.ofInt d) (Int32.ofInt (y : Int)) (Int32.ofInt (S 0 : Int)) = _
    unfold ff_X13_smooth_c18
    simp only [ww_W h, if_true]
    rw [ii_1, ia_s]
  · intro p' h'
    refine ⟨p', h', fun k r => ?_⟩
    show ff_X13_smooth_c7 N o q r p' ow pw qw (Int32.ofInt d) (Int32.ofInt (S 1 : Int)) = _
    unfold ff_X13_smooth_c7
    simp only [ww_R h, if_true]
    rw [wc_others hN hS h h' hwp ((q_vf_hv (q_fa_hv hS hH (by omega))).wv hS) (hH.wv hS), Option.bind_some, q_df_sy]
end WS
