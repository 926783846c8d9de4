/-! LAYER 2. The law's picture: its changes -/
section WC
variable {N : Nat} {o p q : os_T} {S : Nat → Nat} {T H F G : Int → Int → Int}
theorem wc_dither (hN : 1000 < N) (hS : sv S) (hz : wz S) (h : wh o S) (hq : wm q S T) (hT : tv S T) (hp : wm p S H) (hH : hv S H) : ∃ p', ff_X13_dither N o q p = some (Int32.ofInt (q_df S H (q_vf S H (q_dit S T))), p') ∧ wm p' S (q_vf S H (q_dit S T)) := by
  have hs := sv_a hS
  obtain ⟨ow, qw, pw, ew, hwo, hwq, hwp⟩ := wc_copy (N := N) hS hz h hq hp
  unfold ff_X13_dither
  rw [ew, Option.bind_some]
  unfold ff_X13_dither_l7
  have key := vis_w (K := Unit) (o := p) (S := S) (N := N) (M := N) (step1 := fun _ k7 s1 => ff_X13_dither_c7 N o q k7 s1.1 s1.2.1 s1.2.2.1 s1.2.2.2.1 s1.2.2.2.2) (step2 := fun _ k7 k20 s1 => ff_X13_dither_c20 N o q k7 k20 s1.1 s1.2.1 s1.2.2.1 s1.2.2.2.1 s1.2.2.2.2.1 s1.2.2.2.2.2.1 s1.2.2.2.2.2.2) (fun _ (t : os_T) => some (Int32.ofInt (q_df S H (q_vf S H (q_dit S T))), t)) (fun p' G => wm p' S G) H (q_dit S T) hp 0 (by omega) (fun a b c l => by unfold ic at c; omega) (by omega) (by omega) (fun p' y => (p', ow, pw, qw, Int32.ofInt (y : Int))) (fun p' y x => (p', ow, pw, qw, Int32.ofInt (y : Int), q_le S T y x, Int32.ofInt (x : Int))) (fun p' => wm p' S (q_vf S H (q_dit S T))) ?_ ?_ ?_ ?_
  · obtain ⟨p', hp', e⟩ := key
    exact ⟨p', e (), hp'⟩
  · intro y p' G hy h' k r
    show ff_X13_dither_c7 N o q r p' ow pw qw (Int32.ofInt (y : Int)) = _
    unfold ff_X13_dither_c7
    simp only [ww_r hS h hy, if_false]
    rfl
  · intro x y p' hx hy _ h'
    have hc : ic S (x : Int) (y : Int) := ic_n hx hy
    have ht := hT _ _ hc
    have hd := q_dit_r hS hT hx hy
    have hw := q_lw_2 hS hT hx hy
    have h2 := wm_hu hS h' hc (v := (sh S (q_lw S T y x) : Int))
    obtain ⟨g1, g2, g3, g4⟩ := wg hS hq hc
    obtain ⟨k1, k2, k3, k4⟩ := wg hS h' hc
    obtain ⟨m1, m2, m3, m4⟩ := wg hS h2 hc
    rw [hu_at] at m4
    refine ⟨_, by rw [q_dit_at]; exact h2, fun k r r2 => ?_⟩
    show ff_X13_dither_c20 N o q r r2 p' ow pw qw (Int32.ofInt (y : Int)) (q_le S T y x) (Int32.ofInt (x : Int)) = _
    unfold ff_X13_dither_c20
    simp only [ww_w hS h hx, g1, g2, g3, g4, k1, k2, k3, if_true, if_false, fl_wT ht.1]
    rw [if_pos (fl_wn (by omega))]
    show (if os_nn (q_lw S T y x) then (ff_X13_heightFor N o (q_lw S T y x)).bind _ else none) = _
    rw [if_pos (fq_nnF (fw_F hw (by decide))), wc_heightFor hN hS h hw, Option.bind_some]
    simp only [m1, m2, m3, m4, if_true]
    rw [wc_light hS h (by omega) (by omega), Option.bind_some, Int.toNat_natCast]
    show (if os_nn (q_le S T y (x + 1)) then r2 (_, ow, pw, qw, Int32.ofInt (y : Int), q_le S T y (x + 1), _) else none) = _
    rw [if_pos (fq_nnF (fw_F (q_le_b hS hT hy (x + 1) (by omega)) (by omega))), ii_1, ia_s]
  · intro y p' G hy h' k r r2
    show ff_X13_dither_c20 N o q r r2 p' ow pw qw (Int32.ofInt (y : Int)) (q_le S T y (S 0)) (Int32.ofInt (S 0 : Int)) = _
    unfold ff_X13_dither_c20
    simp only [ww_W h, if_true]
    rw [ii_1, ia_s]
  · intro p' h'
    refine ⟨p', h', fun k r => ?_⟩
    show ff_X13_dither_c7 N o q r p' ow pw qw (Int32.ofInt (S 1 : Int)) = _
    unfold ff_X13_dither_c7
    simp only [ww_R h, if_true]
    rw [wc_others hN hS h h' hwp ((q_vf_hv (q_dit_hv hS hT)).wv hS) (hH.wv hS), Option.bind_some, q_df_sy]
/-! tones -/
def q_rt (b m : Int) (T : Int → Int → Int) : Int → Int → Int := fun x y => max 0 (min 255 (b * T x y + m))
theorem q_rt_tv {b m : Int} : tv S (q_rt b m T) := fun x y c => by unfold q_rt; omega
theorem wc_retone (hN : 1000 < N) (hS : sv S) (hz : wz S) (h : wh o S) (hq : wm q S T) (hT : tv S T) (hp : wm p S H) (hH : hv S H) {b m : Int} (hb : b = 1 ∨ b = -1) (hm : -255 ≤ m ∧ m ≤ 255) : ∃ q' p', ff_X13_retone N o q p (Int32.ofInt b) (Int32.ofInt m) = some (Int32.ofInt (q_df S H (q_vf S H (q_fol S (q_rt b m T)))), q', p') ∧ wm q' S (q_vf S T (q_rt b m T)) ∧ wm p' S (q_vf S H (q_fol S (q_rt b m T))) := by
  have hs := sv_a hS
  obtain ⟨ow, qw, pw, ew, hwo, hwq, hwp⟩ := wc_copy (N := N) hS hz h hq hp
  unfold ff_X13_retone
  rw [ew, Option.bind_some]
  unfold ff_X13_retone_l8
  have key := vis_w (K := Unit) (o := q) (S := S) (N := N) (M := N) (step1 := fun _ k8 s1 => ff_X13_retone_c8 N o k8 s1.1 s1.2.1 s1.2.2.1 s1.2.2.2.1 s1.2.2.2.2.1 s1.2.2.2.2.2.1 s1.2.2.2.2.2.2.1 s1.2.2.2.2.2.2.2) (step2 := fun _ k8 k20 s1 => ff_X13_retone_c20 N o k8 k20 s1.1 s1.2.1 s1.2.2.1 s1.2.2.2.1 s1.2.2.2.2.1 s1.2.2.2.2.2.1 s1.2.2.2.2.2.2.1 s1.2.2.2.2.2.2.2.1 s1.2.2.2.2.2.2.2.2) (fun _ (t : os_T × os_T) => some (Int32.ofInt (q_df S H (q_vf S H (q_fol S (q_rt b m T)))), t)) (fun q' G => wm q' S G) T (q_rt b m T) hq 0 (by omega) (fun a b c l => by unfold ic at c; omega) (by omega) (by omega) (fun q' y => (p, q', ow, pw, qw, Int32.ofInt b, Int32.ofInt m, Int32.ofInt (y : Int))) (fun q' y x => (p, q', ow, pw, qw, Int32.ofInt b, Int32.ofInt m, Int32.ofInt (y : Int), Int32.ofInt (x : Int))) (fun t => wm t.1 S (q_vf S T (q_rt b m T)) ∧ wm t.2 S (q_vf S H (q_fol S (q_rt b m T)))) ?_ ?_ ?_ ?_
  · obtain ⟨⟨q', p'⟩, ⟨h1, h2⟩, e⟩ := key
    exact ⟨q', p', e (), h1, h2⟩
  · intro y q' G hy h' k r
    show ff_X13_retone_c8 N o r p q' ow pw qw (Int32.ofInt b) (Int32.ofInt m) (Int32.ofInt (y : Int)) = _
    unfold ff_X13_retone_c8
    simp only [ww_r hS h hy, if_false]
    rfl
  · intro x y q' hx hy _ h'
    have hc : ic S (x : Int) (y : Int) := ic_n hx hy
    have ht := hT _ _ hc
    obtain ⟨k1, k2, k3, k4⟩ := wg hS h' hc
    rw [q_vg_at] at k4
    refine ⟨_, wm_hu hS h' hc, fun k r r2 => ?_⟩
    show ff_X13_retone_c20 N o r r2 p q' ow pw qw (Int32.ofInt b) (Int32.ofInt m) (Int32.ofInt (y : Int)) (Int32.ofInt (x : Int)) = _
    unfold ff_X13_retone_c20
    have hr : ib (b * T x y + m) := by
      rcases hb with rfl | rfl <;> omega
    simp only [ww_w hS h hx, k1, k2, k3, k4, if_true, if_false, ia_mul, ia_add]
    rw [ii_clamp hr, ii_1, ia_s]
    rfl
  · intro y q' G hy h' k r r2
    show ff_X13_retone_c20 N o r r2 p q' ow pw qw (Int32.ofInt b) (Int32.ofInt m) (Int32.ofInt (y : Int)) (Int32.ofInt (S 0 : Int)) = _
    unfold ff_X13_retone_c20
    simp only [ww_W h, if_true]
    rw [ii_1, ia_s]
  · intro q' h'
    obtain ⟨p', ep, hp'⟩ := wc_relights (N := N) hN hS h h' (q_vf_tv q_rt_tv) hp
    rw [q_fol_vf] at hp'
    refine ⟨(q', p'), ⟨h', hp'⟩, fun k r => ?_⟩
    show ff_X13_retone_c8 N o r p q' ow pw qw (Int32.ofInt b) (Int32.ofInt m) (Int32.ofInt (S 1 : Int)) = _
    unfold ff_X13_retone_c8
    have hf : hv S (q_fol S (q_rt b m T)) := fun u v c => by
      unfold q_fol
      have := q_rt_tv (S := S) (T := T) (b := b) (m := m) u v c
      have := sh_r hS (fl_w200 (t := (q_rt b m T u v).toNat) (by omega))
      omega
    simp only [ww_R h, if_true]
    rw [ep, Option.bind_some, wc_others hN hS h hp' hwp ((q_vf_hv hf).wv hS) (hH.wv hS), Option.bind_some, q_df_sy]
/-! mirroring -/
theorem wc_mirror (hN : 1000 < N) (hS : sv S) (hz : wz S) (h : wh o S) (hq : wm q S T) (hp : wm p S H) (hH : hv S H) : ∃ q' p', ff_X13_mirror N o q p = some (Int32.ofInt (q_df S H (q_mir S H)), q', p') ∧ wm q' S (q_mir S T) ∧ wm p' S (q_mir S H) := by
  have hs := sv_a hS
  obtain ⟨ow, qw, pw, ew, hwo, hwq, hwp⟩ := wc_copy (N := N) hS hz h hq hp
  unfold ff_X13_mirror
  rw [ew, Option.bind_some]
  unfold ff_X13_mirror_l7
  have key := lo_gridP (K := Unit) (N := N) (M := N) (step1 := fun _ k7 s1 => ff_X13_mirror_c7 N o k7 s1.1 s1.2.1 s1.2.2.1 s1.2.2.2.1 s1.2.2.2.2.1 s1.2.2.2.2.2) (step2 := fun _ k7 k17 s1 => ff_X13_mirror_c17 N o k7 k17 s1.1 s1.2.1 s1.2.2.1 s1.2.2.2.1 s1.2.2.2.2.1 s1.2.2.2.2.2.1 s1.2.2.2.2.2.2) (fun _ (t : os_T × os_T) => some (Int32.ofInt (q_df S H (q_mir S H)), t)) (fun y s => ∃ p' q', s = (p', q', ow, pw, qw, Int32.ofInt (y : Int)) ∧ wm p' S (q_vg S H (q_mir S H) y 0) ∧ wm q' S (q_vg S T (q_mir S T) y 0)) (fun y x s => ∃ p' q', s = (p', q', ow, pw, qw, Int32.ofInt (y : Int), Int32.ofInt (x : Int)) ∧ wm p' S (q_vg S H (q_mir S H) y x) ∧ wm q' S (q_vg S T (q_mir S T) y x)) (fun t => wm t.1 S (q_mir S T) ∧ wm t.2 S (q_mir S H)) (S 0) (S 1) ?_ ?_ ?_ ?_ (by omega) (by omega) (s := (p, q, ow, pw, qw, (0 : Int32))) ⟨p, q, rfl, by rw [q_vg_0]; exact hp, by rw [q_vg_0]; exact hq⟩
  · obtain ⟨⟨q', p'⟩, ⟨h1, h2⟩, e⟩ := key
    exact ⟨q', p', e (), h1, h2⟩
  · rintro y s hy ⟨p', q', rfl, h1, h2⟩
    refine ⟨_, ⟨p', q', rfl, h1, h2⟩, fun k r => ?_⟩
    show ff_X13_mirror_c7 N o r p' q' ow pw qw (Int32.ofInt (y : Int)) = _
    unfold ff_X13_mirror_c7
    simp only [ww_r hS h hy, if_false]
    rfl
  · rintro x y s hx hy ⟨p', q', rfl, h1, h2⟩
    have hc : ic S (x : Int) (y : Int) := ic_n hx hy
    have hc2 : ic S ((S 0 : Int) - 1 - x) (y : Int) := by unfold ic at hc ⊢; omega
    obtain ⟨k1, k2, k3, k4⟩ := wg hS h1 hc
    obtain ⟨m1, m2, m3, m4⟩ := wg hS h2 hc
    obtain ⟨a1, a2, a3, a4⟩ := wg hS hwp hc2
    obtain ⟨b1, b2, b3, b4⟩ := wg hS hwq hc2
    have e1 : q_mir S H x y = H ((S 0 : Int) - 1 - x) y := if_pos hc
    have e2 : q_mir S T x y = T ((S 0 : Int) - 1 - x) y := if_pos hc
    refine ⟨_, ⟨_, _, rfl, by rw [← q_vg_s hc]; exact wm_hu hS h1 hc, by rw [← q_vg_s hc]; exact wm_hu hS h2 hc⟩, fun k r r2 => ?_⟩
    show ff_X13_mirror_c17 N o r r2 p' q' ow pw qw (Int32.ofInt (y : Int)) (Int32.ofInt (x : Int)) = _
    unfold ff_X13_mirror_c17
    have ex : Int32.ofInt (S 0 : Int) - (1 : Int32) - Int32.ofInt (x : Int) = Int32.ofInt ((S 0 : Int) - 1 - x) := by rw [ii_1, ia_sub, ia_sub]
    have g0 : (os_I o 0 ≤ Int32.ofInt (x : Int)) = False := ww_w hS h hx
    simp only [g0, if_false]
    rw [h 0 (by decide), ex]
    simp only [k1, k2, k3, m1, m2, m3, a1, a2, a3, a4, b1, b2, b3, b4, if_true]
    rw [ii_1, ia_s, e1, e2]
  · rintro y s hy ⟨p', q', rfl, h1, h2⟩
    refine ⟨_, ⟨p', q', rfl, by rw [← q_vg_r]; exact h1, by rw [← q_vg_r]; exact h2⟩, fun k r r2 => ?_⟩
    show ff_X13_mirror_c17 N o r r2 p' q' ow pw qw (Int32.ofInt (y : Int)) (Int32.ofInt (S 0 : Int)) = _
    unfold ff_X13_mirror_c17
    simp only [ww_W h, if_true]
    rw [ii_1, ia_s]
  · rintro s ⟨p', q', rfl, h1, h2⟩
    have ef : ∀ F : Int → Int → Int, q_vf S F (q_mir S F) = q_mir S F := fun F => by
      funext a b
      unfold q_vf q_mir
      split <;> rfl
    rw [q_vg_f, ef] at h1 h2
    refine ⟨(q', p'), ⟨h2, h1⟩, fun k r => ?_⟩
    show ff_X13_mirror_c7 N o r p' q' ow pw qw (Int32.ofInt (S 1 : Int)) = _
    unfold ff_X13_mirror_c7
    simp only [ww_R h, if_true]
    rw [wc_others hN hS h h1 hwp ((q_mir_hv hH).wv hS) (hH.wv hS), Option.bind_some, q_df_sy]
/-! easing -/
theorem wc_overhang (hS : sv S) (h : wh o S) (hp : wm p S H) (hH : wv S H) {x y : Int} (c : ic S x y) : ff_X13_overhang N o p (Int32.ofInt x) (Int32.ofInt y) = some (Int32.ofInt (if y = 0 then 0 else max 0 (H x y - (H x (y - 1) + S 6)))) := by
  have hs := sv_a hS
  have hr := ic_r hS c
  unfold ff_X13_overhang
  simp only [i0_eq (show ib y by omega)]
  by_cases cy : y = 0
  · rw [if_pos cy, if_pos cy]; rfl
  · have c1 : ic S x (y - 1) := by unfold ic at c ⊢; omega
    have b1 := hH _ _ c
    have b2 := hH _ _ c1
    obtain ⟨g1, g2, g3, g4⟩ := wg hS hp c
    obtain ⟨k1, k2, k3, k4⟩ := wg hS hp c1
    rw [if_neg cy, if_neg cy, ii_1, ia_sub]
    simp only [g1, g2, g3, g4, k1, k2, k3, k4, if_true, h 6 (by decide), ia_add, ia_sub, i0_gt (show ib (H x y - (H x (y - 1) + S 6)) by omega)]
    by_cases d : 0 < H x y - (H x (y - 1) + S 6)
    · rw [if_pos d, Int.max_eq_right (by omega)]
    · rw [if_neg d, Int.max_eq_left (by omega)]; rfl
theorem wc_ease (hN : 1000 < N) (hS : sv S) (hz : wz S) (h : wh o S) (hq : wm q S T) (hp : wm p S H) (hH : hv S H) : ∃ p', ff_X13_ease N o q p = some (Int32.ofInt (q_df S H (q_vf S H (q_eas S H))), p') ∧ wm p' S (q_vf S H (q_eas S H)) := by
  have hs := sv_a hS
  obtain ⟨ow, qw, pw, ew, hwo, hwq, hwp⟩ := wc_copy (N := N) hS hz h hq hp
  unfold ff_X13_ease
  rw [ew, Option.bind_some]
  unfold ff_X13_ease_l7
  have key := vis_w (K := Unit) (o := p) (S := S) (N := N) (M := N) (step1 := fun _ k7 s1 => ff_X13_ease_c7 N o q k7 s1.1 s1.2.1 s1.2.2.1 s1.2.2.2.1 s1.2.2.2.2) (step2 := fun _ k7 k17 s1 => ff_X13_ease_c17 N o q k7 k17 s1.1 s1.2.1 s1.2.2.1 s1.2.2.2.1 s1.2.2.2.2.1 s1.2.2.2.2.2) (fun _ (t : os_T) => some (Int32.ofInt (q_df S H (q_vf S H (q_eas S H))), t)) (fun p' G => wm p' S G) H (q_eas S H) hp 1 (by omega) q_eas_0 (by omega) (by omega) (fun p' y => (p', ow, pw, qw, Int32.ofInt (y : Int))) (fun p' y x => (p', ow, pw, qw, Int32.ofInt (y : Int), Int32.ofInt (x : Int))) (fun p' => wm p' S (q_vf S H (q_eas S H))) ?_ ?_ ?_ ?_
  · obtain ⟨p', hp', e⟩ := key
    exact ⟨p', e (), hp'⟩
  · intro y p' G hy h' k r
    show ff_X13_ease_c7 N o q r p' ow pw qw (Int32.ofInt (y : Int)) = _
    unfold ff_X13_ease_c7
    simp only [ww_r hS h hy, if_false]
    rfl
  · intro x y p' hx hy hy1 h'
    have hc : ic S (x : Int) (y : Int) := ic_n hx hy
    have hc1 : ic S (x : Int) ((y : Int) - 1) := by unfold ic at hc ⊢; omega
    have hv1 := (q_eas_hv hS hH) _ _ hc1
    have hh := hH _ _ hc
    have hw := q_vg_wv (hH.wv hS) ((q_eas_hv hS hH).wv hS) y x
    obtain ⟨k1, k2, k3, k4⟩ := wg hS h' hc
    obtain ⟨m1, m2, m3, m4⟩ := wg hS h' hc1
    have es := q_eas_s (S := S) (H := H) (x := x) hy1
    rw [q_vg_up hx hy1 hy] at m4
    have eo := wc_overhang (N := N) hS h h' hw hc
    rw [if_neg (show ¬ ((y : Int) = 0) by omega), q_vg_at, q_vg_up hx hy1 hy] at eo
    by_cases c : H x y - (q_eas S H x ((y : Int) - 1) + S 6) ≤ 0
    · refine ⟨p', ?_, fun k r r2 => ?_⟩
      · have : q_eas S H x y = q_vg S H (q_eas S H) y x x y := by rw [q_vg_at, es]; omega
        rw [this, hu_id]; exact h'
      · show ff_X13_ease_c17 N o q r r2 p' ow pw qw (Int32.ofInt (y : Int)) (Int32.ofInt (x : Int)) = _
        unfold ff_X13_ease_c17 ff_X13_ease_b57
        simp only [ww_w hS h hx, if_false]
        rw [eo, Option.bind_some]
        simp only [i0_le (show ib (max 0 (H x y - (q_eas S H x ((y : Int) - 1) + S 6))) by omega)]
        rw [if_pos (by omega), ii_1, ia_s]
    · refine ⟨_, wm_hu hS h' hc, fun k r r2 => ?_⟩
      show ff_X13_ease_c17 N o q r r2 p' ow pw qw (Int32.ofInt (y : Int)) (Int32.ofInt (x : Int)) = _
      unfold ff_X13_ease_c17 ff_X13_ease_b57
      simp only [ww_w hS h hx, if_false]
      rw [eo, Option.bind_some]
      simp only [i0_le (show ib (max 0 (H x y - (q_eas S H x ((y : Int) - 1) + S 6))) by omega)]
      rw [if_neg (by omega), ii_1, ia_sub, ia_s]
      simp only [k1, k2, k3, m1, m2, m3, m4, if_true, h 6 (by decide), ia_add]
      rw [show q_eas S H x ((y : Int) - 1) + (S 6 : Int) = q_eas S H x y by rw [es]; omega]
  · intro y p' G hy h' k r r2
    show ff_X13_ease_c17 N o q r r2 p' ow pw qw (Int32.ofInt (y : Int)) (Int32.ofInt (S 0 : Int)) = _
    unfold ff_X13_ease_c17
    simp only [ww_W h, if_true]
    rw [ii_1, ia_s]
  · intro p' h'
    refine ⟨p', h', fun k r => ?_⟩
    show ff_X13_ease_c7 N o q r p' ow pw qw (Int32.ofInt (S 1 : Int)) = _
    unfold ff_X13_ease_c7
    simp only [ww_R h, if_true]
    rw [wc_others hN hS h h' hwp ((q_vf_hv (q_eas_hv hS hH)).wv hS) (hH.wv hS), Option.bind_some, q_df_sy]
end WC
