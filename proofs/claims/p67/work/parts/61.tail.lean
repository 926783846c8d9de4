/-! LAYER 2. The law behind its five changes: all that it asks holds -/
section Tail
variable {zz : Nat → Nat → Nat} {N : Nat} {ot o oh ow os x p q t1 t2 ol rk rt s0 s1 sc tk : os_T} {P : Nat → os_T} {S : Nat → Nat} {T H G : Int → Int → Int} {d : Int}
def lt_1 (r : Option (Int32 × os_T × os_T × os_T × os_T × os_T × os_T × os_T × os_T × os_T)) : Prop := ∃ s, r = some ((1 : Int32), s)
/-- all heights are those kept in a list -/
def lt_v (v : os_T) (S : Nat → Nat) (H : Int → Int → Int) (y x : Nat) : Prop := ∀ a b, ic S a b → (b < y ∨ (b = y ∧ a < x)) → os_A v 0 (16 * b + a).toNat = Int32.ofInt (H a b)
theorem lt_150 (hS : sv S) (h : cp o S T H) (hH : hv S H) (hx : wh x S) {v : os_T} (hv' : ∀ a b, ic S a b → os_A v 0 (16 * b + a).toNat = Int32.ofInt (H a b)) : lt_1 (ff_L_tones_l150 N ot x 13 (o, oh, P 0, P 1, P 2, P 3, P 4, P 5, P 6, v, (0 : Int32))) := by
  have hs := sv_a hS
  have key := lo_gridP (K := Unit) (N := 13) (M := 17) (step1 := fun _ k150 s1 => ff_L_tones_c150 N ot x k150 s1.1 s1.2.1 s1.2.2.1 s1.2.2.2.1 s1.2.2.2.2.1 s1.2.2.2.2.2.1 s1.2.2.2.2.2.2.1 s1.2.2.2.2.2.2.2.1 s1.2.2.2.2.2.2.2.2.1 s1.2.2.2.2.2.2.2.2.2.1 s1.2.2.2.2.2.2.2.2.2.2) (step2 := fun _ k150 k162 s1 => ff_L_tones_c162 N ot x k150 k162 s1.1 s1.2.1 s1.2.2.1 s1.2.2.2.1 s1.2.2.2.2.1 s1.2.2.2.2.2.1 s1.2.2.2.2.2.2.1 s1.2.2.2.2.2.2.2.1 s1.2.2.2.2.2.2.2.2.1 s1.2.2.2.2.2.2.2.2.2.1 s1.2.2.2.2.2.2.2.2.2.2.1 s1.2.2.2.2.2.2.2.2.2.2.2) (fun _ t => some ((1 : Int32), t)) (fun (y : Nat) s => s = (o, oh, P 0, P 1, P 2, P 3, P 4, P 5, P 6, v, Int32.ofInt (y : Int))) (fun (y i : Nat) s => s = (o, oh, P 0, P 1, P 2, P 3, P 4, P 5, P 6, v, Int32.ofInt (y : Int), Int32.ofInt (i : Int))) (fun _ => True) (S 0) (S 1) ?_ ?_ ?_ ?_ (by omega) (by omega) (s := (o, oh, P 0, P 1, P 2, P 3, P 4, P 5, P 6, v, (0 : Int32))) rfl
  · obtain ⟨t, -, e⟩ := key
    exact ⟨t, e ()⟩
  · rintro y s hy rfl
    refine ⟨_, rfl, fun k r => ?_⟩
    show ff_L_tones_c150 N ot x r o oh (P 0) (P 1) (P 2) (P 3) (P 4) (P 5) (P 6) v (Int32.ofInt (y : Int)) = _
    unfold ff_L_tones_c150
    simp only [ww_r hS hx hy, if_false]
    rfl
  · rintro i y s hi hy rfl
    have hc : ic S (i : Int) (y : Int) := ic_n hi hy
    refine ⟨_, rfl, fun k r r2 => ?_⟩
    show ff_L_tones_c162 N ot x r r2 o oh (P 0) (P 1) (P 2) (P 3) (P 4) (P 5) (P 6) v (Int32.ofInt (y : Int)) (Int32.ofInt (i : Int)) = _
    unfold ff_L_tones_c162
    simp only [ww_w hS hx hi, if_false]
    rw [cc_height hS h hc, Option.bind_some, if_pos rfl, if_pos (rp_in hS hc), rp_na hS hc, hv' _ _ hc, if_pos rfl, ii_1, ia_s]
  · rintro y s hy rfl
    refine ⟨_, rfl, fun k r r2 => ?_⟩
    show ff_L_tones_c162 N ot x r r2 o oh (P 0) (P 1) (P 2) (P 3) (P 4) (P 5) (P 6) v (Int32.ofInt (y : Int)) (Int32.ofInt (S 0 : Int)) = _
    unfold ff_L_tones_c162
    simp only [ww_W hx, if_true]
    rw [ii_1, ia_s]
  · rintro s rfl
    refine ⟨(o, oh, P 0, P 1, P 2, P 3, P 4, P 5, P 6), trivial, fun k r => ?_⟩
    show ff_L_tones_c150 N ot x r o oh (P 0) (P 1) (P 2) (P 3) (P 4) (P 5) (P 6) v (Int32.ofInt (S 1 : Int)) = _
    unfold ff_L_tones_c150
    simp only [ww_R hx, if_true]
theorem q_inv_h (a b : Int) (c : ic S a b) : q_vf S G (q_fol S (q_neg (q_vf S (q_vf S T (q_neg T)) (q_neg (q_vf S T (q_neg T)))))) a b = q_fol S (q_neg T) a b := by
  rw [q_vf_in c]
  have e : q_vf S (q_vf S T (q_neg T)) (q_neg (q_vf S T (q_neg T))) = T := funext fun a => funext fun b => q_neg_2 a b
  rw [e]
/-- inverted, heights are those for the tones; twice more, all is as before -/
theorem lt_tones (hN : 100000 < N) (hS : sv S) (hj : jc o oh P S T H) (hx : wh x S) : lt_1 (ff_L_tones N ot o oh (P 0) (P 1) (P 2) (P 3) (P 4) (P 5) (P 6) x) := by
  have hs := sv_a hS
  obtain ⟨P1, oh1, o1, e1, j1⟩ := cc_invert (N := N) (ot := ot) hN hS hj
  obtain ⟨P2, oh2, o2, e2, j2⟩ := cc_invert (N := N) (ot := ot) hN hS j1
  obtain ⟨P3, oh3, o3, e3, j3⟩ := cc_invert (N := N) (ot := ot) hN hS j2
  have hH1 := j1.2.2.1
  have hT1 := j1.2.1
  -- the third answer is the second's
  have c1 : ∀ a b, ic S a b → q_vf S (q_vf S (q_vf S H (q_fol S (q_neg T))) (q_fol S (q_neg (q_vf S T (q_neg T))))) (q_fol S (q_neg (q_vf S (q_vf S T (q_neg T)) (q_neg (q_vf S T (q_neg T)))))) a b = q_vf S H (q_fol S (q_neg T)) a b := fun a b c => by
    rw [q_inv_h a b c, q_vf_in c]
  rw [q_df_cg hS c1, q_df_sy] at e3
  have h3 : cp o3 S _ (q_vf S H (q_fol S (q_neg T))) := j3.1.cg (fun _ _ _ => rfl) c1
  have hfol : ∀ a b, ic S a b → q_vf S H (q_fol S (q_neg T)) a b = q_fol S (q_vf S T (q_neg T)) a b := fun a b c => by
    rw [q_vf_in c]
    unfold q_fol
    rw [q_vf_in c]
  generalize q_vf S H (q_fol S (q_neg T)) = H1 at *
  unfold ff_L_tones
  rw [e1, Option.bind_some]
  have t68 : ∀ v : os_T, (∀ a b, ic S a b → os_A v 0 (16 * b + a).toNat = Int32.ofInt (H1 a b)) → lt_1 (ff_L_tones_l68 N ot x 13 (o1, oh1, P1 0, P1 1, P1 2, P1 3, P1 4, P1 5, P1 6, v, (0 : Int32))) := fun v hv' => by
    have key := lo_gridI2 (N := 13) (M := 17) (step1 := fun k68 s1 => ff_L_tones_c68 N ot x k68 s1.1 s1.2.1 s1.2.2.1 s1.2.2.2.1 s1.2.2.2.2.1 s1.2.2.2.2.2.1 s1.2.2.2.2.2.2.1 s1.2.2.2.2.2.2.2.1 s1.2.2.2.2.2.2.2.2.1 s1.2.2.2.2.2.2.2.2.2.1 s1.2.2.2.2.2.2.2.2.2.2) (step2 := fun k68 k80 s1 => ff_L_tones_c80 N ot x k68 k80 s1.1 s1.2.1 s1.2.2.1 s1.2.2.2.1 s1.2.2.2.2.1 s1.2.2.2.2.2.1 s1.2.2.2.2.2.2.1 s1.2.2.2.2.2.2.2.1 s1.2.2.2.2.2.2.2.2.1 s1.2.2.2.2.2.2.2.2.2.1 s1.2.2.2.2.2.2.2.2.2.2.1 s1.2.2.2.2.2.2.2.2.2.2.2) (fun (y : Nat) s => s = (o1, oh1, P1 0, P1 1, P1 2, P1 3, P1 4, P1 5, P1 6, v, Int32.ofInt (y : Int))) (fun (y i : Nat) s => s = (o1, oh1, P1 0, P1 1, P1 2, P1 3, P1 4, P1 5, P1 6, v, Int32.ofInt (y : Int), Int32.ofInt (i : Int))) lt_1 (S 0) (S 1) ?_ ?_ ?_ ?_ (by omega) (by omega) (s := (o1, oh1, P1 0, P1 1, P1 2, P1 3, P1 4, P1 5, P1 6, v, (0 : Int32))) rfl
    · obtain ⟨r, hr, e⟩ := key
      unfold ff_L_tones_l68
      rw [e]; exact hr
    · rintro y s hy rfl
      refine ⟨_, rfl, fun r => ?_⟩
      show ff_L_tones_c68 N ot x r o1 oh1 (P1 0) (P1 1) (P1 2) (P1 3) (P1 4) (P1 5) (P1 6) v (Int32.ofInt (y : Int)) = _
      unfold ff_L_tones_c68
      simp only [ww_r hS hx hy, if_false]
      rfl
    · rintro i y s hi hy rfl
      have hc : ic S (i : Int) (y : Int) := ic_n hi hy
      refine ⟨_, rfl, fun k r => ?_⟩
      show ff_L_tones_c80 N ot x k r o1 oh1 (P1 0) (P1 1) (P1 2) (P1 3) (P1 4) (P1 5) (P1 6) v (Int32.ofInt (y : Int)) (Int32.ofInt (i : Int)) = _
      unfold ff_L_tones_c80
      simp only [ww_w hS hx hi, if_false]
      rw [cc_height hS j1.1 hc, Option.bind_some, if_pos rfl, cc_tone hS j1.1 hc, Option.bind_some, if_pos rfl]
      simp only []
      rw [cc_hfor (by omega) hS j1.1 (hT1 _ _ hc), Option.bind_some, if_pos rfl, if_pos (show Int32.ofInt (H1 i y) = Int32.ofInt _ from by rw [hfol _ _ hc]; rfl), ii_1, ia_s]
    · rintro y s hy rfl
      refine ⟨_, rfl, fun k r => ?_⟩
      show ff_L_tones_c80 N ot x k r o1 oh1 (P1 0) (P1 1) (P1 2) (P1 3) (P1 4) (P1 5) (P1 6) v (Int32.ofInt (y : Int)) (Int32.ofInt (S 0 : Int)) = _
      unfold ff_L_tones_c80
      simp only [ww_W hx, if_true]
      rw [ii_1, ia_s]
    · rintro s rfl
      refine ⟨_, lt_150 (N := N) (ot := ot) (oh := oh3) (P := P3) hS h3 hH1 hx hv', fun r => ?_⟩
      show ff_L_tones_c68 N ot x r o1 oh1 (P1 0) (P1 1) (P1 2) (P1 3) (P1 4) (P1 5) (P1 6) v (Int32.ofInt (S 1 : Int)) = _
      unfold ff_L_tones_c68
      simp only [ww_R hx, if_true]
      rw [e2, Option.bind_some, e3, Option.bind_some, if_pos rfl]
  have key := lo_gridI2 (N := 13) (M := 17) (step1 := fun k14 s1 => ff_L_tones_c14 N ot x k14 s1.1 s1.2.1 s1.2.2.1 s1.2.2.2.1 s1.2.2.2.2.1 s1.2.2.2.2.2.1 s1.2.2.2.2.2.2.1 s1.2.2.2.2.2.2.2.1 s1.2.2.2.2.2.2.2.2.1 s1.2.2.2.2.2.2.2.2.2.1 s1.2.2.2.2.2.2.2.2.2.2) (step2 := fun k14 k26 s1 => ff_L_tones_c26 N ot x k14 k26 s1.1 s1.2.1 s1.2.2.1 s1.2.2.2.1 s1.2.2.2.2.1 s1.2.2.2.2.2.1 s1.2.2.2.2.2.2.1 s1.2.2.2.2.2.2.2.1 s1.2.2.2.2.2.2.2.2.1 s1.2.2.2.2.2.2.2.2.2.1 s1.2.2.2.2.2.2.2.2.2.2.1 s1.2.2.2.2.2.2.2.2.2.2.2) (fun (y : Nat) s => ∃ v, s = (o1, oh1, P1 0, P1 1, P1 2, P1 3, P1 4, P1 5, P1 6, v, Int32.ofInt (y : Int)) ∧ lt_v v S H1 y 0) (fun (y i : Nat) s => ∃ v, s = (o1, oh1, P1 0, P1 1, P1 2, P1 3, P1 4, P1 5, P1 6, v, Int32.ofInt (y : Int), Int32.ofInt (i : Int)) ∧ lt_v v S H1 y i) lt_1 (S 0) (S 1) ?_ ?_ ?_ ?_ (by omega) (by omega) (s := (o1, oh1, P1 0, P1 1, P1 2, P1 3, P1 4, P1 5, P1 6, os_zero, (0 : Int32))) ⟨os_zero, rfl, fun a b c z => by unfold ic at c; omega⟩
  · obtain ⟨r, hr, e⟩ := key
    unfold ff_L_tones_l14
    rw [e]; exact hr
  · rintro y s hy ⟨v, rfl, hv'⟩
    refine ⟨_, ⟨v, rfl, hv'⟩, fun r => ?_⟩
    show ff_L_tones_c14 N ot x r o1 oh1 (P1 0) (P1 1) (P1 2) (P1 3) (P1 4) (P1 5) (P1 6) v (Int32.ofInt (y : Int)) = _
    unfold ff_L_tones_c14
    simp only [ww_r hS hx hy, if_false]
    rfl
  · rintro i y s hi hy ⟨v, rfl, hv'⟩
    have hc : ic S (i : Int) (y : Int) := ic_n hi hy
    refine ⟨_, ⟨ss_A v 0 (upd (os_A v 0) (16 * (y : Int) + i).toNat (Int32.ofInt (H1 i y))), rfl, fun a b c z => ?_⟩, fun k r => ?_⟩
    · show upd (os_A v 0) (16 * (y : Int) + i).toNat (Int32.ofInt (H1 i y)) (16 * b + a).toNat = _
      unfold upd
      by_cases e : (16 * b + a).toNat = (16 * (y : Int) + i).toNat
      · have := ic_inj hS hc c e
        rw [if_pos e, this.1, this.2]
      · rw [if_neg e]
        refine hv' a b c ?_
        by_cases e2 : b = y
        · refine Or.inr ⟨e2, ?_⟩
          have : a ≠ i := fun e3 => e (by rw [e2, e3])
          omega
        · omega
    · show ff_L_tones_c26 N ot x k r o1 oh1 (P1 0) (P1 1) (P1 2) (P1 3) (P1 4) (P1 5) (P1 6) v (Int32.ofInt (y : Int)) (Int32.ofInt (i : Int)) = _
      unfold ff_L_tones_c26
      simp only [ww_w hS hx hi, if_false]
      rw [cc_height hS j1.1 hc, Option.bind_some, if_pos rfl, if_pos (rp_in hS hc), rp_na hS hc, ii_1, ia_s]
  · rintro y s hy ⟨v, rfl, hv'⟩
    refine ⟨_, ⟨v, rfl, fun a b c z => hv' a b c (by unfold ic at c; omega)⟩, fun k r => ?_⟩
    show ff_L_tones_c26 N ot x k r o1 oh1 (P1 0) (P1 1) (P1 2) (P1 3) (P1 4) (P1 5) (P1 6) v (Int32.ofInt (y : Int)) (Int32.ofInt (S 0 : Int)) = _
    unfold ff_L_tones_c26
    simp only [ww_W hx, if_true]
    rw [ii_1, ia_s]
  · rintro s ⟨v, rfl, hv'⟩
    refine ⟨_, t68 v (fun a b c => hv' a b c (by unfold ic at c; omega)), fun r => ?_⟩
    show ff_L_tones_c14 N ot x r o1 oh1 (P1 0) (P1 1) (P1 2) (P1 3) (P1 4) (P1 5) (P1 6) v (Int32.ofInt (S 1 : Int)) = _
    unfold ff_L_tones_c14
    simp only [ww_R hx, if_true]
/-- behind smooth -/
theorem lt_252 (hN : 100000 < N) (hS : sv S) (hx : wh x S) (hd : 1 ≤ d ∧ d ≤ 20) (hj : jc o oh P S T (q_vf S H (q_fa S H d))) {b : Int32} : ff_L_law_b252 zz N x p t1 t2 q ot oh (P 0) (P 1) (P 2) (P 3) (P 4) (P 5) (P 6) ol o rk rt s0 s1 sc os tk ow (Int32.ofInt d) b b = some 1 := by
  have hs := sv_a hS
  obtain ⟨P1, oh1, o1, os1, e1, j1⟩ := cc_smooth (N := N) (ot := ot) (os := os) hN hS hj hd
  have ez := q_fa_df (H := H) hS (show 0 ≤ d by omega)
  rw [ez] at e1
  obtain ⟨ol1, ev⟩ := lv_all (N := N) (ot := ot) (ol := ol) (by omega) hS j1.1 j1.2.2.1 hx
  have ep := cc_print (N := N) (ot := ot) (by omega) hS j1.1 j1.2.2.1
  generalize q_vf S (q_vf S H (q_fa S H d)) (q_fa S (q_vf S H (q_fa S H d)) d) = H4 at *
  obtain ⟨P2, oh2, o2, e2, j2⟩ := cc_mirror (N := N) (ot := ot) hN hS j1
  obtain ⟨P3, oh3, o3, e3, j3⟩ := cc_mirror (N := N) (ot := ot) hN hS j2
  rw [q_mir_2, q_df_sy] at e3
  rw [q_mir_2, q_mir_2] at j3
  have ep3 := cc_print (N := N) (ot := ot) (by omega) hS j3.1 j3.2.2.1
  obtain ⟨r, e4⟩ := lt_tones (N := N) (ot := ot) hN hS j3 hx
  unfold ff_L_law_b252
  rw [if_pos rfl, e1, Option.bind_some, if_pos rfl, if_pos (show Int32.ofInt 0 = 0 from rfl)]
  simp only []
  rw [ev, Option.bind_some, if_neg (show ¬ ((1 : Int32) = 0) by decide), ep, Option.bind_some, e2, Option.bind_some]
  simp only []
  rw [e3, Option.bind_some, if_pos rfl]
  simp only []
  rw [ep3, Option.bind_some, if_pos rfl, e4, Option.bind_some]
/-- behind repair -/
theorem lt_141 (hN : 100000 < N) (hzz : zz 4 1 ≤ 2147483647) (hS : sv S) (hx : wh x S) (hj : jc o oh P S T H) {b : Int32} : ff_L_law_b141 zz N x p t1 t2 q ot oh (P 0) (P 1) (P 2) (P 3) (P 4) (P 5) (P 6) ol o rk rt s0 s1 sc os tk ow b b = some 1 := by
  have hs := sv_a hS
  obtain ⟨P1, oh1, o1, e1, j1⟩ := cc_ease (N := N) (ot := ot) hN hS hj
  have hex : ∀ a b, ic S a b → q_ex S (q_vf S H (q_eas S H)) a b = 0 := fun a b c => q_eas_ex c
  generalize q_vf S H (q_eas S H) = H1 at *
  have hH1 := j1.2.2.1
  have a1 := cc_supN (N := N) (ot := ot) (by omega) hS j1.1 hH1 hex
  have a2 := cc_supV (N := N) (ot := ot) (by omega) hS j1.1 hH1 hex
  obtain ⟨v, a3, v0, v1⟩ := cc_safe (N := N) (ot := ot) (by omega) hS j1.1 hH1 hex
  obtain ⟨P2, oh2, o2, e2, j2⟩ := cc_ease (N := N) (ot := ot) hN hS j1
  have ez := q_eas_2 (S := S) (G := H1) hex
  rw [ez] at e2
  generalize q_vf S H1 (q_eas S H1) = H2 at *
  have hH2 := j2.2.2.1
  obtain ⟨r, e3, r0, r1⟩ := lp_pick (N := N) (k := 500) (n := 6) hzz (by omega) (by omega) (by omega) (by omega)
  have hd : 1 ≤ 1 + r ∧ 1 + r ≤ 20 := by omega
  have ed : (1 : Int32) + Int32.ofInt r = Int32.ofInt (1 + r) := ia_add 1 r
  generalize 1 + r = d at hd ed
  have b1 := cc_volume (N := N) (ot := ot) (by omega) hS j2.1
  obtain ⟨P3, oh3, o3, os3, e4, j3⟩ := cc_smooth (N := N) (ot := ot) (os := os) hN hS j2 hd
  obtain ⟨w, b2, w0, w1⟩ := cc_steep (N := N) (ot := ot) (by omega) hS (show 0 ≤ d by omega) j3.2.2.1 j3.1
  have b3 := cc_volume (N := N) (ot := ot) (by omega) hS j3.1
  have s2 := q_sumb hS hH2
  have s3 := q_sumb hS j3.2.2.1
  have sup := q_sum_le (q_fa_up (S := S) (H := H2) (d := d))
  have svol := q_fa_vol (S := S) (H := H2) (d := d)
  have dfb := q_df_b (H := H2) (G := q_vf S H2 (q_fa S H2 d)) hS
  have fin := fun (b : Int32) => lt_252 (zz := zz) (N := N) (x := x) (p := p) (t1 := t1) (t2 := t2) (q := q) (ot := ot) (ol := ol) (rk := rk) (rt := rt) (s0 := s0) (s1 := s1) (sc := sc) (os := os3) (tk := tk) (ow := ow) (b := b) hN hS hx hd j3
  unfold ff_L_law_b141
  rw [if_pos rfl, e1, Option.bind_some]
  simp only []
  rw [a1, Option.bind_some, if_pos rfl, a2, Option.bind_some, if_pos rfl, a3, Option.bind_some, hx 6 (by decide), ii_lt (by omega) (by omega), if_neg (by omega), e2, Option.bind_some, if_pos (show Int32.ofInt 0 = 0 from rfl), show (500 : Int32) = Int32.ofInt 500 from rfl, ii_6, e3, Option.bind_some]
  simp only []
  rw [b1, Option.bind_some, ed, e4, Option.bind_some, if_pos rfl]
  simp only []
  rw [b2, Option.bind_some, ii_lt (by omega) (by omega), if_neg (by omega), b3, Option.bind_some, ii_lt (by omega) (by omega), if_neg (by omega)]
  simp only [i0_eq (show ib (q_df S H2 (q_vf S H2 (q_fa S H2 d))) by omega)]
  unfold ff_L_law_b239
  simp only [b3, Option.bind_some]
  by_cases z : q_df S H2 (q_vf S H2 (q_fa S H2 d)) = 0
  · rw [if_pos z, ii_eq (by omega) (by omega), if_pos (svol.mp z)]
    exact fin 1
  · rw [if_neg z, ii_eq (by omega) (by omega), if_neg (fun z2 => z (svol.mpr z2))]
    exact fin 0
theorem lt_39 (hN : 100000 < N) (hzz : zz 4 1 ≤ 2147483647) (hS : sv S) (hx : wh x S) (hj : jc o oh P S T H) (k39 : _ → Option Int32) : ff_L_law_c39 zz N k39 x p t1 t2 q ot oh (P 0) (P 1) (P 2) (P 3) (P 4) (P 5) (P 6) ol o rk rt s0 s1 sc os tk ow (5 : Int32) = some 1 := by
  have hs := sv_a hS
  have hH := hj.2.2.1
  obtain ⟨ol1, e0⟩ := lv_all (N := N) (ot := ot) (ol := ol) (by omega) hS hj.1 hH hx
  have e1 := cc_volume (N := N) (ot := ot) (by omega) hS hj.1
  obtain ⟨os1, ow1, e2⟩ := cc_loss (N := N) (ot := ot) (os := os) (ow := ow) hN hS hj.1 hH
  obtain ⟨P1, oh1, o1, ow2, e3, j1⟩ := cc_repair (N := N) (ot := ot) (ow := ow1) hN hS hj
  have e4 := cc_volume (N := N) (ot := ot) (by omega) hS j1.1
  obtain ⟨ow3, e5⟩ := cc_thin (N := N) (ot := ot) (ow := ow2) (by omega) hS j1.1 (j1.2.2.1.wv hS)
  rw [q_np_1 hS hH] at e5
  obtain ⟨P2, oh2, o2, ow4, e6, j2⟩ := cc_repair (N := N) (ot := ot) (ow := ow3) hN hS j1
  rw [q_np_2 hS hH] at e6 j2
  have nps := (q_nps hS hH).2.2
  have nsum := q_np_sum hS hH (q_np S H) (Nat.le_refl _)
  have s1' := q_sumb hS hH
  have s2' := q_sumb hS j1.2.2.1
  have fin := fun (b : Int32) => lt_141 (zz := zz) (N := N) (x := x) (p := p) (t1 := t1) (t2 := t2) (q := q) (ot := ot) (ol := ol1) (rk := rk) (rt := rt) (s0 := s0) (s1 := s1) (sc := sc) (os := os1) (tk := tk) (ow := ow4) (b := b) hN hzz hS hx j2
  unfold ff_L_law_c39
  rw [if_pos (Int32.le_refl _), e0, Option.bind_some, if_neg (show ¬ ((1 : Int32) = 0) by decide), e1, Option.bind_some, e2, Option.bind_some]
  simp only []
  rw [e3, Option.bind_some]
  simp only []
  rw [e4, Option.bind_some, ia_sub, if_pos (by congr 1; omega), e5, Option.bind_some, if_pos (show Int32.ofInt 0 = 0 from rfl)]
  simp only []
  rw [e6, Option.bind_some, if_pos (show Int32.ofInt ((0 : Nat) : Int) = 0 from rfl), ii_lt (by omega) (by omega), if_neg (by omega)]
  simp only [i0_eq (show ib ((q_np S H : Nat) : Int) by omega)]
  unfold ff_L_law_b131
  simp only [i0_eq (show ib (q_sum S H - q_sum S (q_hs S H (q_np S H))) by omega)]
  by_cases z : ((q_np S H : Nat) : Int) = 0
  · have z2 : q_sum S H - q_sum S (q_hs S H (q_np S H)) = 0 := by
      have : q_np S H = 0 := by omega
      rw [this]
      show q_sum S H - q_sum S H = 0
      omega
    rw [if_pos z, if_pos z2]
    exact fin 1
  · rw [if_neg z, if_neg (by omega)]
    exact fin 0
/-- five changes, then all that the law asks -/
theorem lt_l39 (hN : 100000 < N) (hzz : zz 4 1 ≤ 2147483647) (hS : sv S) (hz : wz S) (hx : wh x S) (hj : jc o oh P S T H) (hq : wm q S T) (hp : wm p S H) : ff_L_law_l39 zz N 7 (x, p, t1, t2, q, ot, oh, P 0, P 1, P 2, P 3, P 4, P 5, P 6, ol, o, rk, rt, s0, s1, sc, os, tk, ow, (0 : Int32)) = some 1 := by
  have key : ∃ v, v = some 1 ∧ ff_L_law_l39 zz N 7 (x, p, t1, t2, q, ot, oh, P 0, P 1, P 2, P 3, P 4, P 5, P 6, ol, o, rk, rt, s0, s1, sc, os, tk, ow, Int32.ofInt ((0 : Nat) : Int)) = v := by
    unfold ff_L_law_l39
    refine lo_cnt (fun (k : Nat) s => ∃ (p' q' o' oh' os' ow' : os_T) (P' : Nat → os_T) (T' H' : Int → Int → Int), s = (x, p', t1, t2, q', ot, oh', P' 0, P' 1, P' 2, P' 3, P' 4, P' 5, P' 6, ol, o', rk, rt, s0, s1, sc, os', tk, ow', Int32.ofInt (k : Int)) ∧ jc o' oh' P' S T' H' ∧ wm q' S T' ∧ wm p' S H') (fun v => v = some 1) 5 ?_ ?_ (by omega) ⟨p, q, o, oh, os, ow, P, T, H, rfl, hj, hq, hp⟩
    · rintro k s hk ⟨p', q', o', oh', os', ow', P', T', H', rfl, hj', hq', hp'⟩
      obtain ⟨P2, o2, os2, oh2, ow2, q2, p2, T2, H2, e, hj2, hq2, hp2⟩ := la_acts (N := N) (ot := ot) (os := os') (ow := ow') (i := (k : Int)) hN hzz hS hz hj' hx hq' hp' (by omega)
      refine ⟨_, ⟨p2, q2, o2, oh2, os2, ow2, P2, T2, H2, rfl, hj2, hq2, hp2⟩, fun r => ?_⟩
      show ff_L_law_c39 zz N r x p' t1 t2 q' ot oh' (P' 0) (P' 1) (P' 2) (P' 3) (P' 4) (P' 5) (P' 6) ol o' rk rt s0 s1 sc os' tk ow' (Int32.ofInt (k : Int)) = _
      unfold ff_L_law_c39
      rw [ii_5, ii_le (by omega) (by omega), if_neg (by omega), e, Option.bind_some, if_neg (show ¬ ((1 : Int32) = 0) by decide), ii_1, ia_s]
    · rintro s ⟨p', q', o', oh', os', ow', P', T', H', rfl, hj', hq', hp'⟩
      exact ⟨_, rfl, fun r => lt_39 hN hzz hS hx hj' r⟩
  obtain ⟨v, rfl, e⟩ := key
  exact e
end Tail
