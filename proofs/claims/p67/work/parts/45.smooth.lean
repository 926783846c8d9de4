/-! LAYER 2. Smoothing: the class's two rounds, the reference's search -/
section Smooth
variable {N : Nat} {o p : os_T} {S : Nat → Nat} {T H G F : Int → Int → Int} {d : Int}
theorem q_fi.mono {B : Int → Int → Int} {e : Int} {P Q : Int → Int → Prop} (h : q_fi S H B G d e P) (hq : ∀ a b, ic S a b → Q a b → P a b) : q_fi S H B G d e Q := ⟨h.1, h.2.1, fun a b c q => h.2.2 a b c (hq a b c q)⟩
def q_p1 (y x : Nat) : Int → Int → Prop := fun a b => b < y ∨ (b = y ∧ a < x)
def q_p2 (S : Nat → Nat) (j i : Nat) : Int → Int → Prop := fun a b => (S 1 : Int) - 1 - j < b ∨ (b = (S 1 : Int) - 1 - j ∧ (S 0 : Int) - 1 - i < a)
theorem q_df_sy {A : Int → Int → Int} : q_df S A H = q_df S H A := by
  refine gr_congr fun x y hx hy a => ?_
  show a + (bif decide (A x y ≠ H x y) then 1 else 0) = a + (bif decide (H x y ≠ A x y) then 1 else 0)
  by_cases c : A x y = H x y
  · rw [decide_eq_false (fun z => z c), decide_eq_false (fun z => z c.symm)]
  · rw [decide_eq_true c, decide_eq_true (show H x y ≠ A x y from fun z => c z.symm)]
theorem pc_flat2 (hN : 1000 < N) (hS : sv S) {A : Int → Int → Int} (h : cp o S T A) (hp : cp p S T H) (hH : hv S H) (hd : 1 ≤ d ∧ d ≤ 20) (hA : q_fi S H H A d (-1) (fun _ _ => True)) : ∃ o', ff_X11_flatten_l72 N N (o, p, Int32.ofInt d, Int32.ofInt ((S 1 : Int) - 1)) = some (Int32.ofInt (q_df S H (q_vf S H (q_fa S H d))), o', p) ∧ cp o' S T (q_vf S H (q_fa S H d)) := by
  have hs := sv_a hS
  have hA0 := q_fi_hv hS hH hH (by omega) hA
  have key : ∃ v, (∃ o', v = some (Int32.ofInt (q_df S H (q_vf S H (q_fa S H d))), o', p) ∧ cp o' S T (q_vf S H (q_fa S H d))) ∧ ff_X11_flatten_l72 N N (o, p, Int32.ofInt d, Int32.ofInt ((S 1 : Int) - 1 - ((0 : Nat) : Int))) = v := by
    unfold ff_X11_flatten_l72
    refine lo_gridI (N := N) (step2 := fun k2 r2 s1 => ff_X11_flatten_c84 N k2 r2 s1.1 s1.2.1 s1.2.2.1 s1.2.2.2.1 s1.2.2.2.2) (fun j s => ∃ o' G, s = (o', p, Int32.ofInt d, Int32.ofInt ((S 1 : Int) - 1 - (j : Int))) ∧ cp o' S T G ∧ q_fi S H A G d 1 (q_p2 S j 0)) (fun j i s => ∃ o' G, s = (o', p, Int32.ofInt d, Int32.ofInt ((S 1 : Int) - 1 - (j : Int)), Int32.ofInt ((S 0 : Int) - 1 - (i : Int))) ∧ cp o' S T G ∧ q_fi S H A G d 1 (q_p2 S j i)) (fun v => ∃ o', v = some (Int32.ofInt (q_df S H (q_vf S H (q_fa S H d))), o', p) ∧ cp o' S T (q_vf S H (q_fa S H d))) (S 0) (S 1) ?_ ?_ ?_ ?_ (by omega) (by omega) ⟨o, A, rfl, h, ⟨fun x y c => ⟨Int.le_refl _, (hA.1 x y c).2⟩, fun _ _ _ => rfl, fun x y c q => by unfold q_p2 at q; unfold ic at c; omega⟩⟩
    · rintro j s hj ⟨o', G, rfl, h', hi⟩
      refine ⟨_, ⟨o', G, rfl, h', hi⟩, fun r => ?_⟩
      show ff_X11_flatten_c72 N r o' p (Int32.ofInt d) (Int32.ofInt ((S 1 : Int) - 1 - (j : Int))) = _
      unfold ff_X11_flatten_c72
      simp only [i0_lt (show ib ((S 1 : Int) - 1 - (j : Int)) by omega)]
      rw [if_neg (by omega), h'.1 0 (by decide), ii_1, ia_sub]
      show _ = os_loop _ N (_, _, _, _, Int32.ofInt ((S 0 : Int) - 1 - 0))
      rw [Int.sub_zero]
      rfl
    · rintro i j s hi hj ⟨o', G, rfl, h', hG⟩
      have hc : ic S ((S 0 : Int) - 1 - (i : Int)) ((S 1 : Int) - 1 - (j : Int)) := by unfold ic; omega
      have hGh := q_fi_hv hS hH hA0 (by omega) hG
      obtain ⟨o1, o2, e1, e2, h2⟩ := pc_raise2 (N := N) (d := d) (e := 1) hS h' (hGh.wv hS) hc (Or.inl rfl) (by omega)
      have hn := q_fi_s (Q := q_p2 S j (i + 1)) hS (by omega) (Or.inl rfl) hG hc (fun a b c q => by unfold q_p2 at q ⊢; omega) (fun a b q => by unfold q_p2 at q; omega) (by unfold q_p2; omega)
      refine ⟨_, ⟨o2, _, rfl, h2, hn⟩, fun k r => ?_⟩
      show ff_X11_flatten_c84 N k r o' p (Int32.ofInt d) (Int32.ofInt ((S 1 : Int) - 1 - (j : Int))) (Int32.ofInt ((S 0 : Int) - 1 - (i : Int))) = _
      unfold ff_X11_flatten_c84
      simp only [i0_lt (show ib ((S 0 : Int) - 1 - (i : Int)) by omega)]
      rw [if_neg (by omega), ii_m1, ii_1, ia_add, e1, Option.bind_some, ia_add, e2, Option.bind_some, ia_add, show (S 0 : Int) - 1 - (i : Int) + -1 = (S 0 : Int) - 1 - ((i + 1 : Nat) : Int) by omega]
    · rintro j s hj ⟨o', G, rfl, h', hG⟩
      refine ⟨_, ⟨o', G, rfl, h', hG.mono fun a b c q => by unfold q_p2 at q ⊢; unfold ic at c; omega⟩, fun k r => ?_⟩
      show ff_X11_flatten_c84 N k r o' p (Int32.ofInt d) (Int32.ofInt ((S 1 : Int) - 1 - (j : Int))) (Int32.ofInt ((S 0 : Int) - 1 - (S 0 : Int))) = _
      unfold ff_X11_flatten_c84
      simp only [i0_lt (show ib ((S 0 : Int) - 1 - (S 0 : Int)) by omega)]
      rw [if_pos (by omega), ii_m1, ia_add, show (S 1 : Int) - 1 - (j : Int) + -1 = (S 1 : Int) - 1 - ((j + 1 : Nat) : Int) by omega]
    · rintro s ⟨o', G, rfl, h', hG⟩
      have hG' := hG.mono (Q := fun _ _ => True) fun a b c _ => by unfold q_p2; unfold ic at c; omega
      have hGh := q_fi_hv hS hH hA0 (by omega) hG'
      have hf : ∀ x y, ic S x y → G x y = q_vf S H (q_fa S H d) x y := fun x y c => by rw [q_vf_in c]; exact q_fi_f hS (by omega) hA hG' c
      refine ⟨_, ⟨o', rfl, h'.cg (fun _ _ _ => rfl) hf⟩, fun r => ?_⟩
      show ff_X11_flatten_c72 N r o' p (Int32.ofInt d) (Int32.ofInt ((S 1 : Int) - 1 - (S 1 : Int))) = _
      unfold ff_X11_flatten_c72
      simp only [i0_lt (show ib ((S 1 : Int) - 1 - (S 1 : Int)) by omega)]
      rw [if_pos (by omega), pc_diff hN hS h' (hGh.wv hS) hp (hH.wv hS), Option.bind_some, q_df_sy, q_df_cg hS hf]
  obtain ⟨v, ⟨o', rfl, hm⟩, e⟩ := key
  rw [show (S 1 : Int) - 1 - ((0 : Nat) : Int) = (S 1 : Int) - 1 from Int.sub_zero _] at e
  exact ⟨o', e, hm⟩
theorem pc_flatten (hN : 1000 < N) (hS : sv S) (h : cp o S T H) (hH : hv S H) (hd : 1 ≤ d ∧ d ≤ 20) : ∃ o' p', ff_X11_flatten N o p (Int32.ofInt d) = some (Int32.ofInt (q_df S H (q_vf S H (q_fa S H d))), o', p') ∧ cp o' S T (q_vf S H (q_fa S H d)) := by
  have hs := sv_a hS
  obtain ⟨p1, ep, hp⟩ := pc_copy (N := N) (p := p) hS h
  unfold ff_X11_flatten
  rw [ep, Option.bind_some]
  have key : ∃ v, (∃ o', v = some (Int32.ofInt (q_df S H (q_vf S H (q_fa S H d))), o', p1) ∧ cp o' S T (q_vf S H (q_fa S H d))) ∧ ff_X11_flatten_l7 N N (o, p1, Int32.ofInt d, Int32.ofInt ((0 : Nat) : Int)) = v := by
    unfold ff_X11_flatten_l7
    refine lo_gridI (N := N) (step2 := fun k2 r2 s1 => ff_X11_flatten_c18 N k2 r2 s1.1 s1.2.1 s1.2.2.1 s1.2.2.2.1 s1.2.2.2.2) (fun j s => ∃ o' G, s = (o', p1, Int32.ofInt d, Int32.ofInt (j : Int)) ∧ cp o' S T G ∧ q_fi S H H G d (-1) (q_p1 j 0)) (fun j i s => ∃ o' G, s = (o', p1, Int32.ofInt d, Int32.ofInt (j : Int), Int32.ofInt (i : Int)) ∧ cp o' S T G ∧ q_fi S H H G d (-1) (q_p1 j i)) (fun v => ∃ o', v = some (Int32.ofInt (q_df S H (q_vf S H (q_fa S H d))), o', p1) ∧ cp o' S T (q_vf S H (q_fa S H d))) (S 0) (S 1) ?_ ?_ ?_ ?_ (by omega) (by omega) ⟨o, H, rfl, h, ⟨fun x y c => ⟨Int.le_refl _, q_fa_h x y⟩, fun _ _ _ => rfl, fun x y c q => by unfold q_p1 at q; unfold ic at c; omega⟩⟩
    · rintro j s hj ⟨o', G, rfl, h', hi⟩
      refine ⟨_, ⟨o', G, rfl, h', hi⟩, fun r => ?_⟩
      show ff_X11_flatten_c7 N r o' p1 (Int32.ofInt d) (Int32.ofInt (j : Int)) = _
      unfold ff_X11_flatten_c7
      rw [if_neg (pc_rN hS h' hj)]
      rfl
    · rintro i j s hi hj ⟨o', G, rfl, h', hG⟩
      have hc : ic S (i : Int) (j : Int) := ic_n hi hj
      have hGh := q_fi_hv hS hH hH (by omega) hG
      obtain ⟨o1, o2, e1, e2, h2⟩ := pc_raise2 (N := N) (d := d) (e := -1) hS h' (hGh.wv hS) hc (Or.inr rfl) (by omega)
      have hn := q_fi_s (Q := q_p1 j (i + 1)) hS (by omega) (Or.inr rfl) hG hc (fun a b c q => by unfold q_p1 at q ⊢; omega) (fun a b q => by unfold q_p1 at q; omega) (by unfold q_p1; omega)
      refine ⟨_, ⟨o2, _, rfl, h2, hn⟩, fun k r => ?_⟩
      show ff_X11_flatten_c18 N k r o' p1 (Int32.ofInt d) (Int32.ofInt (j : Int)) (Int32.ofInt (i : Int)) = _
      unfold ff_X11_flatten_c18
      rw [if_neg (pc_wN hS h' hi), ii_1, ia_sub, Int.sub_eq_add_neg, e1, Option.bind_some, ia_sub, Int.sub_eq_add_neg, e2, Option.bind_some, ia_s]
    · rintro j s hj ⟨o', G, rfl, h', hG⟩
      refine ⟨_, ⟨o', G, rfl, h', hG.mono fun a b c q => by unfold q_p1 at q ⊢; unfold ic at c; omega⟩, fun k r => ?_⟩
      show ff_X11_flatten_c18 N k r o' p1 (Int32.ofInt d) (Int32.ofInt (j : Int)) (Int32.ofInt (S 0 : Int)) = _
      unfold ff_X11_flatten_c18
      rw [if_pos (pc_wE h'), ii_1, ia_s]
    · rintro s ⟨o', G, rfl, h', hG⟩
      have hG' := hG.mono (Q := fun _ _ => True) fun a b c _ => by unfold q_p1; unfold ic at c; omega
      obtain ⟨o2, e2, h2⟩ := pc_flat2 (N := N) hN hS h' hp hH hd hG'
      refine ⟨_, ⟨o2, rfl, h2⟩, fun r => ?_⟩
      show ff_X11_flatten_c7 N r o' p1 (Int32.ofInt d) (Int32.ofInt (S 1 : Int)) = _
      unfold ff_X11_flatten_c7
      rw [if_pos (pc_rE h'), h'.1 1 (by decide), ii_1, ia_sub]
      exact e2
  obtain ⟨v, ⟨o', rfl, hm⟩, e⟩ := key
  exact ⟨o', p1, e, hm⟩
/-! the reference -/
theorem q_ft_b (hS : sv S) (hH : hv S H) (hd : 1 ≤ d ∧ d ≤ 20) {x y i j : Int} (c : ic S x y) (ci : ic S i j) : 0 ≤ q_av (i - x) ∧ q_av (i - x) ≤ 16 ∧ 0 ≤ q_av (j - y) ∧ q_av (j - y) ≤ 12 ∧ 0 ≤ d * (q_av (i - x) + q_av (j - y)) ∧ d * (q_av (i - x) + q_av (j - y)) ≤ 560 ∧ -560 ≤ q_ft H d x y i j ∧ q_ft H d x y i j ≤ 20 := by
  have hs := sv_a hS
  have h0 := hH i j ci
  have a1 := q_av_b (z := i - x)
  have a2 := q_av_b (z := j - y)
  unfold ic at c ci
  have b1 : q_av (i - x) ≤ 16 := by omega
  have b2 : q_av (j - y) ≤ 12 := by omega
  have m1 : 0 ≤ d * (q_av (i - x) + q_av (j - y)) := Int.mul_nonneg (by omega) (by omega)
  have m2 : d * (q_av (i - x) + q_av (j - y)) ≤ 20 * 28 := Int.mul_le_mul (by omega) (by omega) (by omega) (by omega)
  unfold q_ft
  omega
end Smooth
