/-! LAYER 2. The world at the start -/
section Begin
variable {N : Nat}
def q_un : Int → Int → Int := fun _ _ => 255
theorem q_un_tv : tv s_0 q_un := fun x y _ => by unfold q_un; omega
theorem ww_o : ∃ o1 oP : os_T, ff_X5_clear 200000 os_zero = some o1 ∧ ff_X5_develop 200000 o1 = some oP ∧ cp oP s_0 q_un (q_rd s_0 q_un) := by
  obtain ⟨o1, e1, h1, h2⟩ := pc_clear (N := 200000) (d := os_zero)
  obtain ⟨oP, e2, h3⟩ := pc_develop (N := 200000) (d := o1) (S := s_0) (T := q_un) (by decide) s_0v h1 h2 q_un_tv
  exact ⟨o1, oP, e1, e2, h3⟩
theorem os_X13_rk : rk (os_A os_X13 12) (fun _ => -1) := by
  intro i hi
  have hk : i = 0 ∨ i = 1 ∨ i = 2 ∨ i = 3 ∨ i = 4 ∨ i = 5 ∨ i = 6 ∨ i = 7 ∨ i = 8 ∨ i = 9 ∨ i = 10 ∨ i = 11 := by omega
  rcases hk with rfl | rfl | rfl | rfl | rfl | rfl | rfl | rfl | rfl | rfl | rfl | rfl <;> rfl
theorem os_w_rk : rk (os_A (ss_A os_zero 0 (os_fill 12 (-1) (fun _ => 0))) 0) (fun _ => -1) := by
  intro i hi
  show os_fill 12 (-1) (fun _ => 0) i = _
  unfold os_fill
  rw [if_pos hi]
  rfl
theorem ww_m : ∃ m1 mP : os_T, ff_X13_begins 200000 os_X13 = some m1 ∧ ff_X13_lays 200000 m1 = some mP ∧ rp mP s_0 q_un (q_rd s_0 q_un) ∧ os_I mP 29 = 0 ∧ sy (fun i => (18 ≤ i ∧ i ≤ 23) ∨ i = 29) (fun j => j = 1 ∨ j = 2 ∨ j = 3 ∨ j = 4 ∨ j = 5) os_X13 mP := by
  obtain ⟨m1, e1, h1, h2, -, h3⟩ := rc_begins (N := 200000) (m := os_X13) (by decide)
  obtain ⟨mP, e2, h4, h5, h6⟩ := rc_lays (N := 200000) (m := m1) (S := s_0) (T := q_un) (by decide) s_0v h1 h2 q_un_tv
  refine ⟨m1, mP, e1, e2, h4, h5, ⟨fun i hi => ?_, fun i => ?_, fun j hj => ?_⟩⟩
  · rw [h6.1 i (fun c => hi (Or.inr c)), h3.1 i (fun c => hi (Or.inl c))]
  · rw [h6.2.1 i, h3.2.1 i]
  · rw [h6.2.2 j (fun c => hj (by omega)), h3.2.2 j (fun c => hj (by omega))]
theorem ww_start {oP mP : os_T} (h1 : cp oP s_0 q_un (q_rd s_0 q_un)) (h2 : rp mP s_0 q_un (q_rd s_0 q_un)) (h3 : os_I mP 29 = 0) (h4 : sy (fun i => (18 ≤ i ∧ i ≤ 23) ∨ i = 29) (fun j => j = 1 ∨ j = 2 ∨ j = 3 ∨ j = 4 ∨ j = 5) os_X13 mP) : wj (ss_I os_zero 14 (-1)) oP oP oP os_zero (fun _ => oP) (ss_A os_zero 0 (os_fill 12 (-1) (fun _ => 0))) os_zero mP := by
  refine ⟨s_0, q_un, q_rd s_0 q_un, 0, fun _ => (q_un, q_un), s_0v, ⟨h1, ⟨by decide, fun i hi => by omega, 0, by decide, rfl, rfl, fun i hi => by omega⟩, h2, ⟨by decide, h3, fun i hi => by omega⟩, q_un_tv, q_vf_hv (q_fol_hv s_0v q_un_tv), fun a b b1 b2 b3 b4 c => ⟨rfl, q_vf_out c⟩, fun i hi => by omega⟩, fun _ => -1, 0, fun _ => 0, ⟨os_w_rk, ?_, fun i hi => Or.inl rfl⟩, Or.inl ⟨rfl, ?_⟩, Or.inl ⟨rfl, ?_⟩, ⟨[], by decide, ⟨rfl, fun j h => absurd h (by simp)⟩, Or.inl ⟨?_, rfl⟩⟩, ⟨by decide, rfl, ?_, fun i hi => by omega⟩, ?_, ?_⟩
  · rw [h4.2.2 12 (by omega)]; exact os_X13_rk
  · rw [h4.2.2 22 (by omega)]; rfl
  · rw [h4.2.2 22 (by omega)]; rfl
  · rw [h4.1 44 (by omega)]; rfl
  · rw [h4.1 2 (by omega)]; rfl
  · rw [h4.1 10 (by omega)]; rfl
  · rw [h4.1 11 (by omega)]; rfl
theorem ww_all : ∃ o1 oP m1 mP : os_T, ff_X5_clear 200000 os_zero = some o1 ∧ ff_X5_develop 200000 o1 = some oP ∧ ff_X13_begins 200000 os_X13 = some m1 ∧ ff_X13_lays 200000 m1 = some mP ∧
    ∀ (L : Nat) (xs : Nat → Int32) (sp wa la y s out outD : os_T), L ≤ 100000 → ff_L_law_l28 200000 xs L (L / 6 + 1) (ss_I os_zero 14 (-1), oP, sp, oP, oP, os_zero, oP, oP, oP, oP, oP, oP, oP, wa, la, ss_A os_zero 0 (os_fill 12 (-1) (fun _ => 0)), os_zero, y, s, mP, out, outD, (0 : Int32)) = some () := by
  obtain ⟨o1, oP, e1, e2, h1⟩ := ww_o
  obtain ⟨m1, mP, e3, e4, h2, h3, h4⟩ := ww_m
  exact ⟨o1, oP, m1, mP, e1, e2, e3, e4, fun L xs sp wa la y s out outD hL => ll_some (by decide) hL (L / 6) 0 _ _ sp _ _ _ (fun _ => oP) wa la _ _ y s _ out outD (ww_start h1 h2 h3 h4) (by omega) (by omega)⟩
end Begin
