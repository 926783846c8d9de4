/-! LAYER 2. Filling a rectangle, mirroring -/
section Fill
variable {N : Nat} {o : os_T} {S : Nat → Nat} {T H : Int → Int → Int}
def q_rb (H : Int → Int → Int) (x y : Int) (w : Nat) (v : Int) (r c : Nat) : Int → Int → Int := fun a b => if x ≤ a ∧ a < x + w ∧ y ≤ b ∧ (b < y + r ∨ (b = y + r ∧ a < x + c)) then v else H a b
theorem q_rb_0 {x y v : Int} {w : Nat} : q_rb H x y w v 0 0 = H := by
  funext a b; exact if_neg (fun z => by omega)
theorem q_rb_s {x y v : Int} {w r c : Nat} (hc : c < w) : hu (q_rb H x y w v r c) (x + c) (y + r) v = q_rb H x y w v r (c + 1) := by
  funext a b
  unfold hu q_rb
  by_cases e : a = x + c ∧ b = y + r
  · rw [if_pos e, if_pos (by omega)]
  · rw [if_neg e]
    by_cases d : x ≤ a ∧ a < x + w ∧ y ≤ b ∧ (b < y + r ∨ (b = y + r ∧ a < x + c))
    · rw [if_pos d, if_pos (by omega)]
    · rw [if_neg d, if_neg (by omega)]
theorem q_rb_r {x y v : Int} {w r : Nat} : q_rb H x y w v r w = q_rb H x y w v (r + 1) 0 := by
  funext a b
  unfold q_rb
  by_cases d : x ≤ a ∧ a < x + w ∧ y ≤ b ∧ (b < y + r ∨ (b = y + r ∧ a < x + w))
  · rw [if_pos d, if_pos (by omega)]
  · rw [if_neg d, if_neg (by omega)]
theorem q_rb_at {x y v : Int} {w r c : Nat} : q_rb H x y w v r c (x + c) (y + r) = H (x + c) (y + r) := if_neg (fun z => by omega)
theorem q_rb_hv {x y v : Int} {w r c : Nat} (hH : hv S H) (h : (S 4 : Int) ≤ v ∧ v ≤ S 2) : hv S (q_rb H x y w v r c) := fun a b d => by
  unfold q_rb
  split
  · exact h
  · exact hH a b d
theorem pc_cover (hN : 1000 < N) (hS : sv S) (h : cp o S T H) (hH : hv S H) {x y v : Int} {w r : Nat} (hx : 0 ≤ x ∧ x + w ≤ S 0) (hy : 0 ≤ y ∧ y + r ≤ S 1) (hv : (S 4 : Int) ≤ v ∧ v ≤ S 2) : ∃ o', ff_X5_cover N o (Int32.ofInt x) (Int32.ofInt y) (Int32.ofInt (w : Int)) (Int32.ofInt (r : Int)) (Int32.ofInt v) = some (Int32.ofInt (q_df S H (q_rb H x y w v r 0)), o') ∧ cp o' S T (q_rb H x y w v r 0) := by
  have hs := sv_a hS
  unfold ff_X5_cover ff_X5_cover_l6
  have key : ∃ u, (∃ o', u = some (Int32.ofInt (q_df S H (q_rb H x y w v r 0)), o') ∧ cp o' S T (q_rb H x y w v r 0)) ∧ os_loop (fun k6 s1 => ff_X5_cover_c6 N k6 s1.1 s1.2.1 s1.2.2.1 s1.2.2.2.1 s1.2.2.2.2.1 s1.2.2.2.2.2.1 s1.2.2.2.2.2.2.1 s1.2.2.2.2.2.2.2) N (o, Int32.ofInt x, Int32.ofInt y, Int32.ofInt (w : Int), Int32.ofInt (r : Int), Int32.ofInt v, Int32.ofInt 0, Int32.ofInt ((0 : Nat) : Int)) = u := by
    refine lo_gridI (N := N) (step2 := fun k2 r2 s1 => ff_X5_cover_c16 N k2 r2 s1.1 s1.2.1 s1.2.2.1 s1.2.2.2.1 s1.2.2.2.2.1 s1.2.2.2.2.2.1 s1.2.2.2.2.2.2.1 s1.2.2.2.2.2.2.2.1 s1.2.2.2.2.2.2.2.2) (fun j s => ∃ o', s = (o', Int32.ofInt x, Int32.ofInt y, Int32.ofInt (w : Int), Int32.ofInt (r : Int), Int32.ofInt v, Int32.ofInt (q_df S H (q_rb H x y w v j 0)), Int32.ofInt (j : Int)) ∧ cp o' S T (q_rb H x y w v j 0)) (fun j i s => ∃ o', s = (o', Int32.ofInt x, Int32.ofInt y, Int32.ofInt (w : Int), Int32.ofInt (r : Int), Int32.ofInt v, Int32.ofInt (q_df S H (q_rb H x y w v j i)), Int32.ofInt (j : Int), Int32.ofInt (i : Int)) ∧ cp o' S T (q_rb H x y w v j i)) (fun u => ∃ o', u = some (Int32.ofInt (q_df S H (q_rb H x y w v r 0)), o') ∧ cp o' S T (q_rb H x y w v r 0)) w r ?_ ?_ ?_ ?_ (by omega) (by omega) ⟨o, by rw [q_rb_0, q_df_self], by rw [q_rb_0]; exact h⟩
    · rintro j s hj ⟨o', rfl, h'⟩
      refine ⟨_, ⟨o', rfl, h'⟩, fun k => ?_⟩
      show ff_X5_cover_c6 N k o' (Int32.ofInt x) (Int32.ofInt y) (Int32.ofInt (w : Int)) (Int32.ofInt (r : Int)) (Int32.ofInt v) _ (Int32.ofInt (j : Int)) = _
      unfold ff_X5_cover_c6
      rw [ii_le (by omega) (by omega), if_neg (by omega)]
      rfl
    · rintro i j s hi hj ⟨o', rfl, h'⟩
      have hc : ic S (x + i) (y + j) := by unfold ic; omega
      obtain ⟨o2, e2, h2⟩ := pc_build (N := N) (v := v) hS h' ((q_rb_hv hH hv).wv hS) hc (by omega)
      rw [q_rb_s hi] at h2
      rw [q_rb_at] at e2
      refine ⟨_, ⟨o2, rfl, h2⟩, fun k k' => ?_⟩
      show ff_X5_cover_c16 N k k' o' (Int32.ofInt x) (Int32.ofInt y) (Int32.ofInt (w : Int)) (Int32.ofInt (r : Int)) (Int32.ofInt v) _ (Int32.ofInt (j : Int)) (Int32.ofInt (i : Int)) = _
      unfold ff_X5_cover_c16
      rw [ii_le (by omega) (by omega), if_neg (by omega), ia_add, ia_add, e2, Option.bind_some]
      show k' (_, _, _, _, _, _, Int32.ofInt (q_df S H (q_rb H x y w v j i)) + Int32.ofInt (if H (x + i) (y + j) = v then 0 else 1), _, _) = _
      rw [ia_add, ← q_df_hu hc q_rb_at, q_rb_s hi, ii_1, ia_s]
    · rintro j s hj ⟨o', rfl, h'⟩
      refine ⟨_, ⟨o', rfl, by rw [← q_rb_r]; exact h'⟩, fun k k' => ?_⟩
      show ff_X5_cover_c16 N k k' o' (Int32.ofInt x) (Int32.ofInt y) (Int32.ofInt (w : Int)) (Int32.ofInt (r : Int)) (Int32.ofInt v) _ (Int32.ofInt (j : Int)) (Int32.ofInt (w : Int)) = _
      unfold ff_X5_cover_c16
      rw [if_pos (Int32.le_refl _), ii_1, ia_s, q_rb_r]
    · rintro s ⟨o', rfl, h'⟩
      refine ⟨_, ⟨o', rfl, h'⟩, fun k => ?_⟩
      show ff_X5_cover_c6 N k o' (Int32.ofInt x) (Int32.ofInt y) (Int32.ofInt (w : Int)) (Int32.ofInt (r : Int)) (Int32.ofInt v) _ (Int32.ofInt (r : Int)) = _
      unfold ff_X5_cover_c6
      rw [if_pos (Int32.le_refl _)]
  obtain ⟨u, ⟨o', rfl, hm⟩, e⟩ := key
  exact ⟨o', e, hm⟩
/-! mirroring -/
def q_mr (S : Nat → Nat) (H : Int → Int → Int) (y x : Nat) : Int → Int → Int := fun a b => if ic S a b ∧ (b < y ∨ (b = y ∧ (a < x ∨ (S 0 : Int) - 1 - a < x))) then H ((S 0 : Int) - 1 - a) b else H a b
def q_mir (S : Nat → Nat) (H : Int → Int → Int) : Int → Int → Int := fun a b => if ic S a b then H ((S 0 : Int) - 1 - a) b else H a b
theorem q_mr_0 : q_mr S H 0 0 = H := by
  funext a b; exact if_neg (fun z => by have := z.1; unfold ic at this; omega)
theorem q_mr_f : q_mr S H (S 1) 0 = q_mir S H := by
  funext a b
  unfold q_mr q_mir
  by_cases d : ic S a b
  · rw [if_pos d, if_pos ⟨d, by unfold ic at d; omega⟩]
  · rw [if_neg d, if_neg (fun z => d z.1)]
theorem q_mr_r {y : Nat} : q_mr S H y (S 0 / 2) = q_mr S H (y + 1) 0 := by
  funext a b
  unfold q_mr
  by_cases d : ic S a b ∧ (b < y ∨ (b = y ∧ (a < (S 0 / 2 : Nat) ∨ (S 0 : Int) - 1 - a < (S 0 / 2 : Nat))))
  · rw [if_pos d, if_pos ⟨d.1, by omega⟩]
  · rw [if_neg d]
    by_cases e : ic S a b ∧ (b < (y + 1 : Nat) ∨ (b = (y + 1 : Nat) ∧ (a < (0 : Nat) ∨ (S 0 : Int) - 1 - a < (0 : Nat))))
    · rw [if_pos e]
      have e1 := e.1
      have : a = (S 0 : Int) - 1 - a := by
        refine Classical.byContradiction fun z => d ⟨e1, ?_⟩
        unfold ic at e1
        omega
      rw [← this]
    · rw [if_neg e]
theorem q_mr_r2 {y : Nat} : q_mr S H y ((S 0 + 1) / 2) = q_mr S H (y + 1) 0 := by
  funext a b
  unfold q_mr
  by_cases d : ic S a b ∧ (b < y ∨ (b = y ∧ (a < ((S 0 + 1) / 2 : Nat) ∨ (S 0 : Int) - 1 - a < ((S 0 + 1) / 2 : Nat))))
  · rw [if_pos d, if_pos ⟨d.1, by omega⟩]
  · rw [if_neg d, if_neg (fun z => d ⟨z.1, by have := z.1; unfold ic at this; omega⟩)]
theorem q_mr_s {x y : Nat} (hx : 2 * x < S 0) (hy : y < S 1) : hu (hu (q_mr S H y x) x y (H ((S 0 : Int) - 1 - x) y)) ((S 0 : Int) - 1 - x) y (H x y) = q_mr S H y (x + 1) := by
  funext a b
  unfold hu q_mr
  by_cases e : a = (S 0 : Int) - 1 - x ∧ b = y
  · rw [if_pos e, if_pos ⟨by unfold ic; omega, by omega⟩, e.1, e.2]; congr 1; omega
  · rw [if_neg e]
    by_cases e2 : a = x ∧ b = y
    · rw [if_pos e2, if_pos ⟨by unfold ic; omega, by omega⟩, e2.1, e2.2]
    · rw [if_neg e2]
      by_cases d : ic S a b ∧ (b < y ∨ (b = y ∧ (a < x ∨ (S 0 : Int) - 1 - a < x)))
      · rw [if_pos d, if_pos ⟨d.1, by omega⟩]
      · rw [if_neg d, if_neg (fun z => d ⟨z.1, by omega⟩)]
theorem q_mr_a1 {x y : Nat} (hx : 2 * x < S 0) : q_mr S H y x x y = H x y := if_neg (fun z => by omega)
theorem q_mr_a2 {x y : Nat} (hx : 2 * x < S 0) : q_mr S H y x ((S 0 : Int) - 1 - x) y = H ((S 0 : Int) - 1 - x) y := if_neg (fun z => by omega)
theorem q_mr_wv (hH : wv S H) (y x : Nat) : wv S (q_mr S H y x) := fun a b d => by
  unfold q_mr
  split
  · exact hH _ _ (by unfold ic at d ⊢; omega)
  · exact hH _ _ d
theorem q_mir_hv (hH : hv S H) : hv S (q_mir S H) := fun a b d => by
  unfold q_mir
  rw [if_pos d]; exact hH _ _ (by unfold ic at d ⊢; omega)
theorem q_mir_tv (hT : tv S T) : tv S (q_mir S T) := fun a b d => by
  unfold q_mir
  rw [if_pos d]; exact hT _ _ (by unfold ic at d ⊢; omega)
theorem q_mir_out {x y : Int} (c : ¬ ic S x y) : q_mir S H x y = H x y := if_neg c
theorem pc_exchange (hS : sv S) (h : cp o S T H) (hT : wv S T) (hH : wv S H) {x z y : Int} (hx : ic S x y) (hz : ic S z y) (hne : x ≠ z) : ∃ o', ff_X5_exchange N o (Int32.ofInt x) (Int32.ofInt z) (Int32.ofInt y) = some (Int32.ofInt ((if H x y = H z y then 0 else 1) + (if H z y = H x y then 0 else 1)), o') ∧ cp o' S (hu (hu T x y (T z y)) z y (T x y)) (hu (hu H x y (H z y)) z y (H x y)) := by
  have hs := sv_a hS
  have r1 := ic_r hS hx
  have r2 := ic_r hS hz
  have b1 := hH _ _ hx
  have b2 := hH _ _ hz
  unfold ic at hx hz
  obtain ⟨o1, e1, h1⟩ := pc_dye (N := N) (v := T z y) hS h hx
  obtain ⟨o2, e2, h2⟩ := pc_dye (N := N) (v := T x y) hS h1 hz
  obtain ⟨o3, e3, h3⟩ := pc_build (N := N) (v := H z y) hS h2 hH hx (by omega)
  obtain ⟨o4, e4, h4⟩ := pc_build (N := N) (v := H x y) hS h3 (hu_wv hH (by omega)) hz (by omega)
  rw [hu_ne (fun z => hne z.1.symm)] at e4
  refine ⟨o4, ?_, h4⟩
  unfold ff_X5_exchange
  rw [pc_toneAt hS h (by omega) (by omega), if_pos hx, Option.bind_some, pc_heightAt hS h (by omega) (by omega), if_pos hx, Option.bind_some, pc_toneAt hS h (by omega) (by omega), if_pos hz, Option.bind_some, e1, Option.bind_some, e2, Option.bind_some, pc_heightAt hS h2 (by omega) (by omega), if_pos hz, Option.bind_some, e3, Option.bind_some, e4, Option.bind_some, ia_add]
theorem pc_turn (hN : 1000 < N) (hS : sv S) (h : cp o S T H) (hT : wv S T) (hH : wv S H) : ∃ o', ff_X5_turn N o = some (Int32.ofInt (q_df S H (q_mir S H)), o') ∧ cp o' S (q_mir S T) (q_mir S H) := by
  have hs := sv_a hS
  have h2d : Int32.ofInt (S 0 : Int) / 2 = Int32.ofInt ((S 0 / 2 : Nat) : Int) := ia_divN (b := 2) (by omega) (by omega) (by omega)
  unfold ff_X5_turn ff_X5_turn_l4
  have key : ∃ u, (∃ o', u = some (Int32.ofInt (q_df S H (q_mir S H)), o') ∧ cp o' S (q_mir S T) (q_mir S H)) ∧ os_loop (fun k4 s1 => ff_X5_turn_c4 N k4 s1.1 s1.2.1 s1.2.2) N (o, Int32.ofInt 0, Int32.ofInt ((0 : Nat) : Int)) = u := by
    refine lo_gridI (N := N) (step2 := fun k2 r2 s1 => ff_X5_turn_c14 N k2 r2 s1.1 s1.2.1 s1.2.2.1 s1.2.2.2) (fun j s => ∃ o', s = (o', Int32.ofInt (q_df S H (q_mr S H j 0)), Int32.ofInt (j : Int)) ∧ cp o' S (q_mr S T j 0) (q_mr S H j 0)) (fun j i s => ∃ o', s = (o', Int32.ofInt (q_df S H (q_mr S H j i)), Int32.ofInt (j : Int), Int32.ofInt (i : Int)) ∧ cp o' S (q_mr S T j i) (q_mr S H j i)) (fun u => ∃ o', u = some (Int32.ofInt (q_df S H (q_mir S H)), o') ∧ cp o' S (q_mir S T) (q_mir S H)) (S 0 / 2) (S 1) ?_ ?_ ?_ ?_ (by omega) (by omega) ⟨o, by rw [q_mr_0, q_df_self], by rw [q_mr_0, q_mr_0]; exact h⟩
    · rintro j s hj ⟨o', rfl, h'⟩
      refine ⟨_, ⟨o', rfl, h'⟩, fun k => ?_⟩
      show ff_X5_turn_c4 N k o' _ (Int32.ofInt (j : Int)) = _
      unfold ff_X5_turn_c4
      rw [if_neg (pc_rN hS h' hj)]
      rfl
    · rintro i j s hi0 hj ⟨o', rfl, h'⟩
      have hi : 2 * i < S 0 := by omega
      have hc : ic S (i : Int) (j : Int) := by unfold ic; omega
      have hc2 : ic S ((S 0 : Int) - 1 - i) (j : Int) := by unfold ic; omega
      obtain ⟨o2, e2, h2⟩ := pc_exchange (N := N) hS h' (q_mr_wv hT j i) (q_mr_wv hH j i) hc hc2 (by omega)
      rw [q_mr_a1 hi, q_mr_a2 hi, q_mr_a1 hi, q_mr_a2 hi, q_mr_s hi hj, q_mr_s hi hj] at h2
      rw [q_mr_a1 hi, q_mr_a2 hi] at e2
      refine ⟨_, ⟨o2, rfl, h2⟩, fun k k' => ?_⟩
      show ff_X5_turn_c14 N k k' o' _ (Int32.ofInt (j : Int)) (Int32.ofInt (i : Int)) = _
      unfold ff_X5_turn_c14
      have hg : q_df S H (q_mr S H j i) + ((if H i j = H ((S 0 : Int) - 1 - i) j then 0 else 1) + (if H ((S 0 : Int) - 1 - i) j = H i j then 0 else 1)) = q_df S H (q_mr S H j (i + 1)) := by
        rw [← q_mr_s hi hj, q_df_hu hc2 (by rw [hu_ne (by omega), q_mr_a2 hi]), q_df_hu hc (q_mr_a1 hi), Int.add_assoc]
      rw [h'.1 0 (by decide), h2d, ii_le (by omega) (by omega), if_neg (by omega), ii_1, ia_sub, ia_sub, e2, Option.bind_some]
      show k' (_, Int32.ofInt (q_df S H (q_mr S H j i)) + Int32.ofInt ((if H i j = H ((S 0 : Int) - 1 - i) j then 0 else 1) + (if H ((S 0 : Int) - 1 - i) j = H i j then 0 else 1)), _, _) = _
      rw [ia_add, hg, ia_s]
    · rintro j s hj ⟨o', rfl, h'⟩
      refine ⟨_, ⟨o', rfl, by rw [← q_mr_r, ← q_mr_r]; exact h'⟩, fun k k' => ?_⟩
      show ff_X5_turn_c14 N k k' o' _ (Int32.ofInt (j : Int)) (Int32.ofInt ((S 0 / 2 : Nat) : Int)) = _
      unfold ff_X5_turn_c14
      rw [h'.1 0 (by decide), h2d, if_pos (Int32.le_refl _), ii_1, ia_s, q_mr_r]
    · rintro s ⟨o', rfl, h'⟩
      rw [q_mr_f, q_mr_f] at h'
      refine ⟨_, ⟨o', rfl, h'⟩, fun k => ?_⟩
      show ff_X5_turn_c4 N k o' _ (Int32.ofInt (S 1 : Int)) = _
      unfold ff_X5_turn_c4
      rw [if_pos (pc_rE h'), q_mr_f]
  obtain ⟨u, ⟨o', rfl, hm⟩, e⟩ := key
  exact ⟨o', e, hm⟩
end Fill
