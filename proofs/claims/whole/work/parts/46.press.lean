/-! LAYER 2. Pressing a stamp -/
section Press
variable {N : Nat} {o : os_T} {S : Nat → Nat} {T H V : Int → Int → Int}
def q_pr (S : Nat → Nat) (H V : Int → Int → Int) (x y : Int) (w r c : Nat) : Int → Int → Int := fun a b => if ic S a b ∧ x ≤ a ∧ a < x + w ∧ y ≤ b ∧ (b < y + r ∨ (b = y + r ∧ a < x + c)) then V a b else H a b
theorem q_pr_0 {x y : Int} {w : Nat} : q_pr S H V x y w 0 0 = H := by
  funext a b; exact if_neg (fun z => by omega)
theorem q_pr_s {x y : Int} {w r c : Nat} (hi : ic S (x + c) (y + r)) (hc : c < w) : hu (q_pr S H V x y w r c) (x + c) (y + r) (V (x + c) (y + r)) = q_pr S H V x y w r (c + 1) := by
  funext a b
  unfold hu q_pr
  by_cases e : a = x + c ∧ b = y + r
  · rw [if_pos e, e.1, e.2, if_pos ⟨hi, by omega⟩]
  · rw [if_neg e]
    by_cases d : ic S a b ∧ x ≤ a ∧ a < x + w ∧ y ≤ b ∧ (b < y + r ∨ (b = y + r ∧ a < x + c))
    · rw [if_pos d, if_pos ⟨d.1, by omega⟩]
    · rw [if_neg d, if_neg (fun z => d ⟨z.1, by omega⟩)]
theorem q_pr_n {x y : Int} {w r c : Nat} (hi : ¬ ic S (x + c) (y + r)) : q_pr S H V x y w r c = q_pr S H V x y w r (c + 1) := by
  funext a b
  unfold q_pr
  by_cases d : ic S a b ∧ x ≤ a ∧ a < x + w ∧ y ≤ b ∧ (b < y + r ∨ (b = y + r ∧ a < x + c))
  · rw [if_pos d, if_pos ⟨d.1, by omega⟩]
  · rw [if_neg d]
    by_cases e : a = x + c ∧ b = y + r
    · rw [if_neg (fun z => hi (by rw [← e.1, ← e.2]; exact z.1))]
    · rw [if_neg (fun z => d ⟨z.1, by omega⟩)]
theorem q_pr_r {x y : Int} {w r : Nat} : q_pr S H V x y w r w = q_pr S H V x y w (r + 1) 0 := by
  funext a b
  unfold q_pr
  by_cases d : ic S a b ∧ x ≤ a ∧ a < x + w ∧ y ≤ b ∧ (b < y + r ∨ (b = y + r ∧ a < x + w))
  · rw [if_pos d, if_pos ⟨d.1, by omega⟩]
  · rw [if_neg d, if_neg (fun z => d ⟨z.1, by omega⟩)]
theorem q_pr_at {x y : Int} {w r c : Nat} : q_pr S H V x y w r c (x + c) (y + r) = H (x + c) (y + r) := if_neg (fun z => by omega)
theorem q_pr_hv {x y : Int} {w r c : Nat} (hH : hv S H) (hV : hv S V) : hv S (q_pr S H V x y w r c) := fun a b d => by
  unfold q_pr
  split
  · exact hV a b d
  · exact hH a b d
theorem q_pr_out {x y a b : Int} {w r c : Nat} (h : ¬ ic S a b) : q_pr S H V x y w r c a b = H a b := if_neg (fun z => h z.1)
def q_pv (S : Nat → Nat) (H : Int → Int → Int) (s : Int) : Int → Int → Int := fun a b => max (S 4) (min (S 2) (H a b + s))
theorem q_pv_hv {s : Int} (hS : sv S) : hv S (q_pv S H s) := fun a b c => by
  have := sv_a hS
  unfold q_pv; omega
def q_ps2 (k b : Nat) : Int := if k = 1 then (b : Int) else -(b : Int)
/-- the heights after pressing -/
def q_stm (S : Nat → Nat) (H : Int → Int → Int) (k a b : Nat) (x y : Int) : Int → Int → Int := q_pr S H (q_pv S H (q_ps2 k b)) x y a a 0
def q_code (k a b : Nat) : Nat := 1000 * k + 100 * a + b
theorem pc_press (hN : 1000 < N) (hS : sv S) (h : cp o S T H) (hH : hv S H) {k a b : Nat} (hk : k ≤ 1) (ha : 1 ≤ a ∧ a ≤ 6) (hb : 1 ≤ b ∧ b ≤ 20) {x y : Int} (hc : ic S x y) : ∃ o', ff_X6_press N o (Int32.ofInt (q_code k a b : Nat)) (Int32.ofInt x) (Int32.ofInt y) = some (Int32.ofInt (q_df S H (q_stm S H k a b x y)), o') ∧ cp o' S T (q_stm S H k a b x y) := by
  have hs := sv_a hS
  have hr := ic_r hS hc
  have hxy : 0 ≤ x ∧ 0 ≤ y := by unfold ic at hc; omega
  have ec : q_code k a b = 1000 * k + 100 * a + b := rfl
  have e1 : Int32.ofInt (q_code k a b : Nat) / (1000 : Int32) = Int32.ofInt (k : Int) := by
    rw [show (1000 : Int32) = Int32.ofInt ((1000 : Nat) : Int) from rfl, ia_divN (by omega) (by omega) (by omega), show q_code k a b / 1000 = k by omega]
  have e2 : Int32.ofInt (q_code k a b : Nat) / (100 : Int32) = Int32.ofInt ((10 * k + a : Nat) : Int) := by
    rw [show (100 : Int32) = Int32.ofInt ((100 : Nat) : Int) from rfl, ia_divN (by omega) (by omega) (by omega), show q_code k a b / 100 = 10 * k + a by omega]
  have e3 : Int32.ofInt ((10 * k + a : Nat) : Int) - Int32.ofInt ((10 * k + a : Nat) : Int) / (10 : Int32) * (10 : Int32) = Int32.ofInt (a : Int) := by
    rw [show (10 : Int32) = Int32.ofInt ((10 : Nat) : Int) from rfl, ia_modN (by omega) (by omega) (by omega), show (10 * k + a) % 10 = a by omega]
  have e4 : Int32.ofInt (q_code k a b : Nat) - Int32.ofInt ((10 * k + a : Nat) : Int) * (100 : Int32) = Int32.ofInt (b : Int) := by
    rw [ii_100, ia_mul, ia_sub]; congr 1; omega
  unfold ff_X6_press ff_X6_kindOf
  rw [Option.bind_some, e1, e2, e3, e4, ii_1, ii_eq (by omega) (by omega), ii_0, ia_sub]
  have es : (if (k : Int) = 1 then ff_X6_press_b29 N o (Int32.ofInt x) (Int32.ofInt y) (Int32.ofInt (a : Int)) (Int32.ofInt (b : Int)) else ff_X6_press_b29 N o (Int32.ofInt x) (Int32.ofInt y) (Int32.ofInt (a : Int)) (Int32.ofInt (0 - (b : Int)))) = ff_X6_press_b29 N o (Int32.ofInt x) (Int32.ofInt y) (Int32.ofInt (a : Int)) (Int32.ofInt (q_ps2 k b)) := by
    unfold q_ps2
    by_cases c : k = 1
    · rw [if_pos (by omega), if_pos c]
    · rw [if_neg (by omega), if_neg c, Int.zero_sub]
  rw [es]
  have hsb : -20 ≤ q_ps2 k b ∧ q_ps2 k b ≤ 20 := by unfold q_ps2; split <;> omega
  unfold q_stm
  have hV := q_pv_hv (H := H) (s := q_ps2 k b) hS
  generalize hVe : q_pv S H (q_ps2 k b) = V at hV
  generalize q_ps2 k b = s at *
  unfold ff_X6_press_b29
  have key : ∃ u, (∃ o', u = some (Int32.ofInt (q_df S H (q_pr S H V x y a a 0)), o') ∧ cp o' S T (q_pr S H V x y a a 0)) ∧ ff_X6_press_l37 N N (o, Int32.ofInt x, Int32.ofInt y, Int32.ofInt (a : Int), Int32.ofInt s, Int32.ofInt 0, Int32.ofInt ((0 : Nat) : Int)) = u := by
    unfold ff_X6_press_l37
    refine lo_gridI (N := N) (step2 := fun k2 r2 s1 => ff_X6_press_c47 N k2 r2 s1.1 s1.2.1 s1.2.2.1 s1.2.2.2.1 s1.2.2.2.2.1 s1.2.2.2.2.2.1 s1.2.2.2.2.2.2.1 s1.2.2.2.2.2.2.2) (fun j t => ∃ o', t = (o', Int32.ofInt x, Int32.ofInt y, Int32.ofInt (a : Int), Int32.ofInt s, Int32.ofInt (q_df S H (q_pr S H V x y a j 0)), Int32.ofInt (j : Int)) ∧ cp o' S T (q_pr S H V x y a j 0)) (fun j i t => ∃ o', t = (o', Int32.ofInt x, Int32.ofInt y, Int32.ofInt (a : Int), Int32.ofInt s, Int32.ofInt (q_df S H (q_pr S H V x y a j i)), Int32.ofInt (j : Int), Int32.ofInt (i : Int)) ∧ cp o' S T (q_pr S H V x y a j i)) (fun u => ∃ o', u = some (Int32.ofInt (q_df S H (q_pr S H V x y a a 0)), o') ∧ cp o' S T (q_pr S H V x y a a 0)) a a ?_ ?_ ?_ ?_ (by omega) (by omega) ⟨o, by rw [q_pr_0, q_df_self], by rw [q_pr_0]; exact h⟩
    · rintro j t hj ⟨o', rfl, h'⟩
      refine ⟨_, ⟨o', rfl, h'⟩, fun r => ?_⟩
      show ff_X6_press_c37 N r o' (Int32.ofInt x) (Int32.ofInt y) (Int32.ofInt (a : Int)) (Int32.ofInt s) _ (Int32.ofInt (j : Int)) = _
      unfold ff_X6_press_c37
      rw [ii_le (by omega) (by omega), if_neg (by omega)]
      rfl
    · rintro i j t hi hj ⟨o', rfl, h'⟩
      have hw := (q_pr_hv (x := x) (y := y) (w := a) (r := j) (c := i) hH hV).wv hS
      by_cases c : ic S (x + i) (y + j)
      · have h0 := hH _ _ c
        have hv := hV _ _ c
        obtain ⟨o2, eb, h2⟩ := pc_build (N := N) (v := V (x + i) (y + j)) hS h' hw c (by omega)
        rw [q_pr_s c hi] at h2
        rw [q_pr_at] at eb
        refine ⟨_, ⟨o2, rfl, h2⟩, fun k r => ?_⟩
        show ff_X6_press_c47 N k r o' (Int32.ofInt x) (Int32.ofInt y) (Int32.ofInt (a : Int)) (Int32.ofInt s) _ (Int32.ofInt (j : Int)) (Int32.ofInt (i : Int)) = _
        unfold ff_X6_press_c47
        rw [ii_le (by omega) (by omega), if_neg (by omega), ia_add, ia_add, pc_heightAt hS h' (by omega) (by omega), if_pos c, q_pr_at, Option.bind_some, ia_add, h'.1 2 (by decide), h'.1 4 (by decide)]
        have em : (if Int32.ofInt (H (x + i) (y + j) + s) < Int32.ofInt (S 2 : Int) then Int32.ofInt (H (x + i) (y + j) + s) else Int32.ofInt (S 2 : Int)) = Int32.ofInt (min (S 2) (H (x + i) (y + j) + s)) := by
          rw [ii_lt (by omega) (by omega)]
          by_cases cc : H (x + i) (y + j) + s < S 2
          · rw [if_pos cc, Int.min_eq_right (by omega)]
          · rw [if_neg cc, Int.min_eq_left (by omega)]
        have eM : (if Int32.ofInt (S 4 : Int) < Int32.ofInt (min (S 2) (H (x + i) (y + j) + s)) then Int32.ofInt (min (S 2) (H (x + i) (y + j) + s)) else Int32.ofInt (S 4 : Int)) = Int32.ofInt (V (x + i) (y + j)) := by
          rw [← hVe]
          unfold q_pv
          rw [ii_lt (by omega) (by omega)]
          by_cases cc : (S 4 : Int) < min (S 2 : Int) (H (x + i) (y + j) + s)
          · rw [if_pos cc, Int.max_eq_right (by omega)]
          · rw [if_neg cc, Int.max_eq_left (by omega)]
        rw [em, eM, eb, Option.bind_some]
        show r (_, _, _, _, _, Int32.ofInt (q_df S H (q_pr S H V x y a j i)) + Int32.ofInt (if H (x + i) (y + j) = V (x + i) (y + j) then 0 else 1), _, _) = _
        rw [ia_add, ← q_df_hu c q_pr_at, q_pr_s c hi, ii_1, ia_s]
      · refine ⟨_, ⟨o', rfl, by rw [← q_pr_n c]; exact h'⟩, fun k r => ?_⟩
        show ff_X6_press_c47 N k r o' (Int32.ofInt x) (Int32.ofInt y) (Int32.ofInt (a : Int)) (Int32.ofInt s) _ (Int32.ofInt (j : Int)) (Int32.ofInt (i : Int)) = _
        unfold ff_X6_press_c47
        rw [ii_le (by omega) (by omega), if_neg (by omega), ia_add, ia_add, pc_heightAt hS h' (by omega) (by omega), if_neg c, Option.bind_some]
        have ez : ∀ v : Int32, ∃ z : Int, v = Int32.ofInt z := fun v => ⟨v.toInt, (Int32.ofInt_toInt v).symm⟩
        generalize (if os_I o' 4 < _ then _ else os_I o' 4) = v
        obtain ⟨z, rfl⟩ := ez v
        rw [pc_buildNo hS h' (by omega) (by omega) c, Option.bind_some]
        show r (_, _, _, _, _, Int32.ofInt (q_df S H (q_pr S H V x y a j i)) + Int32.ofInt 0, _, _) = _
        rw [ia_add, Int.add_zero, ← q_pr_n c, ii_1, ia_s]
    · rintro j t hj ⟨o', rfl, h'⟩
      refine ⟨_, ⟨o', rfl, by rw [← q_pr_r]; exact h'⟩, fun k r => ?_⟩
      show ff_X6_press_c47 N k r o' (Int32.ofInt x) (Int32.ofInt y) (Int32.ofInt (a : Int)) (Int32.ofInt s) _ (Int32.ofInt (j : Int)) (Int32.ofInt (a : Int)) = _
      unfold ff_X6_press_c47
      rw [if_pos (Int32.le_refl _), ii_1, ia_s, q_pr_r]
    · rintro t ⟨o', rfl, h'⟩
      refine ⟨_, ⟨o', rfl, h'⟩, fun r => ?_⟩
      show ff_X6_press_c37 N r o' (Int32.ofInt x) (Int32.ofInt y) (Int32.ofInt (a : Int)) (Int32.ofInt s) _ (Int32.ofInt (a : Int)) = _
      unfold ff_X6_press_c37
      rw [if_pos (Int32.le_refl _)]
  obtain ⟨u, ⟨o', rfl, hm⟩, e⟩ := key
  exact ⟨o', e, hm⟩
theorem rc_presses (hN : 1000 < N) (hS : sv S) (h : rp o S T H) (hH : hv S H) {k a b : Nat} (hk : k ≤ 1) (ha : 1 ≤ a ∧ a ≤ 6) (hb : 1 ≤ b ∧ b ≤ 20) {x y : Int} (hc : ic S x y) : ∃ o', ff_X13_presses N o (Int32.ofInt (q_code k a b : Nat)) (Int32.ofInt x) (Int32.ofInt y) = some o' ∧ rp o' S T (q_stm S H k a b x y) ∧ sx (fun j => j = 4) o o' := by
  have hs := sv_a hS
  have hr := ic_r hS hc
  have hxy : 0 ≤ x ∧ 0 ≤ y := by unfold ic at hc; omega
  have ec : q_code k a b = 1000 * k + 100 * a + b := rfl
  have e2 : Int32.ofInt (q_code k a b : Nat) / (100 : Int32) = Int32.ofInt ((10 * k + a : Nat) : Int) := by
    rw [show (100 : Int32) = Int32.ofInt ((100 : Nat) : Int) from rfl, ia_divN (by omega) (by omega) (by omega), show q_code k a b / 100 = 10 * k + a by omega]
  have e3 : Int32.ofInt ((10 * k + a : Nat) : Int) - Int32.ofInt ((10 * k + a : Nat) : Int) / (10 : Int32) * (10 : Int32) = Int32.ofInt (a : Int) := by
    rw [show (10 : Int32) = Int32.ofInt ((10 : Nat) : Int) from rfl, ia_modN (by omega) (by omega) (by omega), show (10 * k + a) % 10 = a by omega]
  have e4 : Int32.ofInt (q_code k a b : Nat) - Int32.ofInt ((10 * k + a : Nat) : Int) * (100 : Int32) = Int32.ofInt (b : Int) := by
    rw [ii_100, ia_mul, ia_sub]; congr 1; omega
  unfold ff_X13_presses
  rw [e2, e3, e4]
  unfold q_stm
  have hV := q_pv_hv (H := H) (s := q_ps2 k b) hS
  have hVe : ∀ i j, ic S i j → q_pv S H (q_ps2 k b) i j = if k = 1 then min (S 2 : Int) (H i j + b) else max (S 4 : Int) (H i j - b) := fun i j c => by
    have := hH i j c
    unfold q_pv q_ps2
    split <;> omega
  generalize q_pv S H (q_ps2 k b) = V at *
  have key : ∃ u, (∃ o', u = some o' ∧ rp o' S T (q_pr S H V x y a a 0) ∧ sx (fun j => j = 4) o o') ∧ ff_X13_presses_l18 N N (o, Int32.ofInt (q_code k a b : Nat), Int32.ofInt x, Int32.ofInt y, Int32.ofInt (a : Int), Int32.ofInt (b : Int), Int32.ofInt (y + ((0 : Nat) : Int))) = u := by
    unfold ff_X13_presses_l18
    refine lo_gridI (N := N) (step2 := fun k2 r2 s1 => ff_X13_presses_c30 N k2 r2 s1.1 s1.2.1 s1.2.2.1 s1.2.2.2.1 s1.2.2.2.2.1 s1.2.2.2.2.2.1 s1.2.2.2.2.2.2.1 s1.2.2.2.2.2.2.2) (fun j t => ∃ o', t = (o', Int32.ofInt (q_code k a b : Nat), Int32.ofInt x, Int32.ofInt y, Int32.ofInt (a : Int), Int32.ofInt (b : Int), Int32.ofInt (y + (j : Int))) ∧ rp o' S T (q_pr S H V x y a j 0) ∧ sx (fun j => j = 4) o o') (fun j i t => ∃ o', t = (o', Int32.ofInt (q_code k a b : Nat), Int32.ofInt x, Int32.ofInt y, Int32.ofInt (a : Int), Int32.ofInt (b : Int), Int32.ofInt (y + (j : Int)), Int32.ofInt (x + (i : Int))) ∧ rp o' S T (q_pr S H V x y a j i) ∧ sx (fun j => j = 4) o o') (fun u => ∃ o', u = some o' ∧ rp o' S T (q_pr S H V x y a a 0) ∧ sx (fun j => j = 4) o o') a a ?_ ?_ ?_ ?_ (by omega) (by omega) ⟨o, rfl, by rw [q_pr_0]; exact h, sx.rf⟩
    · rintro j t hj ⟨o', rfl, h', hx⟩
      refine ⟨_, ⟨o', rfl, h', hx⟩, fun r => ?_⟩
      show ff_X13_presses_c18 N r o' _ (Int32.ofInt x) (Int32.ofInt y) (Int32.ofInt (a : Int)) (Int32.ofInt (b : Int)) (Int32.ofInt (y + (j : Int))) = _
      unfold ff_X13_presses_c18
      rw [ia_add, ii_le (by omega) (by omega), if_neg (by omega)]
      show _ = os_loop _ N (_, _, _, _, _, _, _, Int32.ofInt (x + 0))
      rw [Int.add_zero]
      rfl
    · rintro i j t hi hj ⟨o', rfl, h', hx⟩
      have hne : Int32.ofInt (x + (i : Int)) + Int32.ofInt 1 = Int32.ofInt (x + ((i + 1 : Nat) : Int)) := by rw [ia_add, Int.add_assoc]; rfl
      by_cases c : ic S (x + i) (y + j)
      · have h0 := hH _ _ c
        have hv := hV _ _ c
        have hr2 := ic_r hS c
        have h2 := rp_hu (v := V (x + i) (y + j)) h' (x := x + i) (y := y + j) (by omega) (by omega) (by omega)
        have hh := rp_h h' hS c
        rw [q_pr_at] at hh
        rw [q_pr_s c hi] at h2
        refine ⟨_, ⟨_, rfl, h2, hx.tr (sx_A rfl)⟩, fun k' r => ?_⟩
        show ff_X13_presses_c30 N k' r o' _ (Int32.ofInt x) (Int32.ofInt y) (Int32.ofInt (a : Int)) (Int32.ofInt (b : Int)) (Int32.ofInt (y + (j : Int))) (Int32.ofInt (x + (i : Int))) = _
        unfold ff_X13_presses_c30
        have hB : ff_X13_presses_b118 N k' r o' (Int32.ofInt (q_code k a b : Nat)) (Int32.ofInt x) (Int32.ofInt y) (Int32.ofInt (a : Int)) (Int32.ofInt (b : Int)) (Int32.ofInt (y + (j : Int))) (Int32.ofInt (x + (i : Int))) (Int32.ofInt (V (x + i) (y + j))) ((16 : Int32) * Int32.ofInt (y + (j : Int)) + Int32.ofInt (x + (i : Int))) = r (ss_A o' 4 (upd (os_A o' 4) (16 * (y + (j : Int)) + (x + (i : Int))).toNat (Int32.ofInt (V (x + i) (y + j)))), Int32.ofInt (q_code k a b : Nat), Int32.ofInt x, Int32.ofInt y, Int32.ofInt (a : Int), Int32.ofInt (b : Int), Int32.ofInt (y + (j : Int)), Int32.ofInt (x + ((i + 1 : Nat) : Int))) := by
          unfold ff_X13_presses_b118 ff_X13_presses_b119
          rw [if_pos (rp_in hS c), rp_na hS c, ii_1, hne]
        rw [ia_add, ii_le (by omega) (by omega), if_neg (by omega), rc_isCell hS h' (by omega) (by omega), Option.bind_some, oz_ite, if_pos c, if_pos (rp_in hS c), ii_1000, ii_le (by omega) (by omega)]
        have hvv := hVe _ _ c
        by_cases ck : k = 1
        · rw [if_pos ck] at hvv
          have el : ff_X13_less N (Int32.ofInt (S 2 : Int)) (Int32.ofInt (H (x + i) (y + j) + b)) = some (Int32.ofInt (min (S 2 : Int) (H (x + i) (y + j) + b))) := rc_less (by omega) (by omega)
          rw [if_pos (by omega), if_pos nw_2, rs_2 h', rp_na hS c, hh, ia_add, el, Option.bind_some, ← hvv]
          exact hB
        · rw [if_neg ck] at hvv
          have el : ff_X13_more N (Int32.ofInt (S 4 : Int)) (Int32.ofInt (H (x + i) (y + j) - b)) = some (Int32.ofInt (max (S 4 : Int) (H (x + i) (y + j) - b))) := rc_more (by omega) (by omega)
          rw [if_neg (by omega), if_pos nw_4, rs_4 h', rp_na hS c, hh, ia_sub, el, Option.bind_some, ← hvv]
          exact hB
      · refine ⟨_, ⟨o', rfl, by rw [← q_pr_n c]; exact h', hx⟩, fun k' r => ?_⟩
        show ff_X13_presses_c30 N k' r o' _ (Int32.ofInt x) (Int32.ofInt y) (Int32.ofInt (a : Int)) (Int32.ofInt (b : Int)) (Int32.ofInt (y + (j : Int))) (Int32.ofInt (x + (i : Int))) = _
        unfold ff_X13_presses_c30 ff_X13_presses_b119
        rw [ia_add, ii_le (by omega) (by omega), if_neg (by omega), rc_isCell hS h' (by omega) (by omega), Option.bind_some, oz_ite, if_neg c, ii_1, hne]
    · rintro j t hj ⟨o', rfl, h', hx⟩
      refine ⟨_, ⟨o', rfl, by rw [← q_pr_r]; exact h', hx⟩, fun k' r => ?_⟩
      show ff_X13_presses_c30 N k' r o' _ (Int32.ofInt x) (Int32.ofInt y) (Int32.ofInt (a : Int)) (Int32.ofInt (b : Int)) (Int32.ofInt (y + (j : Int))) (Int32.ofInt (x + (a : Int))) = _
      unfold ff_X13_presses_c30
      rw [ia_add, if_pos (Int32.le_refl _), ii_1, ia_add, Int.add_assoc]
      rfl
    · rintro t ⟨o', rfl, h', hx⟩
      refine ⟨_, ⟨o', rfl, h', hx⟩, fun r => ?_⟩
      show ff_X13_presses_c18 N r o' _ (Int32.ofInt x) (Int32.ofInt y) (Int32.ofInt (a : Int)) (Int32.ofInt (b : Int)) (Int32.ofInt (y + (a : Int))) = _
      unfold ff_X13_presses_c18
      rw [ia_add, if_pos (Int32.le_refl _)]
  obtain ⟨u, ⟨o', rfl, hm⟩, e⟩ := key
  rw [show y + ((0 : Nat) : Int) = y from Int.add_zero y] at e
  exact ⟨o', e, hm⟩
end Press
