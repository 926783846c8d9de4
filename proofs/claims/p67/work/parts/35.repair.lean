/-! LAYER 2. All passes -/
section Rep
variable {N : Nat} {o ow : os_T} {S : Nat → Nat} {T H : Int → Int → Int}
def q_hs (S : Nat → Nat) (H : Int → Int → Int) (k : Nat) : Int → Int → Int := fo (fun _ G => q_pass S G) k H
def q_np (S : Nat → Nat) (H : Int → Int → Int) : Nat := q_first (fun k => decide (0 < q_cnt S (q_th S (q_hs S H k)))) 3840
theorem q_hs_s (k : Nat) : q_hs S H (k + 1) = q_pass S (q_hs S H k) := rfl
theorem q_hsv (hS : sv S) (hH : hv S H) (k : Nat) : hv S (q_hs S H k) := by
  induction k with
  | zero => exact hH
  | succ k ih => exact q_psv hS ih
theorem q_hso (hS : sv S) {x y : Int} (c : ¬ ic S x y) (k : Nat) : q_hs S H k x y = H x y := by
  induction k with
  | zero => rfl
  | succ k ih => rw [q_hs_s, q_pso hS c, ih]
theorem gr_sub {w h : Nat} {f g t : Int → Int → Int} (e : ∀ x y : Nat, x < w → y < h → f x y = g x y - t x y) : gr w h (fun x y a => a + f x y) 0 = gr w h (fun x y a => a + g x y) 0 - gr w h (fun x y a => a + t x y) 0 := by
  have key : ∀ n, n ≤ w * h → fo (fg w (fun x y a => a + f x y)) n 0 = fo (fg w (fun x y a => a + g x y)) n 0 - fo (fg w (fun x y a => a + t x y)) n 0 := by
    intro n
    induction n with
    | zero => intro _; rfl
    | succ n ih =>
      intro hn
      have hw : 0 < w := Nat.pos_of_ne_zero fun e => by subst e; simp at hn
      have := e (n % w) (n / w) (Nat.mod_lt _ hw) (Nat.div_lt_of_lt_mul (by omega))
      rw [fo_s, fo_s, fo_s]
      show fo (fg w (fun x y a => a + f x y)) n 0 + f ((n % w : Nat) : Int) ((n / w : Nat) : Int) = fo (fg w (fun x y a => a + g x y)) n 0 + g ((n % w : Nat) : Int) ((n / w : Nat) : Int) - (fo (fg w (fun x y a => a + t x y)) n 0 + t ((n % w : Nat) : Int) ((n / w : Nat) : Int))
      rw [ih (by omega), this]
      omega
  exact key _ (Nat.le_refl _)
theorem q_sumb (hS : sv S) (hH : hv S H) : 0 ≤ q_sum S H ∧ q_sum S H ≤ 3840 := by
  have hs := sv_a hS
  have hwh := sv_wh hS
  have : 0 ≤ q_sum S H ∧ q_sum S H ≤ 20 * (S 0 * S 1 : Nat) := gr_inv (fun n a => 0 ≤ a ∧ a ≤ 20 * (n : Int)) ⟨Int.le_refl _, by decide⟩ fun x y hx hy a ha => by
    have h0 := hH x y (ic_n hx hy)
    show 0 ≤ a + H x y ∧ a + H x y ≤ 20 * ((S 0 * y + x + 1 : Nat) : Int)
    omega
  omega
theorem q_sump (hS : sv S) : q_sum S (q_pass S H) = q_sum S H - q_cnt S (q_th S H) :=
  gr_sub fun x y hx hy => q_psc hS (ic_n hx hy)
theorem q_nps (hS : sv S) (hH : hv S H) : (∀ k, k < q_np S H → 0 < q_cnt S (q_th S (q_hs S H k))) ∧ ¬ 0 < q_cnt S (q_th S (q_hs S H (q_np S H))) ∧ q_np S H ≤ 3840 := by
  have ex : ∃ m, m ≤ 3840 ∧ decide (0 < q_cnt S (q_th S (q_hs S H m))) = false := by
    refine Classical.byContradiction fun hno => ?_
    have all : ∀ m, m ≤ 3840 → 0 < q_cnt S (q_th S (q_hs S H m)) := fun m hm => by
      refine Classical.byContradiction fun z => hno ⟨m, hm, decide_eq_false z⟩
    have dn : ∀ k, k ≤ 3841 → q_sum S (q_hs S H k) ≤ q_sum S H - k := by
      intro k
      induction k with
      | zero => intro _; show q_sum S H ≤ _; omega
      | succ k ih =>
        intro hk
        have := all k (by omega)
        rw [q_hs_s, q_sump hS]
        have := ih (by omega)
        omega
    have h1 := dn 3841 (Nat.le_refl _)
    have h2 := q_sumb hS (q_hsv hS hH 3841)
    have h3 := q_sumb hS hH
    omega
  obtain ⟨i1, i2, i3⟩ := q_first_spec 3840 (fun k => decide (0 < q_cnt S (q_th S (q_hs S H k)))) ex
  exact ⟨fun k hk => of_decide_eq_true (i1 k hk), of_decide_eq_false i2, i3⟩
theorem q_cntb (hS : sv S) : 0 ≤ q_cnt S (q_th S H) ∧ q_cnt S (q_th S H) ≤ 192 := by
  have hwh := sv_wh hS
  have := q_cn_b (S := S) (H := H) (S 0 * S 1)
  rw [q_cn_all] at this
  omega
theorem pc_take (hN : 100000 < N) (hS : sv S) (h : cp o S T H) (hH : hv S H) : ∃ ow' o', ff_X11_takeDown N ow o = some (Int32.ofInt (q_np S H : Nat), ow', o') ∧ cp o' S T (q_hs S H (q_np S H)) := by
  obtain ⟨i1, i2, i3⟩ := q_nps hS hH
  have key : ∃ v, (∃ ow' o', v = some (Int32.ofInt (q_np S H : Nat), ow', o') ∧ cp o' S T (q_hs S H (q_np S H))) ∧ ff_X11_takeDown_l4 N N (ow, o, Int32.ofInt ((0 : Nat) : Int), Int32.ofInt ((0 : Nat) : Int)) = v := by
    unfold ff_X11_takeDown_l4
    refine lo_cnt (N := N) (fun k s => ∃ ow' o', s = (ow', o', Int32.ofInt (k : Int), Int32.ofInt (k : Int)) ∧ cp o' S T (q_hs S H k)) (fun v => ∃ ow' o', v = some (Int32.ofInt (q_np S H : Nat), ow', o') ∧ cp o' S T (q_hs S H (q_np S H))) (q_np S H) ?_ ?_ (by omega) ⟨ow, o, rfl, h⟩
    · rintro k s hk ⟨ow', o', rfl, h'⟩
      have hHk := q_hsv hS hH k
      obtain ⟨ow2, e1, hm⟩ := pc_mark (N := N) (ow := ow') (by omega) hS h' (hHk.wv hS)
      obtain ⟨o2, e2, h2⟩ := pc_lower (N := N) (by omega) hS h' hHk hm
      have hb := q_cntb (H := q_hs S H k) hS
      have hp := i1 k hk
      refine ⟨_, ⟨ow2, o2, rfl, h2⟩, fun r => ?_⟩
      show ff_X11_takeDown_c4 N r ow' o' (Int32.ofInt (k : Int)) (Int32.ofInt (k : Int)) = _
      unfold ff_X11_takeDown_c4
      rw [show (3840 : Int32) = Int32.ofInt 3840 from rfl, ii_le (by omega) (by omega), if_neg (by omega), e1, Option.bind_some]
      simp only [i0_le (show ib (q_cnt S (q_th S (q_hs S H k))) by omega)]
      rw [if_neg (by omega), e2, Option.bind_some, ii_1, ia_s]
    · rintro s ⟨ow', o', rfl, h'⟩
      have hHk := q_hsv hS hH (q_np S H)
      obtain ⟨ow2, e1, hm⟩ := pc_mark (N := N) (ow := ow') (by omega) hS h' (hHk.wv hS)
      have hb := q_cntb (H := q_hs S H (q_np S H)) hS
      by_cases c : (3840 : Int) ≤ (q_np S H : Nat)
      · refine ⟨_, ⟨ow', o', rfl, h'⟩, fun r => ?_⟩
        show ff_X11_takeDown_c4 N r ow' o' (Int32.ofInt (q_np S H : Nat)) (Int32.ofInt (q_np S H : Nat)) = _
        unfold ff_X11_takeDown_c4
        rw [show (3840 : Int32) = Int32.ofInt 3840 from rfl, ii_le (by omega) (by omega), if_pos c]
      · refine ⟨_, ⟨ow2, o', rfl, h'⟩, fun r => ?_⟩
        show ff_X11_takeDown_c4 N r ow' o' (Int32.ofInt (q_np S H : Nat)) (Int32.ofInt (q_np S H : Nat)) = _
        unfold ff_X11_takeDown_c4
        rw [show (3840 : Int32) = Int32.ofInt 3840 from rfl, ii_le (by omega) (by omega), if_neg c, e1, Option.bind_some]
        simp only [i0_le (show ib (q_cnt S (q_th S (q_hs S H (q_np S H)))) by omega)]
        rw [if_pos (by omega)]
  obtain ⟨v, ⟨ow', o', rfl, hm⟩, e⟩ := key
  exact ⟨ow', o', e, hm⟩
end Rep
