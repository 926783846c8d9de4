/-! LAYER 2. One command of a script, pairwise -/
def xp (S : Nat → Nat) (T0 H0 : Int → Int → Int) (R : Nat → Int) (o w m : os_T) (T H : Int → Int → Int) : Prop := cp o S T H ∧ rp m S T H ∧ tv S T ∧ hv S H ∧ (∀ x y, ¬ ic S x y → T x y = T0 x y ∧ H x y = H0 x y) ∧ rr w m R
abbrev k41 : Nat → Prop := fun i => i = 41
abbrev jX : Nat → Prop := fun j => j = 3 ∨ j = 4 ∨ j = 6 ∨ j = 11
section Step
variable {N i k : Nat} {x o sp wa w s m : os_T} {S : Nat → Nat} {T H T0 H0 : Int → Int → Int} {R : Nat → Int}
def sO (N : Nat) (S : Nat → Nat) (T0 H0 : Int → Int → Int) (R : Nat → Int) (w m : os_T) (A : Option (Nat × Int32 × os_T × os_T × os_T)) (B : Option (Int32 × os_T)) : Prop := ∃ (b : Bool) (o' sp' wa' m' : os_T) (T' H' : Int → Int → Int), A = some (0, oz b, o', sp', wa') ∧ B = some (oz b, m') ∧ xp S T0 H0 R o' w m' T' H' ∧ sy k41 jX m m'
theorem sO_no (hx : xp S T0 H0 R o w m T H) : sO N S T0 H0 R w m (some (0, 0, o, sp, wa)) (some (0, m)) := ⟨false, o, sp, wa, m, T, H, rfl, rfl, hx, sy.rf⟩
theorem sO_yes {o' sp' wa' m' : os_T} {T' H' : Int → Int → Int} {J : Nat → Prop} (hx : xp S T0 H0 R o w m T H) (hc : cp o' S T' H') (hr : rp m' S T' H') (hT : tv S T') (hH : hv S H') (ho : ∀ x y, ¬ ic S x y → T' x y = T x y ∧ H' x y = H x y) (hs : sx J m m') (hJ : ∀ j, J j → jX j) : sO N S T0 H0 R w m (some (0, 1, o', sp', wa')) (some (1, m')) := by
  have hy : sy k41 jX m m' := (hs.mono hJ).sy
  refine ⟨true, o', sp', wa', m', T', H', rfl, rfl, ⟨hc, hr, hT, hH, fun x y c => ?_, hx.2.2.2.2.2.sy hy (by decide)⟩, hy⟩
  have h1 := ho x y c
  have h2 := hx.2.2.2.2.1 x y c
  exact ⟨h1.1.trans h2.1, h1.2.trans h2.2⟩
theorem op_os {α : Type} {b : Int32} {A B : α} (h : b = 0 ∨ b = 1) : (if os_z b then A else B) = A := if_pos h
theorem ex_step (hN : 100000 < N) (hS : sv S) (hl : lf s m i k) (hi : i < 30) (hk : k < 60) (hx : xp S T0 H0 R o w m T H) : sO N S T0 H0 R w m (ff_X12_tryCommand N x o sp wa w s (Int32.ofInt (i : Int))) (ff_X13_does N m (os_A m 13 k) (Int32.ofInt ((5 * k : Nat) : Int))) := by
  obtain ⟨c, V, hc, hR, h13, hV, -⟩ := hl
  obtain ⟨xc, xr, xT, xH, xo, xR⟩ := hx
  have hx : xp S T0 H0 R o w m T H := ⟨xc, xr, xT, xH, xo, xR⟩
  have hs := sv_a hS
  have g : ∀ a, a < nm c → os_A s 0 (5 * i + a) = Int32.ofInt (V a) ∧ os_A m 14 (5 * k + a) = Int32.ofInt (V a) := fun a ha => (hV a ha).2
  have gr : ∀ a, a < nm c → 0 ≤ V a ∧ V a ≤ hw c a := fun a ha => (hV a ha).1
  rw [h13]
  have hcc : c = 0 ∨ c = 1 ∨ c = 2 ∨ c = 3 ∨ c = 4 ∨ c = 5 ∨ c = 6 ∨ c = 7 ∨ c = 8 ∨ c = 9 ∨ c = 10 := by omega
  rcases hcc with rfl | rfl | rfl | rfl | rfl | rfl | rfl | rfl | rfl | rfl | rfl
  · -- tone
    obtain ⟨a0, b0⟩ := g 0 (by decide)
    obtain ⟨a1, b1⟩ := g 1 (by decide)
    obtain ⟨a2, b2⟩ := g 2 (by decide)
    have r0 := gr 0 (by decide)
    have r1 := gr 1 (by decide)
    have r2 := gr 2 (by decide)
    have w0 : hw 0 0 = 20 ∧ hw 0 1 = 20 ∧ hw 0 2 = 255 := ⟨rfl, rfl, rfl⟩
    show sO N S T0 H0 R w m _ (ff_X13_does N m (Int32.ofInt 0) _)
    rw [tz_0 hi hR, dz_0 hk]
    rw [show 5 * i = 5 * i + 0 from rfl, show 5 * k = 5 * k + 0 from rfl, a0, a1, a2, b0, b1, b2]
    unfold ff_X12_tryTone
    rw [pc_has hS xc (by omega) (by omega), Option.bind_some, oz_ite, rc_isCell hS xr (by omega) (by omega), Option.bind_some, oz_ite]
    by_cases cc : ic S (V 0) (V 1)
    · have hab : 0 ≤ V 0 ∧ V 0 < 16 ∧ 0 ≤ V 1 ∧ V 1 < 12 := by have := cc; unfold ic at this; omega
      have hsr := sh_r hS (fl_w200 (t := (V 2).toNat) (by omega))
      obtain ⟨o', e1, c1⟩ := pc_paint (N := N) (t := V 2) (by omega) hS xc (xH.wv hS) cc (by omega)
      obtain ⟨m', e2, c2, x2⟩ := rc_tones (N := N) (t := V 2) (by omega) hS xr hab.1 hab.2.1 hab.2.2.1 hab.2.2.2 (by omega)
      rw [if_pos cc, if_pos cc, pc_isTone (by omega), Option.bind_some, oz_ite, if_pos (show 0 ≤ V 2 ∧ V 2 ≤ 255 by omega), e1, Option.bind_some, Option.bind_some, e2, Option.bind_some, z1]
      exact sO_yes hx c1 c2 (hu_tv xT (by omega)) (hu_hv xH (by omega)) (fun a b d => ⟨hu_out cc d, hu_out cc d⟩) x2 (fun j hj => by omega)
    · rw [if_neg cc, if_neg cc, Option.bind_some, z0]
      exact sO_no hx
  · -- height
    obtain ⟨a0, b0⟩ := g 0 (by decide)
    obtain ⟨a1, b1⟩ := g 1 (by decide)
    obtain ⟨a2, b2⟩ := g 2 (by decide)
    have r0 := gr 0 (by decide)
    have r1 := gr 1 (by decide)
    have r2 := gr 2 (by decide)
    have w0 : hw 1 0 = 20 ∧ hw 1 1 = 20 ∧ hw 1 2 = 20 := ⟨rfl, rfl, rfl⟩
    show sO N S T0 H0 R w m _ (ff_X13_does N m (Int32.ofInt 1) _)
    rw [tz_1 hi hR, dz_1 hk]
    rw [show 5 * i = 5 * i + 0 from rfl, show 5 * k = 5 * k + 0 from rfl, a0, a1, a2, b0, b1, b2]
    unfold ff_X12_tryFill
    rw [pc_has hS xc (by omega) (by omega), Option.bind_some, oz_ite, rc_isCell hS xr (by omega) (by omega), Option.bind_some, oz_ite]
    by_cases cc : ic S (V 0) (V 1)
    · have hab : 0 ≤ V 0 ∧ V 0 < 16 ∧ 0 ≤ V 1 ∧ V 1 < 12 := by have := cc; unfold ic at this; omega
      have hic := cc
      unfold ic at hic
      have ef : ff_X5_fits N o (Int32.ofInt (V 0)) (Int32.ofInt (V 1)) (1 : Int32) (1 : Int32) = _ := pc_fits (a := 1) (b := 1) hS xc cc (by omega) (by omega)
      rw [if_pos cc, if_pos cc, ef, Option.bind_some, oz_ite, if_pos (by omega), pc_allows hS xc (by omega), Option.bind_some, oz_ite, rc_isHeight hS xr (by omega), Option.bind_some, oz_ite]
      by_cases ch : (S 4 : Int) ≤ V 2 ∧ V 2 ≤ S 2
      · obtain ⟨o', e1, c1⟩ := pc_cover (N := N) (x := V 0) (y := V 1) (v := V 2) (w := 1) (r := 1) (by omega) hS xc xH (by omega) (by omega) ch
        have e1 : ff_X5_cover N o (Int32.ofInt (V 0)) (Int32.ofInt (V 1)) (1 : Int32) (1 : Int32) (Int32.ofInt (V 2)) = _ := e1
        have c2 := rp_hu (v := V 2) xr hab.1 hab.2.1 hab.2.2.1
        have eq : q_rb H (V 0) (V 1) 1 (V 2) 1 0 = hu H (V 0) (V 1) (V 2) := by
          funext a b
          unfold q_rb hu
          by_cases d : a = V 0 ∧ b = V 1
          · rw [if_pos d, if_pos (by omega)]
          · rw [if_neg d, if_neg (by omega)]
        rw [eq] at c1
        rw [if_pos ch, if_pos ch, e1, Option.bind_some, Option.bind_some, z1, if_pos (rp_in hS cc), rp_na hS cc]
        exact sO_yes (J := fun j => j = 4) hx c1 c2 xT (hu_hv xH ch) (fun a b d => ⟨rfl, hu_out cc d⟩) (sx_A rfl) (fun j hj => by omega)
      · rw [if_neg ch, if_neg ch, Option.bind_some, z0]
        exact sO_no hx
    · rw [if_neg cc, if_neg cc, Option.bind_some, z0]
      exact sO_no hx
  · -- fill
    obtain ⟨a0, b0⟩ := g 0 (by decide)
    obtain ⟨a1, b1⟩ := g 1 (by decide)
    obtain ⟨a2, b2⟩ := g 2 (by decide)
    obtain ⟨a3, b3⟩ := g 3 (by decide)
    obtain ⟨a4, b4⟩ := g 4 (by decide)
    have r0 := gr 0 (by decide)
    have r1 := gr 1 (by decide)
    have r2 := gr 2 (by decide)
    have r3 := gr 3 (by decide)
    have r4 := gr 4 (by decide)
    have w0 : hw 2 0 = 20 ∧ hw 2 1 = 20 ∧ hw 2 2 = 20 ∧ hw 2 3 = 20 ∧ hw 2 4 = 20 := ⟨rfl, rfl, rfl, rfl, rfl⟩
    show sO N S T0 H0 R w m _ (ff_X13_does N m (Int32.ofInt 2) _)
    rw [tz_2 hi hR, dz_2 hk]
    rw [show 5 * i = 5 * i + 0 from rfl, show 5 * k = 5 * k + 0 from rfl, a0, a1, a2, a3, a4, b0, b1, b2, b3, b4]
    unfold ff_X12_tryFill
    rw [pc_has hS xc (by omega) (by omega), Option.bind_some, oz_ite, rc_isCell hS xr (by omega) (by omega), Option.bind_some, oz_ite]
    by_cases cc : ic S (V 0) (V 1)
    · have hic := cc
      unfold ic at hic
      rw [if_pos cc, if_pos cc, pc_fits hS xc cc (by omega) (by omega), Option.bind_some, oz_ite, pc_allows hS xc (by omega), Option.bind_some, oz_ite, rc_fits hS xr cc (by omega) (by omega) (by omega), Option.bind_some, oz_ite]
      by_cases cf : 1 ≤ V 2 ∧ V 2 ≤ S 0 - V 0 ∧ 1 ≤ V 3 ∧ V 3 ≤ S 1 - V 1
      · by_cases ch : (S 4 : Int) ≤ V 4 ∧ V 4 ≤ S 2
        · have e2 : Int32.ofInt (V 2) = Int32.ofInt (((V 2).toNat : Nat) : Int) := by rw [Int.toNat_of_nonneg (by omega)]
          have e3 : Int32.ofInt (V 3) = Int32.ofInt (((V 3).toNat : Nat) : Int) := by rw [Int.toNat_of_nonneg (by omega)]
          obtain ⟨o', e1, c1⟩ := pc_cover (N := N) (x := V 0) (y := V 1) (v := V 4) (w := (V 2).toNat) (r := (V 3).toNat) (by omega) hS xc xH (by omega) (by omega) ch
          obtain ⟨m', e5, c2, x2⟩ := rc_fills (N := N) (x := V 0) (y := V 1) (v := V 4) (w := (V 2).toNat) (r := (V 3).toNat) (by omega) hS xr (by omega) (by omega)
          rw [if_pos cf, if_pos ch, if_pos ⟨cf, ch⟩, e2, e3, e1, Option.bind_some, Option.bind_some, z1, e5, Option.bind_some]
          exact sO_yes hx c1 c2 xT (q_rb_hv xH ch) (fun a b d => ⟨rfl, q_rb_out (by omega) (by omega) rfl d⟩) x2 (fun j hj => by omega)
        · rw [if_pos cf, if_neg ch, if_neg (fun z => ch z.2), Option.bind_some, z0]
          exact sO_no hx
      · rw [if_neg cf, if_neg (fun z => cf z.1), Option.bind_some, z0]
        exact sO_no hx
    · rw [if_neg cc, if_neg cc, Option.bind_some, z0]
      exact sO_no hx
  · -- stamp
    obtain ⟨a0, b0⟩ := g 0 (by decide)
    obtain ⟨a1, b1⟩ := g 1 (by decide)
    obtain ⟨a2, b2⟩ := g 2 (by decide)
    obtain ⟨a3, b3⟩ := g 3 (by decide)
    have r0 := gr 0 (by decide)
    have r1 := gr 1 (by decide)
    have r2 := gr 2 (by decide)
    have r3 := gr 3 (by decide)
    have w0 : hw 3 0 = 20 ∧ hw 3 1 = 20 ∧ hw 3 2 = 20 ∧ hw 3 3 = 20 := ⟨rfl, rfl, rfl, rfl⟩
    show sO N S T0 H0 R w m _ (ff_X13_does N m (Int32.ofInt 3) _)
    rw [tz_3 hi hR, dz_3 hk]
    rw [show 5 * i = 5 * i + 0 from rfl, show 5 * k = 5 * k + 0 from rfl, a0, a1, a2, a3, b0, b1, b2, b3]
    unfold ff_X12_tryStamp
    rw [pc_place (by omega) (by omega), Option.bind_some, oz_ite, pc_has hS xc (by omega) (by omega), Option.bind_some, oz_ite, rc_isCell hS xr (by omega) (by omega), Option.bind_some, oz_ite, rc_place (by omega) (by omega), Option.bind_some, oz_ite]
    by_cases cp9 : rpl (V 0) (V 1)
    · by_cases cc : ic S (V 2) (V 3)
      · have hb1 := rkv_b xR.2.2 (rix_lt cp9)
        rw [if_pos cp9, if_pos cc, if_pos cc, if_pos cp9, pc_at xR (by omega) (by omega) cp9, Option.bind_some, m1_eq (by omega)]
        simp only [if_pos (rix_r cp9).1, (rix_r cp9).2]
        rw [xR.2.1 _ (rix_lt cp9), m1_eq (by omega)]
        by_cases e : R (rix (V 0) (V 1)) = -1
        · rw [if_pos e, if_pos e, Option.bind_some, z0]
          exact sO_no hx
        · obtain ⟨kk, aa, bb, q1, q2, q3, qe⟩ := (xR.2.2 _ (rix_lt cp9)).resolve_left e
          obtain ⟨o', e2, c1⟩ := pc_press (N := N) (by omega) hS xc xH q1 q2 q3 cc
          obtain ⟨m', e3, c2, x3⟩ := rc_presses (N := N) (by omega) hS xr xH q1 q2 q3 cc
          rw [if_neg e, if_neg e, Option.bind_some, qe, e2, Option.bind_some, Option.bind_some, z1, e3, Option.bind_some]
          exact sO_yes hx c1 c2 xT (q_stm_hv hS xH) (fun x y cc => ⟨rfl, q_pr_out cc⟩) x3 (fun j hj => by omega)
      · rw [if_pos cp9, if_neg cc, if_neg cc, Option.bind_some, z0]
        exact sO_no hx
    · rw [if_neg cp9, if_neg cp9, Option.bind_some, z0]
      by_cases cc : ic S (V 2) (V 3)
      · rw [if_pos cc]; exact sO_no hx
      · rw [if_neg cc]; exact sO_no hx
  · -- smooth
    obtain ⟨a0, b0⟩ := g 0 (by decide)
    have r0 := gr 0 (by decide)
    have w0 : hw 4 0 = 20 := rfl
    show sO N S T0 H0 R w m _ (ff_X13_does N m (Int32.ofInt 4) _)
    rw [tz_4 hi hR, dz_4 hk]
    rw [show 5 * i = 5 * i + 0 from rfl, show 5 * k = 5 * k + 0 from rfl, a0, b0]
    have el : ff_X11_isLimit N (Int32.ofInt (V 0)) = some (oz (decide (1 ≤ V 0))) := by
      unfold ff_X11_isLimit
      rw [ii_1, ii_20, ii_lt (by omega) (by omega), ii_lt (by omega) (by omega), if_neg (show ¬ (20 < V 0) by omega)]
      by_cases c : 1 ≤ V 0
      · rw [if_neg (by omega), decide_eq_true c]; rfl
      · rw [if_pos (by omega), decide_eq_false c]; rfl
    unfold ff_X12_trySmooth
    rw [el, Option.bind_some, oz_ite]
    simp only [i0_le (a := V 0) (by omega)]
    by_cases c1 : V 0 < 1
    · rw [if_neg (by omega), if_pos (by omega), Option.bind_some, z0]
      exact sO_no hx
    · obtain ⟨o2, w2, e2, c2⟩ := pc_flatten (N := N) (p := sp) (d := V 0) (by omega) hS xc xH (by omega)
      obtain ⟨m2, e3, r3, x3⟩ := rc_smooths (N := N) (d := V 0) (by omega) hS xr xH (by omega)
      rw [if_pos (by omega), if_neg (by omega), e2, Option.bind_some, Option.bind_some, z1, e3, Option.bind_some]
      exact sO_yes hx c2 r3 xT (q_vf_hv (q_fa_hv hS xH (by omega))) (fun x y c => ⟨rfl, q_vf_out c⟩) x3 (fun j hj => by omega)
  · -- repair
    show sO N S T0 H0 R w m _ (ff_X13_does N m (Int32.ofInt 5) _)
    rw [tz_5 hi hR, dz_5 hk]
    obtain ⟨w2, o2, e2, c2⟩ := pc_take (N := N) (ow := wa) hN hS xc xH
    obtain ⟨m2, e3, r3, x3⟩ := rc_take (N := N) hN hS xr xH
    rw [e2, Option.bind_some, e3, Option.bind_some]
    have hy : sy k41 jX m (ss_I m2 41 (Int32.ofInt (q_np S H : Nat))) := (x3.mono (fun j hj => by omega)).sy.tr (sy_I rfl)
    refine ⟨true, o2, sp, w2, _, T, q_hs S H (q_np S H), rfl, rfl, ⟨c2, ⟨r3.1, r3.2.1, r3.2.2⟩, xT, q_hsv hS xH _, fun x y c => ?_, xR.sy hy (by decide)⟩, hy⟩
    have h2 := xo x y c
    exact ⟨h2.1, (q_hso hS c _).trans h2.2⟩
  · -- ease
    show sO N S T0 H0 R w m _ (ff_X13_does N m (Int32.ofInt 6) _)
    rw [tz_6 hi hR, dz_6 hk]
    obtain ⟨o2, e2, c2⟩ := pc_settle (N := N) (by omega) hS xc xH
    obtain ⟨m2, e3, r3, x3⟩ := rc_eases (N := N) (by omega) hS xr xH
    rw [e2, Option.bind_some, e3, Option.bind_some]
    exact sO_yes hx c2 r3 xT (q_vf_hv (q_eas_hv hS xH)) (fun x y c => ⟨rfl, q_vf_out c⟩) x3 (fun j hj => by omega)
  · -- dither
    show sO N S T0 H0 R w m _ (ff_X13_does N m (Int32.ofInt 7) _)
    rw [tz_7 hi hR, dz_7 hk]
    obtain ⟨o2, e2, c2⟩ := pc_spread (N := N) (by omega) hS xc xT xH
    obtain ⟨m2, e3, r3, x3⟩ := rc_dithers (N := N) (by omega) hS xr xT xH
    rw [e2, Option.bind_some, e3, Option.bind_some]
    exact sO_yes hx c2 r3 xT (q_vf_hv (q_dit_hv hS xT)) (fun x y c => ⟨rfl, q_vf_out c⟩) x3 (fun j hj => by omega)
  · -- polish
    show sO N S T0 H0 R w m _ (ff_X13_does N m (Int32.ofInt 8) _)
    rw [tz_8 hi hR, dz_8 hk]
    obtain ⟨o2, e2, c2⟩ := pc_refine (N := N) (by omega) hS xc xT xH
    obtain ⟨m2, e3, r3, x3⟩ := rc_polish (N := N) (by omega) hS xr xT xH
    rw [e2, Option.bind_some, e3, Option.bind_some]
    exact sO_yes hx c2 r3 xT ((q_po_i hS xH _ (Nat.le_refl _)).1) (fun x y c => ⟨rfl, (q_po_i (T := T) hS xH _ (Nat.le_refl _)).2.1 x y c⟩) x3 (fun j hj => by omega)
  · -- invert
    show sO N S T0 H0 R w m _ (ff_X13_does N m (Int32.ofInt 9) _)
    rw [tz_9 hi hR, dz_9 hk]
    obtain ⟨o2, e2, c2⟩ := pc_negate (N := N) (by omega) hS xc xT (xH.wv hS)
    obtain ⟨m2, e3, r3, x3⟩ := rc_retones (N := N) (m := -1) (a := 255) (V := q_neg T) (by omega) hS xr xT (by omega) (by omega) (fun x y c => by have := xT x y c; unfold q_neg; omega)
    rw [e2, Option.bind_some, ii_m1, ii_255, e3, Option.bind_some]
    exact sO_yes hx c2 r3 (q_vf_tv (q_neg_tv xT)) (q_vf_hv (q_fol_hv hS (q_neg_tv xT))) (fun x y c => ⟨q_vf_out c, q_vf_out c⟩) x3 (fun j hj => by omega)
  · -- mirror
    show sO N S T0 H0 R w m _ (ff_X13_does N m (Int32.ofInt 10) _)
    rw [tz_10 hi hR, dz_10 hk]
    obtain ⟨o2, e2, c2⟩ := pc_turn (N := N) (by omega) hS xc xT.wv (xH.wv hS)
    obtain ⟨m2, e3, r3, x3⟩ := rc_mirrors (N := N) (by omega) hS xr
    rw [e2, Option.bind_some, e3, Option.bind_some]
    exact sO_yes hx c2 r3 (q_mir_tv xT) (q_mir_hv xH) (fun x y c => ⟨q_mir_out c, q_mir_out c⟩) x3 (fun j hj => by omega)
end Step
