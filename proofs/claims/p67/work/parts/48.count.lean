/-! LAYER 2. Groups of cells: the count of the class -/
section CountG
variable {N : Nat} {o w : os_T} {S : Nat → Nat} {T H : Int → Int → Int} {d : Int} {b : Bool} {P : Int → Int → Bool}
def q_gn (S : Nat → Nat) (P : Int → Int → Bool) (n : Nat) : Int := fo (fg (S 0) (fun x y a => a + (bif P x y then 1 else 0))) n 0
theorem q_gn_s (n : Nat) : q_gn S P (n + 1) = q_gn S P n + (bif P ((n % S 0 : Nat) : Int) ((n / S 0 : Nat) : Int) then 1 else 0) := rfl
theorem q_gn_x {x y : Nat} (hx : x < S 0) : q_gn S P (S 0 * y + (x + 1)) = q_gn S P (S 0 * y + x) + (bif P x y then 1 else 0) := by
  rw [← Nat.add_assoc, q_gn_s, fg_mod hx, fg_div hx]
def q_gm (S : Nat → Nat) (B : Int → Int → Prop) (w : os_T) (y x : Nat) : Prop := ∀ u v, ic S u v → (q_mm w u v ↔ ∃ a c, q_p1 y x a c ∧ q_rg B a c u v)
theorem q_gm_r {B : Int → Int → Prop} (hB : ∀ x y, B x y → ic S x y) {y : Nat} (h : q_gm S B w y (S 0)) : q_gm S B w (y + 1) 0 := fun u v c => by
  refine (h u v c).trans ⟨fun ⟨a, e, hp, hr⟩ => ⟨a, e, ?_, hr⟩, fun ⟨a, e, hp, hr⟩ => ⟨a, e, ?_, hr⟩⟩
  · unfold q_p1 at hp ⊢; omega
  · have := hB _ _ (q_rg_h hr)
    unfold ic at this
    unfold q_p1 at hp ⊢; omega
theorem q_p1_s {x y : Nat} {a c : Int} : q_p1 y (x + 1) a c ↔ q_p1 y x a c ∨ (a = x ∧ c = y) := by unfold q_p1; omega
theorem pc_groups2 (hN : 1000 < N) (hS : sv S) (h : cp o S T H) (hH : wv S H) (hd : ib d) (hP : q_gp S H d b P) (hw : ∀ j, j < 192 → os_A w 1 j = 0) : ∃ w', ff_X4_countOfGroups_l29 N o N (w, Int32.ofInt d, oz b, Int32.ofInt 0, Int32.ofInt ((0 : Nat) : Int)) = some (Int32.ofInt (q_cnt S P), w') := by
  have hs := sv_a hS
  have hBic : ∀ x y, q_in S H d b x y → ic S x y := fun x y z => z.1
  have key : ∃ v, (∃ w', v = some (Int32.ofInt (q_cnt S P), w')) ∧ ff_X4_countOfGroups_l29 N o N (w, Int32.ofInt d, oz b, Int32.ofInt 0, Int32.ofInt ((0 : Nat) : Int)) = v := by
    unfold ff_X4_countOfGroups_l29
    refine lo_gridI (N := N) (step2 := fun k2 r2 s1 => ff_X4_countOfGroups_c44 N o k2 r2 s1.1 s1.2.1 s1.2.2.1 s1.2.2.2.1 s1.2.2.2.2.1 s1.2.2.2.2.2) (fun y s => ∃ w', s = (w', Int32.ofInt d, oz b, Int32.ofInt (q_gn S P (S 0 * y)), Int32.ofInt (y : Int)) ∧ q_gm S (q_in S H d b) w' y 0) (fun y x s => ∃ w', s = (w', Int32.ofInt d, oz b, Int32.ofInt (q_gn S P (S 0 * y + x)), Int32.ofInt (y : Int), Int32.ofInt (x : Int)) ∧ q_gm S (q_in S H d b) w' y x) (fun v => ∃ w', v = some (Int32.ofInt (q_cnt S P), w')) (S 0) (S 1) ?_ ?_ ?_ ?_ (by omega) (by omega) ⟨w, rfl, fun u v c => ?_⟩
    · rintro y s hy ⟨w', rfl, hm⟩
      refine ⟨_, ⟨w', rfl, hm⟩, fun r => ?_⟩
      show ff_X4_countOfGroups_c29 N o r w' _ _ _ (Int32.ofInt (y : Int)) = _
      unfold ff_X4_countOfGroups_c29
      rw [if_neg (pc_rN hS h hy)]
      rfl
    · rintro x y s hx hy ⟨w', rfl, hm⟩
      have hc : ic S (x : Int) (y : Int) := ic_n hx hy
      have hpx := hP _ _ hc
      have hnext : ∀ k r w2, ff_X4_countOfGroups_b112 N o k r w2 (Int32.ofInt d) (oz b) (Int32.ofInt (q_gn S P (S 0 * y + x))) (Int32.ofInt (y : Int)) (Int32.ofInt (x : Int)) = r (w2, Int32.ofInt d, oz b, Int32.ofInt (q_gn S P (S 0 * y + x)), Int32.ofInt (y : Int), Int32.ofInt ((x + 1 : Nat) : Int)) := by
        intro k r w2
        unfold ff_X4_countOfGroups_b112
        rw [ii_1, ia_s]
      have hcall : ∀ k r, ff_X4_countOfGroups_c44 N o k r w' (Int32.ofInt d) (oz b) (Int32.ofInt (q_gn S P (S 0 * y + x))) (Int32.ofInt (y : Int)) (Int32.ofInt (x : Int)) = (if decide (d ≤ H x y) = b then ((some (if os_A w' 1 (16 * (y : Int) + x).toNat = 0 then (0 : Int32) else 1)).bind fun u_8 => (if u_8 = 0 then ((ff_X4_visitGroup N w' o (Int32.ofInt d) (Int32.ofInt (x : Int)) (Int32.ofInt (y : Int)) (oz b)).bind fun u_11 => (if oz b = 0 then (if u_11.1 = 0 then ff_X4_countOfGroups_b105 N o k r u_11.2 (Int32.ofInt d) (oz b) (Int32.ofInt (y : Int)) (Int32.ofInt (x : Int)) (Int32.ofInt (q_gn S P (S 0 * y + x))) else ff_X4_countOfGroups_b110 N o k r u_11.2 (Int32.ofInt d) (oz b) (Int32.ofInt (y : Int)) (Int32.ofInt (x : Int)) (0 : Int32) (Int32.ofInt (q_gn S P (S 0 * y + x)))) else ff_X4_countOfGroups_b105 N o k r u_11.2 (Int32.ofInt d) (oz b) (Int32.ofInt (y : Int)) (Int32.ofInt (x : Int)) (Int32.ofInt (q_gn S P (S 0 * y + x))))) else ff_X4_countOfGroups_b112 N o k r w' (Int32.ofInt d) (oz b) (Int32.ofInt (q_gn S P (S 0 * y + x))) (Int32.ofInt (y : Int)) (Int32.ofInt (x : Int)))) else ff_X4_countOfGroups_b112 N o k r w' (Int32.ofInt d) (oz b) (Int32.ofInt (q_gn S P (S 0 * y + x))) (Int32.ofInt (y : Int)) (Int32.ofInt (x : Int))) := by
        intro k r
        unfold ff_X4_countOfGroups_c44
        rw [if_neg (pc_wN hS h hx), pc_in hS h hH hc hd, Option.bind_some]
        simp only [oz_inj]
        rw [pc_was hS hc]
      by_cases e : decide (d ≤ H x y) = b
      · have hB : q_in S H d b x y := ⟨hc, e⟩
        by_cases z : os_A w' 1 (16 * (y : Int) + x).toNat = 0
        · obtain ⟨w2, fl, ev, hfl, hm2⟩ := pc_group (N := N) (w := w') hN hS h hH hd hB (fun z2 => z2 z) (fun u v u' v' cu mu hb hn => by
            obtain ⟨a, c, hp, hr⟩ := (hm u v cu).mp mu
            exact (hm u' v' hb.1).mpr ⟨a, c, hp, q_rg_s hr hb hn⟩)
          have hmin : q_mn (q_in S H d b) x y := by
            refine ⟨hB, fun u v hr => Int.not_lt.mp fun lt => ?_⟩
            have cu := (q_rg_t hr).1
            have : q_mm w' x y := (hm x y hc).mpr ⟨u, v, by unfold q_p1; unfold ic at cu; omega, q_rg_y hr⟩
            exact this z
          have hPv : P x y = (b || !fl) := by
            have h1 : P x y = true ↔ (b || !fl) = true := by
              rw [hpx, Bool.or_eq_true, Bool.not_eq_true']
              constructor
              · rintro ⟨_, h2 | h2⟩
                · exact Or.inl h2
                · exact Or.inr (by cases hf : fl with | false => rfl | true => exact absurd (hfl.mp hf) h2)
              · rintro (h2 | h2)
                · exact ⟨hmin, Or.inl h2⟩
                · exact ⟨hmin, Or.inr (fun z3 => by have := hfl.mpr z3; rw [h2] at this; cases this)⟩
            exact Bool.eq_iff_iff.mpr h1
          refine ⟨_, ⟨w2, rfl, fun u v cu => ?_⟩, fun k r => (hcall k r).trans ?_⟩
          · refine (hm2 u v cu).trans ⟨fun z2 => z2.elim (fun zm => ?_) (fun zr => ⟨x, y, q_p1_s.mpr (Or.inr ⟨rfl, rfl⟩), zr⟩), fun ⟨a, c, hp, hr⟩ => (q_p1_s.mp hp).elim (fun hp2 => Or.inl ((hm u v cu).mpr ⟨a, c, hp2, hr⟩)) (fun hp2 => Or.inr (by rw [← hp2.1, ← hp2.2]; exact hr))⟩
            obtain ⟨a, c, hp, hr⟩ := (hm u v cu).mp zm
            exact ⟨a, c, q_p1_s.mpr (Or.inl hp), hr⟩
          · rw [if_pos e, if_pos z, Option.bind_some, if_pos rfl, ev, Option.bind_some, q_gn_x hx, hPv]
            have h105 : ff_X4_countOfGroups_b105 N o k r w2 (Int32.ofInt d) (oz b) (Int32.ofInt (y : Int)) (Int32.ofInt (x : Int)) (Int32.ofInt (q_gn S P (S 0 * y + x))) = r (w2, Int32.ofInt d, oz b, Int32.ofInt (q_gn S P (S 0 * y + x) + 1), Int32.ofInt (y : Int), Int32.ofInt ((x + 1 : Nat) : Int)) := by
              unfold ff_X4_countOfGroups_b105 ff_X4_countOfGroups_b110 ff_X4_countOfGroups_b112
              rw [ii_1, ia_add, ia_s]
            have h110 : ff_X4_countOfGroups_b110 N o k r w2 (Int32.ofInt d) (oz b) (Int32.ofInt (y : Int)) (Int32.ofInt (x : Int)) (0 : Int32) (Int32.ofInt (q_gn S P (S 0 * y + x))) = r (w2, Int32.ofInt d, oz b, Int32.ofInt (q_gn S P (S 0 * y + x) + 0), Int32.ofInt (y : Int), Int32.ofInt ((x + 1 : Nat) : Int)) := by
              unfold ff_X4_countOfGroups_b110 ff_X4_countOfGroups_b112
              rw [ii_0, ii_1, ia_add, ia_s]
            cases hb : b with
            | true => rw [oz_bt rfl, ← hb, h105, hb]; rfl
            | false =>
              rw [oz_bf rfl, ← hb]
              cases hf : fl with
              | true => rw [oz_bt rfl, h110, hb]; rfl
              | false => rw [oz_bf rfl, h105, hb]; rfl
        · obtain ⟨a, c, hp, hr⟩ := (hm x y hc).mp z
          have hPf : P x y = false := by
            cases hpe : P x y with
            | false => rfl
            | true =>
              have h1 := (hpx.mp hpe).1.2 a c (q_rg_y hr)
              have ca := (q_rg_h hr).1
              unfold q_p1 at hp
              unfold ic at ca
              omega
          refine ⟨_, ⟨w', rfl, fun u v cu => ?_⟩, fun k r => (hcall k r).trans ?_⟩
          · refine (hm u v cu).trans ⟨fun ⟨a, c, hp, hr⟩ => ⟨a, c, q_p1_s.mpr (Or.inl hp), hr⟩, fun ⟨a2, c2, hp2, hr2⟩ => (q_p1_s.mp hp2).elim (fun hp3 => ⟨a2, c2, hp3, hr2⟩) (fun hp3 => ⟨a, c, hp, q_rg_tr hr (by rw [← hp3.1, ← hp3.2]; exact hr2)⟩)⟩
          · rw [if_pos e, if_neg z, Option.bind_some, if_neg (by decide), hnext, q_gn_x hx, hPf]
            show r (_, _, _, _, _, _) = r (_, _, _, Int32.ofInt (q_gn S P (S 0 * y + x) + 0), _, _)
            rw [Int.add_zero]
      · have hPf : P x y = false := by
          cases hpe : P x y with
          | false => rfl
          | true => exact absurd (hpx.mp hpe).1.1.2 e
        refine ⟨_, ⟨w', rfl, fun u v cu => ?_⟩, fun k r => (hcall k r).trans ?_⟩
        · refine (hm u v cu).trans ⟨fun ⟨a, c, hp, hr⟩ => ⟨a, c, q_p1_s.mpr (Or.inl hp), hr⟩, fun ⟨a2, c2, hp2, hr2⟩ => (q_p1_s.mp hp2).elim (fun hp3 => ⟨a2, c2, hp3, hr2⟩) (fun hp3 => absurd (q_rg_h hr2).2 (by rw [hp3.1, hp3.2]; exact e))⟩
        · rw [if_neg e, hnext, q_gn_x hx, hPf]
          show r (_, _, _, _, _, _) = r (_, _, _, Int32.ofInt (q_gn S P (S 0 * y + x) + 0), _, _)
          rw [Int.add_zero]
    · rintro y s hy ⟨w', rfl, hm⟩
      refine ⟨_, ⟨w', rfl, q_gm_r hBic hm⟩, fun k r => ?_⟩
      show ff_X4_countOfGroups_c44 N o k r w' _ _ _ (Int32.ofInt (y : Int)) (Int32.ofInt (S 0 : Int)) = _
      unfold ff_X4_countOfGroups_c44
      rw [if_pos (pc_wE h), ii_1, ia_s, Nat.mul_succ]
    · rintro s ⟨w', rfl, hm⟩
      refine ⟨_, ⟨w', rfl⟩, fun r => ?_⟩
      show ff_X4_countOfGroups_c29 N o r w' _ _ _ (Int32.ofInt (S 1 : Int)) = _
      unfold ff_X4_countOfGroups_c29
      rw [if_pos (pc_rE h)]
      rfl
    · have hr := ic_r hS c
      refine ⟨fun z => absurd (hw _ (by omega)) z, fun ⟨a, e, hp, hr⟩ => ?_⟩
      have := (q_rg_h hr).1
      unfold q_p1 at hp
      unfold ic at this
      omega
  obtain ⟨v, ⟨w', rfl⟩, e⟩ := key
  exact ⟨w', e⟩
theorem pc_groups (hN : 1000 < N) (hS : sv S) (h : cp o S T H) (hH : wv S H) (hd : ib d) (hP : q_gp S H d b P) : ∃ w', ff_X4_countOfGroups N w o (Int32.ofInt d) (oz b) = some (Int32.ofInt (q_cnt S P), w') := by
  unfold ff_X4_countOfGroups
  have key : ∃ v, (∃ w', v = some (Int32.ofInt (q_cnt S P), w')) ∧ ff_X4_countOfGroups_l2 N o N (w, Int32.ofInt d, oz b, Int32.ofInt ((0 : Nat) : Int)) = v := by
    unfold ff_X4_countOfGroups_l2
    refine lo_cnt (N := N) (fun k s => ∃ w', s = (w', Int32.ofInt d, oz b, Int32.ofInt (k : Int)) ∧ ∀ j, j < k → os_A w' 1 j = 0) (fun v => ∃ w', v = some (Int32.ofInt (q_cnt S P), w')) 192 ?_ ?_ (by omega) ⟨w, rfl, fun j hj => absurd hj (Nat.not_lt_zero j)⟩
    · rintro k s hk ⟨w', rfl, hm⟩
      refine ⟨_, ⟨ss_A w' 1 (upd (os_A w' 1) k 0), rfl, fun j hj => ?_⟩, fun r => ?_⟩
      · show upd (os_A w' 1) k 0 j = 0
        by_cases e : j = k
        · rw [e, up_eq]
        · rw [up_ne e]; exact hm j (by omega)
      · show ff_X4_countOfGroups_c2 N o r w' (Int32.ofInt d) (oz b) (Int32.ofInt (k : Int)) = _
        unfold ff_X4_countOfGroups_c2
        have hin : os_in (Int32.ofInt (k : Int)) 192 := ia_in (by omega) (by omega) (by omega)
        rw [ii_192, ii_le (by omega) (by omega), if_neg (by omega), if_pos hin, nar_0, ia_nat (by omega) (by omega), Int.toNat_natCast, ii_1, ia_s]
    · rintro s ⟨w', rfl, hm⟩
      obtain ⟨w2, e2⟩ := pc_groups2 (N := N) hN hS h hH hd hP hm
      refine ⟨_, ⟨w2, rfl⟩, fun r => ?_⟩
      show ff_X4_countOfGroups_c2 N o r w' (Int32.ofInt d) (oz b) (Int32.ofInt ((192 : Nat) : Int)) = _
      unfold ff_X4_countOfGroups_c2
      rw [if_pos (by decide)]
      exact e2
  obtain ⟨v, ⟨w', rfl⟩, e⟩ := key
  exact ⟨w', e⟩
end CountG
