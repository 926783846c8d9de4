/-! LAYER 2. Parts and hollows of the reference -/
section Parts
variable {N : Nat} {o : os_T} {S : Nat → Nat} {T H : Int → Int → Int} {d : Int} {P : Int → Int → Bool} {L : Nat → Int}
theorem rc_parts (hN : 1000 < N) (hS : sv S) (h : rp o S T H) (hH : wv S H) (hd : ib d) (hL : q_L o L) (hQ : q_Q (q_in S H d true) L) (hF : q_Fx S H d true L) (hP : q_gp S H d true P) : ff_X13_parts_l24 N N (o, Int32.ofInt d, Int32.ofInt 0, Int32.ofInt ((0 : Nat) : Int)) = some (Int32.ofInt (q_cnt S P), o) := by
  have hs := sv_a hS
  have hwh := sv_wh hS
  unfold ff_X13_parts_l24
  refine lo_fo (N := N) (fun (a : Int) k => (o, Int32.ofInt d, Int32.ofInt a, Int32.ofInt (k : Int))) (fg (S 0) (fun x y a => a + (bif P x y then 1 else 0))) 0 (S 0 * S 1) ?_ ?_ (by omega)
  · intro k a hk _ r
    have hc := ic_k hS hk
    have hr := ic_r hS hc
    have h0 := hH _ _ hc
    have hLk := hL (16 * ((k / S 0 : Nat) : Int) + ((k % S 0 : Nat) : Int)).toNat (by omega)
    have hpx := hP _ _ hc
    have hin : os_in (Int32.ofInt (16 * ((k / S 0 : Nat) : Int) + ((k % S 0 : Nat) : Int))) 192 := ia_in (by omega) (by omega) (by omega)
    show ff_X13_parts_c24 N r o (Int32.ofInt d) (Int32.ofInt a) (Int32.ofInt (k : Int)) = r (o, Int32.ofInt d, Int32.ofInt (a + (bif P ((k % S 0 : Nat) : Int) ((k / S 0 : Nat) : Int) then 1 else 0)), Int32.ofInt ((k + 1 : Nat) : Int))
    unfold ff_X13_parts_c24 ff_X13_parts_b69 ff_X13_parts_b70
    rw [rc_cellMany h, Option.bind_some, ii_le (by omega) (by omega), if_neg (by omega), rc_cellAt hS h (by omega), Option.bind_some, Option.bind_some, Option.bind_some]
    simp only [if_pos hin]
    rw [ia_nat (by omega) (by omega), rp_h h hS hc, hLk.1, ii_lt (by omega) (by omega), ii_eq (by omega) (by omega)]
    by_cases c : H ((k % S 0 : Nat) : Int) ((k / S 0 : Nat) : Int) < d
    · have hPf : P ((k % S 0 : Nat) : Int) ((k / S 0 : Nat) : Int) = false := by
        cases hpe : P ((k % S 0 : Nat) : Int) ((k / S 0 : Nat) : Int) with
        | false => rfl
        | true => have := of_decide_eq_true (hpx.mp hpe).1.1.2; omega
      rw [if_pos c, hPf, rc_t0, Option.bind_some, ia_add, ii_1, ia_s]; rfl
    · have hb : q_in S H d true ((k % S 0 : Nat) : Int) ((k / S 0 : Nat) : Int) := ⟨hc, decide_eq_true (by omega)⟩
      have hm := q_Fx_m hQ hF hb
      rw [if_neg c]
      by_cases e : L (16 * ((k / S 0 : Nat) : Int) + ((k % S 0 : Nat) : Int)).toNat = 16 * ((k / S 0 : Nat) : Int) + ((k % S 0 : Nat) : Int)
      · rw [if_pos e, show ff_X13_truth N 1 = some (Int32.ofInt 1) from rfl, Option.bind_some, hpx.mpr ⟨hm.mp e, Or.inl rfl⟩, ia_add, ii_1, ia_s]; rfl
      · have hPf : P ((k % S 0 : Nat) : Int) ((k / S 0 : Nat) : Int) = false := by
          cases hpe : P ((k % S 0 : Nat) : Int) ((k / S 0 : Nat) : Int) with
          | false => rfl
          | true => exact absurd (hm.mpr (hpx.mp hpe).1) e
        rw [if_neg e, hPf, rc_t0, Option.bind_some, ia_add, ii_1, ia_s]; rfl
  · intro r
    show ff_X13_parts_c24 N r o (Int32.ofInt d) _ (Int32.ofInt ((S 0 * S 1 : Nat) : Int)) = _
    unfold ff_X13_parts_c24
    rw [rc_cellMany h, Option.bind_some, if_pos (Int32.le_refl _)]
    rfl
theorem rc_isEdge (hS : sv S) (h : rp o S T H) {x y : Int} (c : ic S x y) : ∃ e : Bool, ff_X13_isEdge N o (Int32.ofInt x) (Int32.ofInt y) = some (oz e) ∧ (e = true ↔ q_ed S x y) := by
  have hs := sv_a hS
  have hr := ic_r hS c
  have hxy : 0 ≤ x ∧ 0 ≤ y := by unfold ic at c; omega
  have e1 : (Int32.ofInt x = 0) = (x = 0) := i0_eq (by omega)
  have e2 : (Int32.ofInt y = 0) = (y = 0) := i0_eq (by omega)
  unfold ff_X13_isEdge ff_X13_isEdge_b32 q_ed
  simp only [e1, e2]
  by_cases c1 : x = 0
  · rw [if_pos c1]; exact ⟨true, rfl, fun _ => Or.inl c1, fun _ => rfl⟩
  · rw [if_neg c1]
    by_cases c2 : y = 0
    · rw [if_pos c2]; exact ⟨true, rfl, fun _ => Or.inr (Or.inl c2), fun _ => rfl⟩
    · rw [if_neg c2, if_pos nw_0, if_pos nw_1, rs_0 h, rs_1 h, ii_1, ia_sub, ia_sub, ii_eq (by omega) (by omega), ii_eq (by omega) (by omega)]
      by_cases c3 : x = (S 0 : Int) - 1
      · rw [if_pos c3]; exact ⟨true, rfl, fun _ => Or.inr (Or.inr (Or.inl c3)), fun _ => rfl⟩
      · rw [if_neg c3]
        by_cases c4 : y = (S 1 : Int) - 1
        · rw [if_pos c4]; exact ⟨true, rfl, fun _ => Or.inr (Or.inr (Or.inr c4)), fun _ => rfl⟩
        · rw [if_neg c4]; exact ⟨false, rfl, (fun z => by cases z), (fun z => by omega)⟩
theorem q_if {x y : Int} (c : ic S x y) (hl : ¬ d ≤ H x y) : q_in S H d false x y := ⟨c, decide_eq_false hl⟩
theorem rc_hol3 (hN : 1000 < N) (hS : sv S) (h : rp o S T H) (hH : wv S H) (hd : ib d) (hL : q_L o L) (hQ : q_Q (q_in S H d false) L) (hF : q_Fx S H d false L) (hP : q_gp S H d false P) (hE : ∀ m : Nat, m < 192 → (os_A o 6 m ≠ 0 ↔ ∃ u v, q_in S H d false u v ∧ q_ed S u v ∧ L (16 * v + u).toNat = (m : Int))) : ff_X13_hollows_l105 N N (o, Int32.ofInt d, Int32.ofInt 0, Int32.ofInt ((0 : Nat) : Int)) = some (Int32.ofInt (q_cnt S P), o) := by
  have hs := sv_a hS
  have hwh := sv_wh hS
  unfold ff_X13_hollows_l105
  refine lo_fo (N := N) (fun (a : Int) k => (o, Int32.ofInt d, Int32.ofInt a, Int32.ofInt (k : Int))) (fg (S 0) (fun x y a => a + (bif P x y then 1 else 0))) 0 (S 0 * S 1) ?_ ?_ (by omega)
  · intro k a hk _ r
    have hc := ic_k hS hk
    have hr := ic_r hS hc
    have h0 := hH _ _ hc
    have hLk := hL (16 * ((k / S 0 : Nat) : Int) + ((k % S 0 : Nat) : Int)).toNat (by omega)
    have hEk := hE (16 * ((k / S 0 : Nat) : Int) + ((k % S 0 : Nat) : Int)).toNat (by omega)
    have hpx := hP _ _ hc
    have hin : os_in (Int32.ofInt (16 * ((k / S 0 : Nat) : Int) + ((k % S 0 : Nat) : Int))) 192 := ia_in (by omega) (by omega) (by omega)
    show ff_X13_hollows_c105 N r o (Int32.ofInt d) (Int32.ofInt a) (Int32.ofInt (k : Int)) = r (o, Int32.ofInt d, Int32.ofInt (a + (bif P ((k % S 0 : Nat) : Int) ((k / S 0 : Nat) : Int) then 1 else 0)), Int32.ofInt ((k + 1 : Nat) : Int))
    unfold ff_X13_hollows_c105 ff_X13_hollows_b163 ff_X13_hollows_b164
    rw [rc_cellMany h, Option.bind_some, ii_le (by omega) (by omega), if_neg (by omega), rc_cellAt hS h (by omega), Option.bind_some, Option.bind_some, Option.bind_some, Option.bind_some]
    simp only [if_pos hin]
    rw [ia_nat (by omega) (by omega), rp_h h hS hc, hLk.1, ii_le (by omega) (by omega), ii_eq (by omega) (by omega)]
    have hno : P ((k % S 0 : Nat) : Int) ((k / S 0 : Nat) : Int) = false → (ff_X13_truth N 0).bind (fun u_39 => r (o, Int32.ofInt d, Int32.ofInt a + u_39, Int32.ofInt (k : Int) + 1)) = r (o, Int32.ofInt d, Int32.ofInt (a + (bif P ((k % S 0 : Nat) : Int) ((k / S 0 : Nat) : Int) then 1 else 0)), Int32.ofInt ((k + 1 : Nat) : Int)) := fun hf => by
      rw [hf, rc_t0, Option.bind_some, ia_add, ii_1, ia_s]; rfl
    by_cases c : d ≤ H ((k % S 0 : Nat) : Int) ((k / S 0 : Nat) : Int)
    · rw [if_pos c]
      refine hno ?_
      cases hpe : P ((k % S 0 : Nat) : Int) ((k / S 0 : Nat) : Int) with
      | false => rfl
      | true => have := of_decide_eq_false (hpx.mp hpe).1.1.2; omega
    · have hb : q_in S H d false ((k % S 0 : Nat) : Int) ((k / S 0 : Nat) : Int) := q_if hc c
      have hm := q_Fx_m hQ hF hb
      rw [if_neg c]
      by_cases e : L (16 * ((k / S 0 : Nat) : Int) + ((k % S 0 : Nat) : Int)).toNat = 16 * ((k / S 0 : Nat) : Int) + ((k % S 0 : Nat) : Int)
      · rw [if_pos e]
        by_cases z : os_A o 6 (16 * ((k / S 0 : Nat) : Int) + ((k % S 0 : Nat) : Int)).toNat = 0
        · have hPt : P ((k % S 0 : Nat) : Int) ((k / S 0 : Nat) : Int) = true := hpx.mpr ⟨hm.mp e, Or.inr fun ⟨u, v, hr2, hed⟩ => hEk.mpr ⟨u, v, q_rg_t hr2, hed, by rw [q_Fx_e hF hr2]; omega⟩ z⟩
          rw [if_pos z, show ff_X13_truth N 1 = some (Int32.ofInt 1) from rfl, Option.bind_some, hPt, ia_add, ii_1, ia_s]; rfl
        · rw [if_neg z]
          refine hno ?_
          cases hpe : P ((k % S 0 : Nat) : Int) ((k / S 0 : Nat) : Int) with
          | false => rfl
          | true =>
            obtain ⟨u, v, hbu, hed, hl⟩ := hEk.mp z
            obtain ⟨⟨u2, v2, hr2, he2⟩, _⟩ := hQ u v hbu
            have hcu := (q_rg_t hr2).1
            have hr3 := ic_r hS hcu
            obtain ⟨rfl, rfl⟩ := ic_inj hS hc hcu (by omega)
            exact absurd ⟨u, v, q_rg_y hr2, hed⟩ ((hpx.mp hpe).2.resolve_left (by decide))
      · rw [if_neg e]
        refine hno ?_
        cases hpe : P ((k % S 0 : Nat) : Int) ((k / S 0 : Nat) : Int) with
        | false => rfl
        | true => exact absurd (hm.mpr (hpx.mp hpe).1) e
  · intro r
    show ff_X13_hollows_c105 N r o (Int32.ofInt d) _ (Int32.ofInt ((S 0 * S 1 : Nat) : Int)) = _
    unfold ff_X13_hollows_c105
    rw [rc_cellMany h, Option.bind_some, if_pos (Int32.le_refl _)]
    rfl
theorem rc_hol2 (hN : 1000 < N) (hS : sv S) (h : rp o S T H) (hH : wv S H) (hd : ib d) (hL : q_L o L) (hQ : q_Q (q_in S H d false) L) (hF : q_Fx S H d false L) (hP : q_gp S H d false P) (hE : ∀ m : Nat, m < 192 → os_A o 6 m = 0) : ∃ o', ff_X13_hollows_l44 N N (o, Int32.ofInt d, Int32.ofInt ((0 : Nat) : Int)) = some (Int32.ofInt (q_cnt S P), o') ∧ sx (fun j => j = 6) o o' := by
  have hs := sv_a hS
  have hwh := sv_wh hS
  have key : ∃ v, (∃ o', v = some (Int32.ofInt (q_cnt S P), o') ∧ sx (fun j => j = 6) o o') ∧ ff_X13_hollows_l44 N N (o, Int32.ofInt d, Int32.ofInt ((0 : Nat) : Int)) = v := by
    unfold ff_X13_hollows_l44
    refine lo_cnt (N := N) (fun k s => ∃ o', s = (o', Int32.ofInt d, Int32.ofInt (k : Int)) ∧ sx (fun j => j = 6) o o' ∧ ∀ m : Nat, m < 192 → (os_A o' 6 m ≠ 0 ↔ ∃ j, j < k ∧ q_in S H d false ((j % S 0 : Nat) : Int) ((j / S 0 : Nat) : Int) ∧ q_ed S ((j % S 0 : Nat) : Int) ((j / S 0 : Nat) : Int) ∧ L (16 * ((j / S 0 : Nat) : Int) + ((j % S 0 : Nat) : Int)).toNat = (m : Int))) (fun v => ∃ o', v = some (Int32.ofInt (q_cnt S P), o') ∧ sx (fun j => j = 6) o o') (S 0 * S 1) ?_ ?_ (by omega) ⟨o, rfl, sx.rf, fun m hm => ⟨fun z => absurd (hE m hm) z, fun ⟨j, hj, _⟩ => absurd hj (Nat.not_lt_zero j)⟩⟩
    · rintro k s hk ⟨o', rfl, hx, hm⟩
      have h' := h.sx hx (by decide) (by decide) (by decide)
      have hc := ic_k hS hk
      have hr := ic_r hS hc
      have h0 := hH _ _ hc
      have hxy : ((k % S 0 : Nat) : Int) < 16 ∧ ((k / S 0 : Nat) : Int) < 12 := by have := hc; unfold ic at this; omega
      have hL9 : os_A o' 9 = os_A o 9 := hx.2.2 9 (by decide)
      have hLk := hL (16 * ((k / S 0 : Nat) : Int) + ((k % S 0 : Nat) : Int)).toNat (by omega)
      have hin : os_in (Int32.ofInt (16 * ((k / S 0 : Nat) : Int) + ((k % S 0 : Nat) : Int))) 192 := ia_in (by omega) (by omega) (by omega)
      obtain ⟨e, ee, he⟩ := rc_isEdge (N := N) hS h' hc
      have c16 := ia_c16 (x := ((k % S 0 : Nat) : Int)) (y := ((k / S 0 : Nat) : Int)) (by omega) hxy.1 (by omega) hxy.2
      have hskip : (¬ (q_in S H d false ((k % S 0 : Nat) : Int) ((k / S 0 : Nat) : Int) ∧ q_ed S ((k % S 0 : Nat) : Int) ((k / S 0 : Nat) : Int))) → ∀ m : Nat, m < 192 → (os_A o' 6 m ≠ 0 ↔ ∃ j, j < k + 1 ∧ q_in S H d false ((j % S 0 : Nat) : Int) ((j / S 0 : Nat) : Int) ∧ q_ed S ((j % S 0 : Nat) : Int) ((j / S 0 : Nat) : Int) ∧ L (16 * ((j / S 0 : Nat) : Int) + ((j % S 0 : Nat) : Int)).toNat = (m : Int)) := fun hn m hm2 => by
        refine (hm m hm2).trans ⟨fun ⟨j, hj, hq⟩ => ⟨j, by omega, hq⟩, fun ⟨j, hj, hq⟩ => ⟨j, ?_, hq⟩⟩
        by_cases ejk : j = k
        · subst ejk; exact absurd ⟨hq.1, hq.2.1⟩ hn
        · omega
      have hb95 : ∀ r o3, ff_X13_hollows_b95 N r o3 (Int32.ofInt d) (Int32.ofInt (k : Int)) = r (o3, Int32.ofInt d, Int32.ofInt ((k + 1 : Nat) : Int)) := fun r o3 => by
        unfold ff_X13_hollows_b95
        rw [ii_1, ia_s]
      by_cases c : d ≤ H ((k % S 0 : Nat) : Int) ((k / S 0 : Nat) : Int)
      · refine ⟨_, ⟨o', rfl, hx, hskip (fun z => by have := of_decide_eq_false z.1.2; omega)⟩, fun r => ?_⟩
        show ff_X13_hollows_c44 N r o' (Int32.ofInt d) (Int32.ofInt (k : Int)) = _
        unfold ff_X13_hollows_c44
        rw [rc_cellMany h', Option.bind_some, ii_le (by omega) (by omega), if_neg (by omega), rc_cellAt hS h' (by omega), Option.bind_some]
        simp only [if_pos hin]
        rw [ia_nat (by omega) (by omega), rp_h h' hS hc, ii_le (by omega) (by omega), if_pos c, hb95]
      · have hb := q_if hc c
        have hcall : ∀ r, ff_X13_hollows_c44 N r o' (Int32.ofInt d) (Int32.ofInt (k : Int)) = (if oz e = 0 then r (o', Int32.ofInt d, Int32.ofInt ((k + 1 : Nat) : Int)) else r (ss_A o' 6 (upd (os_A o' 6) (L (16 * ((k / S 0 : Nat) : Int) + ((k % S 0 : Nat) : Int)).toNat).toNat 1), Int32.ofInt d, Int32.ofInt ((k + 1 : Nat) : Int))) := by
          intro r
          unfold ff_X13_hollows_c44
          rw [rc_cellMany h', Option.bind_some, ii_le (by omega) (by omega), if_neg (by omega), rc_cellAt hS h' (by omega), Option.bind_some]
          simp only [if_pos hin]
          rw [ia_nat (by omega) (by omega), rp_h h' hS hc, ii_le (by omega) (by omega), if_neg c, c16.1, c16.2, ee, Option.bind_some, hL9, hLk.1, if_pos (ia_in (by omega) (by omega) (by omega)), ia_nat (by omega) (by omega), nar_1, hb95, hb95]
        cases hce : e with
        | false =>
          refine ⟨_, ⟨o', rfl, hx, hskip (fun z => by have := he.mpr z.2; rw [hce] at this; cases this)⟩, fun r => (hcall r).trans ?_⟩
          rw [hce, oz_bf rfl]
        | true =>
          refine ⟨_, ⟨ss_A o' 6 (upd (os_A o' 6) (L (16 * ((k / S 0 : Nat) : Int) + ((k % S 0 : Nat) : Int)).toNat).toNat 1), rfl, hx.tr (sx_A rfl), fun m hm2 => ?_⟩, fun r => (hcall r).trans ?_⟩
          · show upd (os_A o' 6) (L (16 * ((k / S 0 : Nat) : Int) + ((k % S 0 : Nat) : Int)).toNat).toNat 1 m ≠ 0 ↔ _
            by_cases em : m = (L (16 * ((k / S 0 : Nat) : Int) + ((k % S 0 : Nat) : Int)).toNat).toNat
            · rw [em, up_eq]
              exact ⟨fun _ => ⟨k, Nat.lt_succ_self k, hb, he.mp hce, by omega⟩, fun _ => by decide⟩
            · rw [up_ne em]
              refine (hm m hm2).trans ⟨fun ⟨j, hj, hq⟩ => ⟨j, by omega, hq⟩, fun ⟨j, hj, hq⟩ => ⟨j, ?_, hq⟩⟩
              by_cases ejk : j = k
              · subst ejk; have := hq.2.2; omega
              · omega
          · rw [hce, oz_bt rfl]
    · rintro s ⟨o', rfl, hx, hm⟩
      have h' := h.sx hx (by decide) (by decide) (by decide)
      have hL' : q_L o' L := fun k hk => by rw [hx.2.2 9 (by decide)]; exact hL k hk
      have e3 := rc_hol3 (N := N) hN hS h' hH hd hL' hQ hF hP (fun m hm2 => (hm m hm2).trans ⟨fun ⟨j, hj, hr⟩ => ⟨_, _, hr⟩, fun ⟨u, v, hr⟩ => by
        obtain ⟨k, hk, rfl, rfl⟩ := ck_of hr.1.1
        exact ⟨k, hk, hr⟩⟩)
      refine ⟨_, ⟨o', rfl, hx⟩, fun r => ?_⟩
      show ff_X13_hollows_c44 N r o' (Int32.ofInt d) (Int32.ofInt ((S 0 * S 1 : Nat) : Int)) = _
      unfold ff_X13_hollows_c44
      rw [rc_cellMany h', Option.bind_some, if_pos (Int32.le_refl _)]
      exact e3
  obtain ⟨v, ⟨o', rfl, hm⟩, e⟩ := key
  exact ⟨o', e, hm⟩
theorem rc_hol (hN : 1000 < N) (hS : sv S) (h : rp o S T H) (hH : wv S H) (hd : ib d) (hL : q_L o L) (hQ : q_Q (q_in S H d false) L) (hF : q_Fx S H d false L) (hP : q_gp S H d false P) : ∃ o', ff_X13_hollows_l22 N N (o, Int32.ofInt d, Int32.ofInt ((0 : Nat) : Int)) = some (Int32.ofInt (q_cnt S P), o') ∧ sx (fun j => j = 6) o o' := by
  have key : ∃ v, (∃ o', v = some (Int32.ofInt (q_cnt S P), o') ∧ sx (fun j => j = 6) o o') ∧ ff_X13_hollows_l22 N N (o, Int32.ofInt d, Int32.ofInt ((0 : Nat) : Int)) = v := by
    unfold ff_X13_hollows_l22
    refine lo_cnt (N := N) (fun k s => ∃ o', s = (o', Int32.ofInt d, Int32.ofInt (k : Int)) ∧ sx (fun j => j = 6) o o' ∧ ∀ j, j < k → os_A o' 6 j = 0) (fun v => ∃ o', v = some (Int32.ofInt (q_cnt S P), o') ∧ sx (fun j => j = 6) o o') 192 ?_ ?_ (by omega) ⟨o, rfl, sx.rf, fun j hj => absurd hj (Nat.not_lt_zero j)⟩
    · rintro k s hk ⟨o', rfl, hx, hm⟩
      refine ⟨_, ⟨ss_A o' 6 (upd (os_A o' 6) k 0), rfl, hx.tr (sx_A rfl), fun j hj => ?_⟩, fun r => ?_⟩
      · show upd (os_A o' 6) k 0 j = _
        by_cases e : j = k
        · rw [e, up_eq]
        · rw [up_ne e]; exact hm j (by omega)
      · show ff_X13_hollows_c22 N r o' (Int32.ofInt d) (Int32.ofInt (k : Int)) = _
        unfold ff_X13_hollows_c22
        have hin : os_in (Int32.ofInt (k : Int)) 192 := ia_in (by omega) (by omega) (by omega)
        rw [ii_192, ii_le (by omega) (by omega), if_neg (by omega), if_pos hin, nar_0, ia_nat (by omega) (by omega), Int.toNat_natCast, ii_1, ia_s]
    · rintro s ⟨o', rfl, hx, hm⟩
      have h' := h.sx hx (by decide) (by decide) (by decide)
      have hL' : q_L o' L := fun k hk => by rw [hx.2.2 9 (by decide)]; exact hL k hk
      obtain ⟨o2, e2, hx2⟩ := rc_hol2 (N := N) hN hS h' hH hd hL' hQ hF hP hm
      refine ⟨_, ⟨o2, rfl, hx.tr hx2⟩, fun r => ?_⟩
      show ff_X13_hollows_c22 N r o' (Int32.ofInt d) (Int32.ofInt ((192 : Nat) : Int)) = _
      unfold ff_X13_hollows_c22
      rw [if_pos (by decide)]
      exact e2
  obtain ⟨v, ⟨o', rfl, hm⟩, e⟩ := key
  exact ⟨o', e, hm⟩
end Parts
