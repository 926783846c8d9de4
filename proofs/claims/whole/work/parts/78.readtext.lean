/-! LAYER 2. What was read holds: readText, pairwise -/
section ReadText
variable {N L : Nat} {X : tx} {x o oh t m y w d : os_T} {p n : Nat} {S : Nat → Nat} {T H : Int → Int → Int} {r : Nat} {B : Nat → Int} {P : Nat → os_T} {U : Nat → (Int → Int → Int) × (Int → Int → Int)}
def wb (S : Nat → Nat) (H : Int → Int → Int) : Prop := ∀ x y, ic S x y → ib (H x y)
theorem pc_buildB (hS : sv S) (h : cp o S T H) (hH : wb S H) {x y v : Int} (hc : ic S x y) (hv : ib v) : ∃ o', ff_X5_build N o (Int32.ofInt x) (Int32.ofInt y) (Int32.ofInt v) = some (Int32.ofInt (if H x y = v then 0 else 1), o') ∧ cp o' S T (hu H x y v) := by
  have := ic_r hS hc
  have hh := hH x y hc
  unfold ff_X5_build
  rw [pc_has hS h (by omega) (by omega), decide_eq_true hc, Option.bind_some, if_neg (by decide)]
  simp only [if_pos (cp_in hS hc)]
  rw [cp_na hS hc, h.2.2.1 x y hc, ii_eq hh hv]
  by_cases c : H x y = v
  · rw [if_pos c, if_pos c]
    refine ⟨o, rfl, ?_⟩
    rw [← c, hu_id]
    exact h
  · rw [if_neg c, if_neg c]
    exact ⟨_, rfl, cp_hu hS h hc⟩
theorem q_vg_wb {V : Int → Int → Int} (hH : wb S H) (hV : wb S V) (y x : Nat) : wb S (q_vg S H V y x) := fun a b c => by
  unfold q_vg
  split
  · exact hV a b c
  · exact hH a b c
theorem pc_followB (hN : 1000 < N) (hS : sv S) (h : cp o S T H) (hH : wb S H) (hT : tv S T) : ∃ o', ff_X5_followTones N o = some (Int32.ofInt (q_df S H (q_vf S H (q_fol S T))), o') ∧ cp o' S T (q_vf S H (q_fol S T)) := by
  have hs := sv_a hS
  unfold ff_X5_followTones ff_X5_followTones_l4
  refine vis_grid (step2 := fun k2 r2 s1 => ff_X5_followTones_c14 N k2 r2 s1.1 s1.2.1 s1.2.2.1 s1.2.2.2) hN hS h (q_fol S T) 0 (by omega) (fun a b c l => by omega) ?_ ?_ ?_ ?_
  · intro y o' c r G hy h'
    show ff_X5_followTones_c4 N r o' c (Int32.ofInt (y : Int)) = _
    unfold ff_X5_followTones_c4
    rw [if_neg (pc_rN hS h' hy)]
    rfl
  · intro x y o' c hx hy _ h'
    have hc : ic S (x : Int) (y : Int) := ic_n hx hy
    have ht := hT _ _ hc
    have hv := (q_fol_hv hS hT) _ _ hc
    have hw := q_vg_wb (V := q_fol S T) hH (fun a b c => by have := (q_fol_hv hS hT) a b c; omega) y x
    obtain ⟨o2, eb, h2⟩ := pc_buildB (N := N) hS h' hw hc (v := q_fol S T x y) (by omega)
    refine ⟨o2, h2, fun k r => ?_⟩
    rw [q_vg_at] at eb
    show ff_X5_followTones_c14 N k r o' c (Int32.ofInt (y : Int)) (Int32.ofInt (x : Int)) = _
    unfold ff_X5_followTones_c14
    rw [if_neg (pc_wN hS h' hx), pc_wishAt hS h' hT hc, Option.bind_some, pc_stepFor hN hS h' (fl_w200 (by omega)), Option.bind_some]
    show ((ff_X5_build N o' (Int32.ofInt (x : Int)) (Int32.ofInt (y : Int)) (Int32.ofInt (q_fol S T x y))).bind _) = _
    rw [eb, Option.bind_some, ii_1, ia_s]
  · intro y o' c k r G hy h'
    show ff_X5_followTones_c14 N k r o' c (Int32.ofInt (y : Int)) (Int32.ofInt (S 0 : Int)) = _
    unfold ff_X5_followTones_c14
    rw [if_pos (pc_wE h'), ii_1, ia_s]
  · intro o' c r G h'
    show ff_X5_followTones_c4 N r o' c (Int32.ofInt (S 1 : Int)) = _
    unfold ff_X5_followTones_c4
    rw [if_pos (pc_rE h')]
/-- the heights of a relief that was read -/
def q_rd (S : Nat → Nat) (T : Int → Int → Int) : Int → Int → Int := q_vf S (fun _ _ => 0) (q_fol S T)
theorem vf_eq {f : Nat → UInt32} {k : Nat} {v : UInt32} : vf_upd f k v k = v := by unfold vf_upd; simp
theorem vf_ne {f : Nat → UInt32} {k j : Nat} {v : UInt32} (h : j ≠ k) : vf_upd f k v j = f j := by unfold vf_upd; simp [h]
theorem pc_develop (hN : 1000 < N) (hS : sv S) (hd : ∀ i, i < 7 → os_I d i = Int32.ofInt (S i : Int)) (hA : a16 (os_A d 0) T) (hT : tv S T) : ∃ d', ff_X5_develop N d = some d' ∧ cp d' S T (q_rd S T) := by
  have hs := sv_a hS
  have key := lo_cnt (N := N) (step := fun k13 s1 => ff_X5_develop_c13 N k13 s1.1 s1.2.1 s1.2.2.1 s1.2.2.2)
    (fun k s => s.2.1 = fl_f (S 3) ∧ s.2.2.1 = fl_l (S 3) k ∧ s.2.2.2 = Int32.ofInt (k : Int) ∧ (∀ j, j < k → os_F s.1 0 j = fl_l (S 3) j) ∧ (∀ i, os_I s.1 i = os_I d i) ∧ ∀ j, os_A s.1 j = os_A d j)
    (fun v => ∃ d', v = some d' ∧ cp d' S T (q_rd S T))
    21 ?_ ?_ (by omega) (s := (d, fl_f (S 3), FP.fconst1, (0 : Int32))) ⟨rfl, rfl, rfl, fun j hj => by omega, fun _ => rfl, fun _ => rfl⟩
  · obtain ⟨v, ⟨d', rfl, h⟩, e⟩ := key
    refine ⟨d', ?_, h⟩
    unfold ff_X5_develop
    rw [hd 3 (by decide)]
    show (if os_nn (fl_f (S 3)) then ff_X5_develop_l13 N N (d, fl_f (S 3), FP.fconst1, (0 : Int32)) else none) = _
    rw [if_pos (fl_fn (by omega) (by omega))]
    exact e
  · intro k s hk hI
    obtain ⟨d1, f1, l1, a1⟩ := s
    obtain ⟨e1, e2, e3, hF, hI1, hA1⟩ := hI
    have e1 : f1 = _ := e1
    have e2 : l1 = _ := e2
    have e3 : a1 = _ := e3
    subst e1
    subst e2
    subst e3
    refine ⟨(ss_F d1 0 (vf_upd (os_F d1 0) k (fl_l (S 3) k)), fl_f (S 3), fl_l (S 3) (k + 1), Int32.ofInt ((k + 1 : Nat) : Int)), ⟨rfl, rfl, rfl, fun j hj => ?_, hI1, hA1⟩, fun g => ?_⟩
    · show vf_upd (os_F d1 0) k (fl_l (S 3) k) j = _
      by_cases c : j = k
      · subst c; rw [vf_eq]
      · rw [vf_ne c]; exact hF j (by omega)
    · show ff_X5_develop_c13 N g d1 (fl_f (S 3)) (fl_l (S 3) k) (Int32.ofInt (k : Int)) = _
      unfold ff_X5_develop_c13
      have e21 : ((21 : Int32) ≤ Int32.ofInt (k : Int)) = (21 ≤ (k : Int)) := ia_le (a := 21) (by omega) (by omega) (by omega) (by omega)
      simp only [e21]
      rw [if_neg (by omega), if_pos (ia_in (by omega) (by omega) (by omega)), ia_nat (by omega) (by omega), Int.toNat_natCast, ii_1, ia_add]
      have hn : os_nn (FP.fmul (fl_l (S 3) k) (fl_f (S 3))) := fl_n (k := k + 1) (by omega) (by omega) (by omega)
      rw [if_pos hn]
      rfl
  · intro s hI
    obtain ⟨d1, f1, l1, a1⟩ := s
    obtain ⟨e1, e2, e3, hF, hI1, hA1⟩ := hI
    have e1 : f1 = _ := e1
    have e2 : l1 = _ := e2
    have e3 : a1 = _ := e3
    subst e1
    subst e2
    subst e3
    have hc : cp d1 S T (fun a b => (os_A d1 1 (16 * b + a).toNat).toInt) := ⟨fun i hi => by rw [hI1]; exact hd i hi, fun a b c => by
      have hr := ic_r hS c
      have hc : 0 ≤ a ∧ a < 16 ∧ 0 ≤ b ∧ b < 12 := by unfold ic at c; omega
      have e0 : os_A d1 0 = os_A d 0 := hA1 0
      rw [e0]
      exact a16_to hA a b hc.1 hc.2.1 hc.2.2.1 hc.2.2.2, fun a b c => (Int32.ofInt_toInt _).symm, fun k hk => hF k (by omega)⟩
    obtain ⟨d2, w2, c2⟩ := pc_followB (N := N) hN hS hc (fun a b c => ⟨Int32.le_toInt _, by have := Int32.toInt_lt (os_A d1 1 (16 * b + a).toNat); omega⟩) hT
    refine ⟨some d2, ⟨d2, rfl, c2.cg (fun _ _ _ => rfl) fun a b c => ?_⟩, fun g => ?_⟩
    · rw [q_vf_in c]
      unfold q_rd
      rw [q_vf_in c]
    · show ff_X5_develop_c13 N g d1 (fl_f (S 3)) (fl_l (S 3) 21) (Int32.ofInt ((21 : Nat) : Int)) = _
      unfold ff_X5_develop_c13
      rw [if_pos (show (21 : Int32) ≤ Int32.ofInt ((21 : Nat) : Int) by decide), w2, Option.bind_some]
theorem rc_lays (hN : 1000 < N) (hS : sv S) (h2 : ∀ i, i < 7 → os_A m 2 i = Int32.ofInt (S i : Int)) (h5 : a16 (os_A m 5) T) (hT : tv S T) : ∃ m', ff_X13_lays N m = some m' ∧ rp m' S T (q_rd S T) ∧ os_I m' 29 = 0 ∧ sy (fun i => i = 29) (fun j => j = 1 ∨ j = 3 ∨ j = 4) m m' := by
  have hs := sv_a hS
  -- the third loop
  have l3 : ∀ m1 : os_T, rp m1 S T (fun _ _ => 0) → sy (fun i => i = 29) (fun j => j = 1 ∨ j = 3 ∨ j = 4) m m1 → ∃ m', ff_X13_lays_l62 N N (m1, (0 : Int32)) = some m' ∧ rp m' S T (q_rd S T) ∧ os_I m' 29 = 0 ∧ sy (fun i => i = 29) (fun j => j = 1 ∨ j = 3 ∨ j = 4) m m' := by
    intro m1 hm1 y1
    have key := lo_cnt (N := N) (step := fun k62 s1 => ff_X13_lays_c62 N k62 s1.1 s1.2)
      (fun k s => s.2 = Int32.ofInt (k : Int) ∧ rp s.1 S T (fun a b => if 16 * b + a < k then q_rd S T a b else 0) ∧ sy (fun i => i = 29) (fun j => j = 1 ∨ j = 3 ∨ j = 4) m s.1)
      (fun v => ∃ m', v = some m' ∧ rp m' S T (q_rd S T) ∧ os_I m' 29 = 0 ∧ sy (fun i => i = 29) (fun j => j = 1 ∨ j = 3 ∨ j = 4) m m')
      192 ?_ ?_ (by omega) (s := (m1, (0 : Int32))) ⟨rfl, ⟨hm1.1, hm1.2.1, fun a b b1 b2 b3 b4 => by
        dsimp only
        rw [if_neg (by omega)]
        exact hm1.2.2 a b b1 b2 b3 b4⟩, y1⟩
    · obtain ⟨v, ⟨m', rfl, h⟩, e⟩ := key
      exact ⟨m', e, h⟩
    · intro k s hk hI
      obtain ⟨m2, a2⟩ := s
      obtain ⟨e1, hr, hy⟩ := hI
      have e1 : a2 = _ := e1
      subst e1
      have hr : rp m2 S T (fun a b => if 16 * b + a < k then q_rd S T a b else 0) := hr
      have em : Int32.ofInt (k : Int) - Int32.ofInt (k : Int) / (16 : Int32) * (16 : Int32) = Int32.ofInt ((k % 16 : Nat) : Int) := by
        rw [ii_16, ia_div (by omega) (by omega) (by omega) (by omega), ia_mul, ia_sub, ia_emod]; rfl
      have ed : Int32.ofInt (k : Int) / (16 : Int32) = Int32.ofInt ((k / 16 : Nat) : Int) := by
        rw [ii_16, ia_div (by omega) (by omega) (by omega) (by omega)]; rfl
      have einc : Int32.ofInt (k : Int) + 1 = Int32.ofInt ((k + 1 : Nat) : Int) := by rw [ii_1, ia_add]; rfl
      have ecell : ∀ g, ff_X13_lays_c62 N g m2 (Int32.ofInt (k : Int)) = if ic S ((k % 16 : Nat) : Int) ((k / 16 : Nat) : Int) then (if os_in (Int32.ofInt (k : Int)) 192 then ((ff_X13_wantedBy N ((os_A m2 3) (Int32.toNatClampNeg (Int32.ofInt (k : Int))))).bind fun u_13 => ((ff_X13_heightBy N m2 u_13).bind fun u_15 => (if os_in (Int32.ofInt (k : Int)) 192 then ff_X13_lays_b103 N g (ss_A m2 4 (upd (os_A m2 4) (Int32.toNatClampNeg (Int32.ofInt (k : Int))) u_15)) (Int32.ofInt (k : Int)) else none))) else none) else ff_X13_lays_b103 N g m2 (Int32.ofInt (k : Int)) := fun g => by
        unfold ff_X13_lays_c62
        rw [ii_192, ii_le (by omega) (by omega), if_neg (by omega), em, ed, rc_isCell hS hr (by omega) (by omega), Option.bind_some, oz_ite]
      by_cases c : ic S ((k % 16 : Nat) : Int) ((k / 16 : Nat) : Int)
      · have ht := hT _ _ c
        have e3 : os_A m2 3 k = Int32.ofInt (T ((k % 16 : Nat) : Int) ((k / 16 : Nat) : Int)) := (rp_a hr).1 k hk
        have hin : os_in (Int32.ofInt (k : Int)) 192 := ia_in (by omega) (by omega) (by omega)
        refine ⟨(ss_A m2 4 (upd (os_A m2 4) k (Int32.ofInt (q_rd S T ((k % 16 : Nat) : Int) ((k / 16 : Nat) : Int)))), Int32.ofInt ((k + 1 : Nat) : Int)), ⟨rfl, ⟨hr.1, hr.2.1, fun a b b1 b2 b3 b4 => ?_⟩, hy.tr (sy_A (Or.inr (Or.inr rfl)))⟩, fun g => ?_⟩
        · show upd (os_A m2 4) k _ (16 * b + a).toNat = _
          by_cases e : (16 * b + a).toNat = k
          · dsimp only
            rw [e, up_eq, if_pos (by omega)]
            have e5 : ((k % 16 : Nat) : Int) = a := by omega
            have e6 : ((k / 16 : Nat) : Int) = b := by omega
            rw [e5, e6]
          · rw [up_ne e]
            have := hr.2.2 a b b1 b2 b3 b4
            rw [this]
            dsimp only
            by_cases c9 : 16 * b + a < k
            · rw [if_pos c9, if_pos (by omega)]
            · rw [if_neg c9, if_neg (by omega)]
        · refine (ecell g).trans ?_
          rw [if_pos c]
          simp only [if_pos hin]
          rw [ia_nat (by omega) (by omega), Int.toNat_natCast, e3, rc_wantedBy ht.1 ht.2, Option.bind_some, rc_heightBy hN hS hr (fl_w200 (by omega)), Option.bind_some]
          unfold ff_X13_lays_b103 q_rd
          rw [einc, q_vf_in c]
          rfl
      · refine ⟨(m2, Int32.ofInt ((k + 1 : Nat) : Int)), ⟨rfl, ⟨hr.1, hr.2.1, fun a b b1 b2 b3 b4 => ?_⟩, hy⟩, fun g => ?_⟩
        · have := hr.2.2 a b b1 b2 b3 b4
          show os_A m2 4 _ = _
          rw [this]
          dsimp only
          by_cases c9 : 16 * b + a < k
          · rw [if_pos c9, if_pos (by omega)]
          · rw [if_neg c9]
            by_cases c8 : 16 * b + a < ((k + 1 : Nat) : Int)
            · have e5 : ((k % 16 : Nat) : Int) = a := by omega
              have e6 : ((k / 16 : Nat) : Int) = b := by omega
              rw [if_pos c8]
              unfold q_rd
              rw [q_vf_out (by rw [← e5, ← e6]; exact c)]
            · rw [if_neg c8]
        · refine (ecell g).trans ?_
          rw [if_neg c]
          unfold ff_X13_lays_b103
          rw [einc]
    · intro s hI
      obtain ⟨m2, a2⟩ := s
      obtain ⟨e1, hr, hy⟩ := hI
      have e1 : a2 = _ := e1
      subst e1
      refine ⟨_, ⟨ss_I m2 29 (0 : Int32), rfl, ⟨hr.1, hr.2.1, fun a b b1 b2 b3 b4 => ?_⟩, rfl, hy.tr (sy_I rfl)⟩, fun g => ?_⟩
      · have := hr.2.2 a b b1 b2 b3 b4
        dsimp only at this
        rw [if_pos (by omega)] at this
        exact this
      · show ff_X13_lays_c62 N g m2 (Int32.ofInt ((192 : Nat) : Int)) = _
        unfold ff_X13_lays_c62
        rw [if_pos (by decide)]
  -- the second loop
  have l2 : ∀ m1 : os_T, (∀ i, i < 7 → os_A m1 1 i = Int32.ofInt (S i : Int)) → os_A m1 5 = os_A m 5 → sy (fun i => i = 29) (fun j => j = 1 ∨ j = 3 ∨ j = 4) m m1 → ∃ m', ff_X13_lays_l28 N N (m1, (0 : Int32)) = some m' ∧ rp m' S T (q_rd S T) ∧ os_I m' 29 = 0 ∧ sy (fun i => i = 29) (fun j => j = 1 ∨ j = 3 ∨ j = 4) m m' := by
    intro m1 g1 g5 y1
    have key := lo_cnt (N := N) (step := fun k28 s1 => ff_X13_lays_c28 N k28 s1.1 s1.2)
      (fun k s => s.2 = Int32.ofInt (k : Int) ∧ (∀ i, i < 7 → os_A s.1 1 i = Int32.ofInt (S i : Int)) ∧ os_A s.1 5 = os_A m 5 ∧ (∀ i, i < k → os_A s.1 3 i = os_A m 5 i ∧ os_A s.1 4 i = 0) ∧ sy (fun i => i = 29) (fun j => j = 1 ∨ j = 3 ∨ j = 4) m s.1)
      (fun v => ∃ m', v = some m' ∧ rp m' S T (q_rd S T) ∧ os_I m' 29 = 0 ∧ sy (fun i => i = 29) (fun j => j = 1 ∨ j = 3 ∨ j = 4) m m')
      192 ?_ ?_ (by omega) (s := (m1, (0 : Int32))) ⟨rfl, g1, g5, fun i hi => by omega, y1⟩
    · obtain ⟨v, ⟨m', rfl, h⟩, e⟩ := key
      exact ⟨m', e, h⟩
    · intro k s hk hI
      obtain ⟨m2, a2⟩ := s
      obtain ⟨e1, f1, f5, f34, hy⟩ := hI
      have e1 : a2 = _ := e1
      subst e1
      have f5 : os_A m2 5 = os_A m 5 := f5
      have hin : os_in (Int32.ofInt (k : Int)) 192 := ia_in (by omega) (by omega) (by omega)
      refine ⟨(ss_A (ss_A m2 3 (upd (os_A m2 3) k (os_A m 5 k))) 4 (upd (os_A m2 4) k (0 : Int32)), Int32.ofInt ((k + 1 : Nat) : Int)), ⟨rfl, f1, f5, fun i hi => ?_, (hy.tr (sy_A (Or.inr (Or.inl rfl)))).tr (sy_A (Or.inr (Or.inr rfl)))⟩, fun g => ?_⟩
      · show upd (os_A m2 3) k (os_A m 5 k) i = _ ∧ upd (os_A m2 4) k (0 : Int32) i = 0
        by_cases c : i = k
        · subst c; rw [up_eq, up_eq]; exact ⟨rfl, rfl⟩
        · rw [up_ne c, up_ne c]; exact f34 i (by omega)
      · show ff_X13_lays_c28 N g m2 (Int32.ofInt (k : Int)) = _
        unfold ff_X13_lays_c28
        rw [ii_192, ii_le (by omega) (by omega), if_neg (by omega), if_pos hin, if_pos hin, if_pos hin, ia_nat (by omega) (by omega), Int.toNat_natCast, f5, ii_1, ia_add]
        rfl
    · intro s hI
      obtain ⟨m2, a2⟩ := s
      obtain ⟨e1, f1, f5, f34, hy⟩ := hI
      have e1 : a2 = _ := e1
      subst e1
      obtain ⟨m3, w3, h3⟩ := l3 m2 (rp_mk f1 (fun k hk => by rw [(f34 k hk).1]; exact h5 k hk) (fun k hk => (f34 k hk).2)) hy
      refine ⟨_, ⟨m3, rfl, h3⟩, fun g => ?_⟩
      show ff_X13_lays_c28 N g m2 (Int32.ofInt ((192 : Nat) : Int)) = _
      unfold ff_X13_lays_c28
      rw [if_pos (by decide), w3]
  -- the first loop
  have key := lo_cnt (N := N) (step := fun k2 s1 => ff_X13_lays_c2 N k2 s1.1 s1.2)
    (fun k s => s.2 = Int32.ofInt (k : Int) ∧ (∀ i, i < k → os_A s.1 1 i = Int32.ofInt (S i : Int)) ∧ os_A s.1 5 = os_A m 5 ∧ os_A s.1 2 = os_A m 2 ∧ sy (fun i => i = 29) (fun j => j = 1 ∨ j = 3 ∨ j = 4) m s.1)
    (fun v => ∃ m', v = some m' ∧ rp m' S T (q_rd S T) ∧ os_I m' 29 = 0 ∧ sy (fun i => i = 29) (fun j => j = 1 ∨ j = 3 ∨ j = 4) m m')
    7 ?_ ?_ (by omega) (s := (m, (0 : Int32))) ⟨rfl, fun i hi => by omega, rfl, rfl, sy.rf⟩
  · obtain ⟨v, ⟨m', rfl, h⟩, e⟩ := key
    exact ⟨m', e, h⟩
  · intro k s hk hI
    obtain ⟨m2, a2⟩ := s
    obtain ⟨e1, f1, f5, f2, hy⟩ := hI
    have e1 : a2 = _ := e1
    subst e1
    have f2 : os_A m2 2 = os_A m 2 := f2
    have hin : os_in (Int32.ofInt (k : Int)) 7 := ia_in (by omega) (by omega) (by omega)
    refine ⟨(ss_A m2 1 (upd (os_A m2 1) k (Int32.ofInt (S k : Int))), Int32.ofInt ((k + 1 : Nat) : Int)), ⟨rfl, fun i hi => ?_, f5, f2, hy.tr (sy_A (Or.inl rfl))⟩, fun g => ?_⟩
    · show upd (os_A m2 1) k _ i = _
      by_cases c : i = k
      · subst c; rw [up_eq]
      · rw [up_ne c]; exact f1 i (by omega)
    · show ff_X13_lays_c2 N g m2 (Int32.ofInt (k : Int)) = _
      unfold ff_X13_lays_c2
      rw [ii_7, ii_le (by omega) (by omega), if_neg (by omega), if_pos hin, if_pos hin, ia_nat (by omega) (by omega), Int.toNat_natCast, f2, h2 k hk, ii_1, ia_add]
      rfl
  · intro s hI
    obtain ⟨m2, a2⟩ := s
    obtain ⟨e1, f1, f5, f2, hy⟩ := hI
    have e1 : a2 = _ := e1
    subst e1
    obtain ⟨m3, w3, h3⟩ := l2 m2 f1 f5 hy
    refine ⟨_, ⟨m3, rfl, h3⟩, fun g => ?_⟩
    show ff_X13_lays_c2 N g m2 (Int32.ofInt ((7 : Nat) : Int)) = _
    unfold ff_X13_lays_c2
    rw [if_pos (by decide), w3]
theorem jr_sq {m' : os_T} {K J : Nat → Prop} (h : jr o oh P m S T H n U) (hx : sq K J m m') (h1 : ¬ J 1) (h3 : ¬ J 3) (h4 : ¬ J 4) (h10 : ¬ J 10) (h29 : ¬ K 29) : jr o oh P m' S T H n U := by
  obtain ⟨b1, b2, b3, b4, b5⟩ := h
  refine ⟨b1, b2, ⟨?_, ?_, ?_⟩, ⟨b4.1, ?_, ?_⟩, b5⟩
  · rw [hx.2 1 h1]; exact b3.1
  · rw [hx.2 3 h3]; exact b3.2.1
  · rw [hx.2 4 h4]; exact b3.2.2
  · rw [hx.1 29 h29]; exact b4.2.1
  · rw [hx.2 10 h10]; exact b4.2.2
abbrev kR : Nat → Prop := fun i => i = 0 ∨ (2 ≤ i ∧ i ≤ 11) ∨ (18 ≤ i ∧ i ≤ 23) ∨ i = 29 ∨ (38 ≤ i ∧ i ≤ 40)
abbrev jR : Nat → Prop := fun j => (1 ≤ j ∧ j ≤ 5) ∨ j = 13 ∨ j = 14
theorem jr_readText (hN : 100000 < N) (hS : sv S) (hj : jr o oh P m S T H n U) (hb : tb t m L B) : ∃ (k : Nat) (c : Int32) (x2 o2 w2 oh2 t2 y2 m2 : os_T) (S2 : Nat → Nat) (T2 H2 : Int → Int → Int) (n2 : Nat) (U2 : Nat → (Int → Int → Int) × (Int → Int → Int)), ff_X12_readText N x o w oh t y = some (k, c, x2, o2, w2, oh2, t2, y2) ∧ ff_X13_readText N m = some (c, m2) ∧ sv S2 ∧ jr o2 oh2 P m2 S2 T2 H2 n2 U2 ∧ tb t2 m2 0 B ∧ er x2 m2 ∧ sy (fun i => i = 13 ∨ i = 14) (fun _ => False) x x2 ∧ sq kR jR m m2 ∧ ((k = 0 ∧ os_I m2 0 = 0) ∨ (k = 2 ∧ os_I m2 0 = 1)) := by
  obtain ⟨X, t1, m1, e1, e2, h1, hC, z2, q1⟩ := tj_begin (N := N) (by omega) hb
  obtain ⟨m2, e3, f2, f5, f18, q2⟩ := rc_begins (N := N) (m := m1) (by omega)
  obtain ⟨d1, e4, g1, g0⟩ := pc_clear (N := N) (d := w)
  have h2 : tj X t1 m2 0 := h1.sy q2 (fun i h1 h2 h3 => by omega) (by decide)
  have hr : rd (ss_I (ss_I (ss_I (ss_I (ss_I (ss_I y 2 (0 : Int32)) 3 (0 : Int32)) 4 (0 : Int32)) 5 (0 : Int32)) 6 (0 : Int32)) 7 (0 : Int32)) d1 m2 s_0 (fun _ _ => 255) 0 := by
    refine ⟨s_0v, Nat.zero_le _, g1, f2, g0, f5, fun a b _ _ _ _ => ⟨(show (0 : Int) ≤ 255 ∧ (255 : Int) ≤ 255 by decide), fun _ => rfl⟩, fun k k1 k2 => ?_, rfl, f18 22 (by decide) (by decide), (f18 23 (by decide) (by decide)).symm⟩
    rw [f18 (16 + k) (by omega) (by omega)]
    have hk : k = 2 ∨ k = 3 ∨ k = 4 ∨ k = 5 := by omega
    rcases hk with rfl | rfl | rfl | rfl <;> exact ⟨rfl, Or.inl rfl⟩
  have q3 : sq kR jR m m2 := (q1.mono (fun i hi => by omega) (fun j hj => hj.elim)).tr (q2.sq.mono (fun i hi => by omega) (fun j hj => by omega))
  have z22 : os_I m2 2 = 0 := by rw [q2.1 2 (by decide)]; exact z2
  unfold ff_X12_readText ff_X7_readDraft ff_X13_readText
  rw [e4, Option.bind_some, e1, Option.bind_some, e2, Option.bind_some, e3, Option.bind_some]
  rcases dr_loop (N := N) (m0 := m2) (by omega) hC h2 hr sq.rf with ⟨y3, t3, d3, m3, p3, S3, T3, r3, w1, w2, h3, hr3, q4⟩ | ⟨y3, t3, d3, m3, w1, w2, h3, q4⟩
  · have q5 : sq kR jR m m3 := q3.tr (q4.mono (fun i hi => by omega) (fun j hj => by omega))
    have z3 : os_I m3 2 = 0 := by rw [q4.1 2 (by decide)]; exact z22
    have hs3 := sv_a hr3.1
    have hT3 : tv S3 T3 := fun a b c => by
      have hc : 0 ≤ a ∧ a < 16 ∧ 0 ≤ b ∧ b < 12 := by unfold ic at c; omega
      exact (hr3.2.2.2.2.2.2.1 a b hc.1 hc.2.1 hc.2.2.1 hc.2.2.2).1
    obtain ⟨d4, w3, c4⟩ := pc_develop (N := N) (by omega) hr3.1 hr3.2.2.1 hr3.2.2.2.2.1 hT3
    obtain ⟨x4, t4, m4, w4, w5, her, htb, z0, qx, qm⟩ := tj_end (N := N) (x := x) (B := B) h3 z3
    obtain ⟨o4, w6, c6⟩ := pc_copy (N := N) (p := o) hr3.1 c4
    obtain ⟨oh4, w7, c7⟩ := pc_forget (N := N) (S' := S3) (U' := U) hj.2.1
    obtain ⟨m5, w8, r5, z29, q6⟩ := rc_lays (N := N) (m := m4) (T := T3) (by omega) hr3.1 (by rw [qm.2.2 2 (fun z => z)]; exact hr3.2.2.2.1) (by rw [qm.2.2 5 (fun z => z)]; exact hr3.2.2.2.2.2.1) hT3
    have q7 : sq kR jR m m5 := (q5.tr (qm.sq.mono (fun i hi => by omega) (fun j hj => hj.elim))).tr (q6.sq.mono (fun i hi => by omega) (fun j hj => by omega))
    refine ⟨0, os_I y3 7, x4, o4, d4, oh4, t4, y3, m5, S3, T3, q_rd S3 T3, 0, U, ?_, ?_, hr3.1, ⟨c6, c7, r5, ⟨by decide, z29, fun i hi => by omega⟩, hT3, q_vf_hv (q_fol_hv hr3.1 hT3), fun a b b1 b2 b3 b4 c => ⟨?_, q_vf_out c⟩, fun i hi => by omega⟩, ⟨htb.1, htb.2.1, ?_, fun i hi => by omega⟩, ⟨?_, ?_⟩, qx, q7, Or.inl ⟨rfl, ?_⟩⟩
    · rw [w1]
      unfold ff_X7_readDraft_b100
      rw [w3, Option.bind_some, Option.bind_some, if_pos rfl, w4, Option.bind_some, if_neg (show ¬ ((1 : Int32) = 0) by decide), w6, Option.bind_some, w7, Option.bind_some]
    · rw [w2]
      unfold ff_X13_readText_b45
      rw [w5, Option.bind_some, if_neg (show ¬ ((1 : Int32) = 0) by decide), w8, Option.bind_some, q6.1 23 (by decide), qm.1 23 (by decide), hr3.2.2.2.2.2.2.2.2.2.2]
    · have hr2 := hr3.2.1
      exact (hr3.2.2.2.2.2.2.1 a b b1 b2 b3 b4).2 (fun z => c (by unfold ic; omega))
    · rw [q6.1 2 (by decide)]; exact htb.2.2.1
    · rw [q6.1 10 (by decide)]; exact her.1
    · rw [q6.1 11 (by decide)]; exact her.2
    · rw [q6.1 0 (by decide)]; exact z0
  · have q5 : sq kR jR m m3 := q3.tr (q4.mono (fun i hi => by omega) (fun j hj => by omega))
    have q5' : sq (fun i => i = 0 ∨ (2 ≤ i ∧ i ≤ 11) ∨ (18 ≤ i ∧ i ≤ 23) ∨ (38 ≤ i ∧ i ≤ 40)) jt m m3 := ((q1.mono (fun i hi => by omega) (fun j hj => hj.elim)).tr (q2.sq.mono (fun i hi => by omega) (fun j hj => by omega))).tr (q4.mono (fun i hi => by omega) (fun j hj => hj))
    have z3 : os_I m3 2 = 0 := by rw [q4.1 2 (by decide)]; exact z22
    obtain ⟨x4, t4, m4, w4, w5, her, htb, z0, qx, qm⟩ := te_end (N := N) (x := x) (B := B) h3 z3
    refine ⟨2, 0, x4, o, d3, oh, t4, y3, m4, S, T, H, n, U, ?_, ?_, hS, jr_sq hj (q5'.tr (qm.sq.mono (fun i hi => by omega) (fun j hj => hj.elim))) (by decide) (by decide) (by decide) (by decide) (by decide), htb, her, qx, q5.tr (qm.sq.mono (fun i hi => by omega) (fun j hj => hj.elim)), Or.inr ⟨rfl, z0⟩⟩
    · rw [w1, Option.bind_some, if_pos rfl, w4, Option.bind_some, if_pos rfl]
    · rw [w2]
      unfold ff_X13_readText_b45
      rw [w5, Option.bind_some, if_pos rfl]
end ReadText
