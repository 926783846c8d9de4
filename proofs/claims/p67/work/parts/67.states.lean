/-! LAYER 2. Statements as they are read -/
section ReadText
variable {N L : Nat} {x o oh t m y w d : os_T} {p n : Nat} {S : Nat → Nat} {T H : Int → Int → Int} {r : Nat} {B : Nat → Int}
theorem a16_hu {f : Nat → Int32} {G : Int → Int → Int} {a b v : Int} (h : a16 f G) (h1 : 0 ≤ a) (h2 : a < 16) (h3 : 0 ≤ b) : a16 (upd f (16 * b + a).toNat (Int32.ofInt v)) (hu G a b v) := by
  intro k hk
  by_cases c : k = (16 * b + a).toNat
  · subst c
    rw [up_eq]
    have e1 : (((16 * b + a).toNat % 16 : Nat) : Int) = a := by omega
    have e2 : (((16 * b + a).toNat / 16 : Nat) : Int) = b := by omega
    rw [e1, e2, hu_at]
  · rw [up_ne c, h k hk, hu_ne (fun z => c (by omega))]
def wb (S : Nat → Nat) (H : Int → Int → Int) : Prop := ∀ x y, ic S x y → ib (H x y)
theorem pc_buildB (hS : sv S) (h : cp o S T H) (hH : wb S H) {x y v : Int} (hc : ic S x y) (hv : ib v) : ∃ o', ff_X5_build N o (Int32.ofInt x) (Int32.ofInt y) (Int32.ofInt v) = some (Int32.ofInt (if H x y = v then 0 else 1), o') ∧ cp o' S T (hu H x y v) := by
  have := ic_r hS hc
  have hh := hH x y hc
  unfold ff_X5_build
  rw [pc_has hS h (by omega) (by omega), decide_eq_true hc, Option.bind_some, if_neg (by decide)]
  simp only [if_pos (cp_in hS hc)]
  rw [cp_na hS hc, h.2.2.1 x y hc, ii_eq hh hv]
  by_cases c : H x y = v
  · rw [if_pos c, if_pos c]
    refine ⟨o, rfl, ?_⟩
    rw [← c, hu_id]
    exact h
  · rw [if_neg c, if_neg c]
    exact ⟨_, rfl, cp_hu hS h hc⟩
theorem q_vg_wb {V : Int → Int → Int} (hH : wb S H) (hV : wb S V) (y x : Nat) : wb S (q_vg S H V y x) := fun a b c => by
  unfold q_vg
  split
  · exact hV a b c
  · exact hH a b c
theorem pc_followB (hN : 1000 < N) (hS : sv S) (h : cp o S T H) (hH : wb S H) (hT : tv S T) : ∃ o', ff_X5_followTones N o = some (Int32.ofInt (q_df S H (q_vf S H (q_fol S T))), o') ∧ cp o' S T (q_vf S H (q_fol S T)) := by
  have hs := sv_a hS
  unfold ff_X5_followTones ff_X5_followTones_l4
  refine vis_grid (step2 := fun k2 r2 s1 => ff_X5_followTones_c14 N k2 r2 s1.1 s1.2.1 s1.2.2.1 s1.2.2.2) hN hS h (q_fol S T) 0 (by omega) (fun a b c l => by omega) ?_ ?_ ?_ ?_
  · intro y o' c r G hy h'
    show ff_X5_followTones_c4 N r o' c (Int32.ofInt (y : Int)) = _
    unfold ff_X5_followTones_c4
    rw [if_neg (pc_rN hS h' hy)]
    rfl
  · intro x y o' c hx hy _ h'
    have hc : ic S (x : Int) (y : Int) := ic_n hx hy
    have ht := hT _ _ hc
    have hv := (q_fol_hv hS hT) _ _ hc
    have hw := q_vg_wb (V := q_fol S T) hH (fun a b c => by have := (q_fol_hv hS hT) a b c; omega) y x
    obtain ⟨o2, eb, h2⟩ := pc_buildB (N := N) hS h' hw hc (v := q_fol S T x y) (by omega)
    refine ⟨o2, h2, fun k r => ?_⟩
    rw [q_vg_at] at eb
    show ff_X5_followTones_c14 N k r o' c (Int32.ofInt (y : Int)) (Int32.ofInt (x : Int)) = _
    unfold ff_X5_followTones_c14
    rw [if_neg (pc_wN hS h' hx), pc_wishAt hS h' hT hc, Option.bind_some, pc_stepFor hN hS h' (fl_w200 (by omega)), Option.bind_some]
    show ((ff_X5_build N o' (Int32.ofInt (x : Int)) (Int32.ofInt (y : Int)) (Int32.ofInt (q_fol S T x y))).bind _) = _
    rw [eb, Option.bind_some, ii_1, ia_s]
  · intro y o' c k r G hy h'
    show ff_X5_followTones_c14 N k r o' c (Int32.ofInt (y : Int)) (Int32.ofInt (S 0 : Int)) = _
    unfold ff_X5_followTones_c14
    rw [if_pos (pc_wE h'), ii_1, ia_s]
  · intro o' c r G h'
    show ff_X5_followTones_c4 N r o' c (Int32.ofInt (S 1 : Int)) = _
    unfold ff_X5_followTones_c4
    rw [if_pos (pc_rE h')]
/-- the heights of a relief that was read -/
def q_rd (S : Nat → Nat) (T : Int → Int → Int) : Int → Int → Int := q_vf S (fun _ _ => 0) (q_fol S T)
theorem vf_eq {f : Nat → UInt32} {k : Nat} {v : UInt32} : vf_upd f k v k = v := by unfold vf_upd; simp
theorem vf_ne {f : Nat → UInt32} {k j : Nat} {v : UInt32} (h : j ≠ k) : vf_upd f k v j = f j := by unfold vf_upd; simp [h]
theorem pc_develop (hN : 1000 < N) (hS : sv S) (hd : ∀ i, i < 7 → os_I d i = Int32.ofInt (S i : Int)) (hA : a16 (os_A d 0) T) (hT : tv S T) : ∃ d', ff_X5_develop N d = some d' ∧ cp d' S T (q_rd S T) := by
  have hs := sv_a hS
  have key := lo_cnt (N := N) (step := fun k13 s1 => ff_X5_develop_c13 N k13 s1.1 s1.2.1 s1.2.2.1 s1.2.2.2)
    (fun k s => s.2.1 = fl_f (S 3) ∧ s.2.2.1 = fl_l (S 3) k ∧ s.2.2.2 = Int32.ofInt (k : Int) ∧ (∀ j, j < k → os_F s.1 0 j = fl_l (S 3) j) ∧ (∀ i, os_I s.1 i = os_I d i) ∧ ∀ j, os_A s.1 j = os_A d j)
    (fun v => ∃ d', v = some d' ∧ cp d' S T (q_rd S T))
    21 ?_ ?_ (by omega) (s := (d, fl_f (S 3), FP.fconst1, (0 : Int32))) ⟨rfl, rfl, rfl, fun j hj => by omega, fun _ => rfl, fun _ => rfl⟩
  · obtain ⟨v, ⟨d', rfl, h⟩, e⟩ := key
    refine ⟨d', ?_, h⟩
    unfold ff_X5_develop
    rw [hd 3 (by decide)]
    show (if os_nn (fl_f (S 3)) then ff_X5_develop_l13 N N (d, fl_f (S 3), FP.fconst1, (0 : Int32)) else none) = _
    rw [if_pos (fl_fn (by omega) (by omega))]
    exact e
  · intro k s hk hI
    obtain ⟨d1, f1, l1, a1⟩ := s
    obtain ⟨e1, e2, e3, hF, hI1, hA1⟩ := hI
    have e1 : f1 = _ := e1
    have e2 : l1 = _ := e2
    have e3 : a1 = _ := e3
    subst e1
    subst e2
    subst e3
    refine ⟨(ss_F d1 0 (vf_upd (os_F d1 0) k (fl_l (S 3) k)), fl_f (S 3), fl_l (S 3) (k + 1), Int32.ofInt ((k + 1 : Nat) : Int)), ⟨rfl, rfl, rfl, fun j hj => ?_, hI1, hA1⟩, fun g => ?_⟩
    · show vf_upd (os_F d1 0) k (fl_l (S 3) k) j = _
      by_cases c : j = k
      · subst c; rw [vf_eq]
      · rw [vf_ne c]; exact hF j (by omega)
    · show ff_X5_develop_c13 N g d1 (fl_f (S 3)) (fl_l (S 3) k) (Int32.ofInt (k : Int)) = _
      unfold ff_X5_develop_c13
      have e21 : ((21 : Int32) ≤ Int32.ofInt (k : Int)) = (21 ≤ (k : Int)) := ia_le (a := 21) (by omega) (by omega) (by omega) (by omega)
      simp only [e21]
      rw [if_neg (by omega), if_pos (ia_in (by omega) (by omega) (by omega)), ia_nat (by omega) (by omega), Int.toNat_natCast, ii_1, ia_add]
      have hn : os_nn (FP.fmul (fl_l (S 3) k) (fl_f (S 3))) := fl_n (k := k + 1) (by omega) (by omega) (by omega)
      rw [if_pos hn]
      rfl
  · intro s hI
    obtain ⟨d1, f1, l1, a1⟩ := s
    obtain ⟨e1, e2, e3, hF, hI1, hA1⟩ := hI
    have e1 : f1 = _ := e1
    have e2 : l1 = _ := e2
    have e3 : a1 = _ := e3
    subst e1
    subst e2
    subst e3
    have hc : cp d1 S T (fun a b => (os_A d1 1 (16 * b + a).toNat).toInt) := ⟨fun i hi => by rw [hI1]; exact hd i hi, fun a b c => by
      have hr := ic_r hS c
      have hc : 0 ≤ a ∧ a < 16 ∧ 0 ≤ b ∧ b < 12 := by unfold ic at c; omega
      have e0 : os_A d1 0 = os_A d 0 := hA1 0
      rw [e0]
      exact a16_to hA a b hc.1 hc.2.1 hc.2.2.1 hc.2.2.2, fun a b c => (Int32.ofInt_toInt _).symm, fun k hk => hF k (by omega)⟩
    obtain ⟨d2, w2, c2⟩ := pc_followB (N := N) hN hS hc (fun a b c => ⟨Int32.le_toInt _, by have := Int32.toInt_lt (os_A d1 1 (16 * b + a).toNat); omega⟩) hT
    refine ⟨some d2, ⟨d2, rfl, c2.cg (fun _ _ _ => rfl) fun a b c => ?_⟩, fun g => ?_⟩
    · rw [q_vf_in c]
      unfold q_rd
      rw [q_vf_in c]
    · show ff_X5_develop_c13 N g d1 (fl_f (S 3)) (fl_l (S 3) 21) (Int32.ofInt ((21 : Nat) : Int)) = _
      unfold ff_X5_develop_c13
      rw [if_pos (show (21 : Int32) ≤ Int32.ofInt ((21 : Nat) : Int) by decide), w2, Option.bind_some]
/-- the beginning of a text -/
def s_0 : Nat → Nat := fun i => if i = 0 then 4 else if i = 1 then 4 else if i = 2 then 8 else if i = 3 then 80 else if i = 4 then 1 else if i = 5 then 2 else 1
theorem s_0v : sv s_0 := by unfold sv s_0; decide
theorem pc_clear : ∃ d', ff_X5_clear N d = some d' ∧ (∀ i, i < 7 → os_I d' i = Int32.ofInt (s_0 i : Int)) ∧ a16 (os_A d' 0) (fun _ _ => 255) := by
  refine ⟨_, rfl, fun i hi => ?_, fun k hk => ?_⟩
  · have hk : i = 0 ∨ i = 1 ∨ i = 2 ∨ i = 3 ∨ i = 4 ∨ i = 5 ∨ i = 6 := by omega
    rcases hk with rfl | rfl | rfl | rfl | rfl | rfl | rfl <;> rfl
  · show os_fill 192 (255 : Int32) (os_A d 0) k = _
    unfold os_fill
    simp [hk]
end ReadText
section States
variable {N : Nat} {t y d : os_T} {R bl : List Nat} {S : Nat → Nat} {T : Int → Int → Int} {f2 f3 f4 f5 : Int} {r c : Nat}
def sS (S : Nat → Nat) (i v : Nat) : Nat → Nat := fun j => if j = i then v else S j
def dr (d : os_T) (S : Nat → Nat) (T : Int → Int → Int) : Prop := (∀ i, i < 7 → os_I d i = Int32.ofInt (S i : Int)) ∧ a16 (os_A d 0) T
def yr (y : os_T) (f2 f3 f4 f5 : Int) (r c : Nat) : Prop := os_I y 2 = Int32.ofInt f2 ∧ os_I y 3 = Int32.ofInt f3 ∧ os_I y 4 = Int32.ofInt f4 ∧ os_I y 5 = Int32.ofInt f5 ∧ os_I y 6 = Int32.ofInt (r : Int) ∧ os_I y 7 = Int32.ofInt (c : Int)
theorem dr_set {i v : Nat} (h : dr d S T) (hi : i < 7) : dr (ss_I d i (Int32.ofInt (v : Int))) (sS S i v) T := by
  refine ⟨fun j hj => ?_, h.2⟩
  show os_u (os_I d) i (Int32.ofInt (v : Int)) j = _
  unfold sS
  by_cases e : j = i
  · subst e; rw [os_u_eq, if_pos rfl]
  · rw [os_u_ne e, if_neg e]; exact h.1 j hj
theorem yr_2 (h : yr y f2 f3 f4 f5 r c) : yr (ss_I y 2 1) 1 f3 f4 f5 r c := ⟨rfl, h.2.1, h.2.2.1, h.2.2.2.1, h.2.2.2.2.1, h.2.2.2.2.2⟩
theorem yr_3 (h : yr y f2 f3 f4 f5 r c) : yr (ss_I y 3 1) f2 1 f4 f5 r c := ⟨h.1, rfl, h.2.2.1, h.2.2.2.1, h.2.2.2.2.1, h.2.2.2.2.2⟩
theorem yr_4 (h : yr y f2 f3 f4 f5 r c) : yr (ss_I y 4 1) f2 f3 1 f5 r c := ⟨h.1, h.2.1, rfl, h.2.2.2.1, h.2.2.2.2.1, h.2.2.2.2.2⟩
theorem yr_5 (h : yr y f2 f3 f4 f5 r c) : yr (ss_I y 5 1) f2 f3 f4 1 r c := ⟨h.1, h.2.1, h.2.2.1, rfl, h.2.2.2.2.1, h.2.2.2.2.2⟩
theorem nm1 {v : Nat} (h : v ≤ 1000) : ¬ (Int32.ofInt (v : Int) = (-1 : Int32)) := by
  rw [ii_m1, ia_eq (by omega) (by omega) (by omega) (by omega)]; omega
theorem z1' {α : Type} {A B : α} : (if os_z (1 : Int32) then A else B) = A := if_pos (Or.inr rfl)
def no2 (R : List Nat) : Prop := R = [] ∨ kd ((R.getD 0 0 : Nat) : Int) ≠ 2
def bPan (a b : Nat) : List Nat := lw_b 0 ++ ([32] ++ (dg a ++ ([32] ++ dg b)))
def bWal (a : Nat) : List Nat := lw_b 2 ++ ([32] ++ dg a)
def bSlo (a : Nat) : List Nat := lw_b 3 ++ ([32] ++ dg a)
def bSte (a b e : Nat) : List Nat := lw_b 1 ++ ([32] ++ (dg a ++ ([32] ++ (lw_b 5 ++ ([32] ++ (dg b ++ ([32] ++ (lw_b 6 ++ ([32] ++ dg e)))))))))
def bRo : List Nat → List Nat
  | [] => []
  | w :: ws => [32] ++ (dg w ++ bRo ws)
def bRow (ws : List Nat) : List Nat := lw_b 4 ++ bRo ws
theorem k32 : kdl 4 [32] := fun i hi => by
  have : i = 0 := by simpa using hi
  subst this
  decide
theorem no_sp {k : Int} {X : List Nat} (hk : k ≠ 4) : [32] ++ X = [] ∨ kd ((([32] ++ X).getD 0 0 : Nat) : Int) ≠ k := Or.inr fun z => hk (z.symm.trans (show kd ((32 : Nat) : Int) = 4 by decide))
/-- which statement it is -/
theorem st_word (hN : 1000 < N) {j : Nat} (hj : j < 5) {X : List Nat} (h : cu t (bl ++ (lw_b j ++ X))) (hbl : kdl 4 bl) (hm : X = [] ∨ kd ((X.getD 0 0 : Nat) : Int) ≠ 1) : ff_X7_readStatement N y t d = (if j = 0 then ((ff_X7_readPanel N y t d).bind fun u_31 => (if os_z u_31.1 then some (0, u_31.1, u_31.2.1, u_31.2.2.1, u_31.2.2.2) else none)) else if j = 1 then ((ff_X7_readSteps N y t d).bind fun u_28 => (if u_28.1 = 0 then (if os_z u_28.2.1 then some (0, u_28.2.1, u_28.2.2.1, u_28.2.2.2.1, u_28.2.2.2.2) else none) else some (u_28.1, (0 : Int32), u_28.2.2.1, u_28.2.2.2.1, u_28.2.2.2.2))) else if j = 2 then ((ff_X7_readWall N y t d).bind fun u_25 => (if os_z u_25.1 then some (0, u_25.1, u_25.2.1, u_25.2.2.1, u_25.2.2.2) else none)) else if j = 3 then ((ff_X7_readSlope N y t d).bind fun u_22 => (if os_z u_22.1 then some (0, u_22.1, u_22.2.1, u_22.2.2.1, u_22.2.2.2) else none)) else ((ff_X7_readRow N y t d).bind fun u_19 => (if os_z u_19.1 then some (0, u_19.1, u_19.2.1, u_19.2.2.1, u_19.2.2.2) else none))) := by
  have w := fun (k : Nat) (hk : k < 7) => cu_isWord (N := N) (j := j) hN h (by omega) rfl hbl hm hk
  unfold ff_X7_readStatement
  obtain rfl | rfl | rfl | rfl | rfl : j = 0 ∨ j = 1 ∨ j = 2 ∨ j = 3 ∨ j = 4 := by omega
  · rw [w 0 (by decide), Option.bind_some, if_pos rfl, if_neg (by decide), if_pos rfl]
  · rw [w 0 (by decide), Option.bind_some, if_pos rfl, if_pos (by decide), w 1 (by decide), Option.bind_some, if_pos rfl, if_neg (by decide), if_neg (by decide), if_pos rfl]
  · rw [w 0 (by decide), Option.bind_some, if_pos rfl, if_pos (by decide), w 1 (by decide), Option.bind_some, if_pos rfl, if_pos (by decide), w 2 (by decide), Option.bind_some, if_pos rfl, if_neg (by decide), if_neg (by decide), if_neg (by decide), if_pos rfl]
  · rw [w 0 (by decide), Option.bind_some, if_pos rfl, if_pos (by decide), w 1 (by decide), Option.bind_some, if_pos rfl, if_pos (by decide), w 2 (by decide), Option.bind_some, if_pos rfl, if_pos (by decide), w 3 (by decide), Option.bind_some, if_pos rfl, if_neg (by decide), if_neg (by decide), if_neg (by decide), if_neg (by decide), if_pos rfl]
  · rw [w 0 (by decide), Option.bind_some, if_pos rfl, if_pos (by decide), w 1 (by decide), Option.bind_some, if_pos rfl, if_pos (by decide), w 2 (by decide), Option.bind_some, if_pos rfl, if_pos (by decide), w 3 (by decide), Option.bind_some, if_pos rfl, if_pos (by decide), w 4 (by decide), Option.bind_some, if_pos rfl, if_neg (by decide), if_neg (by decide), if_neg (by decide), if_neg (by decide), if_neg (by decide)]
/-- a statement was read -/
def stR (N : Nat) (y t d : os_T) (R : List Nat) (f2 f3 f4 f5 : Int) (r c : Nat) (S : Nat → Nat) (T : Int → Int → Int) : Prop := ff_X10_isAtEnd N t = some 0 ∧ ∃ y' t' d', ff_X7_readStatement N y t d = some (0, 1, y', t', d') ∧ yr y' f2 f3 f4 f5 r c ∧ dr d' S T ∧ cu t' R
theorem st_panel (hN : 1000 < N) (hy : yr y 0 f3 f4 f5 0 c) (hd : dr d S T) {a b : Nat} (ha : 1 ≤ a ∧ a ≤ 16) (hb : 1 ≤ b ∧ b ≤ 12) (hR : no2 R) (hbl : kdl 4 bl) (h : cu t (bl ++ (bPan a b ++ R))) : stR N y t d R 1 f3 f4 f5 0 c (sS (sS S 0 a) 1 b) T := by
  unfold bPan at h
  simp only [List.append_assoc] at h
  have l := lw_all 0 (by decide)
  have hm : ∀ X : List Nat, [32] ++ X = [] ∨ kd ((([32] ++ X).getD 0 0 : Nat) : Int) ≠ 1 := fun X => no_sp (by decide)
  refine ⟨cu_more h rfl hbl l.2.2.2.2.2 l.2.1 l.2.2.1 (hm _), ?_⟩
  rw [st_word hN (j := 0) (by decide) h hbl (hm _), if_pos rfl]
  obtain ⟨t1, e1, h1⟩ := cu_skipWord (N := N) (j := 0) h (by decide) rfl hbl (hm _)
  obtain ⟨t2, e2, h2⟩ := cu_num (N := N) (n := a) hN h1 (by omega) rfl k32 (no_sp (by decide)) (a := 1) (b := 16) (by omega) (by omega)
  obtain ⟨t3, e3, h3⟩ := cu_num (N := N) (n := b) hN h2 (by omega) rfl k32 hR (a := 1) (b := 12) (by omega) (by omega)
  refine ⟨ss_I y 2 1, t3, ss_I (ss_I d 0 (Int32.ofInt (a : Int))) 1 (Int32.ofInt (b : Int)), ?_, yr_2 hy, dr_set (dr_set hd (by decide)) (by decide), h3⟩
  unfold ff_X7_readPanel
  rw [hy.1, if_pos (show Int32.ofInt 0 = 0 from rfl), hy.2.2.2.2.1, if_pos (show Int32.ofInt ((0 : Nat) : Int) ≤ 0 by decide), e1, Option.bind_some]
  have e2' : ff_X10_takeNumber N t1 (1 : Int32) (16 : Int32) = some (Int32.ofInt (a : Int), t2) := e2
  have e3' : ff_X10_takeNumber N t2 (1 : Int32) (12 : Int32) = some (Int32.ofInt (b : Int), t3) := e3
  rw [e2', Option.bind_some, if_neg (nm1 (by omega))]
  simp only []
  rw [e3', Option.bind_some, if_neg (nm1 (by omega)), Option.bind_some, z1']
theorem st_wall (hN : 1000 < N) (hy : yr y f2 f3 0 f5 r c) (hd : dr d S T) {a : Nat} (ha : 1 ≤ a ∧ a ≤ 4) (hR : no2 R) (hbl : kdl 4 bl) (h : cu t (bl ++ (bWal a ++ R))) : stR N y t d R f2 f3 1 f5 r c (sS S 5 a) T := by
  unfold bWal at h
  simp only [List.append_assoc] at h
  have l := lw_all 2 (by decide)
  have hm : ∀ X : List Nat, [32] ++ X = [] ∨ kd ((([32] ++ X).getD 0 0 : Nat) : Int) ≠ 1 := fun X => no_sp (by decide)
  refine ⟨cu_more h rfl hbl l.2.2.2.2.2 l.2.1 l.2.2.1 (hm _), ?_⟩
  rw [st_word hN (j := 2) (by decide) h hbl (hm _), if_neg (by decide), if_neg (by decide), if_pos rfl]
  obtain ⟨t1, e1, h1⟩ := cu_skipWord (N := N) (j := 2) h (by decide) rfl hbl (hm _)
  obtain ⟨t2, e2, h2⟩ := cu_num (N := N) (n := a) hN h1 (by omega) rfl k32 hR (a := 1) (b := 4) (by omega) (by omega)
  refine ⟨ss_I y 4 1, t2, ss_I d 5 (Int32.ofInt (a : Int)), ?_, yr_4 hy, dr_set hd (by decide), h2⟩
  unfold ff_X7_readWall
  have e2' : ff_X10_takeNumber N t1 (1 : Int32) (4 : Int32) = some (Int32.ofInt (a : Int), t2) := e2
  rw [hy.2.2.1, if_pos (show Int32.ofInt 0 = 0 from rfl), e1, Option.bind_some, e2', Option.bind_some, if_neg (nm1 (by omega)), Option.bind_some, z1']
theorem st_slope (hN : 1000 < N) (hy : yr y f2 f3 f4 0 r c) (hd : dr d S T) {a : Nat} (ha : a ≤ 9) (hR : no2 R) (hbl : kdl 4 bl) (h : cu t (bl ++ (bSlo a ++ R))) : stR N y t d R f2 f3 f4 1 r c (sS S 6 a) T := by
  unfold bSlo at h
  simp only [List.append_assoc] at h
  have l := lw_all 3 (by decide)
  have hm : ∀ X : List Nat, [32] ++ X = [] ∨ kd ((([32] ++ X).getD 0 0 : Nat) : Int) ≠ 1 := fun X => no_sp (by decide)
  refine ⟨cu_more h rfl hbl l.2.2.2.2.2 l.2.1 l.2.2.1 (hm _), ?_⟩
  rw [st_word hN (j := 3) (by decide) h hbl (hm _), if_neg (by decide), if_neg (by decide), if_neg (by decide), if_pos rfl]
  obtain ⟨t1, e1, h1⟩ := cu_skipWord (N := N) (j := 3) h (by decide) rfl hbl (hm _)
  obtain ⟨t2, e2, h2⟩ := cu_num (N := N) (n := a) hN h1 (by omega) rfl k32 hR (a := 0) (b := 9) (by omega) (by omega)
  refine ⟨ss_I y 5 1, t2, ss_I d 6 (Int32.ofInt (a : Int)), ?_, yr_5 hy, dr_set hd (by decide), h2⟩
  unfold ff_X7_readSlope
  have e2' : ff_X10_takeNumber N t1 (0 : Int32) (9 : Int32) = some (Int32.ofInt (a : Int), t2) := e2
  rw [hy.2.2.2.1, if_pos (show Int32.ofInt 0 = 0 from rfl), e1, Option.bind_some, e2', Option.bind_some, if_neg (nm1 (by omega)), Option.bind_some, z1']
theorem st_steps (hN : 1000 < N) (hy : yr y f2 0 f4 f5 r c) (hd : dr d S T) {a b e : Nat} (ha : 1 ≤ a ∧ a ≤ 20) (hb : 10 ≤ b ∧ b ≤ 99) (he : e ≤ a) (hR : no2 R) (hbl : kdl 4 bl) (h : cu t (bl ++ (bSte a b e ++ R))) : stR N y t d R f2 1 f4 f5 r c (sS (sS (sS S 2 a) 3 b) 4 e) T := by
  unfold bSte at h
  simp only [List.append_assoc] at h
  have l := lw_all 1 (by decide)
  have hm : ∀ X : List Nat, [32] ++ X = [] ∨ kd ((([32] ++ X).getD 0 0 : Nat) : Int) ≠ 1 := fun X => no_sp (by decide)
  have hn : ∀ X : List Nat, [32] ++ X = [] ∨ kd ((([32] ++ X).getD 0 0 : Nat) : Int) ≠ 2 := fun X => no_sp (by decide)
  refine ⟨cu_more h rfl hbl l.2.2.2.2.2 l.2.1 l.2.2.1 (hm _), ?_⟩
  rw [st_word hN (j := 1) (by decide) h hbl (hm _), if_neg (by decide), if_pos rfl]
  obtain ⟨t1, e1, h1⟩ := cu_skipWord (N := N) (j := 1) h (by decide) rfl hbl (hm _)
  obtain ⟨t2, e2, h2⟩ := cu_num (N := N) (n := a) hN h1 (by omega) rfl k32 (hn _) (a := 1) (b := 20) (by omega) (by omega)
  obtain ⟨t3, e3, h3⟩ := cu_takeWord (N := N) (j := 5) hN h2 (by decide) rfl k32 (hm _)
  obtain ⟨t4, e4, h4⟩ := cu_num (N := N) (n := b) hN h3 (by omega) rfl k32 (hn _) (a := 10) (b := 99) (by omega) (by omega)
  obtain ⟨t5, e5, h5⟩ := cu_takeWord (N := N) (j := 6) hN h4 (by decide) rfl k32 (hm _)
  obtain ⟨t6, e6, h6⟩ := cu_num (N := N) (n := e) hN h5 (by omega) rfl k32 hR (a := 0) (b := (a : Int)) (by omega) (by omega)
  refine ⟨ss_I y 3 1, t6, ss_I (ss_I (ss_I d 2 (Int32.ofInt (a : Int))) 3 (Int32.ofInt (b : Int))) 4 (Int32.ofInt (e : Int)), ?_, yr_3 hy, dr_set (dr_set (dr_set hd (by decide)) (by decide)) (by decide), h6⟩
  unfold ff_X7_readSteps
  have e2' : ff_X10_takeNumber N t1 (1 : Int32) (20 : Int32) = some (Int32.ofInt (a : Int), t2) := e2
  have e4' : ff_X10_takeNumber N t3 (10 : Int32) (99 : Int32) = some (Int32.ofInt (b : Int), t4) := e4
  have e6' : ff_X10_takeNumber N t5 (0 : Int32) (Int32.ofInt (a : Int)) = some (Int32.ofInt (e : Int), t6) := e6
  rw [hy.2.1, if_pos (show Int32.ofInt 0 = 0 from rfl), e1, Option.bind_some, e2', Option.bind_some, if_neg (nm1 (by omega))]
  simp only []
  rw [e3, Option.bind_some, if_pos rfl, if_neg (show ¬ ((1 : Int32) = 0) by decide)]
  simp only []
  rw [e4', Option.bind_some, if_neg (nm1 (by omega))]
  simp only []
  rw [e5, Option.bind_some, if_pos rfl, if_neg (show ¬ ((1 : Int32) = 0) by decide)]
  simp only []
  rw [e6', Option.bind_some, if_neg (nm1 (by omega)), Option.bind_some, if_pos rfl, z1']
/-- the tones of a row -/
def q_row (T : Int → Int → Int) (r : Nat) (ws : List Nat) (x : Nat) : Int → Int → Int := fun a b => if b = r ∧ 0 ≤ a ∧ a < x then ((ws.getD a.toNat 0 : Nat) : Int) else T a b
theorem q_row_s {ws : List Nat} {x : Nat} : hu (q_row T r ws x) x r ((ws.getD x 0 : Nat) : Int) = q_row T r ws (x + 1) := by
  funext a b
  unfold hu q_row
  by_cases e : a = x ∧ b = r
  · rw [if_pos e, if_pos ⟨e.2, by omega, by omega⟩, e.1, Int.toNat_natCast]
  · rw [if_neg e]
    by_cases e2 : b = r ∧ 0 ≤ a ∧ a < x
    · rw [if_pos e2, if_pos ⟨e2.1, e2.2.1, by omega⟩]
    · rw [if_neg e2, if_neg (fun z => e2 ⟨z.1, z.2.1, by
        have : a ≠ x := fun q => e ⟨q, z.1⟩
        omega⟩)]
theorem bRo_drop {ws : List Nat} {x : Nat} (h : x < ws.length) : bRo (ws.drop x) = [32] ++ (dg (ws.getD x 0) ++ bRo (ws.drop (x + 1))) := by
  rw [List.drop_eq_getElem_cons h]
  show [32] ++ (dg ws[x] ++ bRo (ws.drop (x + 1))) = _
  rw [List.getD_eq_getElem?_getD, List.getElem?_eq_getElem h, Option.getD_some]
theorem bRo_no2 {ws : List Nat} {X : List Nat} (hX : no2 X) : no2 (bRo ws ++ X) := by
  cases ws with
  | nil => exact hX
  | cons w ws => exact no_sp (by decide)
theorem st_row (hN : 1000 < N) (hS : sv S) (hy : yr y f2 f3 f4 f5 r c) (hd : dr d S T) {ws : List Nat} (hw : ws.length = S 0) (hws : ∀ w ∈ ws, w ≤ 255) (hr : r < S 1) (hR : no2 R) (hbl : kdl 4 bl) (h : cu t (bl ++ (bRow ws ++ R))) : stR N y t d R f2 f3 f4 f5 (r + 1) c S (q_row T r ws (S 0)) := by
  have hs := sv_a hS
  unfold bRow at h
  simp only [List.append_assoc] at h
  have l := lw_all 4 (by decide)
  have hm : bRo ws ++ R = [] ∨ kd (((bRo ws ++ R).getD 0 0 : Nat) : Int) ≠ 1 := by
    cases ws with
    | nil => simp at hw; omega
    | cons w ws => exact no_sp (by decide)
  refine ⟨cu_more h rfl hbl l.2.2.2.2.2 l.2.1 l.2.2.1 hm, ?_⟩
  rw [st_word hN (j := 4) (by decide) h hbl hm, if_neg (by decide), if_neg (by decide), if_neg (by decide), if_neg (by decide)]
  obtain ⟨t1, e1, h1⟩ := cu_skipWord (N := N) (j := 4) h (by decide) rfl hbl hm
  have key : ∃ v, (∃ y' t' d', v = some ((1 : Int32), y', t', d') ∧ yr y' f2 f3 f4 f5 (r + 1) c ∧ dr d' S (q_row T r ws (S 0)) ∧ cu t' R) ∧ ff_X7_readRow_l32 N N (y, t1, d, (0 : Int32)) = v := by
    unfold ff_X7_readRow_l32
    refine lo_cnt (N := N) (step := fun k32 s1 => ff_X7_readRow_c32 N k32 s1.1 s1.2.1 s1.2.2.1 s1.2.2.2) (fun x s => ∃ t' d', s = (y, t', d', Int32.ofInt (x : Int)) ∧ dr d' S (q_row T r ws x) ∧ cu t' (bRo (ws.drop x) ++ R)) (fun v => ∃ y' t' d', v = some ((1 : Int32), y', t', d') ∧ yr y' f2 f3 f4 f5 (r + 1) c ∧ dr d' S (q_row T r ws (S 0)) ∧ cu t' R) (S 0) ?_ ?_ (by omega) ⟨t1, d, rfl, ?_, h1⟩
    · rintro x s hx ⟨t', d', rfl, hd', ht'⟩
      have hg : ws.getD x 0 ≤ 255 := by
        rw [List.getD_eq_getElem?_getD, List.getElem?_eq_getElem (by omega), Option.getD_some]
        exact hws _ (List.getElem_mem _)
      rw [bRo_drop (by omega), List.append_assoc, List.append_assoc] at ht'
      obtain ⟨t2, e2, h2⟩ := cu_num (N := N) (n := ws.getD x 0) hN ht' (by omega) rfl k32 (bRo_no2 hR) (a := 0) (b := 255) (by omega) (by omega)
      have hc : ic S (x : Int) (r : Int) := ic_n hx hr
      have hrr := ic_r hS hc
      have ed : ff_X5_dye N d' (Int32.ofInt (x : Int)) (Int32.ofInt (r : Int)) (Int32.ofInt ((ws.getD x 0 : Nat) : Int)) = some (ss_A d' 0 (upd (os_A d' 0) (16 * (r : Int) + x).toNat (Int32.ofInt ((ws.getD x 0 : Nat) : Int)))) := by
        unfold ff_X5_dye ff_X5_has
        rw [hd'.1 0 (by decide), hd'.1 1 (by decide), gd_if (by omega) (by omega) (by omega) (by omega), if_pos hc, Option.bind_some, if_neg (show ¬ ((1 : Int32) = 0) by decide), if_pos (cp_in hS hc), cp_na hS hc]
      refine ⟨_, ⟨t2, ss_A d' 0 (upd (os_A d' 0) (16 * (r : Int) + x).toNat (Int32.ofInt ((ws.getD x 0 : Nat) : Int))), rfl, ⟨hd'.1, ?_⟩, h2⟩, fun k => ?_⟩
      · rw [← q_row_s]
        exact a16_hu (a := (x : Int)) (b := (r : Int)) hd'.2 (by omega) (by omega) (by omega)
      · show ff_X7_readRow_c32 N k y t' d' (Int32.ofInt (x : Int)) = _
        unfold ff_X7_readRow_c32
        have e2' : ff_X10_takeNumber N t' (0 : Int32) (255 : Int32) = some (Int32.ofInt ((ws.getD x 0 : Nat) : Int), t2) := e2
        rw [hd'.1 0 (by decide), ii_le (by omega) (by omega), if_neg (by omega), e2', Option.bind_some, if_neg (nm1 (by omega)), hy.2.2.2.2.1]
        simp only []
        rw [ed, Option.bind_some, ii_1, ia_s]
    · rintro s ⟨t', d', rfl, hd', ht'⟩
      rw [← hw, List.drop_length] at ht'
      refine ⟨_, ⟨ss_I y 6 (os_I y 6 + 1), t', d', rfl, ⟨hy.1, hy.2.1, hy.2.2.1, hy.2.2.2.1, ?_, hy.2.2.2.2.2⟩, hd', ht'⟩, fun k => ?_⟩
      · show os_I y 6 + 1 = _
        rw [hy.2.2.2.2.1, ii_1, ia_s]
      · show ff_X7_readRow_c32 N k y t' d' (Int32.ofInt (S 0 : Int)) = _
        unfold ff_X7_readRow_c32
        rw [hd'.1 0 (by decide), if_pos (Int32.le_refl _)]
    · refine ⟨hd.1, fun k hk => ?_⟩
      rw [hd.2 k hk]
      unfold q_row
      rw [if_neg (by omega)]
  obtain ⟨v, ⟨y', t', d', rfl, a1, a2, a3⟩, e⟩ := key
  refine ⟨y', t', d', ?_, a1, a2, a3⟩
  unfold ff_X7_readRow
  rw [hy.2.2.2.2.1, hd.1 1 (by decide), ii_lt (by omega) (by omega), if_pos (by omega), e1, Option.bind_some, e, Option.bind_some, z1']
end States
