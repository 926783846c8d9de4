/-! LAYER 2. A relief's text up to its end -/
theorem lo_pair2 {S1 S2 α β : Type} {step1 : (S1 → Option α) → S1 → Option α} {step2 : (S2 → Option β) → S2 → Option β} (I : Nat → S1 → S2 → Prop) (E : Option α → Option β → Prop) (n : Nat) (hn : ∀ k s1 s2, I k s1 s2 → k ≤ n) (h : ∀ k s1 s2, I k s1 s2 → (∃ s1' s2', I (k + 1) s1' s2' ∧ (∀ r, step1 r s1 = r s1') ∧ ∀ r, step2 r s2 = r s2') ∨ (∃ v1 v2, E v1 v2 ∧ (∀ r, step1 r s1 = v1) ∧ ∀ r, step2 r s2 = v2) ∨ (∃ v1 v2 s2', E v1 v2 ∧ (∀ r, step1 r s1 = v1) ∧ (∀ r, step2 r s2 = r s2') ∧ ∀ r, step2 r s2' = v2)) {N : Nat} (hN : n + 1 < N) {s1 : S1} {s2 : S2} (h0 : I 0 s1 s2) : E (os_loop step1 N s1) (os_loop step2 N s2) := by
  have aux : ∀ j k, n - k = j → ∀ N s1 s2, j + 1 < N → I k s1 s2 → E (os_loop step1 N s1) (os_loop step2 N s2) := by
    intro j
    induction j with
    | zero =>
      intro k hk N s1 s2 hN hI
      obtain ⟨N', rfl⟩ : ∃ N', N = N' + 2 := ⟨N - 2, by omega⟩
      rcases h k s1 s2 hI with ⟨s1', s2', hI', e1, e2⟩ | ⟨v1, v2, hE, e1, e2⟩ | ⟨v1, v2, s2', hE, e1, e2, e3⟩
      · have := hn _ _ _ hI'
        have := hn _ _ _ hI
        omega
      · rw [lo_1, lo_1, e1, e2]; exact hE
      · rw [lo_1, lo_1, e1, e2, lo_1, e3]; exact hE
    | succ j ih =>
      intro k hk N s1 s2 hN hI
      obtain ⟨N', rfl⟩ : ∃ N', N = N' + 2 := ⟨N - 2, by omega⟩
      rcases h k s1 s2 hI with ⟨s1', s2', hI', e1, e2⟩ | ⟨v1, v2, hE, e1, e2⟩ | ⟨v1, v2, s2', hE, e1, e2, e3⟩
      · rw [lo_1, lo_1, e1, e2]
        exact ih (k + 1) (by omega) (N' + 1) s1' s2' (by omega) hI'
      · rw [lo_1, lo_1, e1, e2]; exact hE
      · rw [lo_1, lo_1, e1, e2, lo_1, e3]; exact hE
  exact aux (n - 0) 0 rfl N s1 s2 (by omega) h0
section Draft
variable {N : Nat} {X : tx} {t m y d m0 : os_T} {p : Nat} {S : Nat → Nat} {T : Int → Int → Int} {r : Nat}
theorem wc12 : (16824492 : Int64) = Int64.ofInt (wcv 12) := by decide +kernel
theorem wc13 : (20583955 : Int64) = Int64.ofInt (wcv 13) := by decide +kernel
theorem wc14 : (755084 : Int64) = Int64.ofInt (wcv 14) := by decide +kernel
theorem wc15 : (20332037 : Int64) = Int64.ofInt (wcv 15) := by decide +kernel
theorem wc16 : (18935 : Int64) = Int64.ofInt (wcv 16) := by decide +kernel
theorem sR_2 {A : Option (Int32 × os_T × os_T × os_T)} {R : Option os_T} (h : sR X p m A R) : sR2 X p m (A.bind fun u => (if os_z u.1 then some (0, u.1, u.2.1, u.2.2.1, u.2.2.2) else none)) R := by
  rcases h with ⟨y', t', d', m', S', T', r', p', e, h⟩ | ⟨y', t', d', m', e, h⟩
  · exact Or.inl ⟨y', t', d', m', S', T', r', p', by rw [e, Option.bind_some, z1], h⟩
  · exact Or.inr ⟨y', t', d', m', by rw [e, Option.bind_some, z0], h⟩
theorem sR_3 {A : Option (Nat × Int32 × os_T × os_T × os_T)} {R : Option os_T} (h : sR2 X p m A R) : sR2 X p m (A.bind fun u_28 => (if u_28.1 = 0 then (if os_z u_28.2.1 then some (0, u_28.2.1, u_28.2.2.1, u_28.2.2.2.1, u_28.2.2.2.2) else none) else some (u_28.1, (0 : Int32), u_28.2.2.1, u_28.2.2.2.1, u_28.2.2.2.2))) R := by
  rcases h with ⟨y', t', d', m', S', T', r', p', e, h⟩ | ⟨y', t', d', m', e, h⟩
  · exact Or.inl ⟨y', t', d', m', S', T', r', p', by rw [e, Option.bind_some, if_pos rfl, z1], h⟩
  · exact Or.inr ⟨y', t', d', m', by rw [e, Option.bind_some, if_pos rfl, z0], h⟩
theorem ob_id {α : Type} {A : Option α} : (A.bind fun u => some u) = A := by cases A <;> rfl
theorem st_one (hN : 1000 < N) (h : tj X t m p) (c : p < X.2.2.2.2.2) (hr : rd y d m S T r) : sR2 X p m (ff_X7_readStatement N y t d) (ff_X13_statement N m) := by
  unfold ff_X7_readStatement ff_X13_statement
  rw [tj_isWord hN h (k := 12) (by decide), tj_isWordR h (k := 12) (by decide) wc12, Option.bind_some, Option.bind_some, if_pos rfl, oz_ite, oz_ite]
  by_cases b12 : kq X p = 1 ∧ wl (fq X p) (zq X p) = wcv 12
  · rw [if_pos b12, if_pos b12]
    exact sR_2 (st_panel hN h c (by omega) hr)
  · rw [if_neg b12, if_neg b12, tj_isWord hN h (k := 13) (by decide), tj_isWordR h (k := 13) (by decide) wc13, Option.bind_some, Option.bind_some, if_pos rfl, oz_ite, oz_ite]
    by_cases b13 : kq X p = 1 ∧ wl (fq X p) (zq X p) = wcv 13
    · rw [if_pos b13, if_pos b13]
      exact sR_3 (st_steps hN h c (by omega) hr)
    · rw [if_neg b13, if_neg b13, tj_isWord hN h (k := 14) (by decide), tj_isWordR h (k := 14) (by decide) wc14, Option.bind_some, Option.bind_some, if_pos rfl, oz_ite, oz_ite]
      by_cases b14 : kq X p = 1 ∧ wl (fq X p) (zq X p) = wcv 14
      · rw [if_pos b14, if_pos b14]
        exact sR_2 (st_wall hN h c (by omega) hr)
      · rw [if_neg b14, if_neg b14, tj_isWord hN h (k := 15) (by decide), tj_isWordR h (k := 15) (by decide) wc15, Option.bind_some, Option.bind_some, if_pos rfl, oz_ite, oz_ite]
        by_cases b15 : kq X p = 1 ∧ wl (fq X p) (zq X p) = wcv 15
        · rw [if_pos b15, if_pos b15]
          exact sR_2 (st_slope hN h c (by omega) hr)
        · rw [if_neg b15, if_neg b15, tj_isWord hN h (k := 16) (by decide), tj_isWordR h (k := 16) (by decide) wc16, Option.bind_some, Option.bind_some, if_pos rfl, oz_ite, oz_ite]
          by_cases b16 : kq X p = 1 ∧ wl (fq X p) (zq X p) = wcv 16
          · rw [if_pos b16, if_pos b16, ob_id]
            exact sR_2 (st_row hN h c (by omega) hr)
          · rw [if_neg b16, if_neg b16, ob_id, fail1, z0]
            obtain ⟨m', w1, w2, hj, hq, -⟩ := tj_fail (N := N) (c := 1) h (by omega) (by omega)
            exact Or.inr ⟨y, ss_I t 10 1, d, m', rfl, w2, hj, ke_kt hq⟩
theorem kq_0 (h : tj X t m p) : kq X p = 0 ↔ ¬ p < X.2.2.2.2.2 := by
  have hr := kq_r h
  constructor
  · intro z c
    obtain ⟨b1, b2, b3, b4, -⟩ := h.2.2.1.1 p c
    unfold kq at z
    rw [kk_lt c] at z
    split at z <;> omega
  · intro c
    exact kk_ge c
theorem dr_loop (hN : 2000 < N) (hC : X.2.2.2.2.2 ≤ 900) (h : tj X t m p) (hr : rd y d m S T r) (hq : sq kt jt m0 m) :
    (∃ (y' t' d' m' : os_T) (p' : Nat) (S' : Nat → Nat) (T' : Int → Int → Int) (r' : Nat), ff_X7_readDraft_l46 N N (y, t, d, (0 : Int32)) = ff_X7_readDraft_b100 N y' t' d' ∧ ff_X13_readText_l8 N N m = ff_X13_readText_b45 N m' ∧ tj X t' m' p' ∧ rd y' d' m' S' T' r' ∧ sq kt jt m0 m') ∨ (∃ (y' t' d' m' : os_T), ff_X7_readDraft_l46 N N (y, t, d, (0 : Int32)) = some (0, 0, y', t', d') ∧ ff_X13_readText_l8 N N m = ff_X13_readText_b45 N m' ∧ te t' m' ∧ sq kt jt m0 m') := by
  unfold ff_X7_readDraft_l46 ff_X13_readText_l8
  refine lo_pair2 (step1 := fun k46 s1 => ff_X7_readDraft_c46 N k46 s1.1 s1.2.1 s1.2.2.1 s1.2.2.2) (step2 := fun k8 s1 => ff_X13_readText_c8 N k8 s1)
    (fun k s1 s2 => s1.2.2.2 = Int32.ofInt (k : Int) ∧ sq kt jt m0 s2 ∧ ∃ (p : Nat) (S : Nat → Nat) (T : Int → Int → Int) (r : Nat), tj X s1.2.1 s2 p ∧ k ≤ p ∧ rd s1.1 s1.2.2.1 s2 S T r)
    (fun v1 v2 => (∃ (y' t' d' m' : os_T) (p' : Nat) (S' : Nat → Nat) (T' : Int → Int → Int) (r' : Nat), v1 = ff_X7_readDraft_b100 N y' t' d' ∧ v2 = ff_X13_readText_b45 N m' ∧ tj X t' m' p' ∧ rd y' d' m' S' T' r' ∧ sq kt jt m0 m') ∨ (∃ (y' t' d' m' : os_T), v1 = some (0, 0, y', t', d') ∧ v2 = ff_X13_readText_b45 N m' ∧ te t' m' ∧ sq kt jt m0 m'))
    900 ?_ ?_ (by omega) (s1 := (y, t, d, (0 : Int32))) (s2 := m) ⟨rfl, hq, p, S, T, r, h, Nat.zero_le _, hr⟩
  · intro k s1 s2 hI
    obtain ⟨-, -, p, S, T, r, hj, hk, -⟩ := hI
    have := hj.2.2.2.1
    omega
  · intro k s1 s2 hI
    obtain ⟨y1, t1, d1, x1⟩ := s1
    obtain ⟨e1, q1, p, S, T, r, hj, hk, hrd⟩ := hI
    have e1 : x1 = Int32.ofInt (k : Int) := e1
    subst e1
    have hj : tj X t1 s2 p := hj
    have hrd : rd y1 d1 s2 S T r := hrd
    have hp := hj.2.2.2.1
    have hkr := kq_r hj
    have e7 : (os_I t1 7 = 0) = (kq X p = 0) := by rw [tj_7 hj]; exact i0_eq (by omega)
    have e6 : (os_I s2 6 = 0) = (kq X p = 0) := by
      rw [tj_m6 hj]
      refine (i0_eq (by split <;> omega)).trans (propext ⟨fun z => ?_, fun z => ?_⟩)
      · split at z <;> omega
      · rw [if_neg (by omega)]; exact z
    have eend : ff_X10_isAtEnd N t1 = some (oz (decide (kq X p = 0))) := by
      unfold ff_X10_isAtEnd
      simp only [e7]
      by_cases c : kq X p = 0
      · rw [if_pos c, decide_eq_true c]; rfl
      · rw [if_neg c, decide_eq_false c]; rfl
    have ez : ∀ {α : Type} {A B : α}, (if oz (decide (kq X p = 0)) = 0 then A else B) = if kq X p = 0 then B else A := oz_ite
    by_cases c0 : kq X p = 0
    · refine Or.inr (Or.inl ⟨ff_X7_readDraft_b100 N y1 t1 d1, ff_X13_readText_b45 N s2, Or.inl ⟨y1, t1, d1, s2, p, S, T, r, rfl, rfl, hj, hrd, q1⟩, fun g => ?_, fun g => ?_⟩)
      · show ff_X7_readDraft_c46 N g y1 t1 d1 (Int32.ofInt (k : Int)) = _
        unfold ff_X7_readDraft_c46
        rw [ii_900, ii_le (by omega) (by omega), eend, Option.bind_some, ez, if_pos c0]
        exact ite_self _
      · show ff_X13_readText_c8 N g s2 = _
        unfold ff_X13_readText_c8
        rw [tj_good hj, Option.bind_some, if_neg (show ¬ ((1 : Int32) = 0) by decide), if_pos (by rw [e6]; exact c0)]
    · have hpc : p < X.2.2.2.2.2 := Classical.byContradiction fun z => c0 ((kq_0 hj).2 z)
      have hcls : ∀ g, ff_X7_readDraft_c46 N g y1 t1 d1 (Int32.ofInt (k : Int)) = ((ff_X7_readStatement N y1 t1 d1).bind fun u_9 => (if u_9.1 = 0 then (if u_9.2.1 = 0 then some (0, (0 : Int32), u_9.2.2.1, u_9.2.2.2.1, u_9.2.2.2.2) else ((ff_X10_takeSign N u_9.2.2.2.1 (59 : Int32)).bind fun u_12 => (if u_12.1 = 0 then some (0, (0 : Int32), u_9.2.2.1, u_12.2, u_9.2.2.2.2) else g (ss_I u_9.2.2.1 7 ((os_I u_9.2.2.1 7) + (1 : Int32)), u_12.2, u_9.2.2.2.2, Int32.ofInt ((k + 1 : Nat) : Int))))) else some (u_9.1, (0 : Int32), u_9.2.2.1, u_9.2.2.2.1, u_9.2.2.2.2))) := fun g => by
        unfold ff_X7_readDraft_c46
        rw [ii_900, ii_le (by omega) (by omega), if_neg (by omega), eend, Option.bind_some, ez, if_neg c0]
        have einc : Int32.ofInt (k : Int) + 1 = Int32.ofInt ((k + 1 : Nat) : Int) := by rw [ii_1, ia_add]; rfl
        rw [einc]
      have href : ∀ g, ff_X13_readText_c8 N g s2 = ((ff_X13_statement N s2).bind fun u_9 => ((ff_X13_mustSign N u_9 (59 : Int32)).bind fun u_11 => g (ss_I u_11 23 ((os_I u_11 23) + (1 : Int32))))) := fun g => by
        unfold ff_X13_readText_c8
        rw [tj_good hj, Option.bind_some, if_neg (show ¬ ((1 : Int32) = 0) by decide), if_neg (by rw [e6]; exact c0)]
      have hte : ∀ (t' m' : os_T), te t' m' → ∀ g, ff_X13_readText_c8 N g m' = ff_X13_readText_b45 N m' := fun t' m' e g => by
        unfold ff_X13_readText_c8
        rw [te_good e, Option.bind_some, if_pos rfl]
      rcases st_one (N := N) (by omega) hj hpc hrd with ⟨y2, t2, d2, m2, S2, T2, r2, p2, g1, g2, g3, g4, g5, g6⟩ | ⟨y2, t2, d2, m2, g1, g2, g3, g4⟩
      · rcases tj_sign (N := N) (v := 59) (by omega) g3 (by decide) with ⟨t3, m3, w1, w2, h3, c3, q3⟩ | ⟨t3, m3, w1, w2, h3, q3⟩
        · have w1 : ff_X10_takeSign N t2 (59 : Int32) = _ := w1
          have w2 : ff_X13_mustSign N m2 (59 : Int32) = _ := w2
          have r3 := rd_keep g5 q3
          refine Or.inl ⟨(ss_I y2 7 (os_I y2 7 + 1), t3, d2, Int32.ofInt ((k + 1 : Nat) : Int)), ss_I m3 23 (os_I m3 23 + 1), ⟨rfl, q_st1 ((q1.tr g6).tr (ke_kt q3)) (by decide), p2 + 1, S2, T2, r2, tj_I h3 (by decide), by omega, ?_⟩, fun g => ?_, fun g => ?_⟩
          · obtain ⟨a1, a2, a3, a4, a5, a6, a7, a8, a9, a10, a11⟩ := r3
            refine ⟨a1, a2, a3, a4, a5, a6, a7, fun i i1 i2 => ?_, a9, a10, ?_⟩
            · have z1 : os_I (ss_I y2 7 (os_I y2 7 + 1)) i = os_I y2 i := os_u_ne (by omega)
              have z2 : os_I (ss_I m3 23 (os_I m3 23 + 1)) (16 + i) = os_I m3 (16 + i) := os_u_ne (by omega)
              show os_I (ss_I y2 7 (os_I y2 7 + 1)) i = _ ∧ _
              rw [z1, z2]
              exact a8 i i1 i2
            · show os_I y2 7 + 1 = os_I m3 23 + 1
              rw [a11]
          · show ff_X7_readDraft_c46 N g y1 t1 d1 (Int32.ofInt (k : Int)) = _
            rw [hcls g, g1, Option.bind_some, if_pos rfl, if_neg (show ¬ ((1 : Int32) = 0) by decide), w1, Option.bind_some, if_neg (show ¬ ((1 : Int32) = 0) by decide)]
          · show ff_X13_readText_c8 N g s2 = _
            rw [href g, g2, Option.bind_some, w2, Option.bind_some]
        · have w1 : ff_X10_takeSign N t2 (59 : Int32) = _ := w1
          have w2 : ff_X13_mustSign N m2 (59 : Int32) = _ := w2
          have h3' : te t3 (ss_I m3 23 (os_I m3 23 + 1)) := te_I h3 (by decide)
          refine Or.inr (Or.inr ⟨some (0, 0, y2, t3, d2), ff_X13_readText_b45 N (ss_I m3 23 (os_I m3 23 + 1)), ss_I m3 23 (os_I m3 23 + 1), Or.inr ⟨y2, t3, d2, _, rfl, rfl, h3', q_st1 ((q1.tr g6).tr (ke_kt q3)) (by decide)⟩, fun g => ?_, fun g => ?_, fun g => hte _ _ h3' g⟩)
          · show ff_X7_readDraft_c46 N g y1 t1 d1 (Int32.ofInt (k : Int)) = _
            rw [hcls g, g1, Option.bind_some, if_pos rfl, if_neg (show ¬ ((1 : Int32) = 0) by decide), w1, Option.bind_some, if_pos rfl]
          · show ff_X13_readText_c8 N g s2 = _
            rw [href g, g2, Option.bind_some, w2, Option.bind_some]
      · have h3' : te t2 (ss_I m2 23 (os_I m2 23 + 1)) := te_I g3 (by decide)
        refine Or.inr (Or.inr ⟨some (0, 0, y2, t2, d2), ff_X13_readText_b45 N (ss_I m2 23 (os_I m2 23 + 1)), ss_I m2 23 (os_I m2 23 + 1), Or.inr ⟨y2, t2, d2, _, rfl, rfl, h3', q_st1 (q1.tr g4) (by decide)⟩, fun g => ?_, fun g => ?_, fun g => hte _ _ h3' g⟩)
        · show ff_X7_readDraft_c46 N g y1 t1 d1 (Int32.ofInt (k : Int)) = _
          rw [hcls g, g1, Option.bind_some, if_pos rfl, if_pos rfl]
        · show ff_X13_readText_c8 N g s2 = _
          rw [href g, g2, Option.bind_some, te_mustSign g3, Option.bind_some]
/-- the beginning of a text -/
def s_0 : Nat → Nat := fun i => if i = 0 then 4 else if i = 1 then 4 else if i = 2 then 8 else if i = 3 then 80 else if i = 4 then 1 else if i = 5 then 2 else 1
theorem s_0v : sv s_0 := by unfold sv s_0; decide
theorem rc_begins (hN : 1000 < N) : ∃ m', ff_X13_begins N m = some m' ∧ (∀ i, i < 7 → os_A m' 2 i = Int32.ofInt (s_0 i : Int)) ∧ a16 (os_A m' 5) (fun _ _ => 255) ∧ (∀ k, 18 ≤ k → k ≤ 23 → os_I m' k = 0) ∧ sy (fun i => 18 ≤ i ∧ i ≤ 23) (fun j => j = 2 ∨ j = 5) m m' := by
  have key := lo_cnt (N := N) (step := fun k54 s1 => ff_X13_begins_c54 N k54 s1.1 s1.2)
    (fun k s => s.2 = Int32.ofInt (k : Int) ∧ (∀ i, i < 7 → os_A s.1 2 i = Int32.ofInt (s_0 i : Int)) ∧ (∀ i, i < k → os_A s.1 5 i = Int32.ofInt 255) ∧ sy (fun i => 18 ≤ i ∧ i ≤ 23) (fun j => j = 2 ∨ j = 5) m s.1)
    (fun v => ∃ m', v = some m' ∧ (∀ i, i < 7 → os_A m' 2 i = Int32.ofInt (s_0 i : Int)) ∧ a16 (os_A m' 5) (fun _ _ => 255) ∧ (∀ k, 18 ≤ k → k ≤ 23 → os_I m' k = 0) ∧ sy (fun i => 18 ≤ i ∧ i ≤ 23) (fun j => j = 2 ∨ j = 5) m m')
    192 ?_ ?_ (by omega) (s := (ss_A m 2 (upd (upd (upd (upd (upd (upd (upd (os_A m 2) (Int32.toNatClampNeg (0 : Int32)) (4 : Int32)) (Int32.toNatClampNeg (1 : Int32)) (4 : Int32)) (Int32.toNatClampNeg (2 : Int32)) (8 : Int32)) (Int32.toNatClampNeg (3 : Int32)) (80 : Int32)) (Int32.toNatClampNeg (4 : Int32)) (1 : Int32)) (Int32.toNatClampNeg (5 : Int32)) (2 : Int32)) (Int32.toNatClampNeg (6 : Int32)) (1 : Int32)), (0 : Int32))) ⟨rfl, ?_, fun i hi => by omega, sy_A (Or.inl rfl)⟩
  · obtain ⟨v, ⟨m', rfl, h⟩, e⟩ := key
    refine ⟨m', ?_, h⟩
    unfold ff_X13_begins
    rw [if_pos nw_0, if_pos nw_1, if_pos nw_2, if_pos nw_3, if_pos nw_4, if_pos nw_5, if_pos nw_6]
    exact e
  · intro k s hk hI
    obtain ⟨m1, a1⟩ := s
    obtain ⟨e1, h2, h5, hy⟩ := hI
    have e1 : a1 = _ := e1
    subst e1
    refine ⟨(ss_A m1 5 (upd (os_A m1 5) k (255 : Int32)), Int32.ofInt ((k + 1 : Nat) : Int)), ⟨rfl, h2, fun i hi => ?_, hy.tr (sy_A (Or.inr rfl))⟩, fun g => ?_⟩
    · show upd (os_A m1 5) k (255 : Int32) i = _
      by_cases c : i = k
      · subst c; rw [up_eq]; rfl
      · rw [up_ne c]; exact h5 i (by omega)
    · show ff_X13_begins_c54 N g m1 (Int32.ofInt (k : Int)) = _
      unfold ff_X13_begins_c54
      rw [ii_192, ii_le (by omega) (by omega), if_neg (by omega), if_pos (ia_in (by omega) (by omega) (by omega)), ia_nat (by omega) (by omega), Int.toNat_natCast, ii_1, ia_add]
      rfl
  · intro s hI
    obtain ⟨m1, a1⟩ := s
    obtain ⟨e1, h2, h5, hy⟩ := hI
    have e1 : a1 = _ := e1
    subst e1
    refine ⟨_, ⟨ss_I (ss_I (ss_I (ss_I (ss_I (ss_I m1 18 (0 : Int32)) 19 (0 : Int32)) 20 (0 : Int32)) 21 (0 : Int32)) 22 (0 : Int32)) 23 (0 : Int32), rfl, h2, fun k hk => h5 k hk, fun k k1 k2 => ?_, hy.tr ((((((show sy (fun i => 18 ≤ i ∧ i ≤ 23) (fun j => j = 2 ∨ j = 5) m1 (ss_I m1 18 (0 : Int32)) from sy_I (by decide)).tr (sy_I (by decide))).tr (sy_I (by decide))).tr (sy_I (by decide))).tr (sy_I (by decide))).tr (sy_I (by decide)))⟩, fun g => ?_⟩
    · have hk : k = 18 ∨ k = 19 ∨ k = 20 ∨ k = 21 ∨ k = 22 ∨ k = 23 := by omega
      rcases hk with rfl | rfl | rfl | rfl | rfl | rfl <;> rfl
    · show ff_X13_begins_c54 N g m1 (Int32.ofInt ((192 : Nat) : Int)) = _
      unfold ff_X13_begins_c54
      rw [if_pos (by decide)]
  · intro i hi
    have hk : i = 0 ∨ i = 1 ∨ i = 2 ∨ i = 3 ∨ i = 4 ∨ i = 5 ∨ i = 6 := by omega
    rcases hk with rfl | rfl | rfl | rfl | rfl | rfl | rfl <;> rfl
theorem pc_clear : ∃ d', ff_X5_clear N d = some d' ∧ (∀ i, i < 7 → os_I d' i = Int32.ofInt (s_0 i : Int)) ∧ a16 (os_A d' 0) (fun _ _ => 255) := by
  refine ⟨_, rfl, fun i hi => ?_, fun k hk => ?_⟩
  · have hk : i = 0 ∨ i = 1 ∨ i = 2 ∨ i = 3 ∨ i = 4 ∨ i = 5 ∨ i = 6 := by omega
    rcases hk with rfl | rfl | rfl | rfl | rfl | rfl | rfl <;> rfl
  · show os_fill 192 (255 : Int32) (os_A d 0) k = _
    unfold os_fill
    simp [hk]
end Draft
