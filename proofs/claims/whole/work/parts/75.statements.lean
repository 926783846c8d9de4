/-! LAYER 2. Statements of a relief's text -/
def sR (X : tx) (p : Nat) (m : os_T) (A : Option (Int32 × os_T × os_T × os_T)) (R : Option os_T) : Prop :=
  (∃ (y' t' d' m' : os_T) (S' : Nat → Nat) (T' : Int → Int → Int) (r' p' : Nat), A = some (1, y', t', d') ∧ R = some m' ∧ tj X t' m' p' ∧ p < p' ∧ rd y' d' m' S' T' r' ∧ sq kt jt m m') ∨ (∃ (y' t' d' m' : os_T), A = some (0, y', t', d') ∧ R = some m' ∧ te t' m' ∧ sq kt jt m m')
section Statements
variable {N : Nat} {X : tx} {t m y d : os_T} {p : Nat} {S : Nat → Nat} {T : Int → Int → Int} {r : Nat}
theorem tj.sy {m' : os_T} {K J : Nat → Prop} (h : tj X t m p) (hx : sy K J m m') (h3 : ∀ i, 3 ≤ i → i ≤ 9 → ¬ K i) (h0 : ¬ J 0) : tj X t m' p := by
  obtain ⟨a1, a2, a3, a4, a5, a6, a7, a8, a9, a10⟩ := h
  obtain ⟨b1, b2, b3, b4, b5, b6⟩ := a8
  refine ⟨a1, a2, a3, a4, a5, a6, a7.sq hx.sq (h3 3 (by decide) (by decide)) h0, ⟨?_, ?_, ?_, ?_, ?_, ?_⟩, ?_, ?_⟩
  · rw [hx.1 4 (h3 4 (by decide) (by decide))]; exact b1
  · rw [hx.1 5 (h3 5 (by decide) (by decide))]; exact b2
  · rw [hx.1 6 (h3 6 (by decide) (by decide))]; exact b3
  · rw [hx.2.1 12]; exact b4
  · rw [hx.1 7 (h3 7 (by decide) (by decide))]; exact b5
  · rw [hx.1 7 (h3 7 (by decide) (by decide))]; exact b6
  · rw [hx.1 8 (h3 8 (by decide) (by decide))]; exact a9
  · rw [hx.1 9 (h3 9 (by decide) (by decide))]; exact a10
theorem tj_I {k : Nat} {v : Int32} (h : tj X t m p) (hk : 10 ≤ k) : tj X t (ss_I m k v) p := h.sy (show sy (fun i => i = k) (fun _ => False) m (ss_I m k v) from sy_I rfl) (fun i h1 h2 h3 => by omega) (fun z => z)
theorem tj_A {k : Nat} {f : Nat → Int32} (h : tj X t m p) (hk : 1 ≤ k) : tj X t (ss_A m k f) p := h.sy (show sy (fun _ => False) (fun j => j = k) m (ss_A m k f) from sy_A rfl) (fun i h1 h2 h3 => h3) (fun z => by omega)
theorem te_I {k : Nat} {v : Int32} (h : te t m) (hk : 10 ≤ k) : te t (ss_I m k v) := te_sq h (show sq (fun i => i = k) kn m (ss_I m k v) from sq_I rfl) (fun z => by omega) (fun z => by omega)
theorem te_A {k : Nat} {f : Nat → Int32} (h : te t m) : te t (ss_A m k f) := te_sq h (show sq kn (fun j => j = k) m (ss_A m k f) from sq_A rfl) (fun z => z) (fun z => z)
theorem ke_kt {m' : os_T} (h : sq ke kn m m') : sq kt jt m m' := h.mono (fun i hi => Or.inl hi) (fun j hj => hj.elim)
theorem rd_keep {m' : os_T} (h : rd y d m S T r) (hx : sq ke kn m m') : rd y d m' S T r := h.sq hx (fun z => z) (fun z => z) (fun i h1 h2 h3 => by omega)
theorem on_0 (hN : 1000 < N) (h : tj X t m p) (c : p < X.2.2.2.2.2) : ∃ t' m', ff_X10_advance N t = some t' ∧ ff_X13_once N m 0 = some (1, m') ∧ tj X t' m' (p + 1) ∧ sq ke kn m m' := by
  obtain ⟨t', m', e1, e2, hj, hq⟩ := tj_adv (N := N) hN h c
  refine ⟨t', m', e1, ?_, hj, hq⟩
  unfold ff_X13_once ff_X13_once_b9
  rw [if_pos rfl, tj_good h, Option.bind_some, if_neg (show ¬ ((1 : Int32) = 0) by decide), e2, Option.bind_some]
theorem on_1 (h : tj X t m p) (hk : kq X p ≠ 5) : ∃ m', ff_X13_once N m 1 = some (1, m') ∧ te (ss_I t 10 3) m' ∧ sq ke kn m m' := by
  obtain ⟨m', w1, w2, hj, hq, -⟩ := tj_fail (N := N) (c := 3) h (by omega) (fun z => absurd z hk)
  refine ⟨m', ?_, hj, hq⟩
  unfold ff_X13_once ff_X13_once_b9
  rw [if_neg (show ¬ ((1 : Int32) = 0) by decide), ii_3, w2, Option.bind_some, te_good hj, Option.bind_some, if_pos rfl]
theorem fail3 {α : Type} {f : Int32 × os_T → Option α} : ((ff_X10_fail N t (3 : Int32)).bind f) = f (0, ss_I t 10 3) := rfl
theorem fail5 {α : Type} {f : Int32 × os_T → Option α} : ((ff_X10_fail N t (5 : Int32)).bind f) = f (0, ss_I t 10 5) := rfl
theorem fail1 {α : Type} {f : Int32 × os_T → Option α} : ((ff_X10_fail N t (1 : Int32)).bind f) = f (0, ss_I t 10 1) := rfl
theorem z0 {α : Type} {A B : α} : (if os_z (0 : Int32) then A else B) = A := if_pos (Or.inl rfl)
theorem z1 {α : Type} {A B : α} : (if os_z (1 : Int32) then A else B) = A := if_pos (Or.inr rfl)
theorem neg1 {v : Int} (h : 0 ≤ v ∧ v ≤ 100000) {α : Type} {A B : α} : (if Int32.ofInt v = (-1 : Int32) then A else B) = B := by rw [m1_eq (by omega), if_neg (by omega)]
theorem q_st2 {k : Nat} {f : Nat → Int32} {m' : os_T} (h : sq kt jt m m') (hk : jt k) : sq kt jt m (ss_A m' k f) := h.tr (sq_A hk)
theorem q_st1 {k : Nat} {v : Int32} {m' : os_T} (h : sq kt jt m m') (hk : kt k) : sq kt jt m (ss_I m' k v) := h.tr (sq_I hk)
theorem st_slope (hN : 1000 < N) (h : tj X t m p) (c : p < X.2.2.2.2.2) (hk : kq X p ≠ 5) (hr : rd y d m S T r) : sR X p m (ff_X7_readSlope N y t d) ((ff_X13_once N m (os_I m 21)).bind fun u_20 => (if os_z u_20.1 then ((ff_X13_number N (ss_I u_20.2 21 u_20.1) (0 : Int32) (9 : Int32)).bind fun u_23 => (if os_in (6 : Int32) 7 then some (ss_A u_23.2 2 (upd (os_A u_23.2 2) (Int32.toNatClampNeg (6 : Int32)) u_23.1)) else none)) else none)) := by
  have hf := hr.2.2.2.2.2.2.2.1 5 (by decide) (by decide)
  have hf1 : os_I y 5 = os_I m 21 := hf.1
  have hf2 : os_I m 21 = 0 ∨ os_I m 21 = 1 := hf.2
  have n7 : Int32.toNatClampNeg (6 : Int32) = 6 := by decide
  unfold ff_X7_readSlope
  rw [hf1]
  rcases hf2 with z | z
  · rw [z, if_pos rfl]
    obtain ⟨t1, m1, e1, e2, h1, q1⟩ := on_0 (N := N) hN h c
    have h1' : tj X t1 (ss_I m1 21 1) (p + 1) := tj_I h1 (by decide)
    have r1 : rd (ss_I y 5 1) d (ss_I m1 21 1) S T r := rd_flag (k := 5) (rd_keep hr q1) (by decide) (by decide)
    rcases tj_number (N := N) (a := 0) (b := 9) hN h1' (by decide) (by decide) with ⟨v, t2, m2, v1, v2, w1, w2, h2, -, q2⟩ | ⟨t2, m2, w, w1, w2, h2, q2⟩
    · have w1 : ff_X10_takeNumber N t1 (0 : Int32) (9 : Int32) = _ := w1
      have w2 : ff_X13_number N (ss_I m1 21 1) (0 : Int32) (9 : Int32) = _ := w2
      refine Or.inl ⟨ss_I y 5 1, t2, ss_I d 6 (Int32.ofInt v), ss_A m2 2 (upd (os_A m2 2) 6 (Int32.ofInt v)), _, T, r, p + 1 + 1, ?_, ?_, tj_A h2 (by decide), by omega, rd_set (rd_keep r1 q2) (by decide) (by omega) ?_ (Or.inr (by decide)), q_st2 ((q_st1 (ke_kt q1) (by decide)).tr (ke_kt q2)) (by decide)⟩
      · rw [e1, Option.bind_some, w1, Option.bind_some, neg1 (by omega)]
      · rw [e2, Option.bind_some, z1, w2, Option.bind_some, if_pos nw_6, n7]
      · have a := sv_a hr.1
        simp [sv, sS]
        omega
    · have w1 : ff_X10_takeNumber N t1 (0 : Int32) (9 : Int32) = _ := w1
      have w2 : ff_X13_number N (ss_I m1 21 1) (0 : Int32) (9 : Int32) = _ := w2
      refine Or.inr ⟨ss_I y 5 1, t2, ss_I d 6 (-1), ss_A m2 2 (upd (os_A m2 2) 6 w), ?_, ?_, te_A h2, q_st2 ((q_st1 (ke_kt q1) (by decide)).tr (ke_kt q2)) (by decide)⟩
      · rw [e1, Option.bind_some, w1, Option.bind_some, if_pos rfl]
      · rw [e2, Option.bind_some, z1, w2, Option.bind_some, if_pos nw_6, n7]
  · rw [z, if_neg (show ¬ ((1 : Int32) = 0) by decide), fail3, z0]
    obtain ⟨m1, e2, h1, q1⟩ := on_1 (N := N) h hk
    have h1' : te (ss_I t 10 3) (ss_I m1 21 1) := te_I h1 (by decide)
    refine Or.inr ⟨y, ss_I t 10 3, d, ss_A (ss_I m1 21 1) 2 (upd (os_A m1 2) 6 (os_I m1 7)), rfl, ?_, te_A h1', q_st2 (q_st1 (ke_kt q1) (by decide)) (by decide)⟩
    rw [e2, Option.bind_some, z1, te_number h1', Option.bind_some, if_pos nw_6, n7]
    rfl
theorem st_wall (hN : 1000 < N) (h : tj X t m p) (c : p < X.2.2.2.2.2) (hk : kq X p ≠ 5) (hr : rd y d m S T r) : sR X p m (ff_X7_readWall N y t d) ((ff_X13_once N m (os_I m 20)).bind fun u_20 => (if os_z u_20.1 then ((ff_X13_number N (ss_I u_20.2 20 u_20.1) (1 : Int32) (4 : Int32)).bind fun u_23 => (if os_in (5 : Int32) 7 then some (ss_A u_23.2 2 (upd (os_A u_23.2 2) (Int32.toNatClampNeg (5 : Int32)) u_23.1)) else none)) else none)) := by
  have hf := hr.2.2.2.2.2.2.2.1 4 (by decide) (by decide)
  have hf1 : os_I y 4 = os_I m 20 := hf.1
  have hf2 : os_I m 20 = 0 ∨ os_I m 20 = 1 := hf.2
  have n7 : Int32.toNatClampNeg (5 : Int32) = 5 := by decide
  unfold ff_X7_readWall
  rw [hf1]
  rcases hf2 with z | z
  · rw [z, if_pos rfl]
    obtain ⟨t1, m1, e1, e2, h1, q1⟩ := on_0 (N := N) hN h c
    have h1' : tj X t1 (ss_I m1 20 1) (p + 1) := tj_I h1 (by decide)
    have r1 : rd (ss_I y 4 1) d (ss_I m1 20 1) S T r := rd_flag (k := 4) (rd_keep hr q1) (by decide) (by decide)
    rcases tj_number (N := N) (a := 1) (b := 4) hN h1' (by decide) (by decide) with ⟨v, t2, m2, v1, v2, w1, w2, h2, -, q2⟩ | ⟨t2, m2, w, w1, w2, h2, q2⟩
    · have w1 : ff_X10_takeNumber N t1 (1 : Int32) (4 : Int32) = _ := w1
      have w2 : ff_X13_number N (ss_I m1 20 1) (1 : Int32) (4 : Int32) = _ := w2
      refine Or.inl ⟨ss_I y 4 1, t2, ss_I d 5 (Int32.ofInt v), ss_A m2 2 (upd (os_A m2 2) 5 (Int32.ofInt v)), _, T, r, p + 1 + 1, ?_, ?_, tj_A h2 (by decide), by omega, rd_set (rd_keep r1 q2) (by decide) (by omega) ?_ (Or.inr (by decide)), q_st2 ((q_st1 (ke_kt q1) (by decide)).tr (ke_kt q2)) (by decide)⟩
      · rw [e1, Option.bind_some, w1, Option.bind_some, neg1 (by omega)]
      · rw [e2, Option.bind_some, z1, w2, Option.bind_some, if_pos nw_5, n7]
      · have a := sv_a hr.1
        simp [sv, sS]
        omega
    · have w1 : ff_X10_takeNumber N t1 (1 : Int32) (4 : Int32) = _ := w1
      have w2 : ff_X13_number N (ss_I m1 20 1) (1 : Int32) (4 : Int32) = _ := w2
      refine Or.inr ⟨ss_I y 4 1, t2, ss_I d 5 (-1), ss_A m2 2 (upd (os_A m2 2) 5 w), ?_, ?_, te_A h2, q_st2 ((q_st1 (ke_kt q1) (by decide)).tr (ke_kt q2)) (by decide)⟩
      · rw [e1, Option.bind_some, w1, Option.bind_some, if_pos rfl]
      · rw [e2, Option.bind_some, z1, w2, Option.bind_some, if_pos nw_5, n7]
  · rw [z, if_neg (show ¬ ((1 : Int32) = 0) by decide), fail3, z0]
    obtain ⟨m1, e2, h1, q1⟩ := on_1 (N := N) h hk
    have h1' : te (ss_I t 10 3) (ss_I m1 20 1) := te_I h1 (by decide)
    refine Or.inr ⟨y, ss_I t 10 3, d, ss_A (ss_I m1 20 1) 2 (upd (os_A m1 2) 5 (os_I m1 7)), rfl, ?_, te_A h1', q_st2 (q_st1 (ke_kt q1) (by decide)) (by decide)⟩
    rw [e2, Option.bind_some, z1, te_number h1', Option.bind_some, if_pos nw_5, n7]
    rfl
theorem st_panel (hN : 1000 < N) (h : tj X t m p) (c : p < X.2.2.2.2.2) (hk : kq X p ≠ 5) (hr : rd y d m S T r) : sR X p m (ff_X7_readPanel N y t d) (if (os_I m 18) = 0 then (if (os_I m 22) ≤ 0 then ff_X13_statement_b31 N m (0 : Int32) else ff_X13_statement_b26 N m) else ff_X13_statement_b26 N m) := by
  have hf := hr.2.2.2.2.2.2.2.1 2 (by decide) (by decide)
  have hf1 : os_I y 2 = os_I m 18 := hf.1
  have hf2 : os_I m 18 = 0 ∨ os_I m 18 = 1 := hf.2
  have h6 : os_I y 6 = Int32.ofInt (r : Int) := hr.2.2.2.2.2.2.2.2.1
  have h22 : os_I m 22 = Int32.ofInt (r : Int) := hr.2.2.2.2.2.2.2.2.2.1
  have hs := sv_a hr.1
  have hrr := hr.2.1
  have bad : sR X p m (ff_X7_readPanel_b14 N y t d) (ff_X13_statement_b26 N m) := by
    obtain ⟨m1, e2, h1, q1⟩ := on_1 (N := N) h hk
    have h1' : te (ss_I t 10 3) (ss_I m1 18 1) := te_I h1 (by decide)
    have h2' : te (ss_I t 10 3) (ss_A (ss_I m1 18 1) 2 (upd (os_A m1 2) 0 (os_I m1 7))) := te_A h1'
    refine Or.inr ⟨y, ss_I t 10 3, d, ss_A (ss_A (ss_I m1 18 1) 2 (upd (os_A m1 2) 0 (os_I m1 7))) 2 (upd (upd (os_A m1 2) 0 (os_I m1 7)) 1 (os_I m1 7)), rfl, ?_, te_A h2', q_st2 (q_st2 (q_st1 (ke_kt q1) (by decide)) (by decide)) (by decide)⟩
    unfold ff_X13_statement_b26 ff_X13_statement_b31
    rw [e2, Option.bind_some, z1, te_number h1', Option.bind_some, if_pos nw_0]
    show ((ff_X13_number N (ss_A (ss_I m1 18 1) 2 (upd (os_A m1 2) 0 (os_I m1 7))) (1 : Int32) (12 : Int32)).bind _) = _
    rw [te_number h2', Option.bind_some, if_pos nw_1]
    rfl
  unfold ff_X7_readPanel
  rw [hf1, h6, h22]
  simp only [i0_le (a := (r : Int)) (by omega)]
  rcases hf2 with z | z
  · rw [z, if_pos rfl, if_pos rfl]
    by_cases c0 : (r : Int) ≤ 0
    · rw [if_pos c0, if_pos c0]
      have hr0 : r = 0 := by omega
      subst hr0
      obtain ⟨t1, m1, e1, e2, h1, q1⟩ := on_0 (N := N) hN h c
      have h1' : tj X t1 (ss_I m1 18 1) (p + 1) := tj_I h1 (by decide)
      have r1 : rd (ss_I y 2 1) d (ss_I m1 18 1) S T 0 := rd_flag (k := 2) (rd_keep hr q1) (by decide) (by decide)
      unfold ff_X13_statement_b31
      rw [e1, Option.bind_some, e2, Option.bind_some, z1]
      have q1' : sq kt jt m (ss_I m1 18 1) := q_st1 (ke_kt q1) (by decide)
      rcases tj_number (N := N) (a := 1) (b := 16) hN h1' (by decide) (by decide) with ⟨v, t2, m2, v1, v2, w1, w2, h2, -, q2⟩ | ⟨t2, m2, w, w1, w2, h2, q2⟩
      · have w1 : ff_X10_takeNumber N t1 (1 : Int32) (16 : Int32) = _ := w1
        have w2 : ff_X13_number N (ss_I m1 18 1) (1 : Int32) (16 : Int32) = _ := w2
        rw [w1, Option.bind_some, neg1 (by omega), w2, Option.bind_some, if_pos nw_0]
        have r2 : rd (ss_I y 2 1) (ss_I d 0 (Int32.ofInt v)) (ss_A m2 2 (upd (os_A m2 2) 0 (Int32.ofInt v))) (sS S 0 v.toNat) T 0 := rd_set (rd_keep r1 q2) (by decide) (by omega) (by simp [sv, sS]; omega) (Or.inl rfl)
        have h2' : tj X t2 (ss_A m2 2 (upd (os_A m2 2) 0 (Int32.ofInt v))) (p + 1 + 1) := tj_A h2 (by decide)
        have q2' : sq kt jt m (ss_A m2 2 (upd (os_A m2 2) 0 (Int32.ofInt v))) := q_st2 (q1'.tr (ke_kt q2)) (by decide)
        rcases tj_number (N := N) (a := 1) (b := 12) hN h2' (by decide) (by decide) with ⟨u, t3, m3, u1, u2, w3, w4, h3, -, q3⟩ | ⟨t3, m3, w, w3, w4, h3, q3⟩
        · have w3 : ff_X10_takeNumber N t2 (1 : Int32) (12 : Int32) = _ := w3
          have w4 : ff_X13_number N (ss_A m2 2 (upd (os_A m2 2) 0 (Int32.ofInt v))) (1 : Int32) (12 : Int32) = _ := w4
          refine Or.inl ⟨ss_I y 2 1, t3, ss_I (ss_I d 0 (Int32.ofInt v)) 1 (Int32.ofInt u), ss_A m3 2 (upd (os_A m3 2) 1 (Int32.ofInt u)), _, T, 0, p + 1 + 1 + 1, ?_, ?_, tj_A h3 (by decide), by omega, rd_set (rd_keep r2 q3) (by decide) (by omega) ?_ (Or.inl rfl), q_st2 (q2'.tr (ke_kt q3)) (by decide)⟩
          · rw [w3, Option.bind_some, neg1 (by omega)]
          · show ((ff_X13_number N (ss_A m2 2 (upd (os_A m2 2) 0 (Int32.ofInt v))) (1 : Int32) (12 : Int32)).bind _) = _
            rw [w4, Option.bind_some, if_pos nw_1]
            rfl
          · simp [sv, sS]
            omega
        · have w3 : ff_X10_takeNumber N t2 (1 : Int32) (12 : Int32) = _ := w3
          have w4 : ff_X13_number N (ss_A m2 2 (upd (os_A m2 2) 0 (Int32.ofInt v))) (1 : Int32) (12 : Int32) = _ := w4
          refine Or.inr ⟨ss_I y 2 1, t3, ss_I (ss_I d 0 (Int32.ofInt v)) 1 (-1), ss_A m3 2 (upd (os_A m3 2) 1 w), ?_, ?_, te_A h3, q_st2 (q2'.tr (ke_kt q3)) (by decide)⟩
          · rw [w3, Option.bind_some, if_pos rfl]
          · show ((ff_X13_number N (ss_A m2 2 (upd (os_A m2 2) 0 (Int32.ofInt v))) (1 : Int32) (12 : Int32)).bind _) = _
            rw [w4, Option.bind_some, if_pos nw_1]
            rfl
      · have w1 : ff_X10_takeNumber N t1 (1 : Int32) (16 : Int32) = _ := w1
        have w2 : ff_X13_number N (ss_I m1 18 1) (1 : Int32) (16 : Int32) = _ := w2
        have h2' : te t2 (ss_A m2 2 (upd (os_A m2 2) 0 w)) := te_A h2
        have q2' : sq kt jt m (ss_A m2 2 (upd (os_A m2 2) 0 w)) := q_st2 (q1'.tr (ke_kt q2)) (by decide)
        rw [w1, Option.bind_some, if_pos rfl, w2, Option.bind_some, if_pos nw_0]
        refine Or.inr ⟨ss_I y 2 1, t2, ss_I d 0 (-1), ss_A (ss_A m2 2 (upd (os_A m2 2) 0 w)) 2 (upd (upd (os_A m2 2) 0 w) 1 (os_I m2 7)), rfl, ?_, te_A h2', q_st2 q2' (by decide)⟩
        show ((ff_X13_number N (ss_A m2 2 (upd (os_A m2 2) 0 w)) (1 : Int32) (12 : Int32)).bind _) = _
        rw [te_number h2', Option.bind_some, if_pos nw_1]
        rfl
    · rw [if_neg c0, if_neg c0]; exact bad
  · rw [z, if_neg (show ¬ ((1 : Int32) = 0) by decide), if_neg (show ¬ ((1 : Int32) = 0) by decide)]; exact bad
end Statements
