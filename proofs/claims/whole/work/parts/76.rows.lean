/-! LAYER 2. Steps and rows of a relief's text -/
def rdW (y d m : os_T) (S : Nat → Nat) (T : Int → Int → Int) (r : Nat) : Prop :=
  r ≤ S 1 ∧ (∀ i, i < 7 → os_I d i = Int32.ofInt (S i : Int)) ∧ (∀ i, i < 7 → os_A m 2 i = Int32.ofInt (S i : Int)) ∧ a16 (os_A d 0) T ∧ a16 (os_A m 5) T ∧ (∀ a b : Int, 0 ≤ a → a < 16 → 0 ≤ b → b < 12 → (0 ≤ T a b ∧ T a b ≤ 255) ∧ (¬ (a < S 0 ∧ b < r) → T a b = 255)) ∧ (∀ k, 2 ≤ k → k ≤ 5 → os_I y k = os_I m (16 + k) ∧ os_z (os_I m (16 + k))) ∧ os_I y 6 = Int32.ofInt (r : Int) ∧ os_I m 22 = Int32.ofInt (r : Int) ∧ os_I y 7 = os_I m 23
def sR2 (X : tx) (p : Nat) (m : os_T) (A : Option (Nat × Int32 × os_T × os_T × os_T)) (R : Option os_T) : Prop :=
  (∃ (y' t' d' m' : os_T) (S' : Nat → Nat) (T' : Int → Int → Int) (r' p' : Nat), A = some (0, 1, y', t', d') ∧ R = some m' ∧ tj X t' m' p' ∧ p < p' ∧ rd y' d' m' S' T' r' ∧ sq kt jt m m') ∨ (∃ (y' t' d' m' : os_T), A = some (0, 0, y', t', d') ∧ R = some m' ∧ te t' m' ∧ sq kt jt m m')
section Rows
variable {N : Nat} {X : tx} {t m y d : os_T} {p : Nat} {S : Nat → Nat} {T : Int → Int → Int} {r : Nat}
theorem rdW_keep {m' : os_T} (h : rdW y d m S T r) (hx : sq ke kn m m') : rdW y d m' S T r := by
  obtain ⟨a2, a3, a4, a5, a6, a7, a8, a9, a10, a11⟩ := h
  refine ⟨a2, a3, ?_, a5, ?_, a7, ?_, a9, ?_, ?_⟩
  · rw [hx.2 2 (fun z => z)]; exact a4
  · rw [hx.2 5 (fun z => z)]; exact a6
  · intro k k1 k2
    rw [hx.1 (16 + k) (by omega)]; exact a8 k k1 k2
  · rw [hx.1 22 (by omega)]; exact a10
  · rw [hx.1 23 (by omega)]; exact a11
theorem rdW_set {i : Nat} {v : Int} (h : rdW y d m S T r) (hi : i < 7) (hv : 0 ≤ v ∧ v ≤ 1000) (h2 : 2 ≤ i) : rdW y (ss_I d i (Int32.ofInt v)) (ss_A m 2 (upd (os_A m 2) i (Int32.ofInt v))) (sS S i v.toNat) T r := by
  obtain ⟨a2, a3, a4, a5, a6, a7, a8, a9, a10, a11⟩ := h
  have hs : ∀ j, (sS S i v.toNat) j = if j = i then v.toNat else S j := fun j => rfl
  refine ⟨?_, ?_, ?_, a5, a6, ?_, a8, a9, a10, a11⟩
  · rw [hs, if_neg (by omega)]; exact a2
  · intro j hj
    rw [hs]
    by_cases c : j = i
    · subst c
      have e1 : os_I (ss_I d j (Int32.ofInt v)) j = Int32.ofInt v := os_u_eq
      rw [if_pos rfl, e1, Int.toNat_of_nonneg hv.1]
    · have e1 : os_I (ss_I d i (Int32.ofInt v)) j = os_I d j := os_u_ne c
      rw [if_neg c, e1]; exact a3 j hj
  · intro j hj
    rw [hs]
    show upd (os_A m 2) i (Int32.ofInt v) j = _
    by_cases c : j = i
    · subst c
      rw [if_pos rfl, up_eq, Int.toNat_of_nonneg hv.1]
    · rw [if_neg c, up_ne c]; exact a4 j hj
  · intro a b b1 b2 b3 b4
    refine ⟨(a7 a b b1 b2 b3 b4).1, fun z => (a7 a b b1 b2 b3 b4).2 fun z2 => z ?_⟩
    rw [hs, if_neg (by omega)]; exact z2
theorem wc17 : (7734899 : Int64) = Int64.ofInt (wcv 17) := by decide +kernel
theorem wc18 : (67173 : Int64) = Int64.ofInt (wcv 18) := by decide +kernel
theorem st_steps (hN : 1000 < N) (h : tj X t m p) (c : p < X.2.2.2.2.2) (hk : kq X p ≠ 5) (hr : rd y d m S T r) : sR2 X p m (ff_X7_readSteps N y t d) ((ff_X13_once N m (os_I m 19)).bind fun u_32 => (if os_z u_32.1 then ((ff_X13_number N (ss_I u_32.2 19 u_32.1) (1 : Int32) (20 : Int32)).bind fun u_35 => (if os_in (2 : Int32) 7 then ((ff_X13_numberBehind N (ss_A u_35.2 2 (upd (os_A u_35.2 2) (Int32.toNatClampNeg (2 : Int32)) u_35.1)) (7734899 : Int64) (10 : Int32) (99 : Int32)).bind fun u_38 => (if os_in (3 : Int32) 7 then (if os_in (2 : Int32) 7 then ((ff_X13_numberBehind N (ss_A u_38.2 2 (upd (os_A u_38.2 2) (Int32.toNatClampNeg (3 : Int32)) u_38.1)) (67173 : Int64) (0 : Int32) ((upd (os_A u_38.2 2) (Int32.toNatClampNeg (3 : Int32)) u_38.1) (Int32.toNatClampNeg (2 : Int32)))).bind fun u_42 => (if os_in (4 : Int32) 7 then some (ss_A u_42.2 2 (upd (os_A u_42.2 2) (Int32.toNatClampNeg (4 : Int32)) u_42.1)) else none)) else none) else none)) else none)) else none)) := by
  have hf := hr.2.2.2.2.2.2.2.1 3 (by decide) (by decide)
  have hf1 : os_I y 3 = os_I m 19 := hf.1
  have hf2 : os_I m 19 = 0 ∨ os_I m 19 = 1 := hf.2
  have n2 : Int32.toNatClampNeg (2 : Int32) = 2 := by decide
  have n3 : Int32.toNatClampNeg (3 : Int32) = 3 := by decide
  have n4 : Int32.toNatClampNeg (4 : Int32) = 4 := by decide
  have hs := sv_a hr.1
  -- what is left, in an error
  have t3 : ∀ (t3 m3 : os_T), te t3 m3 → sq kt jt m m3 → ∃ m4, (if os_in (3 : Int32) 7 then (if os_in (2 : Int32) 7 then ((ff_X13_numberBehind N (ss_A m3 2 (upd (os_A m3 2) (Int32.toNatClampNeg (3 : Int32)) (os_I m3 7))) (67173 : Int64) (0 : Int32) ((upd (os_A m3 2) (Int32.toNatClampNeg (3 : Int32)) (os_I m3 7)) (Int32.toNatClampNeg (2 : Int32)))).bind fun u_42 => (if os_in (4 : Int32) 7 then some (ss_A u_42.2 2 (upd (os_A u_42.2 2) (Int32.toNatClampNeg (4 : Int32)) u_42.1)) else none)) else none) else none) = some m4 ∧ te t3 m4 ∧ sq kt jt m m4 := fun t3 m3 e q => by
    have e' : te t3 (ss_A m3 2 (upd (os_A m3 2) (Int32.toNatClampNeg (3 : Int32)) (os_I m3 7))) := te_A e
    rw [if_pos nw_3, if_pos nw_2, te_behind e', Option.bind_some, if_pos nw_4]
    exact ⟨_, rfl, te_A e', q_st2 (q_st2 q (by decide)) (by decide)⟩
  have t3w : ∀ (t3 m3 : os_T) (w : Int32), te t3 m3 → sq kt jt m m3 → ∃ m4, (if os_in (3 : Int32) 7 then (if os_in (2 : Int32) 7 then ((ff_X13_numberBehind N (ss_A m3 2 (upd (os_A m3 2) (Int32.toNatClampNeg (3 : Int32)) w)) (67173 : Int64) (0 : Int32) ((upd (os_A m3 2) (Int32.toNatClampNeg (3 : Int32)) w) (Int32.toNatClampNeg (2 : Int32)))).bind fun u_42 => (if os_in (4 : Int32) 7 then some (ss_A u_42.2 2 (upd (os_A u_42.2 2) (Int32.toNatClampNeg (4 : Int32)) u_42.1)) else none)) else none) else none) = some m4 ∧ te t3 m4 ∧ sq kt jt m m4 := fun t3 m3 w e q => by
    have e' : te t3 (ss_A m3 2 (upd (os_A m3 2) (Int32.toNatClampNeg (3 : Int32)) w)) := te_A e
    rw [if_pos nw_3, if_pos nw_2, te_behind e', Option.bind_some, if_pos nw_4]
    exact ⟨_, rfl, te_A e', q_st2 (q_st2 q (by decide)) (by decide)⟩
  have t2 : ∀ (t3 m3 : os_T) (w : Int32), te t3 m3 → sq kt jt m m3 → ∃ m4, (if os_in (2 : Int32) 7 then ((ff_X13_numberBehind N (ss_A m3 2 (upd (os_A m3 2) (Int32.toNatClampNeg (2 : Int32)) w)) (7734899 : Int64) (10 : Int32) (99 : Int32)).bind fun u_38 => (if os_in (3 : Int32) 7 then (if os_in (2 : Int32) 7 then ((ff_X13_numberBehind N (ss_A u_38.2 2 (upd (os_A u_38.2 2) (Int32.toNatClampNeg (3 : Int32)) u_38.1)) (67173 : Int64) (0 : Int32) ((upd (os_A u_38.2 2) (Int32.toNatClampNeg (3 : Int32)) u_38.1) (Int32.toNatClampNeg (2 : Int32)))).bind fun u_42 => (if os_in (4 : Int32) 7 then some (ss_A u_42.2 2 (upd (os_A u_42.2 2) (Int32.toNatClampNeg (4 : Int32)) u_42.1)) else none)) else none) else none)) else none) = some m4 ∧ te t3 m4 ∧ sq kt jt m m4 := fun t3' m3 w e q => by
    have e' : te t3' (ss_A m3 2 (upd (os_A m3 2) (Int32.toNatClampNeg (2 : Int32)) w)) := te_A e
    rw [if_pos nw_2, te_behind e', Option.bind_some]
    exact t3w t3' _ _ e' (q_st2 q (by decide))
  unfold ff_X7_readSteps
  rw [hf1]
  rcases hf2 with z | z
  · rw [z, if_pos rfl]
    obtain ⟨t1, m1, e1, e2, h1, q1⟩ := on_0 (N := N) hN h c
    have h1' : tj X t1 (ss_I m1 19 1) (p + 1) := tj_I h1 (by decide)
    have r1 : rdW (ss_I y 3 1) d (ss_I m1 19 1) S T r := (rd_flag (k := 3) (rd_keep hr q1) (by decide) (by decide)).2
    have q1' : sq kt jt m (ss_I m1 19 1) := q_st1 (ke_kt q1) (by decide)
    rw [e1, Option.bind_some, e2, Option.bind_some, z1]
    rcases tj_number (N := N) (a := 1) (b := 20) hN h1' (by decide) (by decide) with ⟨v, tA, mA, v1, v2, w1, w2, hA, -, qA⟩ | ⟨tA, mA, w, w1, w2, hA, qA⟩
    · have w1 : ff_X10_takeNumber N t1 (1 : Int32) (20 : Int32) = _ := w1
      have w2 : ff_X13_number N (ss_I m1 19 1) (1 : Int32) (20 : Int32) = _ := w2
      rw [w1, Option.bind_some, neg1 (by omega), w2, Option.bind_some, if_pos nw_2]
      simp only [n2, n3, n4]
      have rA : rdW (ss_I y 3 1) (ss_I d 2 (Int32.ofInt v)) (ss_A mA 2 (upd (os_A mA 2) 2 (Int32.ofInt v))) (sS S 2 v.toNat) T r := rdW_set (rdW_keep r1 qA) (by decide) (by omega) (by decide)
      have hA' : tj X tA (ss_A mA 2 (upd (os_A mA 2) 2 (Int32.ofInt v))) (p + 1 + 1) := tj_A hA (by decide)
      have qA' : sq kt jt m (ss_A mA 2 (upd (os_A mA 2) 2 (Int32.ofInt v))) := q_st2 (q1'.tr (ke_kt qA)) (by decide)
      unfold ff_X13_numberBehind
      rcases tj_wordMust (N := N) (k := 17) hN hA' (by decide) wc17 with ⟨tB, mB, w3, w4, hB, -, qB⟩ | ⟨tB, mB, w3, w4, hB, qB⟩
      · have qB' := qA'.tr (ke_kt qB)
        rw [w3, Option.bind_some, if_pos rfl, if_neg (show ¬ ((1 : Int32) = 0) by decide), w4, Option.bind_some]
        rcases tj_number (N := N) (a := 10) (b := 99) hN hB (by decide) (by decide) with ⟨u, tC, mC, u1, u2, w5, w6, hC, -, qC⟩ | ⟨tC, mC, w, w5, w6, hC, qC⟩
        · have w5 : ff_X10_takeNumber N tB (10 : Int32) (99 : Int32) = _ := w5
          have w6 : ff_X13_number N mB (10 : Int32) (99 : Int32) = _ := w6
          have qC' := qB'.tr (ke_kt qC)
          have rC : rdW (ss_I y 3 1) (ss_I (ss_I d 2 (Int32.ofInt v)) 3 (Int32.ofInt u)) (ss_A mC 2 (upd (os_A mC 2) 3 (Int32.ofInt u))) (sS (sS S 2 v.toNat) 3 u.toNat) T r := rdW_set (rdW_keep (rdW_keep rA qB) qC) (by decide) (by omega) (by decide)
          have hC' : tj X tC (ss_A mC 2 (upd (os_A mC 2) 3 (Int32.ofInt u))) (p + 1 + 1 + 1 + 1) := tj_A hC (by decide)
          have qC2 : sq kt jt m (ss_A mC 2 (upd (os_A mC 2) 3 (Int32.ofInt u))) := q_st2 qC' (by decide)
          have eg : upd (os_A mC 2) 3 (Int32.ofInt u) 2 = Int32.ofInt v := by
            rw [up_ne (by decide), qC.2 2 (fun z => z), qB.2 2 (fun z => z)]
            show upd (os_A mA 2) 2 (Int32.ofInt v) 2 = _
            exact up_eq
          rw [w5, Option.bind_some, neg1 (by omega), w6, Option.bind_some, Option.bind_some, if_pos nw_3, if_pos nw_2, eg]
          rcases tj_wordMust (N := N) (k := 18) hN hC' (by decide) wc18 with ⟨tD, mD, w7, w8, hD, -, qD⟩ | ⟨tD, mD, w7, w8, hD, qD⟩
          · have qD' := qC2.tr (ke_kt qD)
            rw [w7, Option.bind_some, if_pos rfl, if_neg (show ¬ ((1 : Int32) = 0) by decide), w8, Option.bind_some]
            rcases tj_number (N := N) (a := 0) (b := v) hN hD (by decide) (by omega) with ⟨s, tE, mE, s1, s2, w9, w10, hE, -, qE⟩ | ⟨tE, mE, w, w9, w10, hE, qE⟩
            · have w9 : ff_X10_takeNumber N tD (0 : Int32) (Int32.ofInt v) = _ := w9
              have w10 : ff_X13_number N mD (0 : Int32) (Int32.ofInt v) = _ := w10
              refine Or.inl ⟨ss_I y 3 1, tE, ss_I (ss_I (ss_I d 2 (Int32.ofInt v)) 3 (Int32.ofInt u)) 4 (Int32.ofInt s), ss_A mE 2 (upd (os_A mE 2) 4 (Int32.ofInt s)), sS (sS (sS S 2 v.toNat) 3 u.toNat) 4 s.toNat, T, r, p + 1 + 1 + 1 + 1 + 1 + 1, ?_, ?_, tj_A hE (by decide), by omega, ⟨?_, rdW_set (rdW_keep (rdW_keep rC qD) qE) (by decide) (by omega) (by decide)⟩, q_st2 (qD'.tr (ke_kt qE)) (by decide)⟩
              · rw [w9, Option.bind_some, neg1 (by omega)]
              · rw [w10, Option.bind_some, Option.bind_some, if_pos nw_4]
              · simp [sv, sS]
                omega
            · have w9 : ff_X10_takeNumber N tD (0 : Int32) (Int32.ofInt v) = _ := w9
              have w10 : ff_X13_number N mD (0 : Int32) (Int32.ofInt v) = _ := w10
              rw [w9, Option.bind_some, if_pos rfl, w10, Option.bind_some, Option.bind_some, if_pos nw_4]
              exact Or.inr ⟨_, tE, _, _, rfl, rfl, te_A hE, q_st2 (qD'.tr (ke_kt qE)) (by decide)⟩
          · have qD' := qC2.tr (ke_kt qD)
            rw [w7, Option.bind_some, if_pos rfl, if_pos rfl, w8, Option.bind_some, te_number hD, Option.bind_some, Option.bind_some, if_pos nw_4]
            exact Or.inr ⟨_, tD, _, _, rfl, rfl, te_A hD, q_st2 qD' (by decide)⟩
        · have w5 : ff_X10_takeNumber N tB (10 : Int32) (99 : Int32) = _ := w5
          have w6 : ff_X13_number N mB (10 : Int32) (99 : Int32) = _ := w6
          rw [w5, Option.bind_some, if_pos rfl, w6, Option.bind_some, Option.bind_some]
          obtain ⟨m4, e4, e5, e6⟩ := t3w tC mC w hC (qB'.tr (ke_kt qC))
          unfold ff_X13_numberBehind at e4
          simp only [n2, n3, n4] at e4
          exact Or.inr ⟨_, tC, _, m4, rfl, e4, e5, e6⟩
      · have qB' := qA'.tr (ke_kt qB)
        rw [w3, Option.bind_some, if_pos rfl, if_pos rfl, w4, Option.bind_some, te_number hB, Option.bind_some, Option.bind_some]
        obtain ⟨m4, e4, e5, e6⟩ := t3 tB mB hB qB'
        unfold ff_X13_numberBehind at e4
        simp only [n2, n3, n4] at e4
        exact Or.inr ⟨_, tB, _, m4, rfl, e4, e5, e6⟩
    · have w1 : ff_X10_takeNumber N t1 (1 : Int32) (20 : Int32) = _ := w1
      have w2 : ff_X13_number N (ss_I m1 19 1) (1 : Int32) (20 : Int32) = _ := w2
      rw [w1, Option.bind_some, if_pos rfl, w2, Option.bind_some]
      obtain ⟨m4, e4, e5, e6⟩ := t2 tA mA w hA (q1'.tr (ke_kt qA))
      exact Or.inr ⟨_, tA, _, m4, rfl, e4, e5, e6⟩
  · rw [z, if_neg (show ¬ ((1 : Int32) = 0) by decide), fail3, z0]
    obtain ⟨m1, e2, h1, q1⟩ := on_1 (N := N) h hk
    have h1' : te (ss_I t 10 3) (ss_I m1 19 1) := te_I h1 (by decide)
    obtain ⟨m4, e4, e5, e6⟩ := t2 (ss_I t 10 3) (ss_I m1 19 1) (os_I m1 7) h1' (q_st1 (ke_kt q1) (by decide))
    rw [e2, Option.bind_some, z1, te_number h1', Option.bind_some]
    exact Or.inr ⟨_, _, _, m4, rfl, e4, e5, e6⟩
theorem a16_hu {f : Nat → Int32} {G : Int → Int → Int} {a b v : Int} (h : a16 f G) (h1 : 0 ≤ a) (h2 : a < 16) (h3 : 0 ≤ b) : a16 (upd f (16 * b + a).toNat (Int32.ofInt v)) (hu G a b v) := by
  intro k hk
  by_cases c : k = (16 * b + a).toNat
  · subst c
    rw [up_eq]
    have e1 : (((16 * b + a).toNat % 16 : Nat) : Int) = a := by omega
    have e2 : (((16 * b + a).toNat / 16 : Nat) : Int) = b := by omega
    rw [e1, e2, hu_at]
  · rw [up_ne c, h k hk, hu_ne (fun z => c (by omega))]
theorem dy_dye {x v : Int} (e0 : os_I d 0 = Int32.ofInt (S 0 : Int)) (e1 : os_I d 1 = Int32.ofInt (S 1 : Int)) (hS : sv S) (hc : ic S x (r : Int)) : ff_X5_dye N d (Int32.ofInt x) (Int32.ofInt (r : Int)) (Int32.ofInt v) = some (ss_A d 0 (upd (os_A d 0) (16 * (r : Int) + x).toNat (Int32.ofInt v))) := by
  have hr := ic_r hS hc
  have hs := sv_a hS
  unfold ff_X5_dye ff_X5_has
  rw [e0, e1, gd_if (by omega) (by omega) (by omega) (by omega), if_pos hc, Option.bind_some, if_neg (show ¬ ((1 : Int32) = 0) by decide), if_pos (cp_in hS hc), cp_na hS hc]
/-- a row's loop in an error -/
theorem te_row {w : Nat} (hw : w ≤ 16) (hr : r ≤ 12) : ∀ j k M (m : os_T), k + j = w → j < M → te t m → os_A m 2 0 = Int32.ofInt (w : Int) → os_I m 22 = Int32.ofInt (r : Int) → ∃ m', os_loop (fun k31 s1 => ff_X13_readsRow_c31 N k31 s1.1 s1.2) M (m, Int32.ofInt (k : Int)) = some m' ∧ te t m' ∧ sq kt jt m m' := by
  have n0 : Int32.toNatClampNeg (0 : Int32) = 0 := by decide
  intro j
  induction j with
  | zero =>
    intro k M m hk hM ht e0 e22
    obtain ⟨M', rfl⟩ : ∃ M', M = M' + 1 := ⟨M - 1, by omega⟩
    refine ⟨ss_I m 22 (os_I m 22 + 1), ?_, te_I ht (by decide), sq_I (by decide)⟩
    rw [lo_1]
    show ff_X13_readsRow_c31 N _ m (Int32.ofInt (k : Int)) = _
    have e0' : os_A m 2 (Int32.toNatClampNeg (0 : Int32)) = Int32.ofInt (w : Int) := by rw [n0]; exact e0
    unfold ff_X13_readsRow_c31
    rw [if_pos nw_0, e0', ii_le (by omega) (by omega), if_pos (by omega)]
  | succ j ih =>
    intro k M m hk hM ht e0 e22
    obtain ⟨M', rfl⟩ : ∃ M', M = M' + 1 := ⟨M - 1, by omega⟩
    have el : ff_X13_less N (Int32.ofInt (r : Int)) (11 : Int32) = some (Int32.ofInt (if 11 ≤ (r : Int) then 11 else r)) := by
      unfold ff_X13_less
      rw [show (11 : Int32) = Int32.ofInt 11 from rfl, ii_le (by omega) (by omega)]
      split <;> rfl
    have hr2 : (if 11 ≤ (r : Int) then 11 else (r : Int)) ≤ 11 ∧ 0 ≤ (if 11 ≤ (r : Int) then 11 else (r : Int)) := by split <;> omega
    obtain ⟨m', e', h', q'⟩ := ih (k + 1) M' (ss_A m 5 (upd (os_A m 5) (Int32.toNatClampNeg (((16 : Int32) * Int32.ofInt (if 11 ≤ (r : Int) then 11 else r)) + Int32.ofInt (k : Int))) (os_I m 7))) (by omega) (by omega) (te_A ht) e0 e22
    refine ⟨m', ?_, h', (show sq kt jt m (ss_A m 5 (upd (os_A m 5) (Int32.toNatClampNeg (((16 : Int32) * Int32.ofInt (if 11 ≤ (r : Int) then 11 else r)) + Int32.ofInt (k : Int))) (os_I m 7))) from sq_A (by decide)).tr q'⟩
    rw [lo_1]
    show ff_X13_readsRow_c31 N _ m (Int32.ofInt (k : Int)) = _
    unfold ff_X13_readsRow_c31
    have e0' : os_A m 2 (Int32.toNatClampNeg (0 : Int32)) = Int32.ofInt (w : Int) := by rw [n0]; exact e0
    have hin : os_in (((16 : Int32) * Int32.ofInt (if 11 ≤ (r : Int) then 11 else r)) + Int32.ofInt (k : Int)) 192 := by
      rw [ii_16, ia_mul, ia_add]
      exact ia_in (by omega) (by omega) (by omega)
    have einc : Int32.ofInt (k : Int) + 1 = Int32.ofInt ((k + 1 : Nat) : Int) := by rw [ii_1, ia_add]; rfl
    rw [if_pos nw_0, e0', ii_le (by omega) (by omega), if_neg (by omega), e22, el, Option.bind_some, te_number ht, Option.bind_some, if_pos hin, einc]
    exact e'
theorem row_loop (hN : 1000 < N) (hS : sv S) (hr : r < S 1) {p0 : Nat} : ∀ j k M1 M2 (t d m : os_T) (T : Int → Int → Int), k + j = S 0 → j < M1 → j < M2 → tj X t m (p0 + k) → (∀ i, i < 7 → os_I d i = Int32.ofInt (S i : Int)) → os_A m 2 0 = Int32.ofInt (S 0 : Int) → os_I m 22 = Int32.ofInt (r : Int) → os_I y 6 = Int32.ofInt (r : Int) → a16 (os_A d 0) T → a16 (os_A m 5) T → (∀ a b : Int, 0 ≤ a → a < 16 → 0 ≤ b → b < 12 → (0 ≤ T a b ∧ T a b ≤ 255) ∧ (¬ ((a < S 0 ∧ b < r) ∨ (b = r ∧ a < k)) → T a b = 255)) →
    (∃ (t' d' m' : os_T) (T' : Int → Int → Int), os_loop (fun k32 s1 => ff_X7_readRow_c32 N k32 s1.1 s1.2.1 s1.2.2.1 s1.2.2.2) M1 (y, t, d, Int32.ofInt (k : Int)) = some (1, ss_I y 6 (Int32.ofInt ((r + 1 : Nat) : Int)), t', d') ∧ os_loop (fun k31 s1 => ff_X13_readsRow_c31 N k31 s1.1 s1.2) M2 (m, Int32.ofInt (k : Int)) = some (ss_I m' 22 (Int32.ofInt ((r + 1 : Nat) : Int))) ∧ tj X t' m' (p0 + S 0) ∧ (∀ i, i < 7 → os_I d' i = Int32.ofInt (S i : Int)) ∧ a16 (os_A d' 0) T' ∧ a16 (os_A m' 5) T' ∧ (∀ a b : Int, 0 ≤ a → a < 16 → 0 ≤ b → b < 12 → (0 ≤ T' a b ∧ T' a b ≤ 255) ∧ (¬ (a < S 0 ∧ b < ((r + 1 : Nat) : Int)) → T' a b = 255)) ∧ sq ke (fun j => j = 5) m m') ∨
    (∃ (t' d' m' : os_T), os_loop (fun k32 s1 => ff_X7_readRow_c32 N k32 s1.1 s1.2.1 s1.2.2.1 s1.2.2.2) M1 (y, t, d, Int32.ofInt (k : Int)) = some (0, y, t', d') ∧ os_loop (fun k31 s1 => ff_X13_readsRow_c31 N k31 s1.1 s1.2) M2 (m, Int32.ofInt (k : Int)) = some m' ∧ te t' m' ∧ sq kt jt m m') := by
  have hs := sv_a hS
  have n0 : Int32.toNatClampNeg (0 : Int32) = 0 := by decide
  intro j
  induction j with
  | zero =>
    intro k M1 M2 t d m T hk h1 h2 ht hd e0 e22 e6 a0 a5 hT
    obtain ⟨M1, rfl⟩ : ∃ M', M1 = M' + 1 := ⟨M1 - 1, by omega⟩
    obtain ⟨M2, rfl⟩ : ∃ M', M2 = M' + 1 := ⟨M2 - 1, by omega⟩
    have hk : k = S 0 := by omega
    have einc : Int32.ofInt (r : Int) + (1 : Int32) = Int32.ofInt ((r + 1 : Nat) : Int) := by rw [ii_1, ia_add]; rfl
    refine Or.inl ⟨t, d, m, T, ?_, ?_, by rw [← hk]; exact ht, hd, a0, a5, fun a b b1 b2 b3 b4 => ⟨(hT a b b1 b2 b3 b4).1, fun z => (hT a b b1 b2 b3 b4).2 (by omega)⟩, sq.rf⟩
    · rw [lo_1]
      show ff_X7_readRow_c32 N _ y t d (Int32.ofInt (k : Int)) = _
      unfold ff_X7_readRow_c32
      rw [hd 0 (by decide), ii_le (by omega) (by omega), if_pos (by omega), e6, einc]
    · rw [lo_1]
      show ff_X13_readsRow_c31 N _ m (Int32.ofInt (k : Int)) = _
      have e0' : os_A m 2 (Int32.toNatClampNeg (0 : Int32)) = Int32.ofInt (S 0 : Int) := by rw [n0]; exact e0
      unfold ff_X13_readsRow_c31
      rw [if_pos nw_0, e0', ii_le (by omega) (by omega), if_pos (by omega), e22, einc]
  | succ j ih =>
    intro k M1 M2 t d m T hk h1 h2 ht hd e0 e22 e6 a0 a5 hT
    obtain ⟨M1, rfl⟩ : ∃ M', M1 = M' + 1 := ⟨M1 - 1, by omega⟩
    obtain ⟨M2, rfl⟩ : ∃ M', M2 = M' + 1 := ⟨M2 - 1, by omega⟩
    have hc : ic S (k : Int) (r : Int) := by unfold ic; omega
    have hcr := ic_r hS hc
    have einc : Int32.ofInt (k : Int) + 1 = Int32.ofInt ((k + 1 : Nat) : Int) := by rw [ii_1, ia_add]; rfl
    have el : ff_X13_less N (Int32.ofInt (r : Int)) (11 : Int32) = some (Int32.ofInt (r : Int)) := by
      unfold ff_X13_less
      rw [show (11 : Int32) = Int32.ofInt 11 from rfl, ii_le (by omega) (by omega)]
      by_cases c : 11 ≤ (r : Int)
      · rw [if_pos c]; congr 2; omega
      · rw [if_neg c]
    have hin : os_in (((16 : Int32) * Int32.ofInt (r : Int)) + Int32.ofInt (k : Int)) 192 := by
      rw [ii_16, ia_mul, ia_add]
      exact ia_in (by omega) (by omega) (by omega)
    have hna : Int32.toNatClampNeg (((16 : Int32) * Int32.ofInt (r : Int)) + Int32.ofInt (k : Int)) = (16 * (r : Int) + (k : Int)).toNat := by
      rw [ii_16, ia_mul, ia_add, ia_nat (by omega) (by omega)]
    rw [lo_1, lo_1]
    rcases tj_number (N := N) (a := 0) (b := 255) hN ht (by decide) (by decide) with ⟨v, t2, m2, v1, v2, w1, w2, h3, -, q2⟩ | ⟨t2, m2, w, w1, w2, h3, q2⟩
    · have w1 : ff_X10_takeNumber N t (0 : Int32) (255 : Int32) = _ := w1
      have w2 : ff_X13_number N m (0 : Int32) (255 : Int32) = _ := w2
      have s1 : ff_X7_readRow_c32 N (os_loop (fun k32 s1 => ff_X7_readRow_c32 N k32 s1.1 s1.2.1 s1.2.2.1 s1.2.2.2) M1) y t d (Int32.ofInt (k : Int)) = os_loop (fun k32 s1 => ff_X7_readRow_c32 N k32 s1.1 s1.2.1 s1.2.2.1 s1.2.2.2) M1 (y, t2, ss_A d 0 (upd (os_A d 0) (16 * (r : Int) + (k : Int)).toNat (Int32.ofInt v)), Int32.ofInt ((k + 1 : Nat) : Int)) := by
        rw [ff_X7_readRow_c32, hd 0 (by decide), ii_le (by omega) (by omega), if_neg (by omega), w1, Option.bind_some, neg1 (by omega), e6, dy_dye (hd 0 (by decide)) (hd 1 (by decide)) hS hc, Option.bind_some, einc]
      have s2 : ff_X13_readsRow_c31 N (os_loop (fun k31 s1 => ff_X13_readsRow_c31 N k31 s1.1 s1.2) M2) m (Int32.ofInt (k : Int)) = os_loop (fun k31 s1 => ff_X13_readsRow_c31 N k31 s1.1 s1.2) M2 (ss_A m2 5 (upd (os_A m2 5) (16 * (r : Int) + (k : Int)).toNat (Int32.ofInt v)), Int32.ofInt ((k + 1 : Nat) : Int)) := by
        rw [ff_X13_readsRow_c31, if_pos nw_0, n0, e0, ii_le (by omega) (by omega), if_neg (by omega), e22, el, Option.bind_some, w2, Option.bind_some, if_pos hin, hna, einc]
      have f2 : os_A m2 2 = os_A m 2 := q2.2 2 (fun z => z)
      have f5 : os_A m2 5 = os_A m 5 := q2.2 5 (fun z => z)
      have f22 : os_I m2 22 = os_I m 22 := q2.1 22 (by decide)
      have qs : sq ke (fun j => j = 5) m (ss_A m2 5 (upd (os_A m2 5) (16 * (r : Int) + (k : Int)).toNat (Int32.ofInt v))) := (q2.mono (fun i hi => hi) (fun j hj => hj.elim)).tr (sq_A rfl)
      rcases ih (k + 1) M1 M2 t2 (ss_A d 0 (upd (os_A d 0) (16 * (r : Int) + (k : Int)).toNat (Int32.ofInt v))) (ss_A m2 5 (upd (os_A m2 5) (16 * (r : Int) + (k : Int)).toNat (Int32.ofInt v))) (hu T (k : Int) (r : Int) v) (by omega) (by omega) (by omega) (tj_A h3 (by decide)) hd (by show os_A m2 2 0 = _; rw [f2]; exact e0) (by show os_I m2 22 = _; rw [f22]; exact e22) e6 (a16_hu a0 (by omega) (by omega) (by omega)) (by show a16 (upd (os_A m2 5) _ _) _; rw [f5]; exact a16_hu a5 (by omega) (by omega) (by omega)) (fun a b b1 b2 b3 b4 => by
        have := hT a b b1 b2 b3 b4
        unfold hu
        split
        · exact ⟨⟨v1, v2⟩, fun z => by omega⟩
        · exact ⟨this.1, fun z => this.2 (by omega)⟩) with ⟨t', d', m', T', g1, g2, g3, g4, g5, g6, g7, g8⟩ | ⟨t', d', m', g1, g2, g3, g4⟩
      · exact Or.inl ⟨t', d', m', T', s1.trans g1, s2.trans g2, g3, g4, g5, g6, g7, qs.tr g8⟩
      · exact Or.inr ⟨t', d', m', s1.trans g1, s2.trans g2, g3, (qs.mono (fun i hi => Or.inl hi) (fun j hj => Or.inr (Or.inl hj))).tr g4⟩
    · have w1 : ff_X10_takeNumber N t (0 : Int32) (255 : Int32) = _ := w1
      have w2 : ff_X13_number N m (0 : Int32) (255 : Int32) = _ := w2
      have f2 : os_A m2 2 = os_A m 2 := q2.2 2 (fun z => z)
      have f22 : os_I m2 22 = os_I m 22 := q2.1 22 (by decide)
      obtain ⟨m', e', h', q'⟩ := te_row (N := N) (t := t2) (r := r) (w := S 0) (by omega) (by omega) j (k + 1) M2 (ss_A m2 5 (upd (os_A m2 5) (16 * (r : Int) + (k : Int)).toNat w)) (by omega) (by omega) (te_A h3) (by show os_A m2 2 0 = _; rw [f2]; exact e0) (by show os_I m2 22 = _; rw [f22]; exact e22)
      refine Or.inr ⟨t2, d, m', ?_, ?_, h', ((ke_kt q2).tr (sq_A (by decide))).tr q'⟩
      · show ff_X7_readRow_c32 N _ y t d (Int32.ofInt (k : Int)) = _
        rw [ff_X7_readRow_c32, hd 0 (by decide), ii_le (by omega) (by omega), if_neg (by omega), w1, Option.bind_some, if_pos rfl]
      · show ff_X13_readsRow_c31 N _ m (Int32.ofInt (k : Int)) = _
        rw [ff_X13_readsRow_c31, if_pos nw_0, n0, e0, ii_le (by omega) (by omega), if_neg (by omega), e22, el, Option.bind_some, w2, Option.bind_some, if_pos hin, hna, einc]
        exact e'
theorem st_row (hN : 1000 < N) (h : tj X t m p) (c : p < X.2.2.2.2.2) (hk : kq X p ≠ 5) (hr : rd y d m S T r) : sR X p m (ff_X7_readRow N y t d) (ff_X13_readsRow N m) := by
  obtain ⟨a1, a2, a3, a4, a5, a6, a7, a8, a9, a10, a11⟩ := hr
  have hs := sv_a a1
  have n0 : Int32.toNatClampNeg (0 : Int32) = 0 := by decide
  have n1 : Int32.toNatClampNeg (1 : Int32) = 1 := by decide
  unfold ff_X7_readRow ff_X7_readRow_l32 ff_X13_readsRow ff_X13_readsRow_b18 ff_X13_readsRow_b29 ff_X13_readsRow_l31
  rw [a9, a3 1 (by decide), if_pos nw_1, n1, a4 1 (by decide), a10, ii_lt (by omega) (by omega), ii_eq (by omega) (by omega)]
  by_cases cr : r < S 1
  · obtain ⟨t1, m1, e1, e2, h1, q1⟩ := tj_adv (N := N) hN h c
    rw [if_pos (by omega), if_neg (by omega), tj_good h, Option.bind_some, if_neg (show ¬ ((1 : Int32) = 0) by decide), e1, Option.bind_some, e2, Option.bind_some]
    have f2 : os_A m1 2 = os_A m 2 := q1.2 2 (fun z => z)
    have f5 : os_A m1 5 = os_A m 5 := q1.2 5 (fun z => z)
    have f22 : os_I m1 22 = os_I m 22 := q1.1 22 (by decide)
    rcases row_loop (N := N) (y := y) (r := r) (p0 := p + 1) hN a1 cr (S 0) 0 N N t1 d m1 T (by omega) (by omega) (by omega) h1 a3 (by rw [f2]; exact a4 0 (by decide)) (by rw [f22]; exact a10) a9 a5 (by rw [f5]; exact a6) (fun a b b1 b2 b3 b4 => ⟨(a7 a b b1 b2 b3 b4).1, fun z => (a7 a b b1 b2 b3 b4).2 (by omega)⟩) with ⟨t', d', m', T', g1, g2, g3, g4, g5, g6, g7, g8⟩ | ⟨t', d', m', g1, g2, g3, g4⟩
    · have qa : sq kt jt m m' := (ke_kt q1).tr (g8.mono (fun i hi => Or.inl hi) (fun j hj => Or.inr (Or.inl hj)))
      have k2 : os_A m' 2 = os_A m 2 := by rw [g8.2 2 (by decide), f2]
      have kI : ∀ i, 18 ≤ i → i ≤ 23 → os_I m' i = os_I m i := fun i i1 i2 => by rw [g8.1 i (by omega), q1.1 i (by omega)]
      refine Or.inl ⟨_, t', d', _, S, T', r + 1, p + 1 + S 0, g1, g2, tj_I g3 (by decide), by omega, ⟨a1, cr, g4, fun i hi => by rw [k2]; exact a4 i hi, g5, g6, g7, fun k k1 k2 => ?_, rfl, rfl, ?_⟩, q_st1 qa (by decide)⟩
      · have z1 : os_I (ss_I y 6 (Int32.ofInt ((r + 1 : Nat) : Int))) k = os_I y k := os_u_ne (by omega)
        have z2 : os_I (ss_I m' 22 (Int32.ofInt ((r + 1 : Nat) : Int))) (16 + k) = os_I m' (16 + k) := os_u_ne (by omega)
        rw [z1, z2, kI (16 + k) (by omega) (by omega)]
        exact a8 k k1 k2
      · have z1 : os_I (ss_I y 6 (Int32.ofInt ((r + 1 : Nat) : Int))) 7 = os_I y 7 := rfl
        have z2 : os_I (ss_I m' 22 (Int32.ofInt ((r + 1 : Nat) : Int))) 23 = os_I m' 23 := rfl
        rw [z1, z2, kI 23 (by omega) (by omega)]
        exact a11
    · exact Or.inr ⟨y, t', d', m', g1, g2, g3, (ke_kt q1).tr g4⟩
  · obtain ⟨m1, w1, w2, hj, hq, -⟩ := tj_fail (N := N) (c := 5) h (by omega) (fun z => absurd z hk)
    have w2 : ff_X13_wrong N m (5 : Int32) = some m1 := w2
    obtain ⟨m', e', h', q'⟩ := te_row (N := N) (t := ss_I t 10 5) (r := r) (w := S 0) (by omega) (by omega) (S 0) 0 N m1 (by omega) (by omega) hj (by rw [hq.2 2 (fun z => z)]; exact a4 0 (by decide)) (by rw [hq.1 22 (by decide)]; exact a10)
    rw [if_neg (by omega), if_pos (by omega), fail5, z0, w2, Option.bind_some, te_good hj, Option.bind_some, if_pos rfl]
    exact Or.inr ⟨y, ss_I t 10 5, d, m', rfl, e', h', (ke_kt hq).tr q'⟩
end Rows
