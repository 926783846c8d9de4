/-! LAYER 2. Undo, what repair would take, stamps on the panel -/
section Ops3
variable {N : Nat} {o oh m : os_T} {P : Nat → os_T} {S : Nat → Nat} {T H : Int → Int → Int} {n : Nat} {U : Nat → (Int → Int → Int) × (Int → Int → Int)}
theorem jr_undo {x : os_T} (hN : 100000 < N) (hS : sv S) (hj : jr o oh P m S T H n U) : ∃ c o2 oh2 m2 T2 H2 n2, ff_X12_undo N x o oh (P 0) (P 1) (P 2) (P 3) (P 4) (P 5) (P 6) = some (c, o2, oh2) ∧ ff_X13_undo N m = some (c, m2) ∧ jr o2 oh2 P m2 S T2 H2 n2 U ∧ fr m m2 ∧ os_I m2 0 = 0 := by
  obtain ⟨j1, j2, j3, j4, j5, j6, jo, jU⟩ := id hj
  obtain ⟨u1, u2, u3⟩ := j4
  by_cases z : n = 0
  · subst z
    refine ⟨(-1 : Int32), o, oh, ss_I m 0 0, T, H, 0, ?_, ?_, jr_I hj, fr_I, rfl⟩
    · unfold ff_X12_undo
      rw [pc_back0 j2, Option.bind_some]; rfl
    · unfold ff_X13_undo
      rw [u2, if_pos (by decide)]
  · obtain ⟨oh2, o2, e2, h2, c2⟩ := pc_back (N := N) (o := o) hS j2 (by omega)
    have hvT := (j2.2.1 (n - 1) (by omega)).1
    have hvH := (j2.2.1 (n - 1) (by omega)).2
    have hU := u3 (n - 1) (by omega)
    have hn2 : os_I oh2 2 = Int32.ofInt ((n - 1 : Nat) : Int) := by obtain ⟨_, _, _, _, _, h5, _⟩ := h2; exact h5
    have e29 : Int32.ofInt (n : Int) - 1 = Int32.ofInt ((n - 1 : Nat) : Int) := by rw [ii_1, ia_sub]; congr 1; omega
    generalize ho : ss_I (ss_I m 0 0) 29 (Int32.ofInt ((n - 1 : Nat) : Int)) = m1
    have y1 : sy (fun i => i = 0 ∨ i = 29) (fun _ => False) m m1 := by rw [← ho]; exact (show sy (fun i => i = 0 ∨ i = 29) (fun _ => False) m (ss_I m 0 0) from sy_I (Or.inl rfl)).tr (sy_I (Or.inr rfl))
    have i29 : os_I m1 29 = Int32.ofInt ((n - 1 : Nat) : Int) := by rw [← ho]; rfl
    have i0 : os_I m1 0 = 0 := by rw [← ho]; rfl
    have key : ∃ v, (∃ m2, v = some (Int32.ofInt ((n - 1 : Nat) : Int), m2) ∧ sx (fun j => j = 3 ∨ j = 4) m1 m2 ∧ a16 (os_A m2 4) (U (n - 1)).2 ∧ a16 (os_A m2 3) (U (n - 1)).1) ∧ ff_X13_undo_l26 N N (m1, Int32.ofInt ((0 : Nat) : Int)) = v := by
      unfold ff_X13_undo_l26
      refine lo_cnt (N := N) (fun k s => ∃ m2, s = (m2, Int32.ofInt (k : Int)) ∧ sx (fun j => j = 3 ∨ j = 4) m1 m2 ∧ ∀ j, j < k → os_A m2 4 j = Int32.ofInt ((U (n - 1)).2 ((j % 16 : Nat) : Int) ((j / 16 : Nat) : Int)) ∧ os_A m2 3 j = Int32.ofInt ((U (n - 1)).1 ((j % 16 : Nat) : Int) ((j / 16 : Nat) : Int))) (fun v => ∃ m2, v = some (Int32.ofInt ((n - 1 : Nat) : Int), m2) ∧ sx (fun j => j = 3 ∨ j = 4) m1 m2 ∧ a16 (os_A m2 4) (U (n - 1)).2 ∧ a16 (os_A m2 3) (U (n - 1)).1) 192 ?_ ?_ (by omega) ⟨m1, rfl, sx.rf, fun j hj => absurd hj (Nat.not_lt_zero j)⟩
      · rintro k s hk ⟨m2, rfl, hx, hm⟩
        have h10 : os_A m2 10 = os_A m 10 := (hx.2.2 10 (by decide)).trans (y1.2.2 10 (fun z => z))
        have h29 : os_I m2 29 = Int32.ofInt ((n - 1 : Nat) : Int) := (hx.1 29).trans i29
        refine ⟨_, ⟨ss_A (ss_A m2 3 (upd (os_A m2 3) k (Int32.ofInt ((U (n - 1)).1 ((k % 16 : Nat) : Int) ((k / 16 : Nat) : Int))))) 4 (upd (os_A m2 4) k (Int32.ofInt ((U (n - 1)).2 ((k % 16 : Nat) : Int) ((k / 16 : Nat) : Int)))), rfl, (hx.tr (sx_A (Or.inl rfl))).tr (sx_A (Or.inr rfl)), fun j hj => ?_⟩, fun r => ?_⟩
        · show upd (os_A m2 4) k _ j = _ ∧ upd (os_A m2 3) k _ j = _
          by_cases e : j = k
          · rw [e, up_eq, up_eq]; exact ⟨rfl, rfl⟩
          · rw [up_ne e, up_ne e]; exact hm j (by omega)
        · show ff_X13_undo_c26 N r m2 (Int32.ofInt (k : Int)) = _
          unfold ff_X13_undo_c26
          have hu1 := hU.1 k hk
          have hu2 := hU.2 k hk
          have e1 : (384 : Int32) * Int32.ofInt ((n - 1 : Nat) : Int) + Int32.ofInt (k : Int) = Int32.ofInt ((384 * (n - 1) + k : Nat) : Int) := by rw [ii_384, ia_mul, ia_add]; rfl
          have e2 : (384 : Int32) * Int32.ofInt ((n - 1 : Nat) : Int) + (192 : Int32) + Int32.ofInt (k : Int) = Int32.ofInt ((384 * (n - 1) + 192 + k : Nat) : Int) := by rw [ii_384, ii_192, ia_mul, ia_add, ia_add]; rfl
          have hin : os_in (Int32.ofInt (k : Int)) 192 := ia_in (by omega) (by omega) (by omega)
          have hin1 : os_in (Int32.ofInt ((384 * (n - 1) + k : Nat) : Int)) 2304 := ia_in (by omega) (by omega) (by omega)
          have hin2 : os_in (Int32.ofInt ((384 * (n - 1) + 192 + k : Nat) : Int)) 2304 := ia_in (by omega) (by omega) (by omega)
          rw [h29, e1, e2]
          simp only [if_pos hin, if_pos hin1, if_pos hin2]
          rw [show (192 : Int32) = Int32.ofInt 192 from rfl, ii_le (by omega) (by omega), if_neg (by omega), ia_nat (by omega) (by omega), ia_nat (by omega) (by omega), ia_nat (by omega) (by omega), Int.toNat_natCast, Int.toNat_natCast, Int.toNat_natCast, h10]
          show r (ss_A (ss_A m2 3 (upd (os_A m2 3) k ((fun k => os_A m 10 (384 * (n - 1) + 192 + k)) k))) 4 (upd (os_A m2 4) k ((fun k => os_A m 10 (384 * (n - 1) + k)) k)), _) = _
          rw [hu1, hu2, ii_1, ia_s]
      · rintro s ⟨m2, rfl, hx, hm⟩
        refine ⟨_, ⟨m2, rfl, hx, fun k hk => (hm k hk).1, fun k hk => (hm k hk).2⟩, fun r => ?_⟩
        show ff_X13_undo_c26 N r m2 (Int32.ofInt ((192 : Nat) : Int)) = _
        unfold ff_X13_undo_c26
        rw [if_pos (by decide), hx.1 29, i29]
    obtain ⟨v, ⟨m2, rfl, hx, q4, q3⟩, e⟩ := key
    have hr2 : rp m2 S (U (n - 1)).1 (U (n - 1)).2 := rp_mk (fun i hi => by rw [hx.2.2 1 (by decide), y1.2.2 1 (fun z => z)]; exact j3.1 i hi) q3 q4
    have hh2 : hr_R m2 (n - 1) U := ⟨by omega, (hx.1 29).trans i29, fun i hi => by
      rw [hx.2.2 10 (by decide), y1.2.2 10 (fun z => z)]
      exact u3 i (by omega)⟩
    refine ⟨Int32.ofInt ((n - 1 : Nat) : Int), o2, oh2, m2, _, _, n - 1, ?_, ?_, ⟨c2, h2, hr2, hh2, hvT, hvH, jU _ (by omega), fun i hi => jU i (by omega)⟩, ?_, (hx.1 0).trans i0⟩
    · unfold ff_X12_undo
      rw [e2, Option.bind_some]
      show some (os_I oh2 2, o2, oh2) = _
      rw [hn2]
    · unfold ff_X13_undo
      rw [u2, if_neg (by rw [i0_eq (by omega)]; omega), e29, ho]
      exact e
    · unfold fr
      exact (y1.mono (fun i e => e) (fun j e => e.elim)).tr (hx.sy.mono (K := fun _ => False) (fun i e => e.elim) (fun j e => by rcases e with e | e <;> simp [e]))
/-- the reference lays back what it had put aside -/
theorem rc_back29 (hN : 1000 < N) {H2 : Int → Int → Int} (h : rp m S T H2) (hA : a16 (os_A m 7) H) {p c : Int32} : ∃ m2, ff_X13_repairLoss_l29 N N (m, p, c, Int32.ofInt ((0 : Nat) : Int)) = some (if p ≤ 0 then 0 else c, m2) ∧ rp m2 S T H ∧ sx (fun j => j = 4) m m2 := by
  have key : ∃ v, (∃ m2, v = some (if p ≤ 0 then 0 else c, m2) ∧ sx (fun j => j = 4) m m2 ∧ a16 (os_A m2 4) H) ∧ ff_X13_repairLoss_l29 N N (m, p, c, Int32.ofInt ((0 : Nat) : Int)) = v := by
    unfold ff_X13_repairLoss_l29
    refine lo_cnt (N := N) (fun k s => ∃ m2, s = (m2, p, c, Int32.ofInt (k : Int)) ∧ sx (fun j => j = 4) m m2 ∧ ∀ j, j < k → os_A m2 4 j = os_A m 7 j) (fun v => ∃ m2, v = some (if p ≤ 0 then 0 else c, m2) ∧ sx (fun j => j = 4) m m2 ∧ a16 (os_A m2 4) H) 192 ?_ ?_ (by omega) ⟨m, rfl, sx.rf, fun j hj => absurd hj (Nat.not_lt_zero j)⟩
    · rintro k s hk ⟨m2, rfl, hx, hm⟩
      refine ⟨_, ⟨ss_A m2 4 (upd (os_A m2 4) k (os_A m2 7 k)), rfl, hx.tr (sx_A rfl), fun j hj => ?_⟩, fun r => ?_⟩
      · show upd (os_A m2 4) k _ j = _
        by_cases e : j = k
        · rw [e, up_eq, hx.2.2 7 (by decide)]
        · rw [up_ne e]; exact hm j (by omega)
      · show ff_X13_repairLoss_c29 N r m2 p c (Int32.ofInt (k : Int)) = _
        unfold ff_X13_repairLoss_c29
        have hin : os_in (Int32.ofInt (k : Int)) 192 := ia_in (by omega) (by omega) (by omega)
        simp only [if_pos hin]
        rw [show (192 : Int32) = Int32.ofInt 192 from rfl, ii_le (by omega) (by omega), if_neg (by omega), ia_nat (by omega) (by omega), Int.toNat_natCast, ii_1, ia_s]
    · rintro s ⟨m2, rfl, hx, hm⟩
      refine ⟨_, ⟨m2, rfl, hx, fun k hk => by rw [hm k hk]; exact hA k hk⟩, fun r => ?_⟩
      show ff_X13_repairLoss_c29 N r m2 p c (Int32.ofInt ((192 : Nat) : Int)) = _
      unfold ff_X13_repairLoss_c29
      rw [if_pos (by decide)]
      by_cases z : p ≤ 0
      · rw [if_pos z, if_pos z]
      · rw [if_neg z, if_neg z]
  obtain ⟨v, ⟨m2, rfl, hx, q4⟩, e⟩ := key
  have hr := rp_a h
  exact ⟨m2, e, rp_mk (fun i hi => by rw [hx.2.2 1 (by decide)]; exact h.1 i hi) (by rw [hx.2.2 3 (by decide)]; exact hr.1) q4, hx⟩
theorem jr_repairLoss {x sp w : os_T} (hN : 100000 < N) (hS : sv S) (hj : jr o oh P m S T H n U) : ∃ c sp2 w2 m2, ff_X12_repairLoss N x o sp w = some (c, sp2, w2) ∧ ff_X13_repairLoss N m = some (c, m2) ∧ jr o oh P m2 S T H n U ∧ fr m m2 ∧ os_I m2 0 = 0 := by
  have hHv := hj.2.2.2.2.2.1
  obtain ⟨m1, e1, r1, a7, a8, u1, y1, z1⟩ := rc_start (N := N) (by omega) hj 0
  obtain ⟨sp1, es, cs⟩ := pc_copy (N := N) (p := sp) hS hj.1
  obtain ⟨w2, sp2, e2, c2⟩ := pc_take (N := N) (ow := w) hN hS cs hHv
  obtain ⟨m2, e3, r3, x3⟩ := rc_take (N := N) hN hS r1 hHv
  have a72 : a16 (os_A m2 7) H := by rw [x3.2.2 7 (by decide)]; exact a7
  obtain ⟨m3, e4, r4, x4⟩ := rc_back29 (N := N) (p := Int32.ofInt (q_np S H : Nat)) (c := Int32.ofInt (q_sum S H) - Int32.ofInt (q_sum S (q_hs S H (q_np S H)))) (by omega) r3 a72
  have hnp := (q_nps hS hHv).2.2
  have hval : (if Int32.ofInt (q_np S H : Nat) ≤ 0 then 0 else Int32.ofInt (q_sum S H) - Int32.ofInt (q_sum S (q_hs S H (q_np S H)))) = Int32.ofInt (q_sum S H) - Int32.ofInt (q_sum S (q_hs S H (q_np S H))) := by
    simp only [i0_le (show ib (q_np S H : Nat) by omega)]
    by_cases z : q_np S H = 0
    · rw [if_pos (by omega), z, ia_sub]
      show _ = Int32.ofInt (q_sum S H - q_sum S H)
      rw [Int.sub_self]; rfl
    · rw [if_neg (by omega)]
  rw [hval] at e4
  have x34 : sx (fun j => j = 4 ∨ j = 6) m1 m3 := x3.tr (x4.mono fun j e => Or.inl e)
  have hfr : sy (fun i => i = 0) (fun j => j = 4 ∨ j = 6 ∨ j = 7 ∨ j = 8) m m3 := (y1.mono (fun i e => e) (fun j e => by omega)).tr (x34.sy.mono (K := fun _ => False) (fun i e => e.elim) (fun j e => by omega))
  refine ⟨Int32.ofInt (q_sum S H) - Int32.ofInt (q_sum S (q_hs S H (q_np S H))), sp2, w2, m3, ?_, ?_, ⟨hj.1, hj.2.1, r4, hj.2.2.2.1.sy hfr (by decide) (by decide), hj.2.2.2.2⟩, hfr.mono (fun i e => Or.inl e) (fun j e => by omega), (x34.1 0).trans z1⟩
  · unfold ff_X12_repairLoss
    rw [es, Option.bind_some, e2, Option.bind_some, pc_sum (by omega) hS hj.1, Option.bind_some]
    show ((ff_X5_sumOfHeights N sp2).bind _) = _
    rw [pc_sum (by omega) hS c2, Option.bind_some]
  · unfold ff_X13_repairLoss
    rw [e1, Option.bind_some, rc_vol (by omega) hS r1, Option.bind_some, e3, Option.bind_some]
    show ((ff_X13_volumeNow N m2).bind _) = _
    rw [rc_vol (by omega) hS r3, Option.bind_some]
    exact e4
end Ops3
