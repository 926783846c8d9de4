/-! LAYER 2. Stamps on the panel -/
section Ops4
variable {N : Nat} {o oh m w : os_T} {P : Nat → os_T} {S : Nat → Nat} {T H : Int → Int → Int} {n : Nat} {U : Nat → (Int → Int → Int) × (Int → Int → Int)} {R : Nat → Int}
theorem pc_ckS {x : os_T} {a b : Int} (h : rr w m R) (ha : ib a) (hb : ib b) (c : rpl a b) : ff_X12_checkStamp N x w (Int32.ofInt a) (Int32.ofInt b) = some (if R (rix a b) = -1 then 1 else 0) := by
  have hb1 := rkv_b h.2.2 (rix_lt c)
  unfold ff_X12_checkStamp
  rw [pc_at h ha hb c, Option.bind_some, m1_eq (by omega)]
  split <;> rfl
theorem q_stm_hv {k a b : Nat} {x y : Int} (hS : sv S) (hH : hv S H) : hv S (q_stm S H k a b x y) := q_pr_hv hH (q_pv_hv hS)
theorem jr_stamp {x : os_T} {a b u v : Int} (hN : 100000 < N) (hS : sv S) (hj : jr o oh P m S T H n U) (hr : rr w m R) (ha : ib a) (hb : ib b) (hu : ib u) (hv : ib v) : ∃ k c o2 oh2 P2 m2 T2 H2 n2 U2, ff_X12_stamp N x o oh (P 0) (P 1) (P 2) (P 3) (P 4) (P 5) (P 6) w (Int32.ofInt a) (Int32.ofInt b) (Int32.ofInt u) (Int32.ofInt v) = some (k, c, o2, oh2, P2 0, P2 1, P2 2, P2 3, P2 4, P2 5, P2 6) ∧ ff_X13_stamp N m (Int32.ofInt a) (Int32.ofInt b) (Int32.ofInt u) (Int32.ofInt v) = some (c, m2) ∧ jr o2 oh2 P2 m2 S T2 H2 n2 U2 ∧ fr m m2 ∧ ((k = 0 ∧ os_I m2 0 = 0) ∨ (k = 3 ∧ os_I m2 0 = 1) ∨ (k = 1 ∧ os_I m2 0 = 2)) := by
  have hTv := hj.2.2.2.2.1
  have hHv := hj.2.2.2.2.2.1
  have eno : ff_X13_stamp_b23 N m (Int32.ofInt a) (Int32.ofInt b) (Int32.ofInt u) (Int32.ofInt v) (0 : Int32) = some (0, ss_I m 0 1) := rfl
  unfold ff_X12_stamp ff_X13_stamp ff_X13_stamp_b22
  rw [pc_ckp ha hb, Option.bind_some, rc_place ha hb, Option.bind_some, oz_ite, pc_chk hS hj.1 hu hv, Option.bind_some, rc_isCell hS hj.2.2.1 hu hv, Option.bind_some, oz_ite]
  by_cases c : rpl a b
  · rw [if_pos c, if_pos c, if_pos rfl]
    by_cases c2 : ic S u v
    · rw [if_pos c2, if_pos c2, if_pos rfl, pc_ckS hr ha hb c, Option.bind_some]
      have hb1 := rkv_b hr.2.2 (rix_lt c)
      unfold ff_X13_stamp_b23
      rw [if_neg (show ¬ ((1 : Int32) = 0) by decide), if_pos (rix_r c).1, (rix_r c).2, hr.2.1 _ (rix_lt c), m1_eq (by omega)]
      by_cases e : R (rix a b) = -1
      · refine ⟨1, 0, o, oh, P, ss_I m 0 2, T, H, n, U, ?_, ?_, jr_I hj, fr_I, Or.inr (Or.inr ⟨rfl, rfl⟩)⟩
        · rw [if_pos e, if_neg (by decide)]
        · rw [if_pos e]; rfl
      · obtain ⟨kk, aa, bb, q1, q2, q3, qe⟩ := (hr.2.2 _ (rix_lt c)).resolve_left e
        obtain ⟨m1, e1, r1, a7, a8, u1, y1, z1⟩ := rc_start (N := N) (by omega) hj 0
        obtain ⟨o2, e2, cc2⟩ := pc_press (N := N) (by omega) hS hj.1 hHv q1 q2 q3 c2
        obtain ⟨m2, e3, r3, x3⟩ := rc_presses (N := N) (by omega) hS r1 hHv q1 q2 q3 c2
        obtain ⟨P2, oh2, m3, n2, U2, eo, ec, ek, hj2, y3⟩ := ch_all (N := N) hN hS hj cc2 hTv (q_stm_hv hS hHv) (fun x y cc => ⟨rfl, q_pr_out cc⟩) a7 a8 u1 r3 x3 (by decide) (by decide) (by decide)
        have h12 : os_A m1 12 = os_A m 12 := y1.2.2 12 (by decide)
        refine ⟨0, Int32.ofInt (q_df S H (q_stm S H kk aa bb u v)), o2, oh2, P2, m3, _, _, n2, U2, ?_, ?_, hj2, fr_of y1 x3 (fun j e => by omega) y3, Or.inl ⟨rfl, ?_⟩⟩
        · rw [if_neg e, if_pos rfl, eo, Option.bind_some, pc_at hr ha hb c, Option.bind_some, qe, e2, Option.bind_some]
          show ((ff_X3_close N oh (P2 0) (P2 1) (P2 2) (P2 3) (P2 4) (P2 5) (P2 6) o2).bind _) = _
          rw [ec, Option.bind_some]
        · rw [if_neg e]
          unfold ff_X13_stamp_b54
          rw [rc_t0, Option.bind_some]
          show ff_X13_stamp_b59 N m (Int32.ofInt a) (Int32.ofInt b) (Int32.ofInt u) (Int32.ofInt v) 0 = _
          unfold ff_X13_stamp_b59
          rw [if_pos (by decide), e1, Option.bind_some, if_pos (rix_r c).1, (rix_r c).2, h12, hr.2.1 _ (rix_lt c), qe, e3, Option.bind_some, ek, Option.bind_some]
        · rw [y3.1 0 (by decide), x3.1 0]; exact z1
    · refine ⟨3, 0, o, oh, P, ss_I m 0 1, T, H, n, U, ?_, ?_, jr_I hj, fr_I, Or.inr (Or.inl ⟨rfl, rfl⟩)⟩
      · rw [if_neg c2, if_neg (by decide)]
      · rw [if_neg c2]; exact eno
  · refine ⟨3, 0, o, oh, P, ss_I m 0 1, T, H, n, U, ?_, ?_, jr_I hj, fr_I, Or.inr (Or.inl ⟨rfl, rfl⟩)⟩
    · rw [if_neg c, if_neg (by decide)]
    · rw [if_neg c]; exact eno
theorem rc_back110 (hN : 1000 < N) {H2 : Int → Int → Int} (h : rp m S T H2) (hA : a16 (os_A m 7) H) {c : Int32} : ∃ m2, ff_X13_stampGain_l110 N N (m, c, Int32.ofInt ((0 : Nat) : Int)) = some (c, m2) ∧ rp m2 S T H ∧ sx (fun j => j = 4) m m2 := by
  have key : ∃ v, (∃ m2, v = some (c, m2) ∧ sx (fun j => j = 4) m m2 ∧ a16 (os_A m2 4) H) ∧ ff_X13_stampGain_l110 N N (m, c, Int32.ofInt ((0 : Nat) : Int)) = v := by
    unfold ff_X13_stampGain_l110
    refine lo_cnt (N := N) (fun k s => ∃ m2, s = (m2, c, Int32.ofInt (k : Int)) ∧ sx (fun j => j = 4) m m2 ∧ ∀ j, j < k → os_A m2 4 j = os_A m 7 j) (fun v => ∃ m2, v = some (c, m2) ∧ sx (fun j => j = 4) m m2 ∧ a16 (os_A m2 4) H) 192 ?_ ?_ (by omega) ⟨m, rfl, sx.rf, fun j hj => absurd hj (Nat.not_lt_zero j)⟩
    · rintro k s hk ⟨m2, rfl, hx, hm⟩
      refine ⟨_, ⟨ss_A m2 4 (upd (os_A m2 4) k (os_A m2 7 k)), rfl, hx.tr (sx_A rfl), fun j hj => ?_⟩, fun r => ?_⟩
      · show upd (os_A m2 4) k _ j = _
        by_cases e : j = k
        · rw [e, up_eq, hx.2.2 7 (by decide)]
        · rw [up_ne e]; exact hm j (by omega)
      · show ff_X13_stampGain_c110 N r m2 c (Int32.ofInt (k : Int)) = _
        unfold ff_X13_stampGain_c110
        have hin : os_in (Int32.ofInt (k : Int)) 192 := ia_in (by omega) (by omega) (by omega)
        simp only [if_pos hin]
        rw [show (192 : Int32) = Int32.ofInt 192 from rfl, ii_le (by omega) (by omega), if_neg (by omega), ia_nat (by omega) (by omega), Int.toNat_natCast, ii_1, ia_s]
    · rintro s ⟨m2, rfl, hx, hm⟩
      refine ⟨_, ⟨m2, rfl, hx, fun k hk => by rw [hm k hk]; exact hA k hk⟩, fun r => ?_⟩
      show ff_X13_stampGain_c110 N r m2 c (Int32.ofInt ((192 : Nat) : Int)) = _
      unfold ff_X13_stampGain_c110
      rw [if_pos (by decide)]
  obtain ⟨v, ⟨m2, rfl, hx, q4⟩, e⟩ := key
  have hr := rp_a h
  exact ⟨m2, e, rp_mk (fun i hi => by rw [hx.2.2 1 (by decide)]; exact h.1 i hi) (by rw [hx.2.2 3 (by decide)]; exact hr.1) q4, hx⟩
theorem jr_stampGain {x sp : os_T} {a b u v : Int} (hN : 100000 < N) (hS : sv S) (hj : jr o oh P m S T H n U) (hr : rr w m R) (ha : ib a) (hb : ib b) (hu : ib u) (hv : ib v) : ∃ k c sp2 m2, ff_X12_stampGain N x o sp w (Int32.ofInt a) (Int32.ofInt b) (Int32.ofInt u) (Int32.ofInt v) = some (k, c, sp2) ∧ ff_X13_stampGain N m (Int32.ofInt a) (Int32.ofInt b) (Int32.ofInt u) (Int32.ofInt v) = some (c, m2) ∧ jr o oh P m2 S T H n U ∧ fr m m2 ∧ ((k = 0 ∧ os_I m2 0 = 0) ∨ (k = 3 ∧ os_I m2 0 = 1) ∨ (k = 1 ∧ os_I m2 0 = 2)) := by
  have hTv := hj.2.2.2.2.1
  have hHv := hj.2.2.2.2.2.1
  have eno : ff_X13_stampGain_b23 N m (Int32.ofInt a) (Int32.ofInt b) (Int32.ofInt u) (Int32.ofInt v) (0 : Int32) = some (0, ss_I m 0 1) := rfl
  unfold ff_X12_stampGain ff_X13_stampGain ff_X13_stampGain_b22
  rw [pc_ckp ha hb, Option.bind_some, rc_place ha hb, Option.bind_some, oz_ite, pc_chk hS hj.1 hu hv, Option.bind_some, rc_isCell hS hj.2.2.1 hu hv, Option.bind_some, oz_ite]
  by_cases c : rpl a b
  · rw [if_pos c, if_pos c, if_pos rfl]
    by_cases c2 : ic S u v
    · rw [if_pos c2, if_pos c2, if_pos rfl, pc_ckS hr ha hb c, Option.bind_some]
      have hb1 := rkv_b hr.2.2 (rix_lt c)
      unfold ff_X13_stampGain_b23
      rw [if_neg (show ¬ ((1 : Int32) = 0) by decide), if_pos (rix_r c).1, (rix_r c).2, hr.2.1 _ (rix_lt c), m1_eq (by omega)]
      by_cases e : R (rix a b) = -1
      · refine ⟨1, 0, sp, ss_I m 0 2, ?_, ?_, jr_I hj, fr_I, Or.inr (Or.inr ⟨rfl, rfl⟩)⟩
        · rw [if_pos e, if_neg (by decide)]
        · rw [if_pos e]; rfl
      · obtain ⟨kk, aa, bb, q1, q2, q3, qe⟩ := (hr.2.2 _ (rix_lt c)).resolve_left e
        obtain ⟨m1, e1, r1, a7, a8, u1, y1, z1⟩ := rc_start (N := N) (by omega) hj 0
        obtain ⟨sp1, es, cs⟩ := pc_copy (N := N) (p := sp) hS hj.1
        obtain ⟨sp2, e2, cc2⟩ := pc_press (N := N) (by omega) hS cs hHv q1 q2 q3 c2
        obtain ⟨m2, e3, r3, x3⟩ := rc_presses (N := N) (by omega) hS r1 hHv q1 q2 q3 c2
        have a72 : a16 (os_A m2 7) H := by rw [x3.2.2 7 (by decide)]; exact a7
        obtain ⟨m3, e4, r4, x4⟩ := rc_back110 (N := N) (c := Int32.ofInt (q_sum S (q_stm S H kk aa bb u v)) - Int32.ofInt (q_sum S H)) (by omega) r3 a72
        have h12 : os_A m1 12 = os_A m 12 := y1.2.2 12 (by decide)
        have x34 : sx (fun j => j = 4) m1 m3 := x3.tr x4
        have hfr : sy (fun i => i = 0) (fun j => j = 4 ∨ j = 7 ∨ j = 8) m m3 := (y1.mono (fun i e => e) (fun j e => by omega)).tr (x34.sy.mono (K := fun _ => False) (fun i e => e.elim) (fun j e => by omega))
        refine ⟨0, Int32.ofInt (q_sum S (q_stm S H kk aa bb u v)) - Int32.ofInt (q_sum S H), sp2, m3, ?_, ?_, ⟨hj.1, hj.2.1, r4, hj.2.2.2.1.sy hfr (by decide) (by decide), hj.2.2.2.2⟩, hfr.mono (fun i e => Or.inl e) (fun j e => by omega), Or.inl ⟨rfl, (x34.1 0).trans z1⟩⟩
        · rw [if_neg e, if_pos rfl, es, Option.bind_some, pc_at hr ha hb c, Option.bind_some, qe, e2, Option.bind_some]
          show ((ff_X5_sumOfHeights N sp2).bind _) = _
          rw [pc_sum (by omega) hS cc2, Option.bind_some, pc_sum (by omega) hS hj.1, Option.bind_some]
        · rw [if_neg e]
          unfold ff_X13_stampGain_b54
          rw [rc_t0, Option.bind_some]
          show ff_X13_stampGain_b59 N m (Int32.ofInt a) (Int32.ofInt b) (Int32.ofInt u) (Int32.ofInt v) 0 = _
          unfold ff_X13_stampGain_b59
          rw [if_pos (by decide), e1, Option.bind_some, rc_vol (by omega) hS r1, Option.bind_some, if_pos (rix_r c).1, (rix_r c).2, h12, hr.2.1 _ (rix_lt c), qe, e3, Option.bind_some, rc_vol (by omega) hS r3, Option.bind_some]
          exact e4
    · refine ⟨3, 0, sp, ss_I m 0 1, ?_, ?_, jr_I hj, fr_I, Or.inr (Or.inl ⟨rfl, rfl⟩)⟩
      · rw [if_neg c2, if_neg (by decide)]
      · rw [if_neg c2]; exact eno
  · refine ⟨3, 0, sp, ss_I m 0 1, ?_, ?_, jr_I hj, fr_I, Or.inr (Or.inl ⟨rfl, rfl⟩)⟩
    · rw [if_neg c, if_neg (by decide)]
    · rw [if_neg c]; exact eno
end Ops4
