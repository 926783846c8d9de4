/-! LAYER 2. The buffer -/
theorem fb_bv (x : BitVec 32) (k : Nat) (hk : k ≤ 24) : (x >>> k) &&& 255#32 = (x.sshiftRight k) &&& 255#32 := by
  apply BitVec.eq_of_getLsbD_eq
  intro i hi
  have e : (255#32).getLsbD i = decide (i < 8) := by
    have h : ∀ i : Fin 32, (255#32).getLsbD i.val = decide (i.val < 8) := by decide
    exact h ⟨i, hi⟩
  rw [BitVec.getLsbD_and, BitVec.getLsbD_and, e, BitVec.getLsbD_sshiftRight, BitVec.getLsbD_ushiftRight]
  by_cases c : i < 8
  · rw [if_pos (by omega)]
    have h9 : ¬ 32 ≤ i := by omega
    simp [h9]
  · simp [c]
theorem fb_sh24 (v : Int32) : ((Int32.toUInt32 v) >>> ((Int32.toUInt32 (24 : Int32)) &&& Int32.toUInt32 31)).toInt32 &&& 255 = (v >>> ((24:Int32) &&& 31)) &&& 255 := by
  apply Int32.toBitVec_inj.mp
  exact fb_bv v.toBitVec 24 (by decide)
theorem fb_sh16 (v : Int32) : ((Int32.toUInt32 v) >>> ((Int32.toUInt32 (16 : Int32)) &&& Int32.toUInt32 31)).toInt32 &&& 255 = (v >>> ((16:Int32) &&& 31)) &&& 255 := by
  apply Int32.toBitVec_inj.mp
  exact fb_bv v.toBitVec 16 (by decide)
theorem fb_sh8 (v : Int32) : ((Int32.toUInt32 v) >>> ((Int32.toUInt32 (8 : Int32)) &&& Int32.toUInt32 31)).toInt32 &&& 255 = (v >>> ((8:Int32) &&& 31)) &&& 255 := by
  apply Int32.toBitVec_inj.mp
  exact fb_bv v.toBitVec 8 (by decide)
theorem fb_sh0 (v : Int32) : (v >>> ((0:Int32) &&& 31)) = v := by
  apply Int32.toBitVec_inj.mp
  show v.toBitVec.sshiftRight 0 = _
  simp
theorem fb_low (w : Int32) : ∃ b : Int, 0 ≤ b ∧ b ≤ 255 ∧ w &&& 255 = Int32.ofInt b ∧ w.toInt8.toInt32 = Int32.ofInt (if b < 128 then b else b - 256) := by
  have e1 : (w &&& 255).toInt = w.toInt % 256 := by
    show (w.toBitVec &&& 255#32).toInt = w.toBitVec.toInt % 256
    rw [BitVec.toInt_and, BitVec.toInt_eq_toNat_bmod]
    have : w.toBitVec.toNat &&& (255#32).toNat = w.toBitVec.toNat % 256 := Nat.and_two_pow_sub_one_eq_mod w.toBitVec.toNat 8
    rw [this]
    have h1 := w.toBitVec.isLt
    simp only [Int.bmod_def]
    split <;> split <;> omega
  refine ⟨w.toInt % 256, by omega, by omega, ?_, ?_⟩
  · rw [← e1, Int32.ofInt_toInt]
  · have e2 : w.toInt8.toInt32.toInt = (if w.toInt % 256 < 128 then w.toInt % 256 else w.toInt % 256 - 256) := by
      rw [Int8.toInt_toInt32, Int32.toInt_toInt8]
      simp only [Int.bmod_def]
      split <;> split <;> omega
    rw [← e2, Int32.ofInt_toInt]
def bc (b : Int) : Int := if b < 128 then b else b - 256
theorem fb_nar {w : Int32} {c : Int} (h : w.toInt8.toInt32 = Int32.ofInt c) : vp_nar .byte (w.toInt8.toInt32) = Int32.ofInt c := by
  show (w.toInt8.toInt32).toInt8.toInt32 = _
  rw [show (w.toInt8.toInt32).toInt8 = w.toInt8 by simp, h]
/-- the buffer on both sides -/
def tb (t m : os_T) (L : Nat) (B : Nat → Int) : Prop := L ≤ 900 ∧ os_I t 4 = Int32.ofInt (L : Int) ∧ os_I m 2 = Int32.ofInt (L : Int) ∧ ∀ i, i < L → (0 ≤ B i ∧ B i ≤ 255) ∧ os_A t 0 i = Int32.ofInt (bc (B i)) ∧ os_A m 0 i = Int32.ofInt (B i)
abbrev tS (t : os_T) (L : Nat) (b : Int) : os_T := ss_I (ss_A t 0 (upd (os_A t 0) L (Int32.ofInt (bc b)))) 4 (Int32.ofInt ((L + 1 : Nat) : Int))
abbrev mS (m : os_T) (L : Nat) (b : Int) : os_T := ss_I (ss_A m 0 (upd (os_A m 0) L (Int32.ofInt b))) 2 (Int32.ofInt ((L + 1 : Nat) : Int))
section Buffer
variable {N L : Nat} {t m : os_T} {B : Nat → Int}
abbrev k4 : Nat → Prop := fun i => i = 4
abbrev k2 : Nat → Prop := fun i => i = 2
abbrev k0 : Nat → Prop := fun j => j = 0
theorem tS_y {b : Int} : sy k4 k0 t (tS t L b) := (show sy k4 k0 t (ss_A t 0 (upd (os_A t 0) L (Int32.ofInt (bc b)))) from sy_A rfl).tr (sy_I rfl)
theorem mS_y {b : Int} : sy k2 k0 m (mS m L b) := (show sy k2 k0 m (ss_A m 0 (upd (os_A m 0) L (Int32.ofInt b))) from sy_A rfl).tr (sy_I rfl)
theorem tb_add {b : Int} (h : tb t m L B) (hL : L < 900) (h0 : 0 ≤ b) (h1 : b ≤ 255) : tb (tS t L b) (mS m L b) (L + 1) (fun i => if i = L then b else B i) := by
  refine ⟨by omega, rfl, rfl, fun i hi => ?_⟩
  by_cases c : i = L
  · subst c
    refine ⟨?_, ?_, ?_⟩
    · show 0 ≤ (if i = i then b else B i) ∧ (if i = i then b else B i) ≤ 255
      rw [if_pos rfl]; exact ⟨h0, h1⟩
    · show upd (os_A t 0) i (Int32.ofInt (bc b)) i = Int32.ofInt (bc (if i = i then b else B i))
      rw [if_pos rfl, up_eq]
    · show upd (os_A m 0) i (Int32.ofInt b) i = Int32.ofInt (if i = i then b else B i)
      rw [if_pos rfl, up_eq]
  · have := h.2.2.2 i (by omega)
    refine ⟨?_, ?_, ?_⟩
    · show 0 ≤ (if i = L then b else B i) ∧ (if i = L then b else B i) ≤ 255
      rw [if_neg c]; exact this.1
    · show upd (os_A t 0) L (Int32.ofInt (bc b)) i = Int32.ofInt (bc (if i = L then b else B i))
      rw [if_neg c, up_ne c]; exact this.2.1
    · show upd (os_A m 0) L (Int32.ofInt b) i = Int32.ofInt (if i = L then b else B i)
      rw [if_neg c, up_ne c]; exact this.2.2
theorem tb_byte {w w2 : Int32} {b : Int} (h4 : os_I t 4 = Int32.ofInt (L : Int)) (hL : L < 900) (hb : w.toInt8.toInt32 = Int32.ofInt (bc b)) : ff_X10_appendByte N t w = some (tS t L b) := by
  unfold ff_X10_appendByte
  rw [h4]
  simp only [i0_lt (a := (L : Int)) (by omega)]
  rw [if_neg (by omega), ii_900, ii_le (by omega) (by omega), if_neg (by omega), if_pos (ia_in (by omega) (by omega) (by omega)), ia_nat (by omega) (by omega), fb_nar hb, ii_1, ia_add]
  rfl
theorem lo_1 {S α : Type} {step : (S → Option α) → S → Option α} {n : Nat} {s : S} : os_loop step (n + 1) s = step (os_loop step n) s := rfl
theorem tb_four {v : Int32} (hN : 10 < N) (h : tb t m L B) (hL : L + 4 ≤ 900) : ∃ t' m' B', ff_X10_append N t v = some t' ∧ ff_X13_four N m v = some m' ∧ tb t' m' (L + 4) B' ∧ sy k4 k0 t t' ∧ sy k2 k0 m m' := by
  obtain ⟨b1, p1, q1, r1, c1⟩ := fb_low (((Int32.toUInt32 v) >>> ((Int32.toUInt32 (24 : Int32)) &&& Int32.toUInt32 31)).toInt32)
  obtain ⟨b2, p2, q2, r2, c2⟩ := fb_low (((Int32.toUInt32 v) >>> ((Int32.toUInt32 (16 : Int32)) &&& Int32.toUInt32 31)).toInt32)
  obtain ⟨b3, p3, q3, r3, c3⟩ := fb_low (((Int32.toUInt32 v) >>> ((Int32.toUInt32 (8 : Int32)) &&& Int32.toUInt32 31)).toInt32)
  obtain ⟨b4, p4, q4, r4, c4⟩ := fb_low v
  have h1 := tb_add (b := b1) h (by omega) p1 q1
  have h2 := tb_add (b := b2) h1 (by omega) p2 q2
  have h3 := tb_add (b := b3) h2 (by omega) p3 q3
  have h4 := tb_add (b := b4) h3 (by omega) p4 q4
  refine ⟨_, _, _, ?_, ?_, h4, ((tS_y.tr tS_y).tr tS_y).tr tS_y, ((mS_y.tr mS_y).tr mS_y).tr mS_y⟩
  · unfold ff_X10_append
    rw [tb_byte (w2 := 0) h.2.1 (by omega) c1, Option.bind_some, tb_byte (w2 := 0) h1.2.1 (by omega) c2, Option.bind_some, tb_byte (w2 := 0) h2.2.1 (by omega) c3, Option.bind_some, tb_byte (w2 := 0) h3.2.1 (by omega) c4, Option.bind_some]
  · rw [fb_sh24] at r1
    rw [fb_sh16] at r2
    rw [fb_sh8] at r3
    have step : ∀ (mm : os_T) (LL : Nat) (k : (os_T × Int32 × Int32) → Option os_T) (s : Int) (b : Int), os_I mm 2 = Int32.ofInt (LL : Int) → LL < 900 → 0 ≤ s → s ≤ 24 → (v >>> (Int32.ofInt s &&& 31)) &&& (255 : Int32) = Int32.ofInt b → ff_X13_four_c3 N k mm v (Int32.ofInt s) = k (mS mm LL b, v, Int32.ofInt (s - 8)) := fun mm LL k s b e2 hLL hs hs2 eb => by
      unfold ff_X13_four_c3
      simp only [i0_lt (a := s) (by omega)]
      rw [if_neg (by omega), e2, if_pos (ia_in (by omega) (by omega) (by omega)), ia_nat (by omega) (by omega), eb, ii_1, ia_add, ii_m8, ia_add]
      rfl
    obtain ⟨M, rfl⟩ : ∃ M, N = M + 5 := ⟨N - 5, by omega⟩
    unfold ff_X13_four ff_X13_four_l3
    rw [lo_1]
    show ff_X13_four_c3 (M + 5) _ m v (Int32.ofInt 24) = _
    rw [step m L _ 24 b1 h.2.2.1 (by omega) (by omega) (by omega) r1, lo_1]
    show ff_X13_four_c3 (M + 5) _ _ v (Int32.ofInt 16) = _
    rw [step _ (L + 1) _ 16 b2 h1.2.2.1 (by omega) (by omega) (by omega) r2, lo_1]
    show ff_X13_four_c3 (M + 5) _ _ v (Int32.ofInt 8) = _
    rw [step _ (L + 1 + 1) _ 8 b3 h2.2.2.1 (by omega) (by omega) (by omega) r3, lo_1]
    show ff_X13_four_c3 (M + 5) _ _ v (Int32.ofInt 0) = _
    rw [step _ (L + 1 + 1 + 1) _ 0 b4 h3.2.2.1 (by omega) (by omega) (by omega) (by show (v >>> ((0 : Int32) &&& 31)) &&& (255 : Int32) = _; rw [fb_sh0]; exact r4), lo_1]
    show ff_X13_four_c3 (M + 5) _ _ v (Int32.ofInt (-8)) = _
    unfold ff_X13_four_c3
    rw [if_pos (show Int32.ofInt (-8) < 0 by decide)]
theorem jq_feed {a b c d e : Int32} {x : os_T} (hN : 10 < N) (h : tb t m L B) : ∃ k v t2 m2 L2 B2, ff_X12_feed N x t a b c d e = some (k, v, t2) ∧ ff_X13_feed N m a b c d e = some (v, m2) ∧ tb t2 m2 L2 B2 ∧ sy k4 k0 t t2 ∧ sy (fun i => i = 0 ∨ i = 2) k0 m m2 ∧ ((k = 0 ∧ os_I m2 0 = 0) ∨ (k = 1 ∧ os_I m2 0 = 1)) := by
  have h0 := h.1
  unfold ff_X12_feed ff_X10_hasRoomFor ff_X13_feed ff_X13_feed_b19
  rw [h.2.1, h.2.2.1, ii_900, ii_20, ia_add, ii_lt (by omega) (by omega), ii_lt (by omega) (by omega)]
  by_cases hc : 900 < (L : Int) + 20
  · refine ⟨1, 0, t, ss_I m 0 1, L, B, ?_, ?_, ⟨h.1, h.2.1, h.2.2.1, h.2.2.2⟩, sy.rf, sy_I (Or.inl rfl), Or.inr ⟨rfl, rfl⟩⟩
    · rw [if_pos hc]; rfl
    · rw [if_pos hc]; rfl
  · have hm : tb t (ss_I m 0 0) L B := ⟨h.1, h.2.1, h.2.2.1, h.2.2.2⟩
    obtain ⟨t1, m1, B1, e1, f1, g1, y1, z1⟩ := tb_four (v := a) hN hm (by omega)
    obtain ⟨t2, m2, B2, e2, f2, g2, y2, z2⟩ := tb_four (v := b) hN g1 (by omega)
    obtain ⟨t3, m3, B3, e3, f3, g3, y3, z3⟩ := tb_four (v := c) hN g2 (by omega)
    obtain ⟨t4, m4, B4, e4, f4, g4, y4, z4⟩ := tb_four (v := d) hN g3 (by omega)
    obtain ⟨t5, m5, B5, e5, f5, g5, y5, z5⟩ := tb_four (v := e) hN g4 (by omega)
    have z : sy k2 k0 (ss_I m 0 0) m5 := (((z1.tr z2).tr z3).tr z4).tr z5
    refine ⟨0, os_I t5 4, t5, m5, _, _, ?_, ?_, g5, (((y1.tr y2).tr y3).tr y4).tr y5, (show sy (fun i => i = 0 ∨ i = 2) k0 m (ss_I m 0 0) from sy_I (Or.inl rfl)).tr (z.mono (fun i hi => Or.inr hi) (fun j hj => hj)), Or.inl ⟨rfl, z.1 0 (by decide)⟩⟩
    · rw [if_neg hc, Option.bind_some, if_neg (by decide), e1, Option.bind_some, e2, Option.bind_some, e3, Option.bind_some, e4, Option.bind_some, e5, Option.bind_some]
    · rw [if_neg hc]
      show (ff_X13_goes N m (oz true)).bind _ = _
      rw [rc_goes, Option.bind_some]
      refine (oz_bt (b := true) rfl).trans ?_
      show (ff_X13_four N (ss_I m 0 0) a).bind _ = _
      rw [f1, Option.bind_some, f2, Option.bind_some, f3, Option.bind_some, f4, Option.bind_some, f5, Option.bind_some, g5.2.1, g5.2.2.1]
theorem jq_truncate {a : Int} {x : os_T} (h : tb t m L B) (ha : ib a) : ∃ k v t2 m2 L2, ff_X12_truncate N x t (Int32.ofInt a) = some (k, v, t2) ∧ ff_X13_truncate N m (Int32.ofInt a) = some (v, m2) ∧ tb t2 m2 L2 B ∧ sy k4 k0 t t2 ∧ sy (fun i => i = 0 ∨ i = 2) k0 m m2 ∧ ((k = 0 ∧ os_I m2 0 = 0) ∨ (k = 2 ∧ os_I m2 0 = 1)) := by
  have h0 := h.1
  unfold ff_X12_truncate ff_X12_truncate_b15 ff_X13_truncate
  simp only [i0_lt ha]
  rw [h.2.1, h.2.2.1, ii_le ha (by omega), ia_j ha.1 ha.2, ia_j (by omega) (by omega), ij_0, rc_isIn ha (by omega) (by omega), Option.bind_some, rc_goes, Option.bind_some]
  by_cases c : 0 ≤ a ∧ a ≤ L
  · refine ⟨0, Int32.ofInt a, ss_I t 4 (Int32.ofInt a), ss_I (ss_I m 0 0) 2 (Int32.ofInt a), a.toNat, ?_, ?_, ⟨by omega, ?_, ?_, fun i hi => h.2.2.2 i (by omega)⟩, sy_I rfl, (show sy (fun i => i = 0 ∨ i = 2) k0 m (ss_I m 0 0) from sy_I (Or.inl rfl)).tr (sy_I (Or.inr rfl)), Or.inl ⟨rfl, rfl⟩⟩
    · rw [if_neg (by omega), if_pos (by omega)]
    · rw [decide_eq_true c]
      exact oz_bt (b := true) rfl
    · show Int32.ofInt a = _
      rw [Int.toNat_of_nonneg c.1]
    · show Int32.ofInt a = _
      rw [Int.toNat_of_nonneg c.1]
  · refine ⟨2, 0, t, ss_I m 0 1, L, ?_, ?_, ⟨h.1, h.2.1, h.2.2.1, h.2.2.2⟩, sy.rf, sy_I (Or.inl rfl), Or.inr ⟨rfl, rfl⟩⟩
    · by_cases c1 : a < 0
      · rw [if_pos c1]
      · rw [if_neg c1, if_neg (by omega)]
    · rw [decide_eq_false c]
      rfl
end Buffer
