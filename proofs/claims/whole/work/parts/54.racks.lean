/-! LAYER 2. The racks -/
section Racks
variable {N : Nat} {w m : os_T} {R : Nat → Int}
def rk (f : Nat → Int32) (R : Nat → Int) : Prop := ∀ i, i < 12 → f i = Int32.ofInt (R i)
def rkv (R : Nat → Int) : Prop := ∀ i, i < 12 → R i = -1 ∨ ∃ k a b : Nat, k ≤ 1 ∧ (1 ≤ a ∧ a ≤ 6) ∧ (1 ≤ b ∧ b ≤ 20) ∧ R i = (q_code k a b : Nat)
def rr (w m : os_T) (R : Nat → Int) : Prop := rk (os_A w 0) R ∧ rk (os_A m 12) R ∧ rkv R
theorem rr.sy {K J : Nat → Prop} {m' : os_T} (h : rr w m R) (hx : sy K J m m') (h12 : ¬ J 12) : rr w m' R := ⟨h.1, fun i hi => by rw [hx.2.2 12 h12]; exact h.2.1 i hi, h.2.2⟩
theorem rkv_b (h : rkv R) {i : Nat} (hi : i < 12) : -1 ≤ R i ∧ R i ≤ 1620 := by
  rcases h i hi with e | ⟨k, a, b, h1, h2, h3, e⟩
  · omega
  · have : q_code k a b = 1000 * k + 100 * a + b := rfl
    omega
abbrev rpl (a b : Int) : Prop := 0 ≤ a ∧ a < 3 ∧ 0 ≤ b ∧ b < 4
theorem pc_place {a b : Int} (ha : ib a) (hb : ib b) : ff_X6_hasPlace N (Int32.ofInt a) (Int32.ofInt b) = some (oz (decide (rpl a b))) := by
  unfold ff_X6_hasPlace
  simp only [i0_lt ha, i0_lt hb]
  rw [ii_3, ii_4, ii_le (by omega) ha, ii_le (by omega) hb]
  by_cases c : rpl a b
  · have c' := c
    unfold rpl at c'
    rw [decide_eq_true c, if_neg (by omega), if_neg (by omega), if_neg (by omega), if_neg (by omega)]; rfl
  · rw [decide_eq_false c]
    unfold rpl at c
    repeat' split
    all_goals first | rfl | (exfalso; omega)
theorem rc_place {a b : Int} (ha : ib a) (hb : ib b) : ff_X13_isPlace N (Int32.ofInt a) (Int32.ofInt b) = some (oz (decide (rpl a b))) := by
  unfold ff_X13_isPlace
  rw [ia_j ha.1 ha.2, ia_j hb.1 hb.2, ij_0, ij_2, ij_3, rc_isIn ha (by omega) (by omega), Option.bind_some, oz_ite, rc_isIn hb (by omega) (by omega), Option.bind_some, oz_ite]
  by_cases c : rpl a b
  · have c' := c
    unfold rpl at c'
    rw [decide_eq_true c, if_pos (by omega), if_pos (by omega)]; rfl
  · rw [decide_eq_false c]
    unfold rpl at c
    repeat' split
    all_goals first | rfl | (exfalso; omega)
def rix (a b : Int) : Nat := (4 * a + b).toNat
theorem rix_lt {a b : Int} (c : rpl a b) : rix a b < 12 := by unfold rpl at c; unfold rix; omega
theorem rix_c {a b : Int} (c : rpl a b) : os_in (Int32.ofInt a * 4 + Int32.ofInt b) 12 ∧ Int32.toNatClampNeg (Int32.ofInt a * 4 + Int32.ofInt b) = rix a b := by
  unfold rpl at c
  have e : Int32.ofInt a * 4 + Int32.ofInt b = Int32.ofInt (4 * a + b) := by rw [ii_4, ia_mul, ia_add]; congr 1; omega
  rw [e]
  exact ⟨ia_in (by omega) (by omega) (by omega), ia_nat (by omega) (by omega)⟩
theorem rix_r {a b : Int} (c : rpl a b) : os_in ((4 : Int32) * Int32.ofInt a + Int32.ofInt b) 12 ∧ Int32.toNatClampNeg ((4 : Int32) * Int32.ofInt a + Int32.ofInt b) = rix a b := by
  unfold rpl at c
  have e : (4 : Int32) * Int32.ofInt a + Int32.ofInt b = Int32.ofInt (4 * a + b) := by rw [ii_4, ia_mul, ia_add]
  rw [e]
  exact ⟨ia_in (by omega) (by omega) (by omega), ia_nat (by omega) (by omega)⟩
def ru (R : Nat → Int) (i : Nat) (v : Int) : Nat → Int := fun j => if j = i then v else R j
theorem ru_at {i : Nat} {v : Int} : ru R i v i = v := if_pos rfl
theorem ru_ne {i j : Nat} {v : Int} (h : j ≠ i) : ru R i v j = R j := if_neg h
theorem rk_up {f : Nat → Int32} {i : Nat} {v : Int} (h : rk f R) : rk (upd f i (Int32.ofInt v)) (ru R i v) := fun j hj => by
  by_cases e : j = i
  · rw [e, up_eq, ru_at]
  · rw [up_ne e, ru_ne e]; exact h j hj
theorem rkv_up {i : Nat} {v : Int} (h : rkv R) (hv : v = -1 ∨ ∃ k a b : Nat, k ≤ 1 ∧ (1 ≤ a ∧ a ≤ 6) ∧ (1 ≤ b ∧ b ≤ 20) ∧ v = (q_code k a b : Nat)) : rkv (ru R i v) := fun j hj => by
  by_cases e : j = i
  · rw [e, ru_at]; exact hv
  · rw [ru_ne e]; exact h j hj
theorem rr_up {i : Nat} {v : Int} {u : Int32} (h : rr w m R) (hv : v = -1 ∨ ∃ k a b : Nat, k ≤ 1 ∧ (1 ≤ a ∧ a ≤ 6) ∧ (1 ≤ b ∧ b ≤ 20) ∧ v = (q_code k a b : Nat)) : rr (ss_A w 0 (upd (os_A w 0) i (Int32.ofInt v))) (ss_I (ss_A m 12 (upd (os_A m 12) i (Int32.ofInt v))) 0 u) (ru R i v) := ⟨rk_up h.1, rk_up h.2.1, rkv_up h.2.2 hv⟩
theorem rr_I {u : Int32} (h : rr w m R) : rr w (ss_I m 0 u) R := ⟨h.1, h.2.1, h.2.2⟩
theorem pc_at (h : rr w m R) {a b : Int} (ha : ib a) (hb : ib b) (c : rpl a b) : ff_X6_at N w (Int32.ofInt a) (Int32.ofInt b) = some (Int32.ofInt (R (rix a b))) := by
  unfold ff_X6_at
  rw [pc_place ha hb, Option.bind_some, oz_ite, if_pos c, if_pos (rix_c c).1, (rix_c c).2, h.1 _ (rix_lt c)]
theorem pc_put {a b v : Int} (ha : ib a) (hb : ib b) (c : rpl a b) : ff_X6_put N w (Int32.ofInt a) (Int32.ofInt b) (Int32.ofInt v) = some (ss_A w 0 (upd (os_A w 0) (rix a b) (Int32.ofInt v))) := by
  unfold ff_X6_put
  rw [pc_place ha hb, Option.bind_some, oz_ite, if_pos c, if_pos (rix_c c).1, (rix_c c).2]
theorem pc_ckp {x : os_T} {a b : Int} (ha : ib a) (hb : ib b) : ff_X12_checkPlace N x (Int32.ofInt a) (Int32.ofInt b) = some (if rpl a b then 0 else 3) := by
  unfold ff_X12_checkPlace
  rw [pc_place ha hb, Option.bind_some, oz_ite]
  split <;> rfl
theorem pc_takes {a b : Int} (ha : ib a) (hb : ib b) : ff_X6_takes N (Int32.ofInt a) (Int32.ofInt b) = some (oz (decide (a = 2 ∨ a = b))) ∧ ff_X13_takes N (Int32.ofInt a) (Int32.ofInt b) = some (oz (decide (a = 2 ∨ a = b))) := by
  unfold ff_X6_takes ff_X13_takes ff_X6_takes_b10 ff_X13_takes_b10
  rw [ii_2, ii_eq ha (by omega), ii_eq ha hb]
  by_cases c : a = 2
  · rw [if_pos c, decide_eq_true (Or.inl c)]; exact ⟨rfl, rfl⟩
  · rw [if_neg c]
    by_cases c2 : a = b
    · rw [if_pos c2, decide_eq_true (Or.inr c2)]; exact ⟨rfl, rfl⟩
    · rw [if_neg c2, decide_eq_false (by omega)]; exact ⟨rfl, rfl⟩
theorem m1_eq {a : Int} (ha : ib a) {α : Type} {A B : α} : (if Int32.ofInt a = (-1 : Int32) then A else B) = if a = -1 then A else B := by
  rw [ii_m1, ii_eq ha (by omega)]
theorem rr_stampAt {x : os_T} {a b : Int} (h : rr w m R) (ha : ib a) (hb : ib b) : ∃ k c m2, ff_X12_stampAt N x w (Int32.ofInt a) (Int32.ofInt b) = some (k, c) ∧ ff_X13_stampAt N m (Int32.ofInt a) (Int32.ofInt b) = some (c, m2) ∧ sy (fun i => i = 0) (fun _ => False) m m2 ∧ ((k = 0 ∧ os_I m2 0 = 0) ∨ (k = 3 ∧ os_I m2 0 = 1)) := by
  unfold ff_X12_stampAt ff_X13_stampAt
  rw [pc_ckp ha hb, Option.bind_some, rc_place ha hb, Option.bind_some, rc_goes, Option.bind_some]
  by_cases c : rpl a b
  · refine ⟨0, Int32.ofInt (R (rix a b)), ss_I m 0 0, ?_, ?_, sy_I rfl, Or.inl ⟨rfl, rfl⟩⟩
    · rw [if_pos c, if_pos rfl, pc_at h ha hb c, Option.bind_some]
    · rw [decide_eq_true c]
      show (if oz true = 0 then _ else (if os_in ((4 : Int32) * Int32.ofInt a + Int32.ofInt b) 12 then some (os_A m 12 (Int32.toNatClampNeg ((4 : Int32) * Int32.ofInt a + Int32.ofInt b)), ss_I m 0 0) else none)) = _
      rw [oz_bt rfl, if_pos (rix_r c).1, (rix_r c).2, h.2.1 _ (rix_lt c)]
  · refine ⟨3, 0, ss_I m 0 1, ?_, ?_, sy_I rfl, Or.inr ⟨rfl, rfl⟩⟩
    · rw [if_neg c, if_neg (by decide)]
    · rw [decide_eq_false c]; rfl
theorem rr_takeStamp {x : os_T} {a b : Int} (h : rr w m R) (ha : ib a) (hb : ib b) : ∃ k c w2 m2 R2, ff_X12_takeStamp N x w (Int32.ofInt a) (Int32.ofInt b) = some (k, c, w2) ∧ ff_X13_takeStamp N m (Int32.ofInt a) (Int32.ofInt b) = some (c, m2) ∧ rr w2 m2 R2 ∧ sy (fun i => i = 0) (fun j => j = 12) m m2 ∧ ((k = 0 ∧ os_I m2 0 = 0) ∨ (k = 3 ∧ os_I m2 0 = 1)) := by
  unfold ff_X12_takeStamp ff_X13_takeStamp
  rw [pc_ckp ha hb, Option.bind_some, rc_place ha hb, Option.bind_some, rc_goes, Option.bind_some]
  by_cases c : rpl a b
  · have hb1 := rkv_b h.2.2 (rix_lt c)
    refine ⟨0, oz (decide (¬ R (rix a b) = -1)), _, _, ru R (rix a b) (-1), ?_, ?_, rr_up (u := 0) h (Or.inl rfl), ?_, Or.inl ⟨rfl, rfl⟩⟩
    · rw [if_pos c, if_pos rfl, pc_at h ha hb c, Option.bind_some, m1_eq (by omega)]
      unfold ff_X12_takeStamp_b24
      rw [ii_m1, pc_put ha hb c, Option.bind_some, Option.bind_some]
      by_cases e : R (rix a b) = -1
      · rw [if_pos e, decide_eq_false (fun z => z e)]; rfl
      · rw [if_neg e, decide_eq_true e]; rfl
    · rw [decide_eq_true c]
      show (if oz true = 0 then _ else (if os_in ((4 : Int32) * Int32.ofInt a + Int32.ofInt b) 12 then (if os_A m 12 (Int32.toNatClampNeg ((4 : Int32) * Int32.ofInt a + Int32.ofInt b)) = (-1 : Int32) then _ else _) else none)) = _
      unfold ff_X13_takeStamp_b33
      rw [oz_bt rfl]
      simp only [if_pos (rix_r c).1]
      rw [(rix_r c).2, h.2.1 _ (rix_lt c), m1_eq (by omega)]
      by_cases e : R (rix a b) = -1
      · rw [if_pos e, decide_eq_false (fun z => z e)]; rfl
      · rw [if_neg e, decide_eq_true e]; rfl
    · exact (show sy (fun i => i = 0) (fun j => j = 12) m (ss_A m 12 _) from sy_A rfl).tr (sy_I rfl)
  · refine ⟨3, 0, w, ss_I m 0 1, R, ?_, ?_, rr_I h, sy_I rfl, Or.inr ⟨rfl, rfl⟩⟩
    · rw [if_neg c, if_neg (by decide)]
    · rw [decide_eq_false c]; rfl
abbrev rst (k a b : Int) : Prop := (k = 0 ∨ k = 1) ∧ (1 ≤ a ∧ a ≤ 6) ∧ (1 ≤ b ∧ b ≤ 20)
theorem pc_isStamp {k a b : Int} (hk : ib k) (ha : ib a) (hb : ib b) : ff_X6_isStamp N (Int32.ofInt k) (Int32.ofInt a) (Int32.ofInt b) = some (oz (decide (rst k a b))) := by
  unfold ff_X6_isStamp
  simp only [i0_eq hk]
  have e9 : (k = 0 ∨ k = 1) → ff_X6_isStamp_b9 N (Int32.ofInt a) (Int32.ofInt b) = some (oz (decide (rst k a b))) := fun hk2 => by
    unfold ff_X6_isStamp_b9
    rw [ii_1, ii_6, ii_20, ii_lt ha (by omega), ii_lt (by omega) ha, ii_lt hb (by omega), ii_lt (by omega) hb]
    by_cases c : rst k a b
    · rw [decide_eq_true c, if_neg (by omega), if_neg (by omega), if_neg (by omega), if_neg (by omega)]; rfl
    · rw [decide_eq_false c]
      repeat' split
      all_goals first | rfl | (exfalso; omega)
  by_cases c0 : k = 0
  · rw [if_pos c0, e9 (Or.inl c0)]
  · rw [if_neg c0, ii_1, ii_eq hk (by omega)]
    by_cases c1 : k = 1
    · rw [if_pos c1, e9 (Or.inr c1)]
    · rw [if_neg c1, decide_eq_false (by omega)]; rfl
theorem rr_putStamp {x : os_T} {a b k s t : Int} (h : rr w m R) (ha : ib a) (hb : ib b) (hk : ib k) (hs : ib s) (ht : ib t) : ∃ kk c w2 m2 R2, ff_X12_putStamp N x w (Int32.ofInt a) (Int32.ofInt b) (Int32.ofInt k) (Int32.ofInt s) (Int32.ofInt t) = some (kk, c, w2) ∧ ff_X13_putStamp N m (Int32.ofInt a) (Int32.ofInt b) (Int32.ofInt k) (Int32.ofInt s) (Int32.ofInt t) = some (c, m2) ∧ rr w2 m2 R2 ∧ sy (fun i => i = 0) (fun j => j = 12) m m2 ∧ ((kk = 0 ∧ os_I m2 0 = 0) ∨ (kk = 3 ∧ os_I m2 0 = 1) ∨ (kk = 2 ∧ os_I m2 0 = 2)) := by
  unfold ff_X12_putStamp ff_X13_putStamp ff_X13_putStamp_b49
  rw [pc_ckp ha hb, Option.bind_some, rc_place ha hb, Option.bind_some, oz_ite, pc_isStamp hk hs ht, Option.bind_some, oz_ite, (pc_takes ha hk).1, Option.bind_some, oz_ite]
  rw [ia_j hk.1 hk.2, ia_j hs.1 hs.2, ia_j ht.1 ht.2, ij_0, ij_1, ij_6, ij_20, rc_isIn hk (by omega) (by omega), Option.bind_some, oz_ite, rc_isIn hs (by omega) (by omega), Option.bind_some, oz_ite, rc_isIn ht (by omega) (by omega), Option.bind_some, oz_ite]
  by_cases c : rpl a b
  · rw [if_pos c, if_pos c, if_pos rfl]
    by_cases c1 : rst k s t
    · rw [if_pos c1, if_pos (show 0 ≤ k ∧ k ≤ 1 by omega), if_pos (show 1 ≤ s ∧ s ≤ 6 by omega), if_pos (show 1 ≤ t ∧ t ≤ 20 by omega)]
      have e54 : ff_X13_putStamp_b54 N m (Int32.ofInt a) (Int32.ofInt b) (Int32.ofInt k) (Int32.ofInt s) (Int32.ofInt t) 0 = ff_X13_putStamp_b59 N m (Int32.ofInt a) (Int32.ofInt b) (Int32.ofInt k) (Int32.ofInt s) (Int32.ofInt t) 0 := by
        unfold ff_X13_putStamp_b54
        rw [rc_t0, Option.bind_some]; rfl
      rw [e54]
      unfold ff_X13_putStamp_b59
      rw [if_neg (show ¬ ((0 : Int32) < 0) by decide), (pc_takes ha hk).2, Option.bind_some, oz_ite]
      by_cases c2 : a = 2 ∨ a = k
      · rw [if_pos c2, if_pos c2]
        obtain ⟨kn, rfl⟩ : ∃ z : Nat, k = z := ⟨k.toNat, by omega⟩
        obtain ⟨sn, rfl⟩ : ∃ z : Nat, s = z := ⟨s.toNat, by omega⟩
        obtain ⟨tn, rfl⟩ : ∃ z : Nat, t = z := ⟨t.toNat, by omega⟩
        have hcode : (1000 * (kn : Int) + 100 * (sn : Int) + (tn : Int)) = ((q_code kn sn tn : Nat) : Int) := by
          show _ = ((1000 * kn + 100 * sn + tn : Nat) : Int); omega
        refine ⟨0, 1, _, _, ru R (rix a b) ((q_code kn sn tn : Nat) : Int), ?_, ?_, rr_up (u := 0) h (Or.inr ⟨kn, sn, tn, by omega, by omega, by omega, rfl⟩), ?_, Or.inl ⟨rfl, rfl⟩⟩
        · unfold ff_X6_codeOf
          rw [Option.bind_some, ii_1000, ii_100, ia_mul, ia_mul, ia_add, ia_add, show (kn : Int) * 1000 + (sn : Int) * 100 + (tn : Int) = ((q_code kn sn tn : Nat) : Int) by omega, pc_put ha hb c, Option.bind_some]
        · rw [if_pos (rix_r c).1, (rix_r c).2, ii_1000, ii_100, ia_mul, ia_mul, ia_add, ia_add, hcode]
        · exact (show sy (fun i => i = 0) (fun j => j = 12) m (ss_A m 12 _) from sy_A rfl).tr (sy_I rfl)
      · rw [if_neg c2, if_neg c2]
        exact ⟨0, 0, w, ss_I m 0 0, R, rfl, rfl, rr_I h, sy_I rfl, Or.inl ⟨rfl, rfl⟩⟩
    · refine ⟨2, 0, w, ss_I m 0 2, R, ?_, ?_, rr_I h, sy_I rfl, Or.inr (Or.inr ⟨rfl, rfl⟩)⟩
      · rw [if_neg c1]
      · repeat' split
        all_goals first | rfl | (exfalso; omega)
  · refine ⟨3, 0, w, ss_I m 0 1, R, ?_, ?_, rr_I h, sy_I rfl, Or.inr (Or.inl ⟨rfl, rfl⟩)⟩
    · rw [if_neg c, if_neg (by decide)]
    · rw [if_neg c]; rfl
theorem rr_moveStamp {x : os_T} {a b a2 b2 : Int} (h : rr w m R) (ha : ib a) (hb : ib b) (ha2 : ib a2) (hb2 : ib b2) : ∃ kk c w2 m2 R2, ff_X12_moveStamp N x w (Int32.ofInt a) (Int32.ofInt b) (Int32.ofInt a2) (Int32.ofInt b2) = some (kk, c, w2) ∧ ff_X13_moveStamp N m (Int32.ofInt a) (Int32.ofInt b) (Int32.ofInt a2) (Int32.ofInt b2) = some (c, m2) ∧ rr w2 m2 R2 ∧ sy (fun i => i = 0) (fun j => j = 12) m m2 ∧ ((kk = 0 ∧ os_I m2 0 = 0) ∨ (kk = 3 ∧ os_I m2 0 = 1) ∨ (kk = 1 ∧ os_I m2 0 = 2)) := by
  unfold ff_X12_moveStamp ff_X13_moveStamp ff_X13_moveStamp_b21 ff_X12_checkStamp
  rw [pc_ckp ha hb, Option.bind_some, rc_place ha hb, Option.bind_some, oz_ite, pc_ckp ha2 hb2, Option.bind_some, rc_place ha2 hb2, Option.bind_some, oz_ite]
  have eno : ff_X13_moveStamp_b22 N m (Int32.ofInt a) (Int32.ofInt b) (Int32.ofInt a2) (Int32.ofInt b2) (0 : Int32) = some (0, ss_I m 0 1) := rfl
  by_cases c : rpl a b
  · rw [if_pos c, if_pos c, if_pos rfl]
    by_cases c2 : rpl a2 b2
    · rw [if_pos c2, if_pos c2, if_pos rfl, pc_at h ha hb c, Option.bind_some]
      have hb1 := rkv_b h.2.2 (rix_lt c)
      rw [m1_eq (by omega)]
      unfold ff_X13_moveStamp_b22
      rw [if_neg (show ¬ ((1 : Int32) = 0) by decide), if_pos (rix_r c).1, (rix_r c).2, h.2.1 _ (rix_lt c), m1_eq (by omega)]
      by_cases e : R (rix a b) = -1
      · rw [if_pos e]
        refine ⟨1, 0, w, ss_I m 0 2, R, rfl, ?_, rr_I h, sy_I rfl, Or.inr (Or.inr ⟨rfl, rfl⟩)⟩
        rw [if_pos e]; rfl
      · have hk3 := (h.2.2 _ (rix_lt c)).resolve_left e
        have h0 : 0 ≤ R (rix a b) := by omega
        have ed : Int32.ofInt (R (rix a b)) / (1000 : Int32) = Int32.ofInt (R (rix a b) / 1000) := by rw [ii_1000, ia_div h0 (by omega) (by omega) (by omega)]
        have htk := pc_takes (N := N) ha2 (show ib (R (rix a b) / 1000) by omega)
        have ec : (if R (rix a b) = -1 then some 1 else some (0 : Nat)) = some 0 := if_neg e
        have e53 : ff_X13_moveStamp_b53 N m (Int32.ofInt a) (Int32.ofInt b) (Int32.ofInt a2) (Int32.ofInt b2) 0 = (if a2 = 2 ∨ a2 = R (rix a b) / 1000 then some (1, ss_I (ss_A m 12 (upd (upd (os_A m 12) (rix a b) (Int32.ofInt (-1))) (rix a2 b2) (Int32.ofInt (R (rix a b))))) 0 0) else some (0, ss_I m 0 0)) := by
          unfold ff_X13_moveStamp_b53
          rw [rc_t0, Option.bind_some]
          show ff_X13_moveStamp_b58 N m _ _ _ _ 0 = _
          unfold ff_X13_moveStamp_b58
          rw [if_pos (show (0 : Int32) ≤ 0 by decide)]
          simp only [if_pos (rix_r c).1, if_pos (rix_r c2).1]
          rw [(rix_r c).2, (rix_r c2).2, h.2.1 _ (rix_lt c), ed, htk.2, Option.bind_some, oz_ite, ii_m1]
        rw [ec, Option.bind_some, if_pos rfl, Option.bind_some]
        unfold ff_X6_kindOf
        rw [Option.bind_some, ed, htk.1, Option.bind_some, oz_ite, if_neg e, e53]
        by_cases ct : a2 = 2 ∨ a2 = R (rix a b) / 1000
        · rw [if_pos ct, if_pos ct, ii_m1, pc_put ha hb c, Option.bind_some, pc_put ha2 hb2 c2, Option.bind_some]
          exact ⟨0, 1, _, _, ru (ru R (rix a b) (-1)) (rix a2 b2) (R (rix a b)), rfl, rfl, ⟨rk_up (rk_up h.1), rk_up (rk_up h.2.1), rkv_up (rkv_up h.2.2 (Or.inl rfl)) (Or.inr hk3)⟩, (show sy (fun i => i = 0) (fun j => j = 12) m (ss_A m 12 _) from sy_A rfl).tr (sy_I rfl), Or.inl ⟨rfl, rfl⟩⟩
        · rw [if_neg ct, if_neg ct]
          exact ⟨0, 0, w, ss_I m 0 0, R, rfl, rfl, rr_I h, sy_I rfl, Or.inl ⟨rfl, rfl⟩⟩
    · rw [if_neg c2, if_neg c2, if_neg (by decide)]
      exact ⟨3, 0, w, ss_I m 0 1, R, rfl, eno, rr_I h, sy_I rfl, Or.inr (Or.inl ⟨rfl, rfl⟩)⟩
  · rw [if_neg c, if_neg c, if_neg (by decide)]
    exact ⟨3, 0, w, ss_I m 0 1, R, rfl, eno, rr_I h, sy_I rfl, Or.inr (Or.inl ⟨rfl, rfl⟩)⟩
end Racks
