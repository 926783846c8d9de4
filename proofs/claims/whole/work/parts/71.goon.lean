/-! LAYER 2. Tokens, in the reference -/
def sq (K J : Nat → Prop) (o o' : os_T) : Prop := (∀ i, ¬ K i → os_I o' i = os_I o i) ∧ ∀ j, ¬ J j → os_A o' j = os_A o j
section SQ
variable {K J K2 J2 : Nat → Prop} {o p q : os_T}
theorem sq.rf : sq K J o o := ⟨fun _ _ => rfl, fun _ _ => rfl⟩
theorem sq.tr (h : sq K J o p) (h2 : sq K J p q) : sq K J o q := ⟨fun i hi => (h2.1 i hi).trans (h.1 i hi), fun j hj => (h2.2 j hj).trans (h.2 j hj)⟩
theorem sq.mono (h : sq K J o p) (hK : ∀ j, K j → K2 j) (hJ : ∀ j, J j → J2 j) : sq K2 J2 o p := ⟨fun i hi => h.1 i (fun z => hi (hK i z)), fun j hj => h.2 j (fun z => hj (hJ j z))⟩
theorem sy.sq (h : sy K J o p) : sq K J o p := ⟨h.1, h.2.2⟩
theorem sq_I {k : Nat} {v : Int32} (hk : K k) : sq K J o (ss_I o k v) := (sy_I hk).sq
theorem sq_A {j : Nat} {f : Nat → Int32} (hj : J j) : sq K J o (ss_A o j f) := (sy_A hj).sq
theorem sq_L {j : Nat} {v : Int64} : sq K J o (ss_L o j v) := ⟨fun _ _ => rfl, fun _ _ => rfl⟩
end SQ
def wl (f : Nat → Int) : Nat → Int
  | 0 => 0
  | n + 1 => if n < 8 then 32 * wl f n + (f n - 96) else wl f n
def nv (f : Nat → Int) : Nat → Int
  | 0 => 0
  | n + 1 => if n < 4 then 10 * nv f n + f n - 48 else nv f n
theorem wl_r {f : Nat → Int} : ∀ n, (∀ i, i < n → 97 ≤ f i ∧ f i ≤ 122) → 0 ≤ wl f n ∧ wl f n < 32 ^ (min n 8) := by
  intro n
  induction n with
  | zero => intro _; exact ⟨Int.le_refl _, Int.zero_lt_one⟩
  | succ n ih =>
    intro h
    have h1 := ih (fun i hi => h i (by omega))
    have h2 := h n (by omega)
    show 0 ≤ (if n < 8 then 32 * wl f n + (f n - 96) else wl f n) ∧ (if n < 8 then 32 * wl f n + (f n - 96) else wl f n) < 32 ^ (min (n + 1) 8)
    by_cases c : n < 8
    · rw [if_pos c]
      rw [Nat.min_eq_left (by omega)] at h1 ⊢
      rw [Int.pow_succ]
      omega
    · rw [if_neg c]
      rw [Nat.min_eq_right (by omega)] at h1 ⊢
      exact h1
theorem nv_r {f : Nat → Int} : ∀ n, (∀ i, i < n → 48 ≤ f i ∧ f i ≤ 57) → 0 ≤ nv f n ∧ nv f n < 10 ^ (min n 4) := by
  intro n
  induction n with
  | zero => intro _; exact ⟨Int.le_refl _, Int.zero_lt_one⟩
  | succ n ih =>
    intro h
    have h1 := ih (fun i hi => h i (by omega))
    have h2 := h n (by omega)
    show 0 ≤ (if n < 4 then 10 * nv f n + f n - 48 else nv f n) ∧ (if n < 4 then 10 * nv f n + f n - 48 else nv f n) < 10 ^ (min (n + 1) 4)
    by_cases c : n < 4
    · rw [if_pos c]
      rw [Nat.min_eq_left (by omega)] at h1 ⊢
      rw [Int.pow_succ]
      omega
    · rw [if_neg c]
      rw [Nat.min_eq_right (by omega)] at h1 ⊢
      exact h1
theorem wl_b {f : Nat → Int} {n : Nat} (h : ∀ i, i < n → 97 ≤ f i ∧ f i ≤ 122) : 0 ≤ wl f n ∧ wl f n < 1099511627776 := by
  have h1 := wl_r n h
  refine ⟨h1.1, Int.lt_of_lt_of_le h1.2 ?_⟩
  have : ∀ k : Nat, k ≤ 8 → (32 : Int) ^ k ≤ 1099511627776 := by decide
  exact this _ (by omega)
theorem nv_b {f : Nat → Int} {n : Nat} (h : ∀ i, i < n → 48 ≤ f i ∧ f i ≤ 57) : 0 ≤ nv f n ∧ nv f n < 10000 := by
  have h1 := nv_r n h
  refine ⟨h1.1, Int.lt_of_lt_of_le h1.2 ?_⟩
  have : ∀ k : Nat, k ≤ 4 → (10 : Int) ^ k ≤ 10000 := by decide
  exact this _ (by omega)
theorem wl_sh {w d : Int} (h0 : 0 ≤ w) (h1 : w < 34359738368) (h2 : 0 ≤ d) (h3 : d < 32) : (Int64.ofInt w <<< (Int32.toInt64 (5 : Int32) &&& 63)) ||| Int64.ofInt d = Int64.ofInt (32 * w + d) := by
  obtain ⟨a, rfl⟩ := Int.eq_ofNat_of_zero_le h0
  obtain ⟨b, rfl⟩ := Int.eq_ofNat_of_zero_le h2
  apply Int64.toBitVec_inj.mp
  show ((BitVec.ofInt 64 (a : Int)) <<< 5) ||| (BitVec.ofInt 64 (b : Int)) = BitVec.ofInt 64 (32 * (a : Int) + (b : Int))
  have e : (32 * (a : Int) + (b : Int)) = ((32 * a + b : Nat) : Int) := by omega
  rw [e, BitVec.ofInt_natCast, BitVec.ofInt_natCast, BitVec.ofInt_natCast]
  apply BitVec.eq_of_toNat_eq
  have ha : a < 34359738368 := by omega
  have hb : b < 32 := by omega
  rw [BitVec.toNat_or, BitVec.toNat_shiftLeft, BitVec.toNat_ofNat, BitVec.toNat_ofNat, BitVec.toNat_ofNat, Nat.mod_eq_of_lt (by omega : a < 2 ^ 64), Nat.mod_eq_of_lt (by omega : b < 2 ^ 64), Nat.mod_eq_of_lt (by omega : 32 * a + b < 2 ^ 64)]
  have e2 : a <<< 5 = 32 * a := by rw [Nat.shiftLeft_eq]; omega
  rw [e2, Nat.mod_eq_of_lt (by omega), ← e2, ← Nat.shiftLeft_add_eq_or_of_lt (by omega : b < 2 ^ 5)]
/-- the reference's bytes -/
def my (m : os_T) (L : Nat) (B : Nat → Int) : Prop := L ≤ 900 ∧ os_I m 3 = Int32.ofInt (L : Int) ∧ ∀ i, i < L → (0 ≤ B i ∧ B i ≤ 255) ∧ os_A m 0 i = Int32.ofInt (B i)
/-- the reference's present token -/
def mt (m : os_T) (B : Nat → Int) (L : Nat) (st sz : Nat → Nat) (ky : Nat → Int) (C p : Nat) : Prop :=
  os_I m 4 = Int32.ofInt ((if p < C then st p + sz p else L : Nat) : Int) ∧ os_I m 5 = Int32.ofInt ((if p < C then st p else L : Nat) : Int) ∧ os_I m 6 = Int32.ofInt (if kk st sz ky C p = 5 then 4 else kk st sz ky C p) ∧ (kk st sz ky C p = 1 → os_L m 12 = Int64.ofInt (wl (fun i => B (st p + i)) (sz p))) ∧ (kk st sz ky C p = 2 → os_I m 7 = Int32.ofInt (nv (fun i => B (st p + i)) (sz p))) ∧ (kk st sz ky C p = 3 → os_I m 7 = Int32.ofInt (B (st p)))
abbrev kg : Nat → Prop := fun i => i = 4 ∨ i = 5 ∨ i = 6 ∨ i = 7
abbrev kn : Nat → Prop := fun _ => False
section GoOn
variable {N L : Nat} {m : os_T} {B : Nat → Int} {st sz : Nat → Nat} {ky : Nat → Int} {C p : Nat}
theorem my.sq {m' : os_T} {K J : Nat → Prop} (h : my m L B) (hx : sq K J m m') (h3 : ¬ K 3) (h0 : ¬ J 0) : my m' L B := ⟨h.1, by rw [hx.1 3 h3]; exact h.2.1, fun i hi => by rw [hx.2 0 h0]; exact h.2.2 i hi⟩
theorem rc_here (h : my m L B) {a k : Int} (e4 : os_I m 4 = Int32.ofInt a) (h0 : 0 ≤ a) (h1 : 0 ≤ k) (h2 : a ≤ 2000) (h3 : k ≤ 2000) : ff_X13_here N m (Int32.ofInt k) = some (Int32.ofInt (if a + k < L then B (a + k).toNat else -1)) := by
  have hL := h.1
  unfold ff_X13_here
  rw [e4, ia_add, h.2.1, ii_le (by omega) (by omega)]
  by_cases c : a + k < L
  · rw [if_pos c, if_neg (by omega), if_pos (ia_in (by omega) (by omega) (by omega)), ia_nat (by omega) (by omega), (h.2.2 _ (by omega)).2]
  · rw [if_neg c, if_pos (by omega)]
    rfl
theorem rc_isLetter {b : Int} (hb : -1 ≤ b ∧ b ≤ 255) : ff_X13_isLetter N (Int32.ofInt b) = some (oz (decide (kd b = 1))) := by
  unfold ff_X13_isLetter
  rw [show (97 : Int32) = Int32.ofInt 97 from rfl, show (122 : Int32) = Int32.ofInt 122 from rfl, ii_lt (by omega) (by omega), ii_lt (by omega) (by omega)]
  by_cases c : kd b = 1
  · have := kd_1.1 c
    rw [decide_eq_true c, if_neg (by omega), if_neg (by omega)]; rfl
  · have : ¬ (97 ≤ b ∧ b ≤ 122) := fun z => c (kd_1.2 z)
    rw [decide_eq_false c]
    repeat' split
    all_goals first | rfl | (exfalso; omega)
theorem rc_isDigit {b : Int} (hb : -1 ≤ b ∧ b ≤ 255) : ff_X13_isDigit N (Int32.ofInt b) = some (oz (decide (kd b = 2))) := by
  unfold ff_X13_isDigit
  rw [show (48 : Int32) = Int32.ofInt 48 from rfl, show (57 : Int32) = Int32.ofInt 57 from rfl, ii_lt (by omega) (by omega), ii_lt (by omega) (by omega)]
  by_cases c : kd b = 2
  · have := kd_2.1 c
    rw [decide_eq_true c, if_neg (by omega), if_neg (by omega)]; rfl
  · have : ¬ (48 ≤ b ∧ b ≤ 57) := fun z => c (kd_2.2 z)
    rw [decide_eq_false c]
    repeat' split
    all_goals first | rfl | (exfalso; omega)
theorem kd_m1 : kd (-1) = 5 := by decide
/-- letters -/
theorem rc_word (hN : 1000 < N) (h : my m L B) (ht : tp B st sz ky C L) (hp : p < C) (hk : ky p = 1) (e4 : os_I m 4 = Int32.ofInt (st p : Int)) (e12 : os_L m 12 = 0) : ∃ m', ff_X13_goOn_l76 N N (m, (0 : Int32)) = some m' ∧ os_I m' 4 = Int32.ofInt ((st p + sz p : Nat) : Int) ∧ os_I m' 6 = Int32.ofInt (if 8 < sz p then 4 else 1) ∧ os_L m' 12 = Int64.ofInt (wl (fun i => B (st p + i)) (sz p)) ∧ os_I m' 5 = os_I m 5 ∧ sq kg kn m m' := by
  have hL := h.1
  obtain ⟨b1, b2, b3, b4, b5, b6, b7⟩ := ht.1 p hp
  have hlet : ∀ i, i < sz p → 97 ≤ B (st p + i) ∧ B (st p + i) ≤ 122 := fun i hi => kd_1.1 (by rw [b6 (st p + i) (by omega) (by omega), hk])
  have key := lo_cnt (N := N) (step := fun k76 s1 => ff_X13_goOn_c76 N k76 s1.1 s1.2)
    (fun n s => s.2 = Int32.ofInt (n : Int) ∧ os_I s.1 4 = Int32.ofInt (st p : Int) ∧ os_L s.1 12 = Int64.ofInt (wl (fun i => B (st p + i)) n) ∧ os_I s.1 5 = os_I m 5 ∧ sq kg kn m s.1)
    (fun v => ∃ m', v = some m' ∧ os_I m' 4 = Int32.ofInt ((st p + sz p : Nat) : Int) ∧ os_I m' 6 = Int32.ofInt (if 8 < sz p then 4 else 1) ∧ os_L m' 12 = Int64.ofInt (wl (fun i => B (st p + i)) (sz p)) ∧ os_I m' 5 = os_I m 5 ∧ sq kg kn m m')
    (sz p) ?_ ?_ (by omega) (s := (m, (0 : Int32))) ⟨rfl, e4, e12, rfl, sq.rf⟩
  · obtain ⟨v, ⟨m', rfl, h⟩, e⟩ := key
    exact ⟨m', e, h⟩
  · intro n s hn hI
    obtain ⟨m1, a1⟩ := s
    obtain ⟨e1, f4, f12, f5, fq⟩ := hI
    have e1 : a1 = _ := e1
    subst e1
    have f4 : os_I m1 4 = Int32.ofInt (st p : Int) := f4
    have f12 : os_L m1 12 = Int64.ofInt (wl (fun i => B (st p + i)) n) := f12
    have hm1 := h.sq fq (by decide) (by decide)
    have hl := hlet n hn
    have einc : Int32.ofInt (n : Int) + 1 = Int32.ofInt ((n + 1 : Nat) : Int) := by rw [ii_1, ia_add]; rfl
    have eh : ff_X13_here N m1 (Int32.ofInt (n : Int)) = some (Int32.ofInt (B (st p + n))) := by
      rw [rc_here hm1 f4 (by omega) (by omega) (by omega) (by omega), if_pos (by omega)]
      congr 4
    have g0 : ∀ k, ff_X13_goOn_c76 N k m1 (Int32.ofInt (n : Int)) = (if (8 : Int) ≤ n then ff_X13_goOn_b115 N k m1 (Int32.ofInt (n : Int)) else ((ff_X13_here N m1 (Int32.ofInt (n : Int))).bind fun u_35 => ff_X13_goOn_b115 N k (ss_L m1 12 (((os_L m1 12) <<< (Int32.toInt64 (5 : Int32) &&& 63)) ||| (Int32.toInt64 ((u_35 - (97 : Int32)) + (1 : Int32))))) (Int32.ofInt (n : Int)))) := fun k => by
      unfold ff_X13_goOn_c76
      rw [eh, Option.bind_some, rc_isLetter (by omega), Option.bind_some, oz_ite, if_pos (kd_1.2 hl), ii_8, ii_le (by omega) (by omega)]
    by_cases c : n < 8
    · have ev : (Int32.ofInt (B (st p + n)) - (97 : Int32)) + (1 : Int32) = Int32.ofInt (B (st p + n) - 96) := by
        rw [show (97 : Int32) = Int32.ofInt 97 from rfl, ii_1, ia_sub, ia_add]
        congr 1
        omega
      have hw := wl_r n (f := fun i => B (st p + i)) (fun i hi => hlet i (by omega))
      have hw2 : wl (fun i => B (st p + i)) n < 34359738368 := by
        refine Int.lt_of_lt_of_le hw.2 ?_
        have : ∀ k : Nat, k ≤ 7 → (32 : Int) ^ k ≤ 34359738368 := by decide
        exact this _ (by omega)
      refine ⟨(ss_L m1 12 (Int64.ofInt (wl (fun i => B (st p + i)) (n + 1))), Int32.ofInt ((n + 1 : Nat) : Int)), ⟨rfl, f4, rfl, f5, fq.tr sq_L⟩, fun k => ?_⟩
      refine (g0 k).trans ?_
      unfold ff_X13_goOn_b115
      rw [if_neg (by omega), eh, Option.bind_some, ev, f12, ia_j (by omega) (by omega), wl_sh hw.1 hw2 (by omega) (by omega), einc]
      show k (ss_L m1 12 (Int64.ofInt _), _) = k (ss_L m1 12 (Int64.ofInt (if n < 8 then _ else _)), _)
      rw [if_pos c]
    · refine ⟨(m1, Int32.ofInt ((n + 1 : Nat) : Int)), ⟨rfl, f4, ?_, f5, fq⟩, fun k => ?_⟩
      · show os_L m1 12 = Int64.ofInt (if n < 8 then _ else _)
        rw [if_neg c]; exact f12
      · refine (g0 k).trans ?_
        unfold ff_X13_goOn_b115
        rw [if_pos (by omega), einc]
  · intro s hI
    obtain ⟨m1, a1⟩ := s
    obtain ⟨e1, f4, f12, f5, fq⟩ := hI
    have e1 : a1 = _ := e1
    subst e1
    have f4 : os_I m1 4 = Int32.ofInt (st p : Int) := f4
    have hm1 := h.sq fq (by decide) (by decide)
    have hnot : ¬ (kd (if (st p : Int) + (sz p : Int) < L then B ((st p : Int) + (sz p : Int)).toNat else -1) = 1) := by
      by_cases c : st p + sz p < L
      · have := b7 (Or.inl hk) c
        rw [if_pos (by omega), show ((st p : Int) + (sz p : Int)).toNat = st p + sz p by omega]
        rw [hk] at this
        exact this
      · rw [if_neg (by omega)]; decide
    have hr : -1 ≤ (if (st p : Int) + (sz p : Int) < L then B ((st p : Int) + (sz p : Int)).toNat else -1) ∧ (if (st p : Int) + (sz p : Int) < L then B ((st p : Int) + (sz p : Int)).toNat else -1) ≤ 255 := by
      split
      · rename_i c
        have := (h.2.2 ((st p : Int) + (sz p : Int)).toNat (by omega)).1
        omega
      · omega
    refine ⟨some (ss_I (ss_I m1 6 (Int32.ofInt (if 8 < sz p then 4 else 1))) 4 (Int32.ofInt ((st p + sz p : Nat) : Int))), ⟨_, rfl, rfl, rfl, f12, f5, (fq.tr (sq_I (Or.inr (Or.inr (Or.inl rfl))))).tr (sq_I (Or.inl rfl))⟩, fun k => ?_⟩
    show ff_X13_goOn_c76 N k m1 (Int32.ofInt (sz p : Int)) = _
    unfold ff_X13_goOn_c76 ff_X13_goOn_b133 ff_X13_goOn_b239
    rw [rc_here hm1 f4 (by omega) (by omega) (by omega) (by omega), Option.bind_some, rc_isLetter hr, Option.bind_some, oz_ite, if_neg hnot, ii_8, ii_le (by omega) (by omega)]
    have e6 : ∀ v : Int32, os_I (ss_I m1 6 v) 4 + Int32.ofInt (sz p : Int) = Int32.ofInt ((st p + sz p : Nat) : Int) := fun v => by
      show os_I m1 4 + _ = _
      rw [f4, ia_add]; rfl
    rw [e6, e6]
    by_cases c : 8 < sz p
    · rw [if_neg (by omega), if_pos c]; rfl
    · rw [if_pos (by omega), if_neg c]; rfl
/-- digits -/
theorem rc_digits (hN : 1000 < N) (h : my m L B) (ht : tp B st sz ky C L) (hp : p < C) (hk : ky p = 2) (e4 : os_I m 4 = Int32.ofInt (st p : Int)) (e7 : os_I m 7 = 0) : ∃ m', ff_X13_goOn_l146 N N (m, (0 : Int32)) = some m' ∧ os_I m' 4 = Int32.ofInt ((st p + sz p : Nat) : Int) ∧ os_I m' 6 = Int32.ofInt (if 4 < sz p then 4 else 2) ∧ os_I m' 7 = Int32.ofInt (nv (fun i => B (st p + i)) (sz p)) ∧ os_I m' 5 = os_I m 5 ∧ sq kg kn m m' := by
  have hL := h.1
  obtain ⟨b1, b2, b3, b4, b5, b6, b7⟩ := ht.1 p hp
  have hlet : ∀ i, i < sz p → 48 ≤ B (st p + i) ∧ B (st p + i) ≤ 57 := fun i hi => kd_2.1 (by rw [b6 (st p + i) (by omega) (by omega), hk])
  have key := lo_cnt (N := N) (step := fun k146 s1 => ff_X13_goOn_c146 N k146 s1.1 s1.2)
    (fun n s => s.2 = Int32.ofInt (n : Int) ∧ os_I s.1 4 = Int32.ofInt (st p : Int) ∧ os_I s.1 7 = Int32.ofInt (nv (fun i => B (st p + i)) n) ∧ os_I s.1 5 = os_I m 5 ∧ sq kg kn m s.1)
    (fun v => ∃ m', v = some m' ∧ os_I m' 4 = Int32.ofInt ((st p + sz p : Nat) : Int) ∧ os_I m' 6 = Int32.ofInt (if 4 < sz p then 4 else 2) ∧ os_I m' 7 = Int32.ofInt (nv (fun i => B (st p + i)) (sz p)) ∧ os_I m' 5 = os_I m 5 ∧ sq kg kn m m')
    (sz p) ?_ ?_ (by omega) (s := (m, (0 : Int32))) ⟨rfl, e4, e7, rfl, sq.rf⟩
  · obtain ⟨v, ⟨m', rfl, h⟩, e⟩ := key
    exact ⟨m', e, h⟩
  · intro n s hn hI
    obtain ⟨m1, a1⟩ := s
    obtain ⟨e1, f4, f7, f5, fq⟩ := hI
    have e1 : a1 = _ := e1
    subst e1
    have f4 : os_I m1 4 = Int32.ofInt (st p : Int) := f4
    have f7 : os_I m1 7 = Int32.ofInt (nv (fun i => B (st p + i)) n) := f7
    have hm1 := h.sq fq (by decide) (by decide)
    have hl := hlet n hn
    have einc : Int32.ofInt (n : Int) + 1 = Int32.ofInt ((n + 1 : Nat) : Int) := by rw [ii_1, ia_add]; rfl
    have eh : ff_X13_here N m1 (Int32.ofInt (n : Int)) = some (Int32.ofInt (B (st p + n))) := by
      rw [rc_here hm1 f4 (by omega) (by omega) (by omega) (by omega), if_pos (by omega)]
      congr 4
    have g0 : ∀ k, ff_X13_goOn_c146 N k m1 (Int32.ofInt (n : Int)) = (if (4 : Int) ≤ n then ff_X13_goOn_b182 N k m1 (Int32.ofInt (n : Int)) else ((ff_X13_here N m1 (Int32.ofInt (n : Int))).bind fun u_26 => ff_X13_goOn_b182 N k (ss_I m1 7 ((((10 : Int32) * (os_I m1 7)) + u_26) - (48 : Int32))) (Int32.ofInt (n : Int)))) := fun k => by
      unfold ff_X13_goOn_c146
      rw [eh, Option.bind_some, rc_isDigit (by omega), Option.bind_some, oz_ite, if_pos (kd_2.2 hl), ii_4, ii_le (by omega) (by omega)]
    by_cases c : n < 4
    · have hw := nv_b (n := n) (f := fun i => B (st p + i)) (fun i hi => hlet i (by omega))
      refine ⟨(ss_I m1 7 (Int32.ofInt (nv (fun i => B (st p + i)) (n + 1))), Int32.ofInt ((n + 1 : Nat) : Int)), ⟨rfl, f4, rfl, f5, fq.tr (sq_I (Or.inr (Or.inr (Or.inr rfl))))⟩, fun k => ?_⟩
      refine (g0 k).trans ?_
      unfold ff_X13_goOn_b182
      rw [if_neg (by omega), eh, Option.bind_some, f7, ii_10, ia_mul, ia_add, ii_48, ia_sub, einc]
      show k (ss_I m1 7 (Int32.ofInt _), _) = k (ss_I m1 7 (Int32.ofInt (if n < 4 then _ else _)), _)
      rw [if_pos c]
    · refine ⟨(m1, Int32.ofInt ((n + 1 : Nat) : Int)), ⟨rfl, f4, ?_, f5, fq⟩, fun k => ?_⟩
      · show os_I m1 7 = Int32.ofInt (if n < 4 then _ else _)
        rw [if_neg c]; exact f7
      · refine (g0 k).trans ?_
        unfold ff_X13_goOn_b182
        rw [if_pos (by omega), einc]
  · intro s hI
    obtain ⟨m1, a1⟩ := s
    obtain ⟨e1, f4, f7, f5, fq⟩ := hI
    have e1 : a1 = _ := e1
    subst e1
    have f4 : os_I m1 4 = Int32.ofInt (st p : Int) := f4
    have hm1 := h.sq fq (by decide) (by decide)
    have hnot : ¬ (kd (if (st p : Int) + (sz p : Int) < L then B ((st p : Int) + (sz p : Int)).toNat else -1) = 2) := by
      by_cases c : st p + sz p < L
      · have := b7 (Or.inr hk) c
        rw [if_pos (by omega), show ((st p : Int) + (sz p : Int)).toNat = st p + sz p by omega]
        rw [hk] at this
        exact this
      · rw [if_neg (by omega)]; decide
    have hr : -1 ≤ (if (st p : Int) + (sz p : Int) < L then B ((st p : Int) + (sz p : Int)).toNat else -1) ∧ (if (st p : Int) + (sz p : Int) < L then B ((st p : Int) + (sz p : Int)).toNat else -1) ≤ 255 := by
      split
      · rename_i c
        have := (h.2.2 ((st p : Int) + (sz p : Int)).toNat (by omega)).1
        omega
      · omega
    refine ⟨some (ss_I (ss_I m1 6 (Int32.ofInt (if 4 < sz p then 4 else 2))) 4 (Int32.ofInt ((st p + sz p : Nat) : Int))), ⟨_, rfl, rfl, rfl, f7, f5, (fq.tr (sq_I (Or.inr (Or.inr (Or.inl rfl))))).tr (sq_I (Or.inl rfl))⟩, fun k => ?_⟩
    show ff_X13_goOn_c146 N k m1 (Int32.ofInt (sz p : Int)) = _
    unfold ff_X13_goOn_c146 ff_X13_goOn_b199 ff_X13_goOn_b239
    rw [rc_here hm1 f4 (by omega) (by omega) (by omega) (by omega), Option.bind_some, rc_isDigit hr, Option.bind_some, oz_ite, if_neg hnot, ii_4, ii_le (by omega) (by omega)]
    have e6 : ∀ v : Int32, os_I (ss_I m1 6 v) 4 + Int32.ofInt (sz p : Int) = Int32.ofInt ((st p + sz p : Nat) : Int) := fun v => by
      show os_I m1 4 + _ = _
      rw [f4, ia_add]; rfl
    rw [e6, e6]
    by_cases c : 4 < sz p
    · rw [if_neg (by omega), if_pos c]
    · rw [if_pos (by omega), if_neg c]; rfl
end GoOn
