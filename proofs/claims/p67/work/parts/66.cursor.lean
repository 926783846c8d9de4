/-! LAYER 2. Reading a text token by token: what is still to be read -/
def cB (A : List Nat) : Nat → Int := fun i => (A.getD i 0 : Nat)
def cu (t : os_T) (R : List Nat) : Prop := ∃ (A : List Nat) (st sz : Nat → Nat) (ky : Nat → Int) (C p : Nat), (∀ x ∈ A, ub_ok x) ∧ ty t A.length (cB A) ∧ tt t (cB A) st sz ky C ∧ tp (cB A) st sz ky C A.length ∧ tc t A.length st sz ky C p ∧ p ≤ C ∧ R = A.drop (pe st sz p) ∧ os_I t 10 = 0
def kdl (k : Int) (w : List Nat) : Prop := ∀ i, i < w.length → kd ((w.getD i 0 : Nat) : Int) = k
section Cursor
variable {N : Nat} {t : os_T} {R bl w R' : List Nat} {k : Int}
theorem getD_drop {A : List Nat} {e j : Nat} : (A.drop e).getD j 0 = A.getD (e + j) 0 := by
  rw [List.getD_eq_getElem?_getD, List.getD_eq_getElem?_getD, List.getElem?_drop]
/-- the token that comes next, and what is behind it -/
theorem cu_tok (h : cu t R) (hR : R = bl ++ (w ++ R')) (hbl : kdl 4 bl) (hw : kdl k w) (hw1 : 1 ≤ w.length) (hk : (k = 3 ∧ w.length = 1) ∨ ((k = 1 ∨ k = 2) ∧ (R' = [] ∨ kd ((R'.getD 0 0 : Nat) : Int) ≠ k))) : ∃ (A : List Nat) (st sz : Nat → Nat) (ky : Nat → Int) (C p : Nat), ((∀ x ∈ A, ub_ok x) ∧ ty t A.length (cB A) ∧ tt t (cB A) st sz ky C ∧ tp (cB A) st sz ky C A.length ∧ tc t A.length st sz ky C p ∧ os_I t 10 = 0) ∧ p < C ∧ sz p = w.length ∧ ky p = k ∧ st p + w.length ≤ A.length ∧ (∀ i, i < w.length → A.getD (st p + i) 0 = w.getD i 0) ∧ R' = A.drop (pe st sz (p + 1)) := by
  obtain ⟨A, st, sz, ky, C, p, hA, h1, h2, h3, h4, hp, hd, h10⟩ := h
  have hlen : R.length = A.length - pe st sz p := by rw [hd, List.length_drop]
  have hRl : R.length = bl.length + (w.length + R'.length) := by rw [hR, List.length_append, List.length_append]
  have byte : ∀ j, A.getD (pe st sz p + j) 0 = R.getD j 0 := fun j => by rw [hd, getD_drop]
  have bbl : ∀ j, j < bl.length → R.getD j 0 = bl.getD j 0 := fun j hj => by rw [hR, getD_app1 hj]
  have bw : ∀ j, j < w.length → R.getD (bl.length + j) 0 = w.getD j 0 := fun j hj => by rw [hR, getD_app2 (by omega), Nat.add_sub_cancel_left, getD_app1 hj]
  have bR : R.getD (bl.length + w.length) 0 = R'.getD 0 0 := by rw [hR, getD_app2 (by omega), Nat.add_sub_cancel_left, getD_app2 (Nat.le_refl _), Nat.sub_self]
  have k4 : k ≠ 4 := by omega
  have kw0 : kd (cB A (pe st sz p + bl.length)) = k := by
    show kd ((A.getD (pe st sz p + bl.length) 0 : Nat) : Int) = k
    rw [byte, show bl.length = bl.length + 0 from rfl, bw 0 (by omega)]
    exact hw 0 (by omega)
  have hpC : p < C := by
    refine Nat.lt_of_le_of_ne hp fun z => ?_
    subst z
    have := h3.2.2.1 (pe st sz p + bl.length) (by omega) (by omega)
    rw [kw0] at this
    exact k4 this
  obtain ⟨a1, a2, a3, a4, a5, a6, a7⟩ := h3.1 p hpC
  have hst : st p = pe st sz p + bl.length := by
    rcases Nat.lt_trichotomy (st p) (pe st sz p + bl.length) with z | z | z
    · exfalso
      have e1 := a6 (st p) (Nat.le_refl _) (by omega)
      have e2 : kd (cB A (st p)) = 4 := by
        show kd ((A.getD (st p) 0 : Nat) : Int) = 4
        rw [show st p = pe st sz p + (st p - pe st sz p) by omega, byte, bbl _ (by omega)]
        exact hbl _ (by omega)
      omega
    · exact z
    · exfalso
      have := a5 (pe st sz p + bl.length) (by omega) z
      rw [kw0] at this
      exact k4 this
  have hky : ky p = k := by
    have := a6 (st p) (Nat.le_refl _) (by omega)
    rw [hst, kw0] at this
    exact this.symm
  have hsz : sz p = w.length := by
    rcases hk with ⟨k3, w1⟩ | ⟨k12, hmax⟩
    · omega
    · rcases Nat.lt_trichotomy (sz p) w.length with z | z | z
      · exfalso
        have := a7 (by omega) (by omega)
        refine this ?_
        show kd ((A.getD (st p + sz p) 0 : Nat) : Int) = _
        rw [hst, Nat.add_assoc, byte, bw _ z, hky]
        exact hw _ z
      · exact z
      · exfalso
        have e1 := a6 (st p + w.length) (by omega) (by omega)
        have e2 : cB A (st p + w.length) = ((R'.getD 0 0 : Nat) : Int) := by
          show ((A.getD (st p + w.length) 0 : Nat) : Int) = _
          rw [hst, Nat.add_assoc, byte, bR]
        rw [e2, hky] at e1
        rcases hmax with m | m
        · subst m
          simp only [List.length_nil] at hRl
          omega
        · exact m e1
  refine ⟨A, st, sz, ky, C, p, ⟨hA, h1, h2, h3, h4, h10⟩, hpC, hsz, hky, by omega, fun i hi => ?_, ?_⟩
  · rw [hst, Nat.add_assoc, byte, bw i hi]
  · show R' = A.drop (st p + sz p)
    rw [hst, hsz, Nat.add_assoc, ← List.drop_drop, ← hd, hR]
    rw [← List.drop_drop, List.drop_left, List.drop_left]
theorem cu_adv {A : List Nat} {st sz : Nat → Nat} {ky : Nat → Int} {C p : Nat} (h : (∀ x ∈ A, ub_ok x) ∧ ty t A.length (cB A) ∧ tt t (cB A) st sz ky C ∧ tp (cB A) st sz ky C A.length ∧ tc t A.length st sz ky C p ∧ os_I t 10 = 0) (hp : p < C) (hR : R' = A.drop (pe st sz (p + 1))) : ∃ t', ff_X10_advance N t = some t' ∧ cu t' R' := by
  obtain ⟨hA, h1, h2, h3, h4, h10⟩ := h
  obtain ⟨t', e, h4', hy⟩ := pc_advance (N := N) (p := p + 1) h1 h2 h3 (by omega) (by rw [h4.1]; congr 1; omega)
  exact ⟨t', e, A, st, sz, ky, C, p + 1, hA, h1.sy hy (by decide) (by decide), h2.sy hy (by decide) (by decide) (by decide) (by decide), h3, h4', by omega, hR, by rw [hy.1 10 (by decide)]; exact h10⟩
theorem cu_kind {A : List Nat} {st sz : Nat → Nat} {ky : Nat → Int} {C p : Nat} (h : tc t A.length st sz ky C p) (hp : p < C) (hz : (ky p = 1 → sz p ≤ 8) ∧ (ky p = 2 → sz p ≤ 4)) : os_I t 7 = Int32.ofInt (ky p) ∧ os_I t 8 = Int32.ofInt (st p : Int) ∧ os_I t 9 = Int32.ofInt (sz p : Int) := by
  obtain ⟨-, h7, h8, h9⟩ := h
  rw [if_pos hp] at h8 h9
  refine ⟨?_, h8, h9⟩
  rw [h7]
  unfold kk
  rw [if_pos hp, if_neg (by omega)]
theorem cu_byte {A : List Nat} (hA : ∀ x ∈ A, ub_ok x) (h : ty t A.length (cB A)) {i : Nat} (hi : i < A.length) : ff_X10_byteAt N t (Int32.ofInt (i : Int)) = some (Int32.ofInt ((A.getD i 0 : Nat) : Int)) := by
  have := getD_ok hA hi
  rw [pc_byteAt h (by omega) (by omega), Int.toNat_natCast]
  unfold bc cB
  rw [if_pos (by omega)]
/-- words -/
def lw_b (k : Nat) : List Nat := ((st_byt.getD k []).map (fun x => Int32.toNatClampNeg x))
theorem lw_all : ∀ k, k < 7 → (st_len.getD k 0 = (lw_b k).length ∧ 1 ≤ (lw_b k).length ∧ (lw_b k).length ≤ 8 ∧ (∀ i, i < (lw_b k).length → (st_byt.getD k []).getD i 0 = Int32.ofInt ((lw_b k).getD i 0 : Nat)) ∧ (∀ x ∈ lw_b k, ub_ok x) ∧ ∀ i, i < (lw_b k).length → kd (((lw_b k).getD i 0 : Nat) : Int) = 1) := by decide +kernel
theorem lw_one : ∀ j, j < 7 → ∀ k, k < 7 → ((lw_b j).length = (lw_b k).length ∧ ∀ i, i < (lw_b k).length → (lw_b j).getD i 0 = (lw_b k).getD i 0) → j = k := by decide +kernel
theorem st_lenE {k : Nat} (hk : k < 7) : ff_J0_length_8abf5 N k = some (0, Int32.ofInt ((lw_b k).length : Int)) := by
  unfold ff_J0_length_8abf5 ff_J0_coder_7d493
  rw [if_pos (by omega), if_pos (by omega), if_pos (by omega), if_neg (by decide), if_pos (by omega), Option.bind_some, if_pos rfl, sh_0, (lw_all k hk).1, ia_on]
theorem ch_ok : ∀ n : Fin 128, (((Int32.toUInt32 ((Int32.ofInt (n.val : Int)) &&& (255 : Int32))) % 65536).toInt32) = Int32.ofInt (n.val : Int) ∧ os_c (Int32.ofInt (n.val : Int)) := by decide +kernel
theorem st_chE {k i : Nat} (hk : k < 7) (hi : i < (lw_b k).length) : ff_J0_charAt_5068e N k (Int32.ofInt (i : Int)) = some (0, Int32.ofInt (((lw_b k).getD i 0 : Nat) : Int)) := by
  obtain ⟨l1, l2, l3, l4, l5, l6⟩ := lw_all k hk
  have ho := getD_ok l5 hi
  obtain ⟨c1, c2⟩ := ch_ok ⟨(lw_b k).getD i 0, ho.2⟩
  have e1 : Int32.toNatClampNeg (Int32.ofInt (i : Int)) = i := by rw [ia_nat (by omega) (by omega)]; exact Int.toNat_natCast _
  have eL : ff_J0_isLatin1_aae02 N k = some (0, 1) := by
    unfold ff_J0_isLatin1_aae02
    rw [if_neg (by decide), if_pos (by omega), if_pos rfl]
  unfold ff_J0_charAt_5068e ff_J1_charAt_3b067
  rw [if_pos (show k < 18 by omega), eL, Option.bind_some, if_pos rfl, if_neg (show ¬ ((1 : Int32) = 0) by decide), if_pos (show k < 18 by omega), if_pos (show k < 18 by omega), l1, ia_on, if_pos ⟨by rw [i0_lt (by omega)]; omega, by rw [ia_lt (by omega) (by omega) (by omega) (by omega)]; omega⟩, if_pos (show k < 18 by omega), if_pos (ia_in (by omega) (by omega) (by omega)), e1, l4 i hi, c1, if_pos c2, Option.bind_some, if_pos rfl, if_pos c2]
/-- what is asked of a word -/
theorem cu_isWord (hN : 1000 < N) (h : cu t R) {j : Nat} (hj : j < 7) (hR : R = bl ++ (lw_b j ++ R')) (hbl : kdl 4 bl) (hm : R' = [] ∨ kd ((R'.getD 0 0 : Nat) : Int) ≠ 1) {k : Nat} (hk : k < 7) : ff_X10_isWord N t k = some (0, oz (decide (j = k))) := by
  obtain ⟨l1, l2, l3, l4, l5, l6⟩ := lw_all j hj
  obtain ⟨m1, m2, m3, m4, m5, m6⟩ := lw_all k hk
  obtain ⟨A, st, sz, ky, C, p, ⟨hA, h1, h2, h3, h4, h10⟩, hp, hsz, hky, hle, hby, hd⟩ := cu_tok (k := 1) h hR hbl l6 l2 (Or.inr ⟨Or.inl rfl, hm⟩)
  obtain ⟨e7, e8, e9⟩ := cu_kind h4 hp ⟨fun _ => by omega, fun z => by omega⟩
  have hL := h1.1
  unfold ff_X10_isWord
  rw [e7, hky, if_pos (show Int32.ofInt 1 = 1 from rfl), if_pos (show k < 18 by omega), st_lenE hk, Option.bind_some, if_pos rfl, e9, hsz, ii_eq (by omega) (by omega)]
  by_cases cl : ((lw_b j).length : Int) = ((lw_b k).length : Int)
  · rw [if_pos cl]
    have step : ∀ (r : (Nat × Int32) → Option (Nat × Int32)) (i : Nat), i < (lw_b k).length → ff_X10_isWord_c23 N t r k (Int32.ofInt (i : Int)) = if (lw_b j).getD i 0 = (lw_b k).getD i 0 then r (k, Int32.ofInt ((i + 1 : Nat) : Int)) else some (0, 0) := fun r i hi => by
      have o1 := getD_ok l5 (i := i) (by omega)
      have o2 := getD_ok m5 (i := i) hi
      unfold ff_X10_isWord_c23
      rw [if_pos (show k < 18 by omega), st_lenE hk, Option.bind_some, if_pos rfl, ii_le (by omega) (by omega), if_neg (by omega), e8, ia_add, show (st p : Int) + (i : Int) = ((st p + i : Nat) : Int) from rfl, cu_byte hA h1 (by omega), Option.bind_some, if_pos (show k < 18 by omega), st_chE hk hi, Option.bind_some, if_pos rfl, hby i (by omega), ii_eq (by omega) (by omega), ii_1, ia_s]
      by_cases ce : (lw_b j).getD i 0 = (lw_b k).getD i 0
      · rw [if_pos ce, if_pos (by omega)]
      · rw [if_neg ce, if_neg (by omega)]
    unfold ff_X10_isWord_l23
    by_cases ca : ∀ i, i < (lw_b k).length → (lw_b j).getD i 0 = (lw_b k).getD i 0
    · rw [decide_eq_true (lw_one j hj k hk ⟨by omega, ca⟩)]
      refine lo_run (N := N) (step := fun k23 s1 => ff_X10_isWord_c23 N t k23 s1.1 s1.2) (fun i : Nat => (k, Int32.ofInt (i : Int))) (lw_b k).length ?_ ?_ (by omega)
      · intro i hi r
        exact (step r i hi).trans (if_pos (ca i hi))
      · intro r
        show ff_X10_isWord_c23 N t r k (Int32.ofInt ((lw_b k).length : Int)) = _
        unfold ff_X10_isWord_c23
        rw [if_pos (show k < 18 by omega), st_lenE hk, Option.bind_some, if_pos rfl, if_pos (Int32.le_refl _)]
        rfl
    · have hne : j ≠ k := fun z => ca (fun i _ => by rw [z])
      rw [decide_eq_false hne]
      obtain ⟨i0, hi0⟩ : ∃ i, i < (lw_b k).length ∧ ¬ (lw_b j).getD i 0 = (lw_b k).getD i 0 := by
        refine Classical.byContradiction fun z => ca fun i hi => ?_
        exact Classical.byContradiction fun z2 => z ⟨i, hi, z2⟩
      obtain ⟨q1, q2, q3⟩ := q_first_spec i0 (fun i => decide ((lw_b j).getD i 0 = (lw_b k).getD i 0)) ⟨i0, Nat.le_refl _, decide_eq_false hi0.2⟩
      generalize q_first (fun i => decide ((lw_b j).getD i 0 = (lw_b k).getD i 0)) i0 = m at q1 q2 q3
      refine lo_run (N := N) (step := fun k23 s1 => ff_X10_isWord_c23 N t k23 s1.1 s1.2) (fun i : Nat => (k, Int32.ofInt (i : Int))) m ?_ ?_ (by omega)
      · intro i hi r
        exact (step r i (by omega)).trans (if_pos (of_decide_eq_true (q1 i hi)))
      · intro r
        exact (step r m (by omega)).trans (if_neg (of_decide_eq_false q2))
  · rw [if_neg cl]
    have hne : j ≠ k := fun z => cl (by rw [z])
    rw [decide_eq_false hne]
    rfl
theorem cu_skipWord (h : cu t R) {j : Nat} (hj : j < 7) (hR : R = bl ++ (lw_b j ++ R')) (hbl : kdl 4 bl) (hm : R' = [] ∨ kd ((R'.getD 0 0 : Nat) : Int) ≠ 1) : ∃ t', ff_X10_advance N t = some t' ∧ cu t' R' := by
  obtain ⟨l1, l2, l3, l4, l5, l6⟩ := lw_all j hj
  obtain ⟨A, st, sz, ky, C, p, hh, hp, hsz, hky, hle, hby, hd⟩ := cu_tok (k := 1) h hR hbl l6 l2 (Or.inr ⟨Or.inl rfl, hm⟩)
  exact cu_adv hh hp hd
theorem cu_takeWord (hN : 1000 < N) (h : cu t R) {j : Nat} (hj : j < 7) (hR : R = bl ++ (lw_b j ++ R')) (hbl : kdl 4 bl) (hm : R' = [] ∨ kd ((R'.getD 0 0 : Nat) : Int) ≠ 1) : ∃ t', ff_X10_takeWord N t j = some (0, 1, t') ∧ cu t' R' := by
  obtain ⟨t', e, h'⟩ := cu_skipWord (N := N) h hj hR hbl hm
  refine ⟨t', ?_, h'⟩
  unfold ff_X10_takeWord
  rw [cu_isWord hN h hj hR hbl hm hj, decide_eq_true rfl, Option.bind_some, if_pos rfl, if_neg (by decide), e, Option.bind_some]
/-- numbers -/
theorem dg_kd {n : Nat} (h : n < 1000) : kdl 2 (dg n) := by
  have key : ∀ m : Nat, m < 10 → kd ((48 + m : Nat) : Int) = 2 := fun m hm => kd_2.mpr (by omega)
  intro i hi
  unfold dg at hi ⊢
  split
  · rename_i c
    rw [if_pos c] at hi
    obtain rfl : i = 0 := by simpa using hi
    exact key n c
  · rename_i c
    rw [if_neg c] at hi
    split
    · rename_i c2
      rw [if_pos c2] at hi
      obtain rfl | rfl : i = 0 ∨ i = 1 := by simp at hi; omega
      · exact key _ (by omega)
      · exact key _ (by omega)
    · rename_i c2
      rw [if_neg c2] at hi
      obtain rfl | rfl | rfl : i = 0 ∨ i = 1 ∨ i = 2 := by simp at hi; omega
      · exact key _ (by omega)
      · exact key _ (by omega)
      · exact key _ (by omega)
def dv (l : List Nat) : Nat → Int
  | 0 => 0
  | k + 1 => dv l k * 10 + (((l.getD k 0 : Nat) : Int) - 48)
theorem dv_dg {n : Nat} (h : n < 1000) : dv (dg n) (dg n).length = n := by
  unfold dg
  split
  · show (0 : Int) * 10 + (((48 + n : Nat) : Int) - 48) = n
    omega
  · split
    · show ((0 : Int) * 10 + (((48 + n / 10 : Nat) : Int) - 48)) * 10 + (((48 + n % 10 : Nat) : Int) - 48) = n
      omega
    · show (((0 : Int) * 10 + (((48 + n / 100 : Nat) : Int) - 48)) * 10 + (((48 + n / 10 % 10 : Nat) : Int) - 48)) * 10 + (((48 + n % 10 : Nat) : Int) - 48) = n
      omega
theorem cu_num (hN : 1000 < N) (h : cu t R) {n : Nat} (hn : n < 1000) (hR : R = bl ++ (dg n ++ R')) (hbl : kdl 4 bl) (hm : R' = [] ∨ kd ((R'.getD 0 0 : Nat) : Int) ≠ 2) {a b : Int} (ha : -100000 ≤ a ∧ a ≤ n) (hb : (n : Int) ≤ b ∧ b ≤ 100000) : ∃ t', ff_X10_takeNumber N t (Int32.ofInt a) (Int32.ofInt b) = some (Int32.ofInt (n : Int), t') ∧ cu t' R' := by
  obtain ⟨d1, d2, d3⟩ := dg_ok hn
  obtain ⟨A, st, sz, ky, C, p, hh, hp, hsz, hky, hle, hby, hd⟩ := cu_tok (k := 2) h hR hbl (dg_kd hn) d2 (Or.inr ⟨Or.inr rfl, hm⟩)
  obtain ⟨t', e, h'⟩ := cu_adv (N := N) hh hp hd
  obtain ⟨hA, h1, h2, h3, h4, h10⟩ := hh
  obtain ⟨e7, e8, e9⟩ := cu_kind h4 hp ⟨fun z => by omega, fun _ => by omega⟩
  have hL := h1.1
  refine ⟨t', ?_, h'⟩
  unfold ff_X10_takeNumber
  rw [e7, hky, if_pos (show Int32.ofInt 2 = 2 from rfl)]
  unfold ff_X10_takeNumber_l20
  refine lo_run (N := N) (step := fun k20 s1 => ff_X10_takeNumber_c20 N k20 s1.1 s1.2.1 s1.2.2.1 s1.2.2.2.1 s1.2.2.2.2) (fun i : Nat => (t, Int32.ofInt a, Int32.ofInt b, Int32.ofInt (dv (dg n) i), Int32.ofInt (i : Int))) (dg n).length ?_ ?_ (by omega)
  · intro i hi r
    show ff_X10_takeNumber_c20 N r t (Int32.ofInt a) (Int32.ofInt b) (Int32.ofInt (dv (dg n) i)) (Int32.ofInt (i : Int)) = _
    unfold ff_X10_takeNumber_c20
    rw [e9, hsz, ii_le (by omega) (by omega), if_neg (by omega), e8, ia_add, show (st p : Int) + (i : Int) = ((st p + i : Nat) : Int) from rfl, cu_byte hA h1 (by omega), Option.bind_some, hby i hi, ii_10, show (48 : Int32) = Int32.ofInt 48 from rfl, ia_mul, ia_sub, ia_add, ii_1, ia_s]
    rfl
  · intro r
    show ff_X10_takeNumber_c20 N r t (Int32.ofInt a) (Int32.ofInt b) (Int32.ofInt (dv (dg n) (dg n).length)) (Int32.ofInt ((dg n).length : Int)) = _
    unfold ff_X10_takeNumber_c20
    rw [e9, hsz, if_pos (Int32.le_refl _), dv_dg hn, ii_lt (by omega) (by omega), if_neg (by omega), ii_le (by omega) (by omega), if_pos (by omega), e, Option.bind_some]
/-- the sign behind a statement -/
theorem cu_sign (h : cu t R) (hR : R = bl ++ ([59] ++ R')) (hbl : kdl 4 bl) : ∃ t', ff_X10_takeSign N t (59 : Int32) = some (1, t') ∧ cu t' R' := by
  have h59 : kdl 3 [59] := fun i hi => by
    have : i = 0 := by simpa using hi
    subst this
    decide
  obtain ⟨A, st, sz, ky, C, p, hh, hp, hsz, hky, hle, hby, hd⟩ := cu_tok (k := 3) h hR hbl h59 (by decide) (Or.inl ⟨rfl, rfl⟩)
  obtain ⟨t', e, h'⟩ := cu_adv (N := N) hh hp hd
  obtain ⟨hA, h1, h2, h3, h4, h10⟩ := hh
  obtain ⟨e7, e8, e9⟩ := cu_kind h4 hp ⟨fun z => by omega, fun z => by omega⟩
  have hL := h1.1
  have hle : st p + 1 ≤ A.length := hle
  have hb0 := hby 0 (by decide)
  refine ⟨t', ?_, h'⟩
  unfold ff_X10_takeSign ff_X10_isSign
  rw [e7, hky, if_pos (show Int32.ofInt 3 = 3 from rfl), e8, cu_byte hA h1 (by omega), Option.bind_some, show A.getD (st p) 0 = 59 from hb0, if_pos (show Int32.ofInt ((59 : Nat) : Int) = 59 from rfl), Option.bind_some, if_neg (by decide), e, Option.bind_some]
/-- more is to be read -/
theorem cu_more (h : cu t R) (hR : R = bl ++ (w ++ R')) (hbl : kdl 4 bl) (hw : kdl 1 w) (hw1 : 1 ≤ w.length) (hw8 : w.length ≤ 8) (hm : R' = [] ∨ kd ((R'.getD 0 0 : Nat) : Int) ≠ 1) : ff_X10_isAtEnd N t = some 0 := by
  obtain ⟨A, st, sz, ky, C, p, ⟨hA, h1, h2, h3, h4, h10⟩, hp, hsz, hky, hle, hby, hd⟩ := cu_tok (k := 1) h hR hbl hw hw1 (Or.inr ⟨Or.inl rfl, hm⟩)
  obtain ⟨e7, e8, e9⟩ := cu_kind h4 hp ⟨fun _ => by omega, fun z => by omega⟩
  unfold ff_X10_isAtEnd
  rw [e7, hky, if_neg (by decide)]
theorem cu_end (h : cu t R) (hR : kdl 4 R) : ff_X10_isAtEnd N t = some 1 ∧ os_I t 10 = 0 := by
  obtain ⟨A, st, sz, ky, C, p, hA, h1, h2, h3, h4, hp, hd, h10⟩ := h
  have hpC : ¬ p < C := fun z => by
    obtain ⟨a1, a2, a3, a4, a5, a6, a7⟩ := h3.1 p z
    have e1 := a6 (st p) (Nat.le_refl _) (by omega)
    have hlen : R.length = A.length - pe st sz p := by rw [hd, List.length_drop]
    have e2 := hR (st p - pe st sz p) (by omega)
    rw [hd, getD_drop, show pe st sz p + (st p - pe st sz p) = st p by omega] at e2
    have e3 : kd (cB A (st p)) = 4 := e2
    omega
  refine ⟨?_, h10⟩
  unfold ff_X10_isAtEnd
  rw [h4.2.1]
  unfold kk
  rw [if_neg hpC, if_pos (show Int32.ofInt 0 = 0 from rfl)]
theorem cu_begin (hN : 1000 < N) {A : List Nat} (hA : ∀ x ∈ A, ub_ok x) (h : ty t A.length (cB A)) : ∃ t', ff_X10_begin N t = some t' ∧ cu t' A := by
  obtain ⟨t', st, sz, ky, C, e, h1, h2, h3, h4, h10⟩ := pc_begin hN h
  exact ⟨t', e, A, st, sz, ky, C, 0, hA, h1, h2, h3, h4, Nat.zero_le _, rfl, h10⟩
end Cursor
