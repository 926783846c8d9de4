/-! LAYER 2. Tokens, in the class -/
def kd (b : Int) : Int := if b = 32 ∨ b = 10 then 4 else if 97 ≤ b ∧ b ≤ 122 then 1 else if 48 ≤ b ∧ b ≤ 57 then 2 else if b = 59 ∨ b = 40 ∨ b = 41 then 3 else 5
theorem kd_v (b : Int) : kd b = 1 ∨ kd b = 2 ∨ kd b = 3 ∨ kd b = 4 ∨ kd b = 5 := by
  unfold kd
  repeat' split
  all_goals simp
theorem kd_4 {b : Int} : kd b = 4 ↔ (b = 32 ∨ b = 10) := by
  unfold kd
  repeat' split
  all_goals omega
theorem kd_1 {b : Int} : kd b = 1 ↔ (97 ≤ b ∧ b ≤ 122) := by
  unfold kd
  repeat' split
  all_goals omega
theorem kd_2 {b : Int} : kd b = 2 ↔ (48 ≤ b ∧ b ≤ 57) := by
  unfold kd
  repeat' split
  all_goals omega
theorem kd_3 {b : Int} : kd b = 3 ↔ (b = 59 ∨ b = 40 ∨ b = 41) := by
  unfold kd
  repeat' split
  all_goals omega
def pe (st sz : Nat → Nat) : Nat → Nat
  | 0 => 0
  | j + 1 => st j + sz j
def tp (B : Nat → Int) (st sz : Nat → Nat) (ky : Nat → Int) (C L : Nat) : Prop :=
  (∀ j, j < C → pe st sz j ≤ st j ∧ st j + sz j ≤ L ∧ 1 ≤ sz j ∧ (ky j = 1 ∨ ky j = 2 ∨ ((ky j = 3 ∨ ky j = 5) ∧ sz j = 1)) ∧ (∀ i, pe st sz j ≤ i → i < st j → kd (B i) = 4) ∧ (∀ i, st j ≤ i → i < st j + sz j → kd (B i) = ky j) ∧ ((ky j = 1 ∨ ky j = 2) → st j + sz j < L → kd (B (st j + sz j)) ≠ ky j)) ∧ pe st sz C ≤ L ∧ (∀ i, pe st sz C ≤ i → i < L → kd (B i) = 4) ∧ C ≤ L
section TP
variable {B : Nat → Int} {st sz : Nat → Nat} {ky : Nat → Int} {C L : Nat}
theorem tp_0 : tp B st sz ky 0 0 := ⟨fun j h => by omega, Nat.le_refl _, fun i _ h => by omega, Nat.le_refl _⟩
theorem tp_last (h : tp B st sz ky C L) {j : Nat} (hj : j < C) (e : st j + sz j = L) : j + 1 = C := by
  refine Classical.byContradiction fun z => ?_
  have h1 := h.1 (j + 1) (by omega)
  have e2 : pe st sz (j + 1) = st j + sz j := rfl
  omega
theorem tp_blank (h : tp B st sz ky C L) (hb : kd (B L) = 4) : tp B st sz ky C (L + 1) := by
  refine ⟨fun j hj => ?_, by have := h.2.1; omega, fun i h1 h2 => ?_, by have := h.2.2.2; omega⟩
  · obtain ⟨a1, a2, a3, a4, a5, a6, a7⟩ := h.1 j hj
    refine ⟨a1, by omega, a3, a4, a5, a6, fun hk hl => ?_⟩
    by_cases c : st j + sz j < L
    · exact a7 hk c
    · have e : st j + sz j = L := by omega
      rw [e, hb]
      omega
  · by_cases c : i = L
    · rw [c]; exact hb
    · exact h.2.2.1 i h1 (by omega)
theorem tp_add (h : tp B st sz ky C L) (hb : kd (B L) ≠ 4) (hc : ∀ j, j + 1 = C → st j + sz j = L → (ky j = 1 ∨ ky j = 2) → kd (B L) ≠ ky j) : tp B (fun j => if j = C then L else st j) (fun j => if j = C then 1 else sz j) (fun j => if j = C then kd (B L) else ky j) (C + 1) (L + 1) := by
  have hpe : ∀ j, j ≤ C → pe (fun j => if j = C then L else st j) (fun j => if j = C then 1 else sz j) j = pe st sz j := fun j hj => by
    cases j with
    | zero => rfl
    | succ j =>
      show (if j = C then L else st j) + (if j = C then 1 else sz j) = st j + sz j
      rw [if_neg (by omega), if_neg (by omega)]
  refine ⟨fun j hj => ?_, ?_, fun i h1 h2 => ?_, by have := h.2.2.2; omega⟩
  · rw [hpe j (by omega)]
    by_cases c : j = C
    · subst c
      simp only [if_pos]
      have kv := kd_v (B L)
      refine ⟨h.2.1, Nat.le_refl _, Nat.le_refl _, (by rcases kv with z | z | z | z | z <;> first | (exact absurd z hb) | simp [z]), fun i h1 h2 => h.2.2.1 i h1 h2, fun i h1 h2 => ?_, fun _ z => by omega⟩
      have e : i = L := by omega
      rw [e]
    · simp only [if_neg c]
      obtain ⟨a1, a2, a3, a4, a5, a6, a7⟩ := h.1 j (by omega)
      refine ⟨a1, by omega, a3, a4, a5, a6, fun hk hl => ?_⟩
      by_cases c2 : st j + sz j < L
      · exact a7 hk c2
      · have e : st j + sz j = L := by omega
        rw [e]
        exact hc j (tp_last h (by omega) e) e hk
  · show (if C = C then L else st C) + (if C = C then 1 else sz C) ≤ L + 1
    rw [if_pos rfl, if_pos rfl]
    exact Nat.le_refl _
  · have h1 : (if C = C then L else st C) + (if C = C then 1 else sz C) ≤ i := h1
    rw [if_pos rfl, if_pos rfl] at h1
    omega
theorem tp_len (h : tp B st sz ky (C + 1) L) (e : st C + sz C = L) (hk : ky C = 1 ∨ ky C = 2) (hb : kd (B L) = ky C) : tp B st (fun j => if j = C then sz j + 1 else sz j) ky (C + 1) (L + 1) := by
  have hpe : ∀ j, j ≤ C → pe st (fun j => if j = C then sz j + 1 else sz j) j = pe st sz j := fun j hj => by
    cases j with
    | zero => rfl
    | succ j =>
      show st j + (if j = C then sz j + 1 else sz j) = st j + sz j
      rw [if_neg (by omega)]
  have hpC : pe st (fun j => if j = C then sz j + 1 else sz j) (C + 1) = L + 1 := by
    show st C + (if C = C then sz C + 1 else sz C) = _
    rw [if_pos rfl]
    omega
  refine ⟨fun j hj => ?_, by omega, fun i h1 h2 => by omega, by have := h.2.2.2; omega⟩
  · rw [hpe j (by omega)]
    obtain ⟨a1, a2, a3, a4, a5, a6, a7⟩ := h.1 j hj
    by_cases c : j = C
    · subst c
      simp only [if_pos]
      refine ⟨a1, by omega, by omega, by omega, a5, fun i h1 h2 => ?_, fun _ z => by omega⟩
      by_cases c2 : i = L
      · rw [c2]; exact hb
      · exact a6 i h1 (by omega)
    · simp only [if_neg c]
      refine ⟨a1, by omega, a3, a4, a5, a6, fun hk2 hl => ?_⟩
      by_cases c2 : st j + sz j < L
      · exact a7 hk2 c2
      · have e : st j + sz j = L := by omega
        have := tp_last h (by omega) e
        omega
end TP
/-- the class's table of tokens -/
def tt (t : os_T) (B : Nat → Int) (st sz : Nat → Nat) (ky : Nat → Int) (C : Nat) : Prop :=
  os_I t 5 = Int32.ofInt (C : Int) ∧ ∀ j, j < C → os_A t 1 j = Int32.ofInt (st j : Int) ∧ os_A t 2 j = Int32.ofInt (sz j : Int) ∧ os_A t 3 j = Int32.ofInt (ky j)
def kk (st sz : Nat → Nat) (ky : Nat → Int) (C p : Nat) : Int := if p < C then (if (ky p = 1 ∧ 8 < sz p) ∨ (ky p = 2 ∧ 4 < sz p) then 5 else ky p) else 0
def tc (t : os_T) (L : Nat) (st sz : Nat → Nat) (ky : Nat → Int) (C p : Nat) : Prop :=
  os_I t 6 = Int32.ofInt (p : Int) ∧ os_I t 7 = Int32.ofInt (kk st sz ky C p) ∧ os_I t 8 = Int32.ofInt ((if p < C then st p else L : Nat) : Int) ∧ os_I t 9 = Int32.ofInt ((if p < C then sz p else 0 : Nat) : Int)
/-- the class's bytes -/
def ty (t : os_T) (L : Nat) (B : Nat → Int) : Prop := L ≤ 900 ∧ os_I t 4 = Int32.ofInt (L : Int) ∧ ∀ i, i < L → (0 ≤ B i ∧ B i ≤ 255) ∧ os_A t 0 i = Int32.ofInt (bc (B i))
section Tokens
variable {N L : Nat} {t : os_T} {B : Nat → Int} {st sz : Nat → Nat} {ky : Nat → Int} {C p : Nat}
theorem ty.sy {t' : os_T} {K J : Nat → Prop} (h : ty t L B) (hx : sy K J t t') (h4 : ¬ K 4) (h0 : ¬ J 0) : ty t' L B := ⟨h.1, by rw [hx.1 4 h4]; exact h.2.1, fun i hi => by rw [hx.2.2 0 h0]; exact h.2.2 i hi⟩
theorem tt.sy {t' : os_T} {K J : Nat → Prop} (h : tt t B st sz ky C) (hx : sy K J t t') (h4 : ¬ K 5) (h1 : ¬ J 1) (h2 : ¬ J 2) (h3 : ¬ J 3) : tt t' B st sz ky C := ⟨by rw [hx.1 5 h4]; exact h.1, fun j hj => by rw [hx.2.2 1 h1, hx.2.2 2 h2, hx.2.2 3 h3]; exact h.2 j hj⟩
theorem bc_r {b : Int} (h : 0 ≤ b ∧ b ≤ 255) : -128 ≤ bc b ∧ bc b ≤ 127 := by
  unfold bc
  split <;> omega
theorem pc_kindOf {b : Int} (h : 0 ≤ b ∧ b ≤ 255) : ff_X10_kindOf N (Int32.ofInt (bc b)) = some (Int32.ofInt (kd b)) := by
  have hb := bc_r h
  unfold ff_X10_kindOf ff_X10_kindOf_b28 ff_X10_kindOf_b42 ff_X10_kindOf_b60
  have e32 : (32 : Int32) = Int32.ofInt 32 := rfl
  have e10 : (10 : Int32) = Int32.ofInt 10 := rfl
  have e97 : (97 : Int32) = Int32.ofInt 97 := rfl
  have e122 : (122 : Int32) = Int32.ofInt 122 := rfl
  have e48 : (48 : Int32) = Int32.ofInt 48 := rfl
  have e57 : (57 : Int32) = Int32.ofInt 57 := rfl
  have e59 : (59 : Int32) = Int32.ofInt 59 := rfl
  have e40 : (40 : Int32) = Int32.ofInt 40 := rfl
  have e41 : (41 : Int32) = Int32.ofInt 41 := rfl
  rw [e32, e10, e97, e122, e48, e57, e59, e40, e41]
  simp only [ii_lt (a := bc b) (b := 97) (by omega) (by omega), ii_lt (a := 122) (b := bc b) (by omega) (by omega), ii_lt (a := bc b) (b := 48) (by omega) (by omega), ii_lt (a := 57) (b := bc b) (by omega) (by omega), ii_eq (a := bc b) (b := 32) (by omega) (by omega), ii_eq (a := bc b) (b := 10) (by omega) (by omega), ii_eq (a := bc b) (b := 59) (by omega) (by omega), ii_eq (a := bc b) (b := 40) (by omega) (by omega), ii_eq (a := bc b) (b := 41) (by omega) (by omega)]
  unfold kd bc
  by_cases c : b < 128
  · simp only [if_pos c]
    repeat' split
    all_goals first | rfl | (exfalso; omega)
  · simp only [if_neg c]
    repeat' split
    all_goals first | rfl | (exfalso; omega)
theorem pc_byteAt (h : ty t L B) {i : Int} (h0 : 0 ≤ i) (h1 : i < L) : ff_X10_byteAt N t (Int32.ofInt i) = some (Int32.ofInt (bc (B i.toNat))) := by
  have hL := h.1
  unfold ff_X10_byteAt
  simp only [i0_lt (a := i) (by omega)]
  rw [if_neg (by omega), h.2.1, ii_le (by omega) (by omega), if_neg (by omega), ii_900, ii_le (by omega) (by omega), if_neg (by omega), if_pos (ia_in (by omega) (by omega) (by omega)), ia_nat (by omega) (by omega), (h.2.2 i.toNat (by omega)).2]
theorem pc_addToken (h : tt t B st sz ky C) (hC : C < 900) {i : Nat} {v : Int} : ∃ t', ff_X10_addToken N t (Int32.ofInt (i : Int)) (Int32.ofInt v) = some t' ∧ tt t' B (fun j => if j = C then i else st j) (fun j => if j = C then 1 else sz j) (fun j => if j = C then v else ky j) (C + 1) ∧ sy (fun k => k = 5) (fun j => j = 1 ∨ j = 2 ∨ j = 3) t t' := by
  refine ⟨ss_I (ss_A (ss_A (ss_A t 1 (upd (os_A t 1) C (Int32.ofInt (i : Int)))) 2 (upd (os_A t 2) C (1 : Int32))) 3 (upd (os_A t 3) C (Int32.ofInt v))) 5 (Int32.ofInt ((C + 1 : Nat) : Int)), ?_, ⟨rfl, fun j hj => ?_⟩, ?_⟩
  · unfold ff_X10_addToken
    rw [h.1]
    simp only [i0_lt (a := (C : Int)) (by omega)]
    rw [if_neg (by omega), ii_900, ii_le (by omega) (by omega), if_neg (by omega), if_pos (ia_in (by omega) (by omega) (by omega)), if_pos (ia_in (by omega) (by omega) (by omega)), if_pos (ia_in (by omega) (by omega) (by omega)), ia_nat (by omega) (by omega), Int.toNat_natCast]
    show some (ss_I _ 5 (Int32.ofInt (C : Int) + (1 : Int32))) = _
    rw [ii_1, ia_add]
    rfl
  · show upd (os_A t 1) C (Int32.ofInt (i : Int)) j = Int32.ofInt ((if j = C then i else st j : Nat) : Int) ∧ upd (os_A t 2) C (1 : Int32) j = Int32.ofInt ((if j = C then 1 else sz j : Nat) : Int) ∧ upd (os_A t 3) C (Int32.ofInt v) j = Int32.ofInt (if j = C then v else ky j)
    by_cases c : j = C
    · subst c
      rw [if_pos rfl, if_pos rfl, if_pos rfl, up_eq, up_eq, up_eq]
      exact ⟨rfl, rfl, rfl⟩
    · rw [if_neg c, if_neg c, if_neg c, up_ne c, up_ne c, up_ne c]
      exact h.2 j (by omega)
  · exact (((show sy (fun k => k = 5) (fun j => j = 1 ∨ j = 2 ∨ j = 3) t (ss_A t 1 (upd (os_A t 1) C (Int32.ofInt (i : Int)))) from sy_A (Or.inl rfl)).tr (sy_A (Or.inr (Or.inl rfl)))).tr (sy_A (Or.inr (Or.inr rfl)))).tr (sy_I rfl)
theorem pc_lengthen (h : tt t B st sz ky (C + 1)) (hC : C < 900) (hz : sz C ≤ 900) : ∃ t', ff_X10_lengthenToken N t = some t' ∧ tt t' B st (fun j => if j = C then sz j + 1 else sz j) ky (C + 1) ∧ sy (fun k => k = 5) (fun j => j = 1 ∨ j = 2 ∨ j = 3) t t' := by
  refine ⟨ss_A t 2 (upd (os_A t 2) C (Int32.ofInt ((sz C + 1 : Nat) : Int))), ?_, ⟨h.1, fun j hj => ?_⟩, sy_A (Or.inr (Or.inl rfl))⟩
  · unfold ff_X10_lengthenToken
    have e : Int32.ofInt ((C + 1 : Nat) : Int) - (1 : Int32) = Int32.ofInt (C : Int) := by
      rw [ii_1, ia_sub]
      congr 1
      omega
    rw [h.1, e]
    simp only [i0_lt (a := (C : Int)) (by omega)]
    rw [if_neg (by omega), ii_900, ii_le (by omega) (by omega), if_neg (by omega), if_pos (ia_in (by omega) (by omega) (by omega)), if_pos (ia_in (by omega) (by omega) (by omega)), ia_nat (by omega) (by omega), Int.toNat_natCast, (h.2 C (by omega)).2.1, ii_1, ia_add]
    rfl
  · show os_A t 1 j = _ ∧ upd (os_A t 2) C (Int32.ofInt ((sz C + 1 : Nat) : Int)) j = Int32.ofInt ((if j = C then sz j + 1 else sz j : Nat) : Int) ∧ os_A t 3 j = _
    have := h.2 j hj
    by_cases c : j = C
    · subst c
      rw [if_pos rfl, up_eq]
      exact ⟨this.1, rfl, this.2.2⟩
    · rw [if_neg c, up_ne c]
      exact this
theorem pc_advance (hy : ty t L B) (h : tt t B st sz ky C) (ht : tp B st sz ky C L) (hp : p ≤ C) (h6 : os_I t 6 = Int32.ofInt ((p : Int) - 1)) : ∃ t', ff_X10_advance N t = some t' ∧ tc t' L st sz ky C p ∧ sy (fun k => k = 6 ∨ k = 7 ∨ k = 8 ∨ k = 9) (fun _ => False) t t' := by
  have hL := hy.1
  have hC := ht.2.2.2
  have e : Int32.ofInt ((p : Int) - 1) + (1 : Int32) = Int32.ofInt (p : Int) := by
    rw [ii_1, ia_add]
    congr 1
    omega
  unfold ff_X10_advance
  rw [h6, e]
  simp only [i0_lt (a := (p : Int)) (by omega)]
  rw [if_neg (by omega), h.1, ii_le (by omega) (by omega)]
  by_cases c : p < C
  · obtain ⟨a1, a2, a3⟩ := h.2 p c
    obtain ⟨b1, b2, b3, b4, -⟩ := ht.1 p c
    have hin : os_in (Int32.ofInt (p : Int)) 900 := ia_in (by omega) (by omega) (by omega)
    have e900 : (Int32.ofInt (p : Int) < (900 : Int32)) = ((p : Int) < 900) := ia_lt (b := 900) (by omega) (by omega) (by omega) (by omega)
    have e8 : ((8 : Int32) < Int32.ofInt (sz p : Int)) = ((8 : Int) < sz p) := ia_lt (a := 8) (by omega) (by omega) (by omega) (by omega)
    have e4 : (Int32.ofInt (sz p : Int) ≤ (4 : Int32)) = ((sz p : Int) ≤ 4) := ia_le (b := 4) (by omega) (by omega) (by omega) (by omega)
    have k1 : (Int32.ofInt (ky p) = (1 : Int32)) = (ky p = 1) := ia_eq (b := 1) (by omega) (by omega) (by omega) (by omega)
    have k2 : (Int32.ofInt (ky p) = (2 : Int32)) = (ky p = 2) := ia_eq (b := 2) (by omega) (by omega) (by omega) (by omega)
    have sf : ∀ a b c' d : Int32, sy (fun k => k = 6 ∨ k = 7 ∨ k = 8 ∨ k = 9) (fun _ => False) t (ss_I (ss_I (ss_I (ss_I t 6 a) 7 b) 8 c') 9 d) := fun a b c' d => (((show sy (fun k => k = 6 ∨ k = 7 ∨ k = 8 ∨ k = 9) (fun _ => False) t (ss_I t 6 a) from sy_I (Or.inl rfl)).tr (sy_I (Or.inr (Or.inl rfl)))).tr (sy_I (Or.inr (Or.inr (Or.inl rfl))))).tr (sy_I (Or.inr (Or.inr (Or.inr rfl))))
    have fin : ∀ t2 : os_T, t2 = ss_I (ss_I (ss_I (ss_I t 6 (Int32.ofInt (p : Int))) 7 (Int32.ofInt (ky p))) 8 (Int32.ofInt (st p : Int))) 9 (Int32.ofInt (sz p : Int)) → ∀ v : Int, kk st sz ky C p = v → tc (ss_I t2 7 (Int32.ofInt v)) L st sz ky C p := fun t2 e2 v ev => by
      subst e2
      refine ⟨rfl, ?_, ?_, ?_⟩
      · rw [ev]; rfl
      · rw [if_pos c]; rfl
      · rw [if_pos c]; rfl
    have fin2 : ∀ t2 : os_T, t2 = ss_I (ss_I (ss_I (ss_I t 6 (Int32.ofInt (p : Int))) 7 (Int32.ofInt (ky p))) 8 (Int32.ofInt (st p : Int))) 9 (Int32.ofInt (sz p : Int)) → kk st sz ky C p = ky p → tc t2 L st sz ky C p := fun t2 e2 ev => by
      subst e2
      refine ⟨rfl, ?_, ?_, ?_⟩
      · rw [ev]; rfl
      · rw [if_pos c]; rfl
      · rw [if_pos c]; rfl
    simp only [e900]
    rw [if_neg (by omega), if_pos (by omega), if_pos hin, if_pos hin, if_pos hin, ia_nat (by omega) (by omega), Int.toNat_natCast, a1, a2, a3]
    unfold ff_X10_advance_b115 ff_X10_advance_b131
    simp only [e8, k1]
    by_cases c1 : ky p = 1
    · rw [if_pos c1]
      by_cases c8 : 8 < sz p
      · rw [if_pos (by omega)]
        exact ⟨_, rfl, fin _ rfl 5 (by unfold kk; rw [if_pos c, if_pos (Or.inl ⟨c1, c8⟩)]), (sf _ _ _ _).tr (sy_I (Or.inr (Or.inl rfl)))⟩
      · rw [if_neg (by omega)]
        have e7 : ¬ (os_I (ss_I (ss_I (ss_I (ss_I t 6 (Int32.ofInt (p : Int))) 7 (Int32.ofInt (ky p))) 8 (Int32.ofInt (st p : Int))) 9 (Int32.ofInt (sz p : Int))) 7 = (2 : Int32)) := by
          show ¬ (Int32.ofInt (ky p) = (2 : Int32))
          rw [k2]; omega
        rw [if_neg e7]
        exact ⟨_, rfl, fin2 _ rfl (by unfold kk; rw [if_pos c, if_neg (by omega)]), sf _ _ _ _⟩
    · rw [if_neg c1]
      by_cases c2 : ky p = 2
      · have e7 : os_I (ss_I (ss_I (ss_I (ss_I t 6 (Int32.ofInt (p : Int))) 7 (Int32.ofInt (ky p))) 8 (Int32.ofInt (st p : Int))) 9 (Int32.ofInt (sz p : Int))) 7 = (2 : Int32) := by
          show Int32.ofInt (ky p) = (2 : Int32)
          rw [k2]; exact c2
        have e9 : os_I (ss_I (ss_I (ss_I (ss_I t 6 (Int32.ofInt (p : Int))) 7 (Int32.ofInt (ky p))) 8 (Int32.ofInt (st p : Int))) 9 (Int32.ofInt (sz p : Int))) 9 = Int32.ofInt (sz p : Int) := rfl
        rw [if_pos e7, e9]
        simp only [e4]
        by_cases c4 : sz p ≤ 4
        · rw [if_pos (by omega)]
          exact ⟨_, rfl, fin2 _ rfl (by unfold kk; rw [if_pos c, if_neg (by omega)]), sf _ _ _ _⟩
        · rw [if_neg (by omega)]
          exact ⟨_, rfl, fin _ rfl 5 (by unfold kk; rw [if_pos c, if_pos (Or.inr ⟨c2, by omega⟩)]), (sf _ _ _ _).tr (sy_I (Or.inr (Or.inl rfl)))⟩
      · have e7 : ¬ (os_I (ss_I (ss_I (ss_I (ss_I t 6 (Int32.ofInt (p : Int))) 7 (Int32.ofInt (ky p))) 8 (Int32.ofInt (st p : Int))) 9 (Int32.ofInt (sz p : Int))) 7 = (2 : Int32)) := by
          show ¬ (Int32.ofInt (ky p) = (2 : Int32))
          rw [k2]; exact c2
        rw [if_neg e7]
        exact ⟨_, rfl, fin2 _ rfl (by unfold kk; rw [if_pos c, if_neg (by omega)]), sf _ _ _ _⟩
  · rw [if_pos (by omega)]
    unfold ff_X10_advance_b40
    refine ⟨_, rfl, ⟨rfl, ?_, ?_, ?_⟩, (((show sy (fun k => k = 6 ∨ k = 7 ∨ k = 8 ∨ k = 9) (fun _ => False) t (ss_I t 6 (Int32.ofInt (p : Int))) from sy_I (Or.inl rfl)).tr (sy_I (Or.inr (Or.inl rfl)))).tr (sy_I (Or.inr (Or.inr (Or.inl rfl))))).tr (sy_I (Or.inr (Or.inr (Or.inr rfl))))⟩
    · unfold kk
      rw [if_neg c]; rfl
    · rw [if_neg c]; exact hy.2.1
    · rw [if_neg c]; rfl
theorem pc_begin (hN : 1000 < N) (hy : ty t L B) : ∃ (t' : os_T) (st sz : Nat → Nat) (ky : Nat → Int) (C : Nat), ff_X10_begin N t = some t' ∧ ty t' L B ∧ tt t' B st sz ky C ∧ tp B st sz ky C L ∧ tc t' L st sz ky C 0 ∧ os_I t' 10 = 0 := by
  have hL := hy.1
  have key := lo_cnt (N := N) (step := fun k14 s1 => ff_X10_begin_c14 N k14 s1.1 s1.2.1 s1.2.2)
    (fun i s => s.2.2 = Int32.ofInt (i : Int) ∧ s.2.1 = Int32.ofInt (if i = 0 then 4 else kd (B (i - 1))) ∧ ty s.1 L B ∧ os_I s.1 10 = 0 ∧ ∃ (st sz : Nat → Nat) (ky : Nat → Int) (C : Nat), tt s.1 B st sz ky C ∧ tp B st sz ky C i)
    (fun v => ∃ (t' : os_T) (st sz : Nat → Nat) (ky : Nat → Int) (C : Nat), v = some t' ∧ ty t' L B ∧ tt t' B st sz ky C ∧ tp B st sz ky C L ∧ tc t' L st sz ky C 0 ∧ os_I t' 10 = 0)
    L ?_ ?_ (by omega) (s := (ss_I (ss_I t 5 (0 : Int32)) 10 (0 : Int32), (4 : Int32), (0 : Int32))) ?_
  · obtain ⟨v, ⟨t', st, sz, ky, C, rfl, h⟩, e⟩ := key
    exact ⟨t', st, sz, ky, C, e, h⟩
  · intro i s hi hI
    obtain ⟨t1, a1, a2⟩ := s
    obtain ⟨e2, e1, y1, z10, st, sz, ky, C, h1, h2⟩ := hI
    have e2 : a2 = _ := e2
    have e1 : a1 = _ := e1
    subst e1
    subst e2
    have hb := (y1.2.2 i hi).1
    have kv := kd_v (B i)
    have hC := h2.2.2.2
    have enx : Int32.ofInt (kd (B i)) = Int32.ofInt (if i + 1 = 0 then 4 else kd (B (i + 1 - 1))) := by rw [if_neg (by omega)]; rfl
    have einc : Int32.ofInt (i : Int) + 1 = Int32.ofInt ((i + 1 : Nat) : Int) := by rw [ii_1, ia_add]; rfl
    have pv : (if i = 0 then 4 else kd (B (i - 1))) = 1 ∨ (if i = 0 then 4 else kd (B (i - 1))) = 2 ∨ (if i = 0 then 4 else kd (B (i - 1))) = 3 ∨ (if i = 0 then 4 else kd (B (i - 1))) = 4 ∨ (if i = 0 then 4 else kd (B (i - 1))) = 5 := by
      split
      · omega
      · exact kd_v _
    have hin : ∀ k : os_T × Int32 × Int32 → Option os_T, ff_X10_begin_c14 N k t1 (Int32.ofInt (if i = 0 then 4 else kd (B (i - 1)))) (Int32.ofInt (i : Int)) = if kd (B i) = (if i = 0 then 4 else kd (B (i - 1))) then (if kd (B i) = 1 then ff_X10_begin_b46 N k t1 (Int32.ofInt (i : Int)) (Int32.ofInt (kd (B i))) else (if kd (B i) = 2 then ff_X10_begin_b46 N k t1 (Int32.ofInt (i : Int)) (Int32.ofInt (kd (B i))) else ff_X10_begin_b53 N k t1 (Int32.ofInt (i : Int)) (Int32.ofInt (kd (B i))))) else ff_X10_begin_b53 N k t1 (Int32.ofInt (i : Int)) (Int32.ofInt (kd (B i))) := fun k => by
      unfold ff_X10_begin_c14
      rw [y1.2.1, ii_le (by omega) (by omega), if_neg (by omega), pc_byteAt y1 (by omega) (by omega), Option.bind_some, Int.toNat_natCast, pc_kindOf hb, Option.bind_some, ii_eq (by omega) (by omega), ii_1, ii_eq (by omega) (by omega), ii_2, ii_eq (by omega) (by omega)]
    by_cases c4 : kd (B i) = 4
    · refine ⟨(t1, Int32.ofInt (kd (B i)), Int32.ofInt ((i + 1 : Nat) : Int)), ⟨rfl, enx, y1, z10, st, sz, ky, C, h1, tp_blank h2 c4⟩, fun k => ?_⟩
      refine (hin k).trans ?_
      have g : ff_X10_begin_b53 N k t1 (Int32.ofInt (i : Int)) (Int32.ofInt (kd (B i))) = k (t1, Int32.ofInt (kd (B i)), Int32.ofInt ((i + 1 : Nat) : Int)) := by
        unfold ff_X10_begin_b53 ff_X10_begin_b64
        rw [ii_4, ii_eq (by omega) (by omega), if_pos c4, einc]
      rw [g, if_neg (show ¬ kd (B i) = 1 by omega), if_neg (show ¬ kd (B i) = 2 by omega)]
      exact ite_self _
    · by_cases cl : kd (B i) = (if i = 0 then 4 else kd (B (i - 1))) ∧ (kd (B i) = 1 ∨ kd (B i) = 2)
      · have hi0 : i ≠ 0 := fun z => by
          rw [if_pos z] at cl; omega
        rw [if_neg hi0] at cl
        have hpe : pe st sz C = i := by
          refine Classical.byContradiction fun z => ?_
          have := h2.2.1
          have := h2.2.2.1 (i - 1) (by omega) (by omega)
          omega
        obtain ⟨C', rfl⟩ : ∃ C', C = C' + 1 := ⟨C - 1, by
          cases C with
          | zero =>
            have : pe st sz 0 = 0 := rfl
            omega
          | succ C => rfl⟩
        have hpe : st C' + sz C' = i := hpe
        obtain ⟨b1, b2, b3, b4, b5, b6, b7⟩ := h2.1 C' (by omega)
        have hk : kd (B (i - 1)) = ky C' := b6 (i - 1) (by omega) (by omega)
        obtain ⟨t2, w2, h3, f2⟩ := pc_lengthen (N := N) h1 (by omega) (by omega)
        refine ⟨(t2, Int32.ofInt (kd (B i)), Int32.ofInt ((i + 1 : Nat) : Int)), ⟨rfl, enx, y1.sy f2 (by decide) (by decide), by show os_I t2 10 = 0; rw [f2.1 10 (by decide)]; exact z10, _, _, _, _, h3, tp_len h2 hpe (by omega) (by omega)⟩, fun k => ?_⟩
        refine (hin k).trans ?_
        have g : ff_X10_begin_b46 N k t1 (Int32.ofInt (i : Int)) (Int32.ofInt (kd (B i))) = k (t2, Int32.ofInt (kd (B i)), Int32.ofInt ((i + 1 : Nat) : Int)) := by
          unfold ff_X10_begin_b46 ff_X10_begin_b64
          rw [w2, Option.bind_some, einc]
        rw [if_neg hi0, if_pos cl.1, g]
        by_cases c1 : kd (B i) = 1
        · rw [if_pos c1]
        · rw [if_neg c1, if_pos (by omega)]
      · obtain ⟨t2, w2, h3, f2⟩ := pc_addToken (N := N) (i := i) (v := kd (B i)) h1 (by omega)
        refine ⟨(t2, Int32.ofInt (kd (B i)), Int32.ofInt ((i + 1 : Nat) : Int)), ⟨rfl, enx, y1.sy f2 (by decide) (by decide), by show os_I t2 10 = 0; rw [f2.1 10 (by decide)]; exact z10, _, _, _, _, h3, tp_add h2 c4 (fun j hj e hk z => cl ?_)⟩, fun k => ?_⟩
        · obtain ⟨b1, b2, b3, b4, b5, b6, b7⟩ := h2.1 j (by omega)
          have hk2 : kd (B (i - 1)) = ky j := b6 (i - 1) (by omega) (by omega)
          rw [if_neg (by omega)]
          omega
        · refine (hin k).trans ?_
          have g : ff_X10_begin_b53 N k t1 (Int32.ofInt (i : Int)) (Int32.ofInt (kd (B i))) = k (t2, Int32.ofInt (kd (B i)), Int32.ofInt ((i + 1 : Nat) : Int)) := by
            unfold ff_X10_begin_b53 ff_X10_begin_b64
            rw [ii_4, ii_eq (by omega) (by omega), if_neg c4, w2, Option.bind_some, einc]
          rw [g]
          by_cases ce : kd (B i) = (if i = 0 then 4 else kd (B (i - 1)))
          · rw [if_pos ce, if_neg (fun z => cl ⟨ce, Or.inl z⟩), if_neg (fun z => cl ⟨ce, Or.inr z⟩)]
          · rw [if_neg ce]
  · intro s hI
    obtain ⟨t1, a1, a2⟩ := s
    obtain ⟨e2, e1, y1, z10, st, sz, ky, C, h1, h2⟩ := hI
    have e2 : a2 = _ := e2
    have e1 : a1 = _ := e1
    subst e1
    subst e2
    have f1 : sy (fun k => k = 6) (fun _ => False) t1 (ss_I t1 6 (-1 : Int32)) := sy_I rfl
    obtain ⟨t2, w2, h3, f2⟩ := pc_advance (N := N) (p := 0) (y1.sy f1 (by decide) (by decide)) (h1.sy f1 (by decide) (by decide) (by decide) (by decide)) h2 (by omega) rfl
    refine ⟨some t2, ⟨t2, st, sz, ky, C, rfl, (y1.sy f1 (by decide) (by decide)).sy f2 (by decide) (by decide), (h1.sy f1 (by decide) (by decide) (by decide) (by decide)).sy f2 (by decide) (by decide) (by decide) (by decide), h2, h3, ?_⟩, fun k => ?_⟩
    · rw [f2.1 10 (by decide)]; exact z10
    · show ff_X10_begin_c14 N k t1 _ (Int32.ofInt (L : Int)) = _
      unfold ff_X10_begin_c14
      rw [y1.2.1, ii_le (by omega) (by omega), if_pos (by omega), w2, Option.bind_some]
  · exact ⟨rfl, rfl, hy.sy (show sy (fun k => k = 5 ∨ k = 10) (fun _ => False) t (ss_I (ss_I t 5 (0 : Int32)) 10 (0 : Int32)) from (show sy (fun k => k = 5 ∨ k = 10) (fun _ => False) t (ss_I t 5 (0 : Int32)) from sy_I (Or.inl rfl)).tr (sy_I (Or.inr rfl))) (by decide) (by decide), rfl, fun _ => 0, fun _ => 0, fun _ => 0, 0, ⟨rfl, fun j hj => by omega⟩, tp_0⟩
end Tokens
