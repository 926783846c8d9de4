/-! LAYER 2. Undoing; the history of the reference -/
section Undo
variable {N : Nat} {o : os_T} {S : Nat → Nat} {T H T2 H2 : Int → Int → Int}
theorem pc_forget {oh : os_T} {P : Nat → os_T} {n : Nat} {S' : Nat → Nat} {U U' : Nat → (Int → Int → Int) × (Int → Int → Int)} (h : hc_R oh P S n U) : ∃ oh', ff_X3_forget N oh = some oh' ∧ hc_R oh' P S' 0 U' := by
  obtain ⟨h1, h2, nx, h3, h4, h5, h6⟩ := h
  exact ⟨_, rfl, by decide, fun i hi => absurd hi (Nat.not_lt_zero i), nx, h3, h4, rfl, fun i hi => absurd hi (Nat.not_lt_zero i)⟩
/-! the reference -/
def sy (K J : Nat → Prop) (o o' : os_T) : Prop := (∀ i, ¬ K i → os_I o' i = os_I o i) ∧ (∀ i, os_L o' i = os_L o i) ∧ ∀ j, ¬ J j → os_A o' j = os_A o j
theorem sy.rf {K J : Nat → Prop} {o : os_T} : sy K J o o := ⟨fun _ _ => rfl, fun _ => rfl, fun _ _ => rfl⟩
theorem sy.tr {K J : Nat → Prop} {o p q : os_T} (h : sy K J o p) (h2 : sy K J p q) : sy K J o q := ⟨fun i hi => (h2.1 i hi).trans (h.1 i hi), fun i => (h2.2.1 i).trans (h.2.1 i), fun j hj => (h2.2.2 j hj).trans (h.2.2 j hj)⟩
theorem sy.mono {K J K2 J2 : Nat → Prop} {o p : os_T} (h : sy K J o p) (hK : ∀ j, K j → K2 j) (hJ : ∀ j, J j → J2 j) : sy K2 J2 o p := ⟨fun i hi => h.1 i (fun z => hi (hK i z)), h.2.1, fun j hj => h.2.2 j (fun z => hj (hJ j z))⟩
theorem sx.sy {K J : Nat → Prop} {o p : os_T} (h : sx J o p) : sy K J o p := ⟨fun i _ => h.1 i, h.2.1, h.2.2⟩
theorem sy_A {K J : Nat → Prop} {o : os_T} {j : Nat} {f : Nat → Int32} (hj : J j) : sy K J o (ss_A o j f) := (sx_A hj).sy
theorem sy_I {K J : Nat → Prop} {o : os_T} {k : Nat} {v : Int32} (hk : K k) : sy K J o (ss_I o k v) := ⟨fun i hi => os_u_ne (fun e => hi (e ▸ hk)), fun _ => rfl, fun _ _ => rfl⟩
theorem rp.sy {o o' : os_T} {K J : Nat → Prop} (h : rp o S T H) (hx : sy K J o o') (h1 : ¬ J 1) (h3 : ¬ J 3) (h4 : ¬ J 4) : rp o' S T H := by
  refine ⟨fun i hi => ?_, fun x y a b c d => ?_, fun x y a b c d => ?_⟩
  · rw [hx.2.2 1 h1]; exact h.1 i hi
  · rw [hx.2.2 3 h3]; exact h.2.1 x y a b c d
  · rw [hx.2.2 4 h4]; exact h.2.2 x y a b c d
/-- a row of 192 numbers, 16 a line -/
def a16 (f : Nat → Int32) (G : Int → Int → Int) : Prop := ∀ k, k < 192 → f k = Int32.ofInt (G ((k % 16 : Nat) : Int) ((k / 16 : Nat) : Int))
theorem a16_of {f : Nat → Int32} {G : Int → Int → Int} (h : ∀ x y : Int, 0 ≤ x → x < 16 → 0 ≤ y → y < 12 → f (16 * y + x).toNat = Int32.ofInt (G x y)) : a16 f G := fun k hk => by
  have := h ((k % 16 : Nat) : Int) ((k / 16 : Nat) : Int) (by omega) (by omega) (by omega) (by omega)
  rwa [show (16 * ((k / 16 : Nat) : Int) + ((k % 16 : Nat) : Int)).toNat = k by omega] at this
theorem a16_to {f : Nat → Int32} {G : Int → Int → Int} (h : a16 f G) : ∀ x y : Int, 0 ≤ x → x < 16 → 0 ≤ y → y < 12 → f (16 * y + x).toNat = Int32.ofInt (G x y) := fun x y h1 h2 h3 h4 => by
  have := h (16 * y + x).toNat (by omega)
  rwa [show (((16 * y + x).toNat % 16 : Nat) : Int) = x by omega, show (((16 * y + x).toNat / 16 : Nat) : Int) = y by omega] at this
theorem rp_a (h : rp o S T H) : a16 (os_A o 3) T ∧ a16 (os_A o 4) H := ⟨a16_of h.2.1, a16_of h.2.2⟩
theorem rp_mk (h1 : ∀ i : Nat, i < 7 → os_A o 1 i = Int32.ofInt (S i)) (h3 : a16 (os_A o 3) T) (h4 : a16 (os_A o 4) H) : rp o S T H := ⟨h1, a16_to h3, a16_to h4⟩
theorem up_eq {f : Nat → Int32} {k : Nat} {v : Int32} : upd f k v k = v := if_pos rfl
theorem up_ne {f : Nat → Int32} {k j : Nat} {v : Int32} (h : j ≠ k) : upd f k v j = f j := if_neg h
def hr_R (o : os_T) (n : Nat) (U : Nat → (Int → Int → Int) × (Int → Int → Int)) : Prop :=
  n ≤ 6 ∧ os_I o 29 = Int32.ofInt (n : Int) ∧ ∀ i, i < n → a16 (fun k => os_A o 10 (384 * i + k)) (U i).2 ∧ a16 (fun k => os_A o 10 (384 * i + 192 + k)) (U i).1
theorem hr_R.sy {o' : os_T} {n : Nat} {U : Nat → (Int → Int → Int) × (Int → Int → Int)} {K J : Nat → Prop} (h : hr_R o n U) (hx : sy K J o o') (h1 : ¬ K 29) (h2 : ¬ J 10) : hr_R o' n U := by
  refine ⟨h.1, (hx.1 29 h1).trans h.2.1, fun i hi => ?_⟩
  rw [hx.2.2 10 h2]
  exact h.2.2 i hi
def q_16 (G H : Int → Int → Int) (n : Nat) : Int := fo (fun k a => a + (bif decide (G ((k % 16 : Nat) : Int) ((k / 16 : Nat) : Int) ≠ H ((k % 16 : Nat) : Int) ((k / 16 : Nat) : Int)) then 1 else 0)) n 0
theorem q_16b {G : Int → Int → Int} (n : Nat) : 0 ≤ q_16 G H n ∧ q_16 G H n ≤ n := by
  induction n with
  | zero => exact ⟨Int.le_refl _, Int.le_refl _⟩
  | succ n ih =>
    show 0 ≤ q_16 G H n + _ ∧ q_16 G H n + _ ≤ _
    cases decide (G ((n % 16 : Nat) : Int) ((n / 16 : Nat) : Int) ≠ H ((n % 16 : Nat) : Int) ((n / 16 : Nat) : Int)) <;> simp only [cond_true, cond_false] <;> omega
theorem q_16z {G : Int → Int → Int} {n : Nat} (h : q_16 G H n = 0) : ∀ k, k < n → G ((k % 16 : Nat) : Int) ((k / 16 : Nat) : Int) = H ((k % 16 : Nat) : Int) ((k / 16 : Nat) : Int) := by
  induction n with
  | zero => intro k hk; omega
  | succ n ih =>
    have hb := q_16b (G := G) (H := H) n
    have h' : q_16 G H n + (bif decide (G ((n % 16 : Nat) : Int) ((n / 16 : Nat) : Int) ≠ H ((n % 16 : Nat) : Int) ((n / 16 : Nat) : Int)) then 1 else 0) = 0 := h
    intro k hk
    by_cases e : G ((n % 16 : Nat) : Int) ((n / 16 : Nat) : Int) = H ((n % 16 : Nat) : Int) ((n / 16 : Nat) : Int)
    · rw [decide_eq_false (fun z => z e)] at h'
      simp only [cond_false] at h'
      by_cases ek : k = n
      · rw [ek]; exact e
      · exact ih (by omega) k (by omega)
    · rw [decide_eq_true e] at h'
      simp only [cond_true] at h'
      omega
theorem q_16n {G : Int → Int → Int} {n : Nat} (h : ∀ k, k < n → G ((k % 16 : Nat) : Int) ((k / 16 : Nat) : Int) = H ((k % 16 : Nat) : Int) ((k / 16 : Nat) : Int)) : q_16 G H n = 0 := by
  induction n with
  | zero => rfl
  | succ n ih =>
    show q_16 G H n + _ = 0
    rw [ih (fun k hk => h k (by omega)), decide_eq_false (fun z => z (h n (by omega)))]
    rfl
end Undo
