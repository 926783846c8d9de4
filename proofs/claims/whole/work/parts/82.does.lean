/-! LAYER 2. One command of a script, done on both sides -/
section Does
variable {N k : Nat} {m : os_T}
theorem t_in {k a : Nat} (hk : k < 60) (ha : a < 5) : os_in (Int32.ofInt ((5 * k : Nat) : Int) + Int32.ofInt (a : Int)) 300 ∧ Int32.toNatClampNeg (Int32.ofInt ((5 * k : Nat) : Int) + Int32.ofInt (a : Int)) = 5 * k + a := by
  rw [ia_add]
  refine ⟨ia_in (by omega) (by omega) (by omega), ?_⟩
  rw [ia_nat (by omega) (by omega)]
  omega
theorem t_in0 {k : Nat} (hk : k < 60) : os_in (Int32.ofInt ((5 * k : Nat) : Int)) 300 ∧ Int32.toNatClampNeg (Int32.ofInt ((5 * k : Nat) : Int)) = 5 * k := by
  refine ⟨ia_in (by omega) (by omega) (by omega), ?_⟩
  rw [ia_nat (by omega) (by omega), Int.toNat_natCast]
theorem dz_0 (hk : k < 60) : ff_X13_does N m (Int32.ofInt 0) (Int32.ofInt ((5 * k : Nat) : Int)) = ((ff_X13_isCell N m (os_A m 14 (5 * k)) (os_A m 14 (5 * k + 1))).bind fun u => (if u = 0 then some ((0 : Int32), m) else ((ff_X13_tones N m (os_A m 14 (5 * k)) (os_A m 14 (5 * k + 1)) (os_A m 14 (5 * k + 2))).bind fun u => some ((1 : Int32), u)))) := by
  have i0 := (t_in0 hk).1
  have n0 := (t_in0 hk).2
  have i1 : os_in (Int32.ofInt ((5 * k : Nat) : Int) + (1 : Int32)) 300 := (t_in (a := 1) hk (by decide)).1
  have i2 : os_in (Int32.ofInt ((5 * k : Nat) : Int) + (2 : Int32)) 300 := (t_in (a := 2) hk (by decide)).1
  have i3 : os_in (Int32.ofInt ((5 * k : Nat) : Int) + (3 : Int32)) 300 := (t_in (a := 3) hk (by decide)).1
  have i4 : os_in (Int32.ofInt ((5 * k : Nat) : Int) + (4 : Int32)) 300 := (t_in (a := 4) hk (by decide)).1
  have n1 : Int32.toNatClampNeg (Int32.ofInt ((5 * k : Nat) : Int) + (1 : Int32)) = 5 * k + 1 := (t_in (a := 1) hk (by decide)).2
  have n2 : Int32.toNatClampNeg (Int32.ofInt ((5 * k : Nat) : Int) + (2 : Int32)) = 5 * k + 2 := (t_in (a := 2) hk (by decide)).2
  have n3 : Int32.toNatClampNeg (Int32.ofInt ((5 * k : Nat) : Int) + (3 : Int32)) = 5 * k + 3 := (t_in (a := 3) hk (by decide)).2
  have n4 : Int32.toNatClampNeg (Int32.ofInt ((5 * k : Nat) : Int) + (4 : Int32)) = 5 * k + 4 := (t_in (a := 4) hk (by decide)).2
  have o0 : ∀ {α : Type} {A B : α}, (if (0 : Int32) = 0 then A else B) = A := fun {α A B} => if_pos rfl
  have o1 : ∀ {α : Type} {A B : α}, (if (1 : Int32) = 0 then A else B) = B := fun {α A B} => if_neg (by decide)
  simp only [ff_X13_does, ff_X13_does_b401, ff_X13_does_b387, ff_X13_does_b377, ff_X13_does_b367, ff_X13_does_b354, ff_X13_does_b344, ff_X13_does_b334, ff_X13_does_b298, ff_X13_does_b262, ff_X13_does_b237, ff_X13_does_b211, ff_X13_does_b209, ff_X13_does_b208, ff_X13_does_b170, ff_X13_does_b168, ff_X13_does_b167, ff_X13_does_b119, ff_X13_does_b117, ff_X13_does_b116, ff_X13_does_b87, ff_X13_does_b85, ff_X13_does_b69, ff_X13_does_b64, ff_X13_does_b58, ff_X13_does_b40, if_pos i0, if_pos i1, if_pos i2, if_pos i3, if_pos i4, n0, n1, n2, n3, n4, o0, o1, reduceIte, if_pos (show Int32.ofInt 0 = (0 : Int32) from rfl), if_neg (show ¬ (Int32.ofInt 0 = (1 : Int32)) by decide), if_neg (show ¬ (Int32.ofInt 0 = (2 : Int32)) by decide), if_neg (show ¬ (Int32.ofInt 0 = (3 : Int32)) by decide), if_neg (show ¬ (Int32.ofInt 0 = (4 : Int32)) by decide), if_neg (show ¬ (Int32.ofInt 0 = (5 : Int32)) by decide), if_neg (show ¬ (Int32.ofInt 0 = (6 : Int32)) by decide), if_neg (show ¬ (Int32.ofInt 0 = (7 : Int32)) by decide), if_neg (show ¬ (Int32.ofInt 0 = (8 : Int32)) by decide), if_neg (show ¬ (Int32.ofInt 0 = (9 : Int32)) by decide), if_neg (show ¬ (Int32.ofInt 0 = (10 : Int32)) by decide), if_neg (show ¬ ((3 : Int32) < Int32.ofInt 0) by decide)]
theorem dz_1 (hk : k < 60) : ff_X13_does N m (Int32.ofInt 1) (Int32.ofInt ((5 * k : Nat) : Int)) = ((ff_X13_isCell N m (os_A m 14 (5 * k)) (os_A m 14 (5 * k + 1))).bind fun u => (if u = 0 then some ((0 : Int32), m) else ((ff_X13_isHeight N m (os_A m 14 (5 * k + 2))).bind fun v => (if v = 0 then some ((0 : Int32), m) else (if os_in (((16 : Int32) * (os_A m 14 (5 * k + 1))) + (os_A m 14 (5 * k))) 192 then some ((1 : Int32), ss_A m 4 (upd (os_A m 4) (Int32.toNatClampNeg (((16 : Int32) * (os_A m 14 (5 * k + 1))) + (os_A m 14 (5 * k)))) (os_A m 14 (5 * k + 2)))) else none))))) := by
  have i0 := (t_in0 hk).1
  have n0 := (t_in0 hk).2
  have i1 : os_in (Int32.ofInt ((5 * k : Nat) : Int) + (1 : Int32)) 300 := (t_in (a := 1) hk (by decide)).1
  have i2 : os_in (Int32.ofInt ((5 * k : Nat) : Int) + (2 : Int32)) 300 := (t_in (a := 2) hk (by decide)).1
  have i3 : os_in (Int32.ofInt ((5 * k : Nat) : Int) + (3 : Int32)) 300 := (t_in (a := 3) hk (by decide)).1
  have i4 : os_in (Int32.ofInt ((5 * k : Nat) : Int) + (4 : Int32)) 300 := (t_in (a := 4) hk (by decide)).1
  have n1 : Int32.toNatClampNeg (Int32.ofInt ((5 * k : Nat) : Int) + (1 : Int32)) = 5 * k + 1 := (t_in (a := 1) hk (by decide)).2
  have n2 : Int32.toNatClampNeg (Int32.ofInt ((5 * k : Nat) : Int) + (2 : Int32)) = 5 * k + 2 := (t_in (a := 2) hk (by decide)).2
  have n3 : Int32.toNatClampNeg (Int32.ofInt ((5 * k : Nat) : Int) + (3 : Int32)) = 5 * k + 3 := (t_in (a := 3) hk (by decide)).2
  have n4 : Int32.toNatClampNeg (Int32.ofInt ((5 * k : Nat) : Int) + (4 : Int32)) = 5 * k + 4 := (t_in (a := 4) hk (by decide)).2
  have o0 : ∀ {α : Type} {A B : α}, (if (0 : Int32) = 0 then A else B) = A := fun {α A B} => if_pos rfl
  have o1 : ∀ {α : Type} {A B : α}, (if (1 : Int32) = 0 then A else B) = B := fun {α A B} => if_neg (by decide)
  simp only [ff_X13_does, ff_X13_does_b401, ff_X13_does_b387, ff_X13_does_b377, ff_X13_does_b367, ff_X13_does_b354, ff_X13_does_b344, ff_X13_does_b334, ff_X13_does_b298, ff_X13_does_b262, ff_X13_does_b237, ff_X13_does_b211, ff_X13_does_b209, ff_X13_does_b208, ff_X13_does_b170, ff_X13_does_b168, ff_X13_does_b167, ff_X13_does_b119, ff_X13_does_b117, ff_X13_does_b116, ff_X13_does_b87, ff_X13_does_b85, ff_X13_does_b69, ff_X13_does_b64, ff_X13_does_b58, ff_X13_does_b40, if_pos i0, if_pos i1, if_pos i2, if_pos i3, if_pos i4, n0, n1, n2, n3, n4, o0, o1, reduceIte, if_neg (show ¬ (Int32.ofInt 1 = (0 : Int32)) by decide), if_pos (show Int32.ofInt 1 = (1 : Int32) from rfl), if_neg (show ¬ (Int32.ofInt 1 = (2 : Int32)) by decide), if_neg (show ¬ (Int32.ofInt 1 = (3 : Int32)) by decide), if_neg (show ¬ (Int32.ofInt 1 = (4 : Int32)) by decide), if_neg (show ¬ (Int32.ofInt 1 = (5 : Int32)) by decide), if_neg (show ¬ (Int32.ofInt 1 = (6 : Int32)) by decide), if_neg (show ¬ (Int32.ofInt 1 = (7 : Int32)) by decide), if_neg (show ¬ (Int32.ofInt 1 = (8 : Int32)) by decide), if_neg (show ¬ (Int32.ofInt 1 = (9 : Int32)) by decide), if_neg (show ¬ (Int32.ofInt 1 = (10 : Int32)) by decide), if_neg (show ¬ ((3 : Int32) < Int32.ofInt 1) by decide)]
theorem dz_2 (hk : k < 60) : ff_X13_does N m (Int32.ofInt 2) (Int32.ofInt ((5 * k : Nat) : Int)) = ((ff_X13_isCell N m (os_A m 14 (5 * k)) (os_A m 14 (5 * k + 1))).bind fun u => (if u = 0 then some ((0 : Int32), m) else ((ff_X13_fits N m (os_A m 14 (5 * k)) (os_A m 14 (5 * k + 1)) (os_A m 14 (5 * k + 2)) (os_A m 14 (5 * k + 3)) (os_A m 14 (5 * k + 4))).bind fun v => (if v = 0 then some ((0 : Int32), m) else ((ff_X13_fills N m (os_A m 14 (5 * k)) (os_A m 14 (5 * k + 1)) (os_A m 14 (5 * k + 2)) (os_A m 14 (5 * k + 3)) (os_A m 14 (5 * k + 4))).bind fun u => some ((1 : Int32), u)))))) := by
  have i0 := (t_in0 hk).1
  have n0 := (t_in0 hk).2
  have i1 : os_in (Int32.ofInt ((5 * k : Nat) : Int) + (1 : Int32)) 300 := (t_in (a := 1) hk (by decide)).1
  have i2 : os_in (Int32.ofInt ((5 * k : Nat) : Int) + (2 : Int32)) 300 := (t_in (a := 2) hk (by decide)).1
  have i3 : os_in (Int32.ofInt ((5 * k : Nat) : Int) + (3 : Int32)) 300 := (t_in (a := 3) hk (by decide)).1
  have i4 : os_in (Int32.ofInt ((5 * k : Nat) : Int) + (4 : Int32)) 300 := (t_in (a := 4) hk (by decide)).1
  have n1 : Int32.toNatClampNeg (Int32.ofInt ((5 * k : Nat) : Int) + (1 : Int32)) = 5 * k + 1 := (t_in (a := 1) hk (by decide)).2
  have n2 : Int32.toNatClampNeg (Int32.ofInt ((5 * k : Nat) : Int) + (2 : Int32)) = 5 * k + 2 := (t_in (a := 2) hk (by decide)).2
  have n3 : Int32.toNatClampNeg (Int32.ofInt ((5 * k : Nat) : Int) + (3 : Int32)) = 5 * k + 3 := (t_in (a := 3) hk (by decide)).2
  have n4 : Int32.toNatClampNeg (Int32.ofInt ((5 * k : Nat) : Int) + (4 : Int32)) = 5 * k + 4 := (t_in (a := 4) hk (by decide)).2
  have o0 : ∀ {α : Type} {A B : α}, (if (0 : Int32) = 0 then A else B) = A := fun {α A B} => if_pos rfl
  have o1 : ∀ {α : Type} {A B : α}, (if (1 : Int32) = 0 then A else B) = B := fun {α A B} => if_neg (by decide)
  simp only [ff_X13_does, ff_X13_does_b401, ff_X13_does_b387, ff_X13_does_b377, ff_X13_does_b367, ff_X13_does_b354, ff_X13_does_b344, ff_X13_does_b334, ff_X13_does_b298, ff_X13_does_b262, ff_X13_does_b237, ff_X13_does_b211, ff_X13_does_b209, ff_X13_does_b208, ff_X13_does_b170, ff_X13_does_b168, ff_X13_does_b167, ff_X13_does_b119, ff_X13_does_b117, ff_X13_does_b116, ff_X13_does_b87, ff_X13_does_b85, ff_X13_does_b69, ff_X13_does_b64, ff_X13_does_b58, ff_X13_does_b40, if_pos i0, if_pos i1, if_pos i2, if_pos i3, if_pos i4, n0, n1, n2, n3, n4, o0, o1, reduceIte, if_neg (show ¬ (Int32.ofInt 2 = (0 : Int32)) by decide), if_neg (show ¬ (Int32.ofInt 2 = (1 : Int32)) by decide), if_pos (show Int32.ofInt 2 = (2 : Int32) from rfl), if_neg (show ¬ (Int32.ofInt 2 = (3 : Int32)) by decide), if_neg (show ¬ (Int32.ofInt 2 = (4 : Int32)) by decide), if_neg (show ¬ (Int32.ofInt 2 = (5 : Int32)) by decide), if_neg (show ¬ (Int32.ofInt 2 = (6 : Int32)) by decide), if_neg (show ¬ (Int32.ofInt 2 = (7 : Int32)) by decide), if_neg (show ¬ (Int32.ofInt 2 = (8 : Int32)) by decide), if_neg (show ¬ (Int32.ofInt 2 = (9 : Int32)) by decide), if_neg (show ¬ (Int32.ofInt 2 = (10 : Int32)) by decide), if_neg (show ¬ ((3 : Int32) < Int32.ofInt 2) by decide)]
theorem dz_3 (hk : k < 60) : ff_X13_does N m (Int32.ofInt 3) (Int32.ofInt ((5 * k : Nat) : Int)) = ((ff_X13_isCell N m (os_A m 14 (5 * k + 2)) (os_A m 14 (5 * k + 3))).bind fun u => (if u = 0 then some ((0 : Int32), m) else ((ff_X13_isPlace N (os_A m 14 (5 * k)) (os_A m 14 (5 * k + 1))).bind fun v => (if v = 0 then some ((0 : Int32), m) else (if os_in (((4 : Int32) * (os_A m 14 (5 * k))) + (os_A m 14 (5 * k + 1))) 12 then (if ((os_A m 12) (Int32.toNatClampNeg (((4 : Int32) * (os_A m 14 (5 * k))) + (os_A m 14 (5 * k + 1))))) = (-1 : Int32) then some ((0 : Int32), m) else (if os_in (((4 : Int32) * (os_A m 14 (5 * k))) + (os_A m 14 (5 * k + 1))) 12 then ((ff_X13_presses N m ((os_A m 12) (Int32.toNatClampNeg (((4 : Int32) * (os_A m 14 (5 * k))) + (os_A m 14 (5 * k + 1))))) (os_A m 14 (5 * k + 2)) (os_A m 14 (5 * k + 3))).bind fun u => some ((1 : Int32), u)) else none)) else none))))) := by
  have i0 := (t_in0 hk).1
  have n0 := (t_in0 hk).2
  have i1 : os_in (Int32.ofInt ((5 * k : Nat) : Int) + (1 : Int32)) 300 := (t_in (a := 1) hk (by decide)).1
  have i2 : os_in (Int32.ofInt ((5 * k : Nat) : Int) + (2 : Int32)) 300 := (t_in (a := 2) hk (by decide)).1
  have i3 : os_in (Int32.ofInt ((5 * k : Nat) : Int) + (3 : Int32)) 300 := (t_in (a := 3) hk (by decide)).1
  have i4 : os_in (Int32.ofInt ((5 * k : Nat) : Int) + (4 : Int32)) 300 := (t_in (a := 4) hk (by decide)).1
  have n1 : Int32.toNatClampNeg (Int32.ofInt ((5 * k : Nat) : Int) + (1 : Int32)) = 5 * k + 1 := (t_in (a := 1) hk (by decide)).2
  have n2 : Int32.toNatClampNeg (Int32.ofInt ((5 * k : Nat) : Int) + (2 : Int32)) = 5 * k + 2 := (t_in (a := 2) hk (by decide)).2
  have n3 : Int32.toNatClampNeg (Int32.ofInt ((5 * k : Nat) : Int) + (3 : Int32)) = 5 * k + 3 := (t_in (a := 3) hk (by decide)).2
  have n4 : Int32.toNatClampNeg (Int32.ofInt ((5 * k : Nat) : Int) + (4 : Int32)) = 5 * k + 4 := (t_in (a := 4) hk (by decide)).2
  have o0 : ∀ {α : Type} {A B : α}, (if (0 : Int32) = 0 then A else B) = A := fun {α A B} => if_pos rfl
  have o1 : ∀ {α : Type} {A B : α}, (if (1 : Int32) = 0 then A else B) = B := fun {α A B} => if_neg (by decide)
  simp only [ff_X13_does, ff_X13_does_b401, ff_X13_does_b387, ff_X13_does_b377, ff_X13_does_b367, ff_X13_does_b354, ff_X13_does_b344, ff_X13_does_b334, ff_X13_does_b298, ff_X13_does_b262, ff_X13_does_b237, ff_X13_does_b211, ff_X13_does_b209, ff_X13_does_b208, ff_X13_does_b170, ff_X13_does_b168, ff_X13_does_b167, ff_X13_does_b119, ff_X13_does_b117, ff_X13_does_b116, ff_X13_does_b87, ff_X13_does_b85, ff_X13_does_b69, ff_X13_does_b64, ff_X13_does_b58, ff_X13_does_b40, if_pos i0, if_pos i1, if_pos i2, if_pos i3, if_pos i4, n0, n1, n2, n3, n4, o0, o1, reduceIte, if_neg (show ¬ (Int32.ofInt 3 = (0 : Int32)) by decide), if_neg (show ¬ (Int32.ofInt 3 = (1 : Int32)) by decide), if_neg (show ¬ (Int32.ofInt 3 = (2 : Int32)) by decide), if_pos (show Int32.ofInt 3 = (3 : Int32) from rfl), if_neg (show ¬ (Int32.ofInt 3 = (4 : Int32)) by decide), if_neg (show ¬ (Int32.ofInt 3 = (5 : Int32)) by decide), if_neg (show ¬ (Int32.ofInt 3 = (6 : Int32)) by decide), if_neg (show ¬ (Int32.ofInt 3 = (7 : Int32)) by decide), if_neg (show ¬ (Int32.ofInt 3 = (8 : Int32)) by decide), if_neg (show ¬ (Int32.ofInt 3 = (9 : Int32)) by decide), if_neg (show ¬ (Int32.ofInt 3 = (10 : Int32)) by decide), if_neg (show ¬ ((3 : Int32) < Int32.ofInt 3) by decide)]
theorem dz_4 (hk : k < 60) : ff_X13_does N m (Int32.ofInt 4) (Int32.ofInt ((5 * k : Nat) : Int)) = (if (os_A m 14 (5 * k)) ≤ 0 then some ((0 : Int32), m) else ((ff_X13_smooths N m (os_A m 14 (5 * k))).bind fun u => some ((1 : Int32), u))) := by
  have i0 := (t_in0 hk).1
  have n0 := (t_in0 hk).2
  have i1 : os_in (Int32.ofInt ((5 * k : Nat) : Int) + (1 : Int32)) 300 := (t_in (a := 1) hk (by decide)).1
  have i2 : os_in (Int32.ofInt ((5 * k : Nat) : Int) + (2 : Int32)) 300 := (t_in (a := 2) hk (by decide)).1
  have i3 : os_in (Int32.ofInt ((5 * k : Nat) : Int) + (3 : Int32)) 300 := (t_in (a := 3) hk (by decide)).1
  have i4 : os_in (Int32.ofInt ((5 * k : Nat) : Int) + (4 : Int32)) 300 := (t_in (a := 4) hk (by decide)).1
  have n1 : Int32.toNatClampNeg (Int32.ofInt ((5 * k : Nat) : Int) + (1 : Int32)) = 5 * k + 1 := (t_in (a := 1) hk (by decide)).2
  have n2 : Int32.toNatClampNeg (Int32.ofInt ((5 * k : Nat) : Int) + (2 : Int32)) = 5 * k + 2 := (t_in (a := 2) hk (by decide)).2
  have n3 : Int32.toNatClampNeg (Int32.ofInt ((5 * k : Nat) : Int) + (3 : Int32)) = 5 * k + 3 := (t_in (a := 3) hk (by decide)).2
  have n4 : Int32.toNatClampNeg (Int32.ofInt ((5 * k : Nat) : Int) + (4 : Int32)) = 5 * k + 4 := (t_in (a := 4) hk (by decide)).2
  have o0 : ∀ {α : Type} {A B : α}, (if (0 : Int32) = 0 then A else B) = A := fun {α A B} => if_pos rfl
  have o1 : ∀ {α : Type} {A B : α}, (if (1 : Int32) = 0 then A else B) = B := fun {α A B} => if_neg (by decide)
  simp only [ff_X13_does, ff_X13_does_b401, ff_X13_does_b387, ff_X13_does_b377, ff_X13_does_b367, ff_X13_does_b354, ff_X13_does_b344, ff_X13_does_b334, ff_X13_does_b298, ff_X13_does_b262, ff_X13_does_b237, ff_X13_does_b211, ff_X13_does_b209, ff_X13_does_b208, ff_X13_does_b170, ff_X13_does_b168, ff_X13_does_b167, ff_X13_does_b119, ff_X13_does_b117, ff_X13_does_b116, ff_X13_does_b87, ff_X13_does_b85, ff_X13_does_b69, ff_X13_does_b64, ff_X13_does_b58, ff_X13_does_b40, if_pos i0, if_pos i1, if_pos i2, if_pos i3, if_pos i4, n0, n1, n2, n3, n4, o0, o1, reduceIte, if_neg (show ¬ (Int32.ofInt 4 = (0 : Int32)) by decide), if_neg (show ¬ (Int32.ofInt 4 = (1 : Int32)) by decide), if_neg (show ¬ (Int32.ofInt 4 = (2 : Int32)) by decide), if_neg (show ¬ (Int32.ofInt 4 = (3 : Int32)) by decide), if_pos (show Int32.ofInt 4 = (4 : Int32) from rfl), if_neg (show ¬ (Int32.ofInt 4 = (5 : Int32)) by decide), if_neg (show ¬ (Int32.ofInt 4 = (6 : Int32)) by decide), if_neg (show ¬ (Int32.ofInt 4 = (7 : Int32)) by decide), if_neg (show ¬ (Int32.ofInt 4 = (8 : Int32)) by decide), if_neg (show ¬ (Int32.ofInt 4 = (9 : Int32)) by decide), if_neg (show ¬ (Int32.ofInt 4 = (10 : Int32)) by decide), if_pos (show (3 : Int32) < Int32.ofInt 4 by decide)]
theorem dz_5 (hk : k < 60) : ff_X13_does N m (Int32.ofInt 5) (Int32.ofInt ((5 * k : Nat) : Int)) = ((ff_X13_repairs N m).bind fun u => some ((1 : Int32), ss_I u.2 41 u.1)) := by
  have i0 := (t_in0 hk).1
  have n0 := (t_in0 hk).2
  have i1 : os_in (Int32.ofInt ((5 * k : Nat) : Int) + (1 : Int32)) 300 := (t_in (a := 1) hk (by decide)).1
  have i2 : os_in (Int32.ofInt ((5 * k : Nat) : Int) + (2 : Int32)) 300 := (t_in (a := 2) hk (by decide)).1
  have i3 : os_in (Int32.ofInt ((5 * k : Nat) : Int) + (3 : Int32)) 300 := (t_in (a := 3) hk (by decide)).1
  have i4 : os_in (Int32.ofInt ((5 * k : Nat) : Int) + (4 : Int32)) 300 := (t_in (a := 4) hk (by decide)).1
  have n1 : Int32.toNatClampNeg (Int32.ofInt ((5 * k : Nat) : Int) + (1 : Int32)) = 5 * k + 1 := (t_in (a := 1) hk (by decide)).2
  have n2 : Int32.toNatClampNeg (Int32.ofInt ((5 * k : Nat) : Int) + (2 : Int32)) = 5 * k + 2 := (t_in (a := 2) hk (by decide)).2
  have n3 : Int32.toNatClampNeg (Int32.ofInt ((5 * k : Nat) : Int) + (3 : Int32)) = 5 * k + 3 := (t_in (a := 3) hk (by decide)).2
  have n4 : Int32.toNatClampNeg (Int32.ofInt ((5 * k : Nat) : Int) + (4 : Int32)) = 5 * k + 4 := (t_in (a := 4) hk (by decide)).2
  have o0 : ∀ {α : Type} {A B : α}, (if (0 : Int32) = 0 then A else B) = A := fun {α A B} => if_pos rfl
  have o1 : ∀ {α : Type} {A B : α}, (if (1 : Int32) = 0 then A else B) = B := fun {α A B} => if_neg (by decide)
  simp only [ff_X13_does, ff_X13_does_b401, ff_X13_does_b387, ff_X13_does_b377, ff_X13_does_b367, ff_X13_does_b354, ff_X13_does_b344, ff_X13_does_b334, ff_X13_does_b298, ff_X13_does_b262, ff_X13_does_b237, ff_X13_does_b211, ff_X13_does_b209, ff_X13_does_b208, ff_X13_does_b170, ff_X13_does_b168, ff_X13_does_b167, ff_X13_does_b119, ff_X13_does_b117, ff_X13_does_b116, ff_X13_does_b87, ff_X13_does_b85, ff_X13_does_b69, ff_X13_does_b64, ff_X13_does_b58, ff_X13_does_b40, if_pos i0, if_pos i1, if_pos i2, if_pos i3, if_pos i4, n0, n1, n2, n3, n4, o0, o1, reduceIte, if_neg (show ¬ (Int32.ofInt 5 = (0 : Int32)) by decide), if_neg (show ¬ (Int32.ofInt 5 = (1 : Int32)) by decide), if_neg (show ¬ (Int32.ofInt 5 = (2 : Int32)) by decide), if_neg (show ¬ (Int32.ofInt 5 = (3 : Int32)) by decide), if_neg (show ¬ (Int32.ofInt 5 = (4 : Int32)) by decide), if_pos (show Int32.ofInt 5 = (5 : Int32) from rfl), if_neg (show ¬ (Int32.ofInt 5 = (6 : Int32)) by decide), if_neg (show ¬ (Int32.ofInt 5 = (7 : Int32)) by decide), if_neg (show ¬ (Int32.ofInt 5 = (8 : Int32)) by decide), if_neg (show ¬ (Int32.ofInt 5 = (9 : Int32)) by decide), if_neg (show ¬ (Int32.ofInt 5 = (10 : Int32)) by decide), if_pos (show (3 : Int32) < Int32.ofInt 5 by decide)]
theorem dz_6 (hk : k < 60) : ff_X13_does N m (Int32.ofInt 6) (Int32.ofInt ((5 * k : Nat) : Int)) = ((ff_X13_eases N m).bind fun u => some ((1 : Int32), u)) := by
  have i0 := (t_in0 hk).1
  have n0 := (t_in0 hk).2
  have i1 : os_in (Int32.ofInt ((5 * k : Nat) : Int) + (1 : Int32)) 300 := (t_in (a := 1) hk (by decide)).1
  have i2 : os_in (Int32.ofInt ((5 * k : Nat) : Int) + (2 : Int32)) 300 := (t_in (a := 2) hk (by decide)).1
  have i3 : os_in (Int32.ofInt ((5 * k : Nat) : Int) + (3 : Int32)) 300 := (t_in (a := 3) hk (by decide)).1
  have i4 : os_in (Int32.ofInt ((5 * k : Nat) : Int) + (4 : Int32)) 300 := (t_in (a := 4) hk (by decide)).1
  have n1 : Int32.toNatClampNeg (Int32.ofInt ((5 * k : Nat) : Int) + (1 : Int32)) = 5 * k + 1 := (t_in (a := 1) hk (by decide)).2
  have n2 : Int32.toNatClampNeg (Int32.ofInt ((5 * k : Nat) : Int) + (2 : Int32)) = 5 * k + 2 := (t_in (a := 2) hk (by decide)).2
  have n3 : Int32.toNatClampNeg (Int32.ofInt ((5 * k : Nat) : Int) + (3 : Int32)) = 5 * k + 3 := (t_in (a := 3) hk (by decide)).2
  have n4 : Int32.toNatClampNeg (Int32.ofInt ((5 * k : Nat) : Int) + (4 : Int32)) = 5 * k + 4 := (t_in (a := 4) hk (by decide)).2
  have o0 : ∀ {α : Type} {A B : α}, (if (0 : Int32) = 0 then A else B) = A := fun {α A B} => if_pos rfl
  have o1 : ∀ {α : Type} {A B : α}, (if (1 : Int32) = 0 then A else B) = B := fun {α A B} => if_neg (by decide)
  simp only [ff_X13_does, ff_X13_does_b401, ff_X13_does_b387, ff_X13_does_b377, ff_X13_does_b367, ff_X13_does_b354, ff_X13_does_b344, ff_X13_does_b334, ff_X13_does_b298, ff_X13_does_b262, ff_X13_does_b237, ff_X13_does_b211, ff_X13_does_b209, ff_X13_does_b208, ff_X13_does_b170, ff_X13_does_b168, ff_X13_does_b167, ff_X13_does_b119, ff_X13_does_b117, ff_X13_does_b116, ff_X13_does_b87, ff_X13_does_b85, ff_X13_does_b69, ff_X13_does_b64, ff_X13_does_b58, ff_X13_does_b40, if_pos i0, if_pos i1, if_pos i2, if_pos i3, if_pos i4, n0, n1, n2, n3, n4, o0, o1, reduceIte, if_neg (show ¬ (Int32.ofInt 6 = (0 : Int32)) by decide), if_neg (show ¬ (Int32.ofInt 6 = (1 : Int32)) by decide), if_neg (show ¬ (Int32.ofInt 6 = (2 : Int32)) by decide), if_neg (show ¬ (Int32.ofInt 6 = (3 : Int32)) by decide), if_neg (show ¬ (Int32.ofInt 6 = (4 : Int32)) by decide), if_neg (show ¬ (Int32.ofInt 6 = (5 : Int32)) by decide), if_pos (show Int32.ofInt 6 = (6 : Int32) from rfl), if_neg (show ¬ (Int32.ofInt 6 = (7 : Int32)) by decide), if_neg (show ¬ (Int32.ofInt 6 = (8 : Int32)) by decide), if_neg (show ¬ (Int32.ofInt 6 = (9 : Int32)) by decide), if_neg (show ¬ (Int32.ofInt 6 = (10 : Int32)) by decide), if_pos (show (3 : Int32) < Int32.ofInt 6 by decide)]
theorem dz_7 (hk : k < 60) : ff_X13_does N m (Int32.ofInt 7) (Int32.ofInt ((5 * k : Nat) : Int)) = ((ff_X13_dithers N m).bind fun u => some ((1 : Int32), u)) := by
  have i0 := (t_in0 hk).1
  have n0 := (t_in0 hk).2
  have i1 : os_in (Int32.ofInt ((5 * k : Nat) : Int) + (1 : Int32)) 300 := (t_in (a := 1) hk (by decide)).1
  have i2 : os_in (Int32.ofInt ((5 * k : Nat) : Int) + (2 : Int32)) 300 := (t_in (a := 2) hk (by decide)).1
  have i3 : os_in (Int32.ofInt ((5 * k : Nat) : Int) + (3 : Int32)) 300 := (t_in (a := 3) hk (by decide)).1
  have i4 : os_in (Int32.ofInt ((5 * k : Nat) : Int) + (4 : Int32)) 300 := (t_in (a := 4) hk (by decide)).1
  have n1 : Int32.toNatClampNeg (Int32.ofInt ((5 * k : Nat) : Int) + (1 : Int32)) = 5 * k + 1 := (t_in (a := 1) hk (by decide)).2
  have n2 : Int32.toNatClampNeg (Int32.ofInt ((5 * k : Nat) : Int) + (2 : Int32)) = 5 * k + 2 := (t_in (a := 2) hk (by decide)).2
  have n3 : Int32.toNatClampNeg (Int32.ofInt ((5 * k : Nat) : Int) + (3 : Int32)) = 5 * k + 3 := (t_in (a := 3) hk (by decide)).2
  have n4 : Int32.toNatClampNeg (Int32.ofInt ((5 * k : Nat) : Int) + (4 : Int32)) = 5 * k + 4 := (t_in (a := 4) hk (by decide)).2
  have o0 : ∀ {α : Type} {A B : α}, (if (0 : Int32) = 0 then A else B) = A := fun {α A B} => if_pos rfl
  have o1 : ∀ {α : Type} {A B : α}, (if (1 : Int32) = 0 then A else B) = B := fun {α A B} => if_neg (by decide)
  simp only [ff_X13_does, ff_X13_does_b401, ff_X13_does_b387, ff_X13_does_b377, ff_X13_does_b367, ff_X13_does_b354, ff_X13_does_b344, ff_X13_does_b334, ff_X13_does_b298, ff_X13_does_b262, ff_X13_does_b237, ff_X13_does_b211, ff_X13_does_b209, ff_X13_does_b208, ff_X13_does_b170, ff_X13_does_b168, ff_X13_does_b167, ff_X13_does_b119, ff_X13_does_b117, ff_X13_does_b116, ff_X13_does_b87, ff_X13_does_b85, ff_X13_does_b69, ff_X13_does_b64, ff_X13_does_b58, ff_X13_does_b40, if_pos i0, if_pos i1, if_pos i2, if_pos i3, if_pos i4, n0, n1, n2, n3, n4, o0, o1, reduceIte, if_neg (show ¬ (Int32.ofInt 7 = (0 : Int32)) by decide), if_neg (show ¬ (Int32.ofInt 7 = (1 : Int32)) by decide), if_neg (show ¬ (Int32.ofInt 7 = (2 : Int32)) by decide), if_neg (show ¬ (Int32.ofInt 7 = (3 : Int32)) by decide), if_neg (show ¬ (Int32.ofInt 7 = (4 : Int32)) by decide), if_neg (show ¬ (Int32.ofInt 7 = (5 : Int32)) by decide), if_neg (show ¬ (Int32.ofInt 7 = (6 : Int32)) by decide), if_pos (show Int32.ofInt 7 = (7 : Int32) from rfl), if_neg (show ¬ (Int32.ofInt 7 = (8 : Int32)) by decide), if_neg (show ¬ (Int32.ofInt 7 = (9 : Int32)) by decide), if_neg (show ¬ (Int32.ofInt 7 = (10 : Int32)) by decide), if_pos (show (3 : Int32) < Int32.ofInt 7 by decide)]
theorem dz_8 (hk : k < 60) : ff_X13_does N m (Int32.ofInt 8) (Int32.ofInt ((5 * k : Nat) : Int)) = ((ff_X13_polishesAll N m).bind fun u => some ((1 : Int32), u)) := by
  have i0 := (t_in0 hk).1
  have n0 := (t_in0 hk).2
  have i1 : os_in (Int32.ofInt ((5 * k : Nat) : Int) + (1 : Int32)) 300 := (t_in (a := 1) hk (by decide)).1
  have i2 : os_in (Int32.ofInt ((5 * k : Nat) : Int) + (2 : Int32)) 300 := (t_in (a := 2) hk (by decide)).1
  have i3 : os_in (Int32.ofInt ((5 * k : Nat) : Int) + (3 : Int32)) 300 := (t_in (a := 3) hk (by decide)).1
  have i4 : os_in (Int32.ofInt ((5 * k : Nat) : Int) + (4 : Int32)) 300 := (t_in (a := 4) hk (by decide)).1
  have n1 : Int32.toNatClampNeg (Int32.ofInt ((5 * k : Nat) : Int) + (1 : Int32)) = 5 * k + 1 := (t_in (a := 1) hk (by decide)).2
  have n2 : Int32.toNatClampNeg (Int32.ofInt ((5 * k : Nat) : Int) + (2 : Int32)) = 5 * k + 2 := (t_in (a := 2) hk (by decide)).2
  have n3 : Int32.toNatClampNeg (Int32.ofInt ((5 * k : Nat) : Int) + (3 : Int32)) = 5 * k + 3 := (t_in (a := 3) hk (by decide)).2
  have n4 : Int32.toNatClampNeg (Int32.ofInt ((5 * k : Nat) : Int) + (4 : Int32)) = 5 * k + 4 := (t_in (a := 4) hk (by decide)).2
  have o0 : ∀ {α : Type} {A B : α}, (if (0 : Int32) = 0 then A else B) = A := fun {α A B} => if_pos rfl
  have o1 : ∀ {α : Type} {A B : α}, (if (1 : Int32) = 0 then A else B) = B := fun {α A B} => if_neg (by decide)
  simp only [ff_X13_does, ff_X13_does_b401, ff_X13_does_b387, ff_X13_does_b377, ff_X13_does_b367, ff_X13_does_b354, ff_X13_does_b344, ff_X13_does_b334, ff_X13_does_b298, ff_X13_does_b262, ff_X13_does_b237, ff_X13_does_b211, ff_X13_does_b209, ff_X13_does_b208, ff_X13_does_b170, ff_X13_does_b168, ff_X13_does_b167, ff_X13_does_b119, ff_X13_does_b117, ff_X13_does_b116, ff_X13_does_b87, ff_X13_does_b85, ff_X13_does_b69, ff_X13_does_b64, ff_X13_does_b58, ff_X13_does_b40, if_pos i0, if_pos i1, if_pos i2, if_pos i3, if_pos i4, n0, n1, n2, n3, n4, o0, o1, reduceIte, if_neg (show ¬ (Int32.ofInt 8 = (0 : Int32)) by decide), if_neg (show ¬ (Int32.ofInt 8 = (1 : Int32)) by decide), if_neg (show ¬ (Int32.ofInt 8 = (2 : Int32)) by decide), if_neg (show ¬ (Int32.ofInt 8 = (3 : Int32)) by decide), if_neg (show ¬ (Int32.ofInt 8 = (4 : Int32)) by decide), if_neg (show ¬ (Int32.ofInt 8 = (5 : Int32)) by decide), if_neg (show ¬ (Int32.ofInt 8 = (6 : Int32)) by decide), if_neg (show ¬ (Int32.ofInt 8 = (7 : Int32)) by decide), if_pos (show Int32.ofInt 8 = (8 : Int32) from rfl), if_neg (show ¬ (Int32.ofInt 8 = (9 : Int32)) by decide), if_neg (show ¬ (Int32.ofInt 8 = (10 : Int32)) by decide), if_pos (show (3 : Int32) < Int32.ofInt 8 by decide)]
theorem dz_9 (hk : k < 60) : ff_X13_does N m (Int32.ofInt 9) (Int32.ofInt ((5 * k : Nat) : Int)) = ((ff_X13_retones N m (-1 : Int32) (255 : Int32)).bind fun u => some ((1 : Int32), u)) := by
  have i0 := (t_in0 hk).1
  have n0 := (t_in0 hk).2
  have i1 : os_in (Int32.ofInt ((5 * k : Nat) : Int) + (1 : Int32)) 300 := (t_in (a := 1) hk (by decide)).1
  have i2 : os_in (Int32.ofInt ((5 * k : Nat) : Int) + (2 : Int32)) 300 := (t_in (a := 2) hk (by decide)).1
  have i3 : os_in (Int32.ofInt ((5 * k : Nat) : Int) + (3 : Int32)) 300 := (t_in (a := 3) hk (by decide)).1
  have i4 : os_in (Int32.ofInt ((5 * k : Nat) : Int) + (4 : Int32)) 300 := (t_in (a := 4) hk (by decide)).1
  have n1 : Int32.toNatClampNeg (Int32.ofInt ((5 * k : Nat) : Int) + (1 : Int32)) = 5 * k + 1 := (t_in (a := 1) hk (by decide)).2
  have n2 : Int32.toNatClampNeg (Int32.ofInt ((5 * k : Nat) : Int) + (2 : Int32)) = 5 * k + 2 := (t_in (a := 2) hk (by decide)).2
  have n3 : Int32.toNatClampNeg (Int32.ofInt ((5 * k : Nat) : Int) + (3 : Int32)) = 5 * k + 3 := (t_in (a := 3) hk (by decide)).2
  have n4 : Int32.toNatClampNeg (Int32.ofInt ((5 * k : Nat) : Int) + (4 : Int32)) = 5 * k + 4 := (t_in (a := 4) hk (by decide)).2
  have o0 : ∀ {α : Type} {A B : α}, (if (0 : Int32) = 0 then A else B) = A := fun {α A B} => if_pos rfl
  have o1 : ∀ {α : Type} {A B : α}, (if (1 : Int32) = 0 then A else B) = B := fun {α A B} => if_neg (by decide)
  simp only [ff_X13_does, ff_X13_does_b401, ff_X13_does_b387, ff_X13_does_b377, ff_X13_does_b367, ff_X13_does_b354, ff_X13_does_b344, ff_X13_does_b334, ff_X13_does_b298, ff_X13_does_b262, ff_X13_does_b237, ff_X13_does_b211, ff_X13_does_b209, ff_X13_does_b208, ff_X13_does_b170, ff_X13_does_b168, ff_X13_does_b167, ff_X13_does_b119, ff_X13_does_b117, ff_X13_does_b116, ff_X13_does_b87, ff_X13_does_b85, ff_X13_does_b69, ff_X13_does_b64, ff_X13_does_b58, ff_X13_does_b40, if_pos i0, if_pos i1, if_pos i2, if_pos i3, if_pos i4, n0, n1, n2, n3, n4, o0, o1, reduceIte, if_neg (show ¬ (Int32.ofInt 9 = (0 : Int32)) by decide), if_neg (show ¬ (Int32.ofInt 9 = (1 : Int32)) by decide), if_neg (show ¬ (Int32.ofInt 9 = (2 : Int32)) by decide), if_neg (show ¬ (Int32.ofInt 9 = (3 : Int32)) by decide), if_neg (show ¬ (Int32.ofInt 9 = (4 : Int32)) by decide), if_neg (show ¬ (Int32.ofInt 9 = (5 : Int32)) by decide), if_neg (show ¬ (Int32.ofInt 9 = (6 : Int32)) by decide), if_neg (show ¬ (Int32.ofInt 9 = (7 : Int32)) by decide), if_neg (show ¬ (Int32.ofInt 9 = (8 : Int32)) by decide), if_pos (show Int32.ofInt 9 = (9 : Int32) from rfl), if_neg (show ¬ (Int32.ofInt 9 = (10 : Int32)) by decide), if_pos (show (3 : Int32) < Int32.ofInt 9 by decide)]
theorem dz_10 (hk : k < 60) : ff_X13_does N m (Int32.ofInt 10) (Int32.ofInt ((5 * k : Nat) : Int)) = ((ff_X13_mirrors N m).bind fun u => some ((1 : Int32), u)) := by
  have i0 := (t_in0 hk).1
  have n0 := (t_in0 hk).2
  have i1 : os_in (Int32.ofInt ((5 * k : Nat) : Int) + (1 : Int32)) 300 := (t_in (a := 1) hk (by decide)).1
  have i2 : os_in (Int32.ofInt ((5 * k : Nat) : Int) + (2 : Int32)) 300 := (t_in (a := 2) hk (by decide)).1
  have i3 : os_in (Int32.ofInt ((5 * k : Nat) : Int) + (3 : Int32)) 300 := (t_in (a := 3) hk (by decide)).1
  have i4 : os_in (Int32.ofInt ((5 * k : Nat) : Int) + (4 : Int32)) 300 := (t_in (a := 4) hk (by decide)).1
  have n1 : Int32.toNatClampNeg (Int32.ofInt ((5 * k : Nat) : Int) + (1 : Int32)) = 5 * k + 1 := (t_in (a := 1) hk (by decide)).2
  have n2 : Int32.toNatClampNeg (Int32.ofInt ((5 * k : Nat) : Int) + (2 : Int32)) = 5 * k + 2 := (t_in (a := 2) hk (by decide)).2
  have n3 : Int32.toNatClampNeg (Int32.ofInt ((5 * k : Nat) : Int) + (3 : Int32)) = 5 * k + 3 := (t_in (a := 3) hk (by decide)).2
  have n4 : Int32.toNatClampNeg (Int32.ofInt ((5 * k : Nat) : Int) + (4 : Int32)) = 5 * k + 4 := (t_in (a := 4) hk (by decide)).2
  have o0 : ∀ {α : Type} {A B : α}, (if (0 : Int32) = 0 then A else B) = A := fun {α A B} => if_pos rfl
  have o1 : ∀ {α : Type} {A B : α}, (if (1 : Int32) = 0 then A else B) = B := fun {α A B} => if_neg (by decide)
  simp only [ff_X13_does, ff_X13_does_b401, ff_X13_does_b387, ff_X13_does_b377, ff_X13_does_b367, ff_X13_does_b354, ff_X13_does_b344, ff_X13_does_b334, ff_X13_does_b298, ff_X13_does_b262, ff_X13_does_b237, ff_X13_does_b211, ff_X13_does_b209, ff_X13_does_b208, ff_X13_does_b170, ff_X13_does_b168, ff_X13_does_b167, ff_X13_does_b119, ff_X13_does_b117, ff_X13_does_b116, ff_X13_does_b87, ff_X13_does_b85, ff_X13_does_b69, ff_X13_does_b64, ff_X13_does_b58, ff_X13_does_b40, if_pos i0, if_pos i1, if_pos i2, if_pos i3, if_pos i4, n0, n1, n2, n3, n4, o0, o1, reduceIte, if_neg (show ¬ (Int32.ofInt 10 = (0 : Int32)) by decide), if_neg (show ¬ (Int32.ofInt 10 = (1 : Int32)) by decide), if_neg (show ¬ (Int32.ofInt 10 = (2 : Int32)) by decide), if_neg (show ¬ (Int32.ofInt 10 = (3 : Int32)) by decide), if_neg (show ¬ (Int32.ofInt 10 = (4 : Int32)) by decide), if_neg (show ¬ (Int32.ofInt 10 = (5 : Int32)) by decide), if_neg (show ¬ (Int32.ofInt 10 = (6 : Int32)) by decide), if_neg (show ¬ (Int32.ofInt 10 = (7 : Int32)) by decide), if_neg (show ¬ (Int32.ofInt 10 = (8 : Int32)) by decide), if_neg (show ¬ (Int32.ofInt 10 = (9 : Int32)) by decide), if_pos (show Int32.ofInt 10 = (10 : Int32) from rfl), if_pos (show (3 : Int32) < Int32.ofInt 10 by decide)]
end Does
section Try
variable {N i k : Nat} {x o sp wa w s m : os_T} {S : Nat → Nat} {T H T0 H0 : Int → Int → Int} {R : Nat → Int}
theorem nb_r {a : Nat} (hi : i < 30) (ha : a < 5) : ff_X8_numberOf N s (Int32.ofInt (i : Int)) (Int32.ofInt (a : Int)) = some (os_A s 0 (5 * i + a)) := by
  unfold ff_X8_numberOf
  rw [ix_in hi, Option.bind_some, if_neg (show ¬ ((1 : Int32) = 0) by decide)]
  simp only [i0_lt (a := (a : Int)) (by omega)]
  rw [if_neg (by omega), ii_5, ii_le (by omega) (by omega), if_neg (by omega), ia_mul, ia_add, if_pos (ia_in (by omega) (by omega) (by omega)), ia_nat (by omega) (by omega)]
  congr 2
  omega
theorem cm_at {c : Nat} (hi : i < 30) (h : os_R s 0 i = some c) : ff_X8_commandAt N s (Int32.ofInt (i : Int)) = some (0, some c) := by
  unfold ff_X8_commandAt
  rw [ix_in hi, Option.bind_some, if_neg (show ¬ ((1 : Int32) = 0) by decide), if_pos (ia_in (by omega) (by omega) (by omega)), ia_nat (by omega) (by omega), Int.toNat_natCast, h]
  rfl
theorem tz_0 (hi : i < 30) (h : os_R s 0 i = some 0) : ff_X12_tryCommand N x o sp wa w s (Int32.ofInt (i : Int)) = ((ff_X12_tryTone N x o (os_A s 0 (5 * i)) (os_A s 0 (5 * i + 1)) (os_A s 0 (5 * i + 2))).bind fun u_16 => (if os_z u_16.1 then some (0, u_16.1, u_16.2, sp, wa) else none)) := by
  have n0 : ff_X8_numberOf N s (Int32.ofInt (i : Int)) (0 : Int32) = some (os_A s 0 (5 * i)) := nb_r (a := 0) hi (by decide)
  have n1 : ff_X8_numberOf N s (Int32.ofInt (i : Int)) (1 : Int32) = some (os_A s 0 (5 * i + 1)) := nb_r (a := 1) hi (by decide)
  have n2 : ff_X8_numberOf N s (Int32.ofInt (i : Int)) (2 : Int32) = some (os_A s 0 (5 * i + 2)) := nb_r (a := 2) hi (by decide)
  have n3 : ff_X8_numberOf N s (Int32.ofInt (i : Int)) (3 : Int32) = some (os_A s 0 (5 * i + 3)) := nb_r (a := 3) hi (by decide)
  have n4 : ff_X8_numberOf N s (Int32.ofInt (i : Int)) (4 : Int32) = some (os_A s 0 (5 * i + 4)) := nb_r (a := 4) hi (by decide)
  have g : ∀ (a : Option (Nat × Int32 × os_T × os_T × os_T)) (f : Nat → Option (Nat × Int32 × os_T × os_T × os_T)), os_opt (some 0) a f = f 0 := fun a f => rfl
  unfold ff_X12_tryCommand
  rw [cm_at hi h, Option.bind_some, if_pos rfl, g, n0, Option.bind_some, n1, Option.bind_some, n2, Option.bind_some, n3, Option.bind_some, if_pos (show 0 < 12 by decide), if_pos (show os_in (Int32.ofNat 0) 12 by decide), if_pos (show st_sm.getD (Int32.toNatClampNeg (Int32.ofNat 0)) 0 = 1 by decide)]
theorem tz_1 (hi : i < 30) (h : os_R s 0 i = some 1) : ff_X12_tryCommand N x o sp wa w s (Int32.ofInt (i : Int)) = ((ff_X12_tryFill N x o (os_A s 0 (5 * i)) (os_A s 0 (5 * i + 1)) (1 : Int32) (1 : Int32) (os_A s 0 (5 * i + 2))).bind fun u_20 => (if os_z u_20.1 then some (0, u_20.1, u_20.2, sp, wa) else none)) := by
  have n0 : ff_X8_numberOf N s (Int32.ofInt (i : Int)) (0 : Int32) = some (os_A s 0 (5 * i)) := nb_r (a := 0) hi (by decide)
  have n1 : ff_X8_numberOf N s (Int32.ofInt (i : Int)) (1 : Int32) = some (os_A s 0 (5 * i + 1)) := nb_r (a := 1) hi (by decide)
  have n2 : ff_X8_numberOf N s (Int32.ofInt (i : Int)) (2 : Int32) = some (os_A s 0 (5 * i + 2)) := nb_r (a := 2) hi (by decide)
  have n3 : ff_X8_numberOf N s (Int32.ofInt (i : Int)) (3 : Int32) = some (os_A s 0 (5 * i + 3)) := nb_r (a := 3) hi (by decide)
  have n4 : ff_X8_numberOf N s (Int32.ofInt (i : Int)) (4 : Int32) = some (os_A s 0 (5 * i + 4)) := nb_r (a := 4) hi (by decide)
  have g : ∀ (a : Option (Nat × Int32 × os_T × os_T × os_T)) (f : Nat → Option (Nat × Int32 × os_T × os_T × os_T)), os_opt (some 1) a f = f 1 := fun a f => rfl
  unfold ff_X12_tryCommand
  rw [cm_at hi h, Option.bind_some, if_pos rfl, g, n0, Option.bind_some, n1, Option.bind_some, n2, Option.bind_some, n3, Option.bind_some, if_pos (show 1 < 12 by decide), if_pos (show os_in (Int32.ofNat 1) 12 by decide), if_neg (show ¬ (st_sm.getD (Int32.toNatClampNeg (Int32.ofNat 1)) 0 = 1) by decide), if_pos (show st_sm.getD (Int32.toNatClampNeg (Int32.ofNat 1)) 0 = 2 by decide)]
theorem tz_2 (hi : i < 30) (h : os_R s 0 i = some 2) : ff_X12_tryCommand N x o sp wa w s (Int32.ofInt (i : Int)) = ((ff_X12_tryFill N x o (os_A s 0 (5 * i)) (os_A s 0 (5 * i + 1)) (os_A s 0 (5 * i + 2)) (os_A s 0 (5 * i + 3)) (os_A s 0 (5 * i + 4))).bind fun u_26 => (if os_z u_26.1 then some (0, u_26.1, u_26.2, sp, wa) else none)) := by
  have n0 : ff_X8_numberOf N s (Int32.ofInt (i : Int)) (0 : Int32) = some (os_A s 0 (5 * i)) := nb_r (a := 0) hi (by decide)
  have n1 : ff_X8_numberOf N s (Int32.ofInt (i : Int)) (1 : Int32) = some (os_A s 0 (5 * i + 1)) := nb_r (a := 1) hi (by decide)
  have n2 : ff_X8_numberOf N s (Int32.ofInt (i : Int)) (2 : Int32) = some (os_A s 0 (5 * i + 2)) := nb_r (a := 2) hi (by decide)
  have n3 : ff_X8_numberOf N s (Int32.ofInt (i : Int)) (3 : Int32) = some (os_A s 0 (5 * i + 3)) := nb_r (a := 3) hi (by decide)
  have n4 : ff_X8_numberOf N s (Int32.ofInt (i : Int)) (4 : Int32) = some (os_A s 0 (5 * i + 4)) := nb_r (a := 4) hi (by decide)
  have g : ∀ (a : Option (Nat × Int32 × os_T × os_T × os_T)) (f : Nat → Option (Nat × Int32 × os_T × os_T × os_T)), os_opt (some 2) a f = f 2 := fun a f => rfl
  unfold ff_X12_tryCommand
  rw [cm_at hi h, Option.bind_some, if_pos rfl, g, n0, Option.bind_some, n1, Option.bind_some, n2, Option.bind_some, n3, Option.bind_some, if_pos (show 2 < 12 by decide), if_pos (show os_in (Int32.ofNat 2) 12 by decide), if_neg (show ¬ (st_sm.getD (Int32.toNatClampNeg (Int32.ofNat 2)) 0 = 1) by decide), if_neg (show ¬ (st_sm.getD (Int32.toNatClampNeg (Int32.ofNat 2)) 0 = 2) by decide), if_pos (show st_sm.getD (Int32.toNatClampNeg (Int32.ofNat 2)) 0 = 3 by decide), n4, Option.bind_some]
theorem tz_3 (hi : i < 30) (h : os_R s 0 i = some 3) : ff_X12_tryCommand N x o sp wa w s (Int32.ofInt (i : Int)) = ((ff_X12_tryStamp N x o w (os_A s 0 (5 * i)) (os_A s 0 (5 * i + 1)) (os_A s 0 (5 * i + 2)) (os_A s 0 (5 * i + 3))).bind fun u_30 => (if os_z u_30.1 then some (0, u_30.1, u_30.2, sp, wa) else none)) := by
  have n0 : ff_X8_numberOf N s (Int32.ofInt (i : Int)) (0 : Int32) = some (os_A s 0 (5 * i)) := nb_r (a := 0) hi (by decide)
  have n1 : ff_X8_numberOf N s (Int32.ofInt (i : Int)) (1 : Int32) = some (os_A s 0 (5 * i + 1)) := nb_r (a := 1) hi (by decide)
  have n2 : ff_X8_numberOf N s (Int32.ofInt (i : Int)) (2 : Int32) = some (os_A s 0 (5 * i + 2)) := nb_r (a := 2) hi (by decide)
  have n3 : ff_X8_numberOf N s (Int32.ofInt (i : Int)) (3 : Int32) = some (os_A s 0 (5 * i + 3)) := nb_r (a := 3) hi (by decide)
  have n4 : ff_X8_numberOf N s (Int32.ofInt (i : Int)) (4 : Int32) = some (os_A s 0 (5 * i + 4)) := nb_r (a := 4) hi (by decide)
  have g : ∀ (a : Option (Nat × Int32 × os_T × os_T × os_T)) (f : Nat → Option (Nat × Int32 × os_T × os_T × os_T)), os_opt (some 3) a f = f 3 := fun a f => rfl
  unfold ff_X12_tryCommand
  rw [cm_at hi h, Option.bind_some, if_pos rfl, g, n0, Option.bind_some, n1, Option.bind_some, n2, Option.bind_some, n3, Option.bind_some, if_pos (show 3 < 12 by decide), if_pos (show os_in (Int32.ofNat 3) 12 by decide), if_neg (show ¬ (st_sm.getD (Int32.toNatClampNeg (Int32.ofNat 3)) 0 = 1) by decide), if_neg (show ¬ (st_sm.getD (Int32.toNatClampNeg (Int32.ofNat 3)) 0 = 2) by decide), if_neg (show ¬ (st_sm.getD (Int32.toNatClampNeg (Int32.ofNat 3)) 0 = 3) by decide), if_pos (show st_sm.getD (Int32.toNatClampNeg (Int32.ofNat 3)) 0 = 4 by decide)]
theorem tz_4 (hi : i < 30) (h : os_R s 0 i = some 4) : ff_X12_tryCommand N x o sp wa w s (Int32.ofInt (i : Int)) = ((ff_X12_trySmooth N x o sp (os_A s 0 (5 * i))).bind fun u_34 => (if os_z u_34.1 then some (0, u_34.1, u_34.2.1, u_34.2.2, wa) else none)) := by
  have n0 : ff_X8_numberOf N s (Int32.ofInt (i : Int)) (0 : Int32) = some (os_A s 0 (5 * i)) := nb_r (a := 0) hi (by decide)
  have n1 : ff_X8_numberOf N s (Int32.ofInt (i : Int)) (1 : Int32) = some (os_A s 0 (5 * i + 1)) := nb_r (a := 1) hi (by decide)
  have n2 : ff_X8_numberOf N s (Int32.ofInt (i : Int)) (2 : Int32) = some (os_A s 0 (5 * i + 2)) := nb_r (a := 2) hi (by decide)
  have n3 : ff_X8_numberOf N s (Int32.ofInt (i : Int)) (3 : Int32) = some (os_A s 0 (5 * i + 3)) := nb_r (a := 3) hi (by decide)
  have n4 : ff_X8_numberOf N s (Int32.ofInt (i : Int)) (4 : Int32) = some (os_A s 0 (5 * i + 4)) := nb_r (a := 4) hi (by decide)
  have g : ∀ (a : Option (Nat × Int32 × os_T × os_T × os_T)) (f : Nat → Option (Nat × Int32 × os_T × os_T × os_T)), os_opt (some 4) a f = f 4 := fun a f => rfl
  unfold ff_X12_tryCommand
  rw [cm_at hi h, Option.bind_some, if_pos rfl, g, n0, Option.bind_some, n1, Option.bind_some, n2, Option.bind_some, n3, Option.bind_some, if_pos (show 4 < 12 by decide), if_pos (show os_in (Int32.ofNat 4) 12 by decide), if_neg (show ¬ (st_sm.getD (Int32.toNatClampNeg (Int32.ofNat 4)) 0 = 1) by decide), if_neg (show ¬ (st_sm.getD (Int32.toNatClampNeg (Int32.ofNat 4)) 0 = 2) by decide), if_neg (show ¬ (st_sm.getD (Int32.toNatClampNeg (Int32.ofNat 4)) 0 = 3) by decide), if_neg (show ¬ (st_sm.getD (Int32.toNatClampNeg (Int32.ofNat 4)) 0 = 4) by decide), if_pos (show st_sm.getD (Int32.toNatClampNeg (Int32.ofNat 4)) 0 = 5 by decide)]
theorem tz_5 (hi : i < 30) (h : os_R s 0 i = some 5) : ff_X12_tryCommand N x o sp wa w s (Int32.ofInt (i : Int)) = ((ff_X11_takeDown N wa o).bind fun u_38 => some (0, (1 : Int32), u_38.2.2, sp, u_38.2.1)) := by
  have n0 : ff_X8_numberOf N s (Int32.ofInt (i : Int)) (0 : Int32) = some (os_A s 0 (5 * i)) := nb_r (a := 0) hi (by decide)
  have n1 : ff_X8_numberOf N s (Int32.ofInt (i : Int)) (1 : Int32) = some (os_A s 0 (5 * i + 1)) := nb_r (a := 1) hi (by decide)
  have n2 : ff_X8_numberOf N s (Int32.ofInt (i : Int)) (2 : Int32) = some (os_A s 0 (5 * i + 2)) := nb_r (a := 2) hi (by decide)
  have n3 : ff_X8_numberOf N s (Int32.ofInt (i : Int)) (3 : Int32) = some (os_A s 0 (5 * i + 3)) := nb_r (a := 3) hi (by decide)
  have n4 : ff_X8_numberOf N s (Int32.ofInt (i : Int)) (4 : Int32) = some (os_A s 0 (5 * i + 4)) := nb_r (a := 4) hi (by decide)
  have g : ∀ (a : Option (Nat × Int32 × os_T × os_T × os_T)) (f : Nat → Option (Nat × Int32 × os_T × os_T × os_T)), os_opt (some 5) a f = f 5 := fun a f => rfl
  unfold ff_X12_tryCommand
  rw [cm_at hi h, Option.bind_some, if_pos rfl, g, n0, Option.bind_some, n1, Option.bind_some, n2, Option.bind_some, n3, Option.bind_some, if_pos (show 5 < 12 by decide), if_pos (show os_in (Int32.ofNat 5) 12 by decide), if_neg (show ¬ (st_sm.getD (Int32.toNatClampNeg (Int32.ofNat 5)) 0 = 1) by decide), if_neg (show ¬ (st_sm.getD (Int32.toNatClampNeg (Int32.ofNat 5)) 0 = 2) by decide), if_neg (show ¬ (st_sm.getD (Int32.toNatClampNeg (Int32.ofNat 5)) 0 = 3) by decide), if_neg (show ¬ (st_sm.getD (Int32.toNatClampNeg (Int32.ofNat 5)) 0 = 4) by decide), if_neg (show ¬ (st_sm.getD (Int32.toNatClampNeg (Int32.ofNat 5)) 0 = 5) by decide), if_pos (show st_sm.getD (Int32.toNatClampNeg (Int32.ofNat 5)) 0 = 6 by decide)]
theorem tz_6 (hi : i < 30) (h : os_R s 0 i = some 6) : ff_X12_tryCommand N x o sp wa w s (Int32.ofInt (i : Int)) = ((ff_X9_settle N o).bind fun u_41 => some (0, (1 : Int32), u_41.2, sp, wa)) := by
  have n0 : ff_X8_numberOf N s (Int32.ofInt (i : Int)) (0 : Int32) = some (os_A s 0 (5 * i)) := nb_r (a := 0) hi (by decide)
  have n1 : ff_X8_numberOf N s (Int32.ofInt (i : Int)) (1 : Int32) = some (os_A s 0 (5 * i + 1)) := nb_r (a := 1) hi (by decide)
  have n2 : ff_X8_numberOf N s (Int32.ofInt (i : Int)) (2 : Int32) = some (os_A s 0 (5 * i + 2)) := nb_r (a := 2) hi (by decide)
  have n3 : ff_X8_numberOf N s (Int32.ofInt (i : Int)) (3 : Int32) = some (os_A s 0 (5 * i + 3)) := nb_r (a := 3) hi (by decide)
  have n4 : ff_X8_numberOf N s (Int32.ofInt (i : Int)) (4 : Int32) = some (os_A s 0 (5 * i + 4)) := nb_r (a := 4) hi (by decide)
  have g : ∀ (a : Option (Nat × Int32 × os_T × os_T × os_T)) (f : Nat → Option (Nat × Int32 × os_T × os_T × os_T)), os_opt (some 6) a f = f 6 := fun a f => rfl
  unfold ff_X12_tryCommand
  rw [cm_at hi h, Option.bind_some, if_pos rfl, g, n0, Option.bind_some, n1, Option.bind_some, n2, Option.bind_some, n3, Option.bind_some, if_pos (show 6 < 12 by decide), if_pos (show os_in (Int32.ofNat 6) 12 by decide), if_neg (show ¬ (st_sm.getD (Int32.toNatClampNeg (Int32.ofNat 6)) 0 = 1) by decide), if_neg (show ¬ (st_sm.getD (Int32.toNatClampNeg (Int32.ofNat 6)) 0 = 2) by decide), if_neg (show ¬ (st_sm.getD (Int32.toNatClampNeg (Int32.ofNat 6)) 0 = 3) by decide), if_neg (show ¬ (st_sm.getD (Int32.toNatClampNeg (Int32.ofNat 6)) 0 = 4) by decide), if_neg (show ¬ (st_sm.getD (Int32.toNatClampNeg (Int32.ofNat 6)) 0 = 5) by decide), if_neg (show ¬ (st_sm.getD (Int32.toNatClampNeg (Int32.ofNat 6)) 0 = 6) by decide), if_pos (show st_sm.getD (Int32.toNatClampNeg (Int32.ofNat 6)) 0 = 7 by decide)]
theorem tz_7 (hi : i < 30) (h : os_R s 0 i = some 7) : ff_X12_tryCommand N x o sp wa w s (Int32.ofInt (i : Int)) = ((ff_X2_spread N o).bind fun u_44 => some (0, (1 : Int32), u_44.2, sp, wa)) := by
  have n0 : ff_X8_numberOf N s (Int32.ofInt (i : Int)) (0 : Int32) = some (os_A s 0 (5 * i)) := nb_r (a := 0) hi (by decide)
  have n1 : ff_X8_numberOf N s (Int32.ofInt (i : Int)) (1 : Int32) = some (os_A s 0 (5 * i + 1)) := nb_r (a := 1) hi (by decide)
  have n2 : ff_X8_numberOf N s (Int32.ofInt (i : Int)) (2 : Int32) = some (os_A s 0 (5 * i + 2)) := nb_r (a := 2) hi (by decide)
  have n3 : ff_X8_numberOf N s (Int32.ofInt (i : Int)) (3 : Int32) = some (os_A s 0 (5 * i + 3)) := nb_r (a := 3) hi (by decide)
  have n4 : ff_X8_numberOf N s (Int32.ofInt (i : Int)) (4 : Int32) = some (os_A s 0 (5 * i + 4)) := nb_r (a := 4) hi (by decide)
  have g : ∀ (a : Option (Nat × Int32 × os_T × os_T × os_T)) (f : Nat → Option (Nat × Int32 × os_T × os_T × os_T)), os_opt (some 7) a f = f 7 := fun a f => rfl
  unfold ff_X12_tryCommand
  rw [cm_at hi h, Option.bind_some, if_pos rfl, g, n0, Option.bind_some, n1, Option.bind_some, n2, Option.bind_some, n3, Option.bind_some, if_pos (show 7 < 12 by decide), if_pos (show os_in (Int32.ofNat 7) 12 by decide), if_neg (show ¬ (st_sm.getD (Int32.toNatClampNeg (Int32.ofNat 7)) 0 = 1) by decide), if_neg (show ¬ (st_sm.getD (Int32.toNatClampNeg (Int32.ofNat 7)) 0 = 2) by decide), if_neg (show ¬ (st_sm.getD (Int32.toNatClampNeg (Int32.ofNat 7)) 0 = 3) by decide), if_neg (show ¬ (st_sm.getD (Int32.toNatClampNeg (Int32.ofNat 7)) 0 = 4) by decide), if_neg (show ¬ (st_sm.getD (Int32.toNatClampNeg (Int32.ofNat 7)) 0 = 5) by decide), if_neg (show ¬ (st_sm.getD (Int32.toNatClampNeg (Int32.ofNat 7)) 0 = 6) by decide), if_neg (show ¬ (st_sm.getD (Int32.toNatClampNeg (Int32.ofNat 7)) 0 = 7) by decide), if_pos (show st_sm.getD (Int32.toNatClampNeg (Int32.ofNat 7)) 0 = 8 by decide)]
theorem tz_8 (hi : i < 30) (h : os_R s 0 i = some 8) : ff_X12_tryCommand N x o sp wa w s (Int32.ofInt (i : Int)) = ((ff_X2_refine N o).bind fun u_47 => some (0, (1 : Int32), u_47.2, sp, wa)) := by
  have n0 : ff_X8_numberOf N s (Int32.ofInt (i : Int)) (0 : Int32) = some (os_A s 0 (5 * i)) := nb_r (a := 0) hi (by decide)
  have n1 : ff_X8_numberOf N s (Int32.ofInt (i : Int)) (1 : Int32) = some (os_A s 0 (5 * i + 1)) := nb_r (a := 1) hi (by decide)
  have n2 : ff_X8_numberOf N s (Int32.ofInt (i : Int)) (2 : Int32) = some (os_A s 0 (5 * i + 2)) := nb_r (a := 2) hi (by decide)
  have n3 : ff_X8_numberOf N s (Int32.ofInt (i : Int)) (3 : Int32) = some (os_A s 0 (5 * i + 3)) := nb_r (a := 3) hi (by decide)
  have n4 : ff_X8_numberOf N s (Int32.ofInt (i : Int)) (4 : Int32) = some (os_A s 0 (5 * i + 4)) := nb_r (a := 4) hi (by decide)
  have g : ∀ (a : Option (Nat × Int32 × os_T × os_T × os_T)) (f : Nat → Option (Nat × Int32 × os_T × os_T × os_T)), os_opt (some 8) a f = f 8 := fun a f => rfl
  unfold ff_X12_tryCommand
  rw [cm_at hi h, Option.bind_some, if_pos rfl, g, n0, Option.bind_some, n1, Option.bind_some, n2, Option.bind_some, n3, Option.bind_some, if_pos (show 8 < 12 by decide), if_pos (show os_in (Int32.ofNat 8) 12 by decide), if_neg (show ¬ (st_sm.getD (Int32.toNatClampNeg (Int32.ofNat 8)) 0 = 1) by decide), if_neg (show ¬ (st_sm.getD (Int32.toNatClampNeg (Int32.ofNat 8)) 0 = 2) by decide), if_neg (show ¬ (st_sm.getD (Int32.toNatClampNeg (Int32.ofNat 8)) 0 = 3) by decide), if_neg (show ¬ (st_sm.getD (Int32.toNatClampNeg (Int32.ofNat 8)) 0 = 4) by decide), if_neg (show ¬ (st_sm.getD (Int32.toNatClampNeg (Int32.ofNat 8)) 0 = 5) by decide), if_neg (show ¬ (st_sm.getD (Int32.toNatClampNeg (Int32.ofNat 8)) 0 = 6) by decide), if_neg (show ¬ (st_sm.getD (Int32.toNatClampNeg (Int32.ofNat 8)) 0 = 7) by decide), if_neg (show ¬ (st_sm.getD (Int32.toNatClampNeg (Int32.ofNat 8)) 0 = 8) by decide), if_pos (show st_sm.getD (Int32.toNatClampNeg (Int32.ofNat 8)) 0 = 9 by decide)]
theorem tz_9 (hi : i < 30) (h : os_R s 0 i = some 9) : ff_X12_tryCommand N x o sp wa w s (Int32.ofInt (i : Int)) = ((ff_X5_negate N o).bind fun u_50 => some (0, (1 : Int32), u_50.2, sp, wa)) := by
  have n0 : ff_X8_numberOf N s (Int32.ofInt (i : Int)) (0 : Int32) = some (os_A s 0 (5 * i)) := nb_r (a := 0) hi (by decide)
  have n1 : ff_X8_numberOf N s (Int32.ofInt (i : Int)) (1 : Int32) = some (os_A s 0 (5 * i + 1)) := nb_r (a := 1) hi (by decide)
  have n2 : ff_X8_numberOf N s (Int32.ofInt (i : Int)) (2 : Int32) = some (os_A s 0 (5 * i + 2)) := nb_r (a := 2) hi (by decide)
  have n3 : ff_X8_numberOf N s (Int32.ofInt (i : Int)) (3 : Int32) = some (os_A s 0 (5 * i + 3)) := nb_r (a := 3) hi (by decide)
  have n4 : ff_X8_numberOf N s (Int32.ofInt (i : Int)) (4 : Int32) = some (os_A s 0 (5 * i + 4)) := nb_r (a := 4) hi (by decide)
  have g : ∀ (a : Option (Nat × Int32 × os_T × os_T × os_T)) (f : Nat → Option (Nat × Int32 × os_T × os_T × os_T)), os_opt (some 9) a f = f 9 := fun a f => rfl
  unfold ff_X12_tryCommand
  rw [cm_at hi h, Option.bind_some, if_pos rfl, g, n0, Option.bind_some, n1, Option.bind_some, n2, Option.bind_some, n3, Option.bind_some, if_pos (show 9 < 12 by decide), if_pos (show os_in (Int32.ofNat 9) 12 by decide), if_neg (show ¬ (st_sm.getD (Int32.toNatClampNeg (Int32.ofNat 9)) 0 = 1) by decide), if_neg (show ¬ (st_sm.getD (Int32.toNatClampNeg (Int32.ofNat 9)) 0 = 2) by decide), if_neg (show ¬ (st_sm.getD (Int32.toNatClampNeg (Int32.ofNat 9)) 0 = 3) by decide), if_neg (show ¬ (st_sm.getD (Int32.toNatClampNeg (Int32.ofNat 9)) 0 = 4) by decide), if_neg (show ¬ (st_sm.getD (Int32.toNatClampNeg (Int32.ofNat 9)) 0 = 5) by decide), if_neg (show ¬ (st_sm.getD (Int32.toNatClampNeg (Int32.ofNat 9)) 0 = 6) by decide), if_neg (show ¬ (st_sm.getD (Int32.toNatClampNeg (Int32.ofNat 9)) 0 = 7) by decide), if_neg (show ¬ (st_sm.getD (Int32.toNatClampNeg (Int32.ofNat 9)) 0 = 8) by decide), if_neg (show ¬ (st_sm.getD (Int32.toNatClampNeg (Int32.ofNat 9)) 0 = 9) by decide), if_pos (show st_sm.getD (Int32.toNatClampNeg (Int32.ofNat 9)) 0 = 10 by decide)]
theorem tz_10 (hi : i < 30) (h : os_R s 0 i = some 10) : ff_X12_tryCommand N x o sp wa w s (Int32.ofInt (i : Int)) = ((ff_X5_turn N o).bind fun u_53 => some (0, (1 : Int32), u_53.2, sp, wa)) := by
  have n0 : ff_X8_numberOf N s (Int32.ofInt (i : Int)) (0 : Int32) = some (os_A s 0 (5 * i)) := nb_r (a := 0) hi (by decide)
  have n1 : ff_X8_numberOf N s (Int32.ofInt (i : Int)) (1 : Int32) = some (os_A s 0 (5 * i + 1)) := nb_r (a := 1) hi (by decide)
  have n2 : ff_X8_numberOf N s (Int32.ofInt (i : Int)) (2 : Int32) = some (os_A s 0 (5 * i + 2)) := nb_r (a := 2) hi (by decide)
  have n3 : ff_X8_numberOf N s (Int32.ofInt (i : Int)) (3 : Int32) = some (os_A s 0 (5 * i + 3)) := nb_r (a := 3) hi (by decide)
  have n4 : ff_X8_numberOf N s (Int32.ofInt (i : Int)) (4 : Int32) = some (os_A s 0 (5 * i + 4)) := nb_r (a := 4) hi (by decide)
  have g : ∀ (a : Option (Nat × Int32 × os_T × os_T × os_T)) (f : Nat → Option (Nat × Int32 × os_T × os_T × os_T)), os_opt (some 10) a f = f 10 := fun a f => rfl
  unfold ff_X12_tryCommand
  rw [cm_at hi h, Option.bind_some, if_pos rfl, g, n0, Option.bind_some, n1, Option.bind_some, n2, Option.bind_some, n3, Option.bind_some, if_pos (show 10 < 12 by decide), if_pos (show os_in (Int32.ofNat 10) 12 by decide), if_neg (show ¬ (st_sm.getD (Int32.toNatClampNeg (Int32.ofNat 10)) 0 = 1) by decide), if_neg (show ¬ (st_sm.getD (Int32.toNatClampNeg (Int32.ofNat 10)) 0 = 2) by decide), if_neg (show ¬ (st_sm.getD (Int32.toNatClampNeg (Int32.ofNat 10)) 0 = 3) by decide), if_neg (show ¬ (st_sm.getD (Int32.toNatClampNeg (Int32.ofNat 10)) 0 = 4) by decide), if_neg (show ¬ (st_sm.getD (Int32.toNatClampNeg (Int32.ofNat 10)) 0 = 5) by decide), if_neg (show ¬ (st_sm.getD (Int32.toNatClampNeg (Int32.ofNat 10)) 0 = 6) by decide), if_neg (show ¬ (st_sm.getD (Int32.toNatClampNeg (Int32.ofNat 10)) 0 = 7) by decide), if_neg (show ¬ (st_sm.getD (Int32.toNatClampNeg (Int32.ofNat 10)) 0 = 8) by decide), if_neg (show ¬ (st_sm.getD (Int32.toNatClampNeg (Int32.ofNat 10)) 0 = 9) by decide), if_neg (show ¬ (st_sm.getD (Int32.toNatClampNeg (Int32.ofNat 10)) 0 = 10) by decide), if_pos (show st_sm.getD (Int32.toNatClampNeg (Int32.ofNat 10)) 0 = 11 by decide)]
end Try
