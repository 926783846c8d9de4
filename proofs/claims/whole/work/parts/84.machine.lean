/-! LAYER 2. The order of a script's commands; the reference's machine -/
def rept (t : Nat) (L : List Nat) : List Nat := match t with
  | 0 => []
  | t + 1 => L ++ rept t L
section Order
variable {β : Type}
/-- the commands in the order in which they are done (their places in the class) -/
def eo (cb : β → Nat) (xb : Nat → β → List Nat) : Nat → List (Option (Nat × β)) → List Nat
  | _, [] => []
  | i, none :: l => i :: eo cb xb (i + 1) l
  | i, some x :: l => rept x.1 (xb (i + 1) x.2) ++ eo cb xb (i + 1 + cb x.2) l
/-- how many steps it takes -/
def co (ob : β → Nat) : List (Option (Nat × β)) → Nat
  | [] => 0
  | none :: l => 1 + co ob l
  | some x :: l => (1 + x.1 * (ob x.2 + 1)) + co ob l
end Order
abbrev e_0 : Nat → P0 → List Nat := eo (fun x => x.elim) (fun _ x => x.elim)
abbrev e_1 : Nat → P1 → List Nat := eo c_0 e_0
abbrev e_2 : Nat → P2 → List Nat := eo c_1 e_1
abbrev o_0 : P0 → Nat := co (fun x => x.elim)
abbrev o_1 : P1 → Nat := co o_0
abbrev o_2 : P2 → Nat := co o_1
/-- the class does commands one after another -/
def cE (N : Nat) (x w s : os_T) : List Nat → Nat → os_T → os_T → os_T → Option (Bool × Nat × os_T × os_T × os_T)
  | [], n, o, sp, wa => some (true, n, o, sp, wa)
  | i :: r, n, o, sp, wa => (ff_X12_tryCommand N x o sp wa w s (Int32.ofInt (i : Int))).bind fun u => if u.1 = 0 then (if u.2.1 = 0 then some (false, n, u.2.2.1, u.2.2.2.1, u.2.2.2.2) else cE N x w s r (n + 1) u.2.2.1 u.2.2.2.1 u.2.2.2.2) else none
section CE
variable {N n : Nat} {x w s o sp wa : os_T}
theorem cE_app (A B : List Nat) : ∀ n o sp wa n1 o1 sp1 wa1, cE N x w s A n o sp wa = some (true, n1, o1, sp1, wa1) → cE N x w s (A ++ B) n o sp wa = cE N x w s B n1 o1 sp1 wa1 := by
  induction A with
  | nil =>
    intro n o sp wa n1 o1 sp1 wa1 h
    have h : some (true, n, o, sp, wa) = some (true, n1, o1, sp1, wa1) := h
    have h := Option.some.inj h
    have e1 : n = n1 := congrArg (fun z => z.2.1) h
    have e2 : o = o1 := congrArg (fun z => z.2.2.1) h
    have e3 : sp = sp1 := congrArg (fun z => z.2.2.2.1) h
    have e4 : wa = wa1 := congrArg (fun z => z.2.2.2.2) h
    subst e1 e2 e3 e4
    rfl
  | cons i A ih =>
    intro n o sp wa n1 o1 sp1 wa1 h
    show ((ff_X12_tryCommand N x o sp wa w s (Int32.ofInt (i : Int))).bind _) = _
    have h : ((ff_X12_tryCommand N x o sp wa w s (Int32.ofInt (i : Int))).bind fun u => if u.1 = 0 then (if u.2.1 = 0 then some (false, n, u.2.2.1, u.2.2.2.1, u.2.2.2.2) else cE N x w s A (n + 1) u.2.2.1 u.2.2.2.1 u.2.2.2.2) else none) = _ := h
    cases ht : ff_X12_tryCommand N x o sp wa w s (Int32.ofInt (i : Int)) with
    | none => rw [ht] at h; cases h
    | some u =>
      rw [ht, Option.bind_some] at h
      rw [Option.bind_some]
      by_cases c : u.1 = 0
      · rw [if_pos c] at h ⊢
        by_cases c2 : u.2.1 = 0
        · rw [if_pos c2] at h
          have h := Option.some.inj h
          have e0 : false = true := congrArg (fun z => z.1) h
          cases e0
        · rw [if_neg c2] at h ⊢
          exact ih _ _ _ _ _ _ _ _ h
      · rw [if_neg c] at h; cases h
theorem cE_false (A B : List Nat) : ∀ n o sp wa n1 o1 sp1 wa1, cE N x w s A n o sp wa = some (false, n1, o1, sp1, wa1) → cE N x w s (A ++ B) n o sp wa = some (false, n1, o1, sp1, wa1) := by
  induction A with
  | nil =>
    intro n o sp wa n1 o1 sp1 wa1 h
    have h : some (true, n, o, sp, wa) = some (false, n1, o1, sp1, wa1) := h
    have h := Option.some.inj h
    have e0 : true = false := congrArg (fun z => z.1) h
    cases e0
  | cons i A ih =>
    intro n o sp wa n1 o1 sp1 wa1 h
    show ((ff_X12_tryCommand N x o sp wa w s (Int32.ofInt (i : Int))).bind _) = _
    have h : ((ff_X12_tryCommand N x o sp wa w s (Int32.ofInt (i : Int))).bind fun u => if u.1 = 0 then (if u.2.1 = 0 then some (false, n, u.2.2.1, u.2.2.2.1, u.2.2.2.2) else cE N x w s A (n + 1) u.2.2.1 u.2.2.2.1 u.2.2.2.2) else none) = _ := h
    cases ht : ff_X12_tryCommand N x o sp wa w s (Int32.ofInt (i : Int)) with
    | none => rw [ht] at h; cases h
    | some u =>
      rw [ht, Option.bind_some] at h
      rw [Option.bind_some]
      by_cases c : u.1 = 0
      · rw [if_pos c] at h ⊢
        by_cases c2 : u.2.1 = 0
        · rw [if_pos c2] at h ⊢; exact h
        · rw [if_neg c2] at h ⊢
          exact ih _ _ _ _ _ _ _ _ h
      · rw [if_neg c] at h; cases h
end CE
/-- the machine's loop -/
def rL (N F : Nat) (m : os_T) (n D k : Nat) (g : Int32) : Option (Int32 × os_T) := os_loop (fun k9 s1 => ff_X13_runs0_c9 N k9 s1.1 s1.2.1 s1.2.2.1 s1.2.2.2.1 s1.2.2.2.2) F (m, Int32.ofInt (n : Int), Int32.ofInt (D : Int), Int32.ofInt (k : Int), g)
abbrev jY : Nat → Prop := fun j => j = 3 ∨ j = 4 ∨ j = 6 ∨ j = 11 ∨ j = 15 ∨ j = 16
def fD (D : Nat) (m m' : os_T) : Prop := sy k41 jY m m' ∧ ∀ j, j < D → os_A m' 15 j = os_A m 15 j ∧ os_A m' 16 j = os_A m 16 j
def xq (m0 m : os_T) : Prop := os_A m 13 = os_A m0 13 ∧ os_A m 14 = os_A m0 14 ∧ os_I m 38 = os_I m0 38
def FR (N : Nat) (S : Nat → Nat) (T0 H0 : Int → Int → Int) (R : Nat → Int) (x w s m0 : os_T) (D cost k ke : Nat) (EL : List Nat) : Prop :=
  ∀ (m o sp wa : os_T) (T H : Int → Int → Int) (n F : Nat), xp S T0 H0 R o w m T H → xq m0 m → n ≤ 60 → cost + 2 ≤ F →
  (∃ (m' o' sp' wa' : os_T) (T' H' : Int → Int → Int) (F' : Nat), rL N F m n D k 1 = rL N F' m' (n + EL.length) D ke 1 ∧ F ≤ F' + cost ∧ cE N x w s EL n o sp wa = some (true, n + EL.length, o', sp', wa') ∧ n + EL.length ≤ 60 ∧ xp S T0 H0 R o' w m' T' H' ∧ fD D m m') ∨
  (∃ (m' o' sp' wa' : os_T) (T' H' : Int → Int → Int) (n' : Nat) (b : Bool), rL N F m n D k 1 = some (Int32.ofInt (n' : Int), m') ∧ n' ≤ 60 ∧ cE N x w s (EL.take (60 - n)) n o sp wa = some (b, n', o', sp', wa') ∧ (b = true → 60 - n ≤ EL.length) ∧ xp S T0 H0 R o' w m' T' H' ∧ fD D m m')
section FRs
variable {N D : Nat} {S : Nat → Nat} {T0 H0 : Int → Int → Int} {R : Nat → Int} {x w s m0 : os_T}
theorem fD.rf {m : os_T} : fD D m m := ⟨sy.rf, fun _ _ => ⟨rfl, rfl⟩⟩
theorem fD.tr {m m1 m2 : os_T} (h : fD D m m1) (h2 : fD D m1 m2) : fD D m m2 := ⟨h.1.tr h2.1, fun j hj => ⟨(h2.2 j hj).1.trans (h.2 j hj).1, (h2.2 j hj).2.trans (h.2 j hj).2⟩⟩
theorem fD.lower {m m1 : os_T} (h : fD (D + 1) m m1) : fD D m m1 := ⟨h.1, fun j hj => h.2 j (by omega)⟩
theorem xq.fD {m m' : os_T} (h : xq m0 m) (hd : fD D m m') : xq m0 m' := ⟨(hd.1.2.2 13 (by decide)).trans h.1, (hd.1.2.2 14 (by decide)).trans h.2.1, (hd.1.1 38 (by decide)).trans h.2.2⟩
theorem FR_nil {k : Nat} : FR N S T0 H0 R x w s m0 D 0 k k [] := fun m o sp wa T H n F hx hq hn hF =>
  Or.inl ⟨m, o, sp, wa, T, H, F, rfl, Nat.le_refl _, rfl, hn, hx, fD.rf⟩
theorem FR_seq {c1 c2 k k1 k2 : Nat} {E1 E2 : List Nat} (h1 : FR N S T0 H0 R x w s m0 D c1 k k1 E1) (h2 : FR N S T0 H0 R x w s m0 D c2 k1 k2 E2) : FR N S T0 H0 R x w s m0 D (c1 + c2) k k2 (E1 ++ E2) := by
  intro m o sp wa T H n F hx hq hn hF
  rcases h1 m o sp wa T H n F hx hq hn (by omega) with ⟨m1, o1, sp1, wa1, T1, H1, F1, a1, a2, a3, a4, a5, a6⟩ | ⟨m1, o1, sp1, wa1, T1, H1, n1, b, a1, a2, a3, a4, a5, a6⟩
  · rcases h2 m1 o1 sp1 wa1 T1 H1 (n + E1.length) F1 a5 (hq.fD a6) a4 (by omega) with ⟨m2, o2, sp2, wa2, T2, H2, F2, b1, b2, b3, b4, b5, b6⟩ | ⟨m2, o2, sp2, wa2, T2, H2, n2, b, b1, b2, b3, b4, b5, b6⟩
    · left
      refine ⟨m2, o2, sp2, wa2, T2, H2, F2, ?_, by omega, ?_, by rw [List.length_append]; omega, b5, a6.tr b6⟩
      · rw [a1, b1, List.length_append, Nat.add_assoc]
      · rw [cE_app E1 E2 _ _ _ _ _ _ _ _ a3, b3, List.length_append, Nat.add_assoc]
    · right
      refine ⟨m2, o2, sp2, wa2, T2, H2, n2, b, by rw [a1, b1], b2, ?_, fun hb => by have := b4 hb; rw [List.length_append]; omega, b5, a6.tr b6⟩
      have e : (E1 ++ E2).take (60 - n) = E1 ++ E2.take (60 - (n + E1.length)) := by
        rw [List.take_append, List.take_of_length_le (by omega), Nat.sub_sub]
      rw [e, cE_app E1 _ _ _ _ _ _ _ _ _ a3]
      exact b3
  · right
    refine ⟨m1, o1, sp1, wa1, T1, H1, n1, b, a1, a2, ?_, fun hb => by have := a4 hb; rw [List.length_append]; omega, a5, a6⟩
    rw [List.take_append]
    cases b with
    | false => exact cE_false _ _ _ _ _ _ _ _ _ _ a3
    | true =>
      have := a4 rfl
      rw [show 60 - n - E1.length = 0 by omega, List.take_zero, List.append_nil]
      exact a3
theorem rL_s {F n D k : Nat} {m : os_T} {g : Int32} : rL N (F + 1) m n D k g = ff_X13_runs0_c9 N (os_loop (fun k9 s1 => ff_X13_runs0_c9 N k9 s1.1 s1.2.1 s1.2.2.1 s1.2.2.2.1 s1.2.2.2.2) F) m (Int32.ofInt (n : Int)) (Int32.ofInt (D : Int)) (Int32.ofInt (k : Int)) g := by
  unfold rL
  rw [lo_1]
theorem r_full {F D k : Nat} {m : os_T} (hq : ¬ (os_I m 38 ≤ Int32.ofInt (k : Int))) (hF : 0 < F) : rL N F m 60 D k 1 = some (Int32.ofInt ((60 : Nat) : Int), m) := by
  obtain ⟨F, rfl⟩ : ∃ F', F = F' + 1 := ⟨F - 1, by omega⟩
  rw [rL_s, ff_X13_runs0_c9, if_neg (by decide), if_neg hq, if_pos (by decide)]
theorem r_stop {F n D k : Nat} {m : os_T} (hF : 0 < F) : os_loop (fun k9 s1 => ff_X13_runs0_c9 N k9 s1.1 s1.2.1 s1.2.2.1 s1.2.2.2.1 s1.2.2.2.2) F (m, Int32.ofInt ((n : Int) + 0), Int32.ofInt (D : Int), Int32.ofInt (k : Int), Int32.ofInt 0) = some (Int32.ofInt (n : Int), m) := by
  obtain ⟨F, rfl⟩ : ∃ F', F = F' + 1 := ⟨F - 1, by omega⟩
  rw [lo_1]
  show ff_X13_runs0_c9 N (os_loop (fun k9 s1 => ff_X13_runs0_c9 N k9 s1.1 s1.2.1 s1.2.2.1 s1.2.2.2.1 s1.2.2.2.2) F) m (Int32.ofInt ((n : Int) + 0)) (Int32.ofInt (D : Int)) (Int32.ofInt (k : Int)) (Int32.ofInt 0) = _
  rw [ff_X13_runs0_c9, if_pos (show Int32.ofInt 0 = 0 from rfl), Int.add_zero]
theorem FR_leaf {i k q : Nat} (hN : 100000 < N) (hS : sv S) (hl : lf s m0 i k) (hi : i < 30) (hk : k < q) (hq60 : q ≤ 60) (hq : os_I m0 38 = Int32.ofInt (q : Int)) (hD : D ≤ 2) : FR N S T0 H0 R x w s m0 D 1 k (k + 1) [i] := by
  intro m o sp wa T H n F hx hxq hn hF
  obtain ⟨F, rfl⟩ : ∃ F', F = F' + 1 := ⟨F - 1, by omega⟩
  have h38 : os_I m 38 = Int32.ofInt (q : Int) := hxq.2.2.trans hq
  have hnq : ¬ (os_I m 38 ≤ Int32.ofInt (k : Int)) := by
    rw [h38]; intro z
    have := (ia_le (a := (q : Int)) (b := (k : Int)) (by omega) (by omega) (by omega) (by omega)).mp z
    omega
  by_cases c60 : n = 60
  · subst c60
    right
    exact ⟨m, o, sp, wa, T, H, 60, true, r_full hnq (by omega), Nat.le_refl _, rfl, fun _ => by omega, hx, fD.rf⟩
  · have hl2 : lf s m i k := lf_agr hl ⟨fun _ _ _ => ⟨rfl, rfl⟩, fun _ _ _ => rfl, fun j _ _ => by rw [hxq.1], fun j _ _ => by rw [hxq.2.1]⟩
    obtain ⟨b, o', sp', wa', m', T', H', e1, e2, e3, e4⟩ := ex_step (N := N) (x := x) (sp := sp) (wa := wa) hN hS hl2 hi (by omega) hx
    obtain ⟨c, V, hc, hR, h13, -⟩ := hl2
    have hin : os_in (Int32.ofInt (k : Int)) 60 := ia_in (by omega) (by omega) (by omega)
    have hna : Int32.toNatClampNeg (Int32.ofInt (k : Int)) = k := by rw [ia_nat (by omega) (by omega), Int.toNat_natCast]
    have e11 : ¬ (Int32.ofInt (c : Int) = (11 : Int32)) := fun z => by
      have := (ia_eq (a := (c : Int)) (b := 11) (by omega) (by omega) (by omega) (by omega)).mp z
      omega
    have e12 : ¬ (Int32.ofInt (c : Int) = (12 : Int32)) := fun z => by
      have := (ia_eq (a := (c : Int)) (b := 12) (by omega) (by omega) (by omega) (by omega)).mp z
      omega
    have e5k : (5 : Int32) * Int32.ofInt (k : Int) = Int32.ofInt ((5 * k : Nat) : Int) := by rw [ii_5, ia_mul]; rfl
    have einc : Int32.ofInt (k : Int) + 1 = Int32.ofInt ((k + 1 : Nat) : Int) := by rw [ii_1, ia_add]; rfl
    have hf : fD D m m' := ⟨e4.mono (fun i hi => hi) (fun j hj => by omega), fun j _ => ⟨by rw [e4.2.2 15 (by decide)], by rw [e4.2.2 16 (by decide)]⟩⟩
    have step : rL N (F + 1) m n D k 1 = (ff_X13_truth N (oz b)).bind fun u_11 => os_loop (fun k9 s1 => ff_X13_runs0_c9 N k9 s1.1 s1.2.1 s1.2.2.1 s1.2.2.2.1 s1.2.2.2.2) F (m', Int32.ofInt (n : Int) + u_11, Int32.ofInt (D : Int), Int32.ofInt ((k + 1 : Nat) : Int), oz b) := by
      rw [rL_s, ff_X13_runs0_c9, if_neg (show ¬ ((1 : Int32) = 0) by decide), if_neg hnq, ii_60, ii_le (by omega) (by omega), if_neg (by omega)]
      simp only [if_pos hin, hna]
      rw [h13, if_neg e11, if_neg e12, e5k, ← h13, e2, Option.bind_some, einc]
    cases b with
    | true =>
      left
      refine ⟨m', o', sp', wa', T', H', F, ?_, by omega, ?_, by show n + 1 ≤ 60; omega, e3, hf⟩
      · rw [step]
        show os_loop _ F (m', Int32.ofInt (n : Int) + 1, _, _, _) = os_loop _ F (m', Int32.ofInt ((n + 1 : Nat) : Int), _, _, _)
        rw [ii_1, ia_add]
        rfl
      · show ((ff_X12_tryCommand N x o sp wa w s (Int32.ofInt (i : Int))).bind _) = _
        rw [e1, Option.bind_some, if_pos rfl, if_neg (show ¬ (oz true = 0) by decide)]
        rfl
    | false =>
      right
      refine ⟨m', o', sp', wa', T', H', n, false, ?_, hn, ?_, (fun z => by cases z), e3, hf⟩
      · rw [step]
        show os_loop _ F (m', Int32.ofInt (n : Int) + 0, _, _, (0 : Int32)) = _
        rw [ii_0, ia_add]
        exact r_stop (by omega)
      · obtain ⟨z, hz⟩ : ∃ z, 60 - n = z + 1 := ⟨59 - n, by omega⟩
        rw [hz, List.take_succ_cons, List.take_nil]
        show ((ff_X12_tryCommand N x o sp wa w s (Int32.ofInt (i : Int))).bind _) = _
        rw [e1, Option.bind_some, if_pos rfl, if_pos (show oz false = 0 from rfl)]
theorem r_end {F n k rb r : Nat} {m1 : os_T} (g13 : os_A m1 13 (k + 1 + rb) = Int32.ofInt 12) (g15 : os_A m1 15 D = Int32.ofInt (k : Int)) (g16 : os_A m1 16 D = Int32.ofInt ((r + 1 : Nat) : Int)) (hnq : ¬ (os_I m1 38 ≤ Int32.ofInt ((k + 1 + rb : Nat) : Int))) (hn : n < 60) (hk : k + 1 + rb < 60 ∧ r < 20) (hD : D ≤ 1) : rL N (F + 1) m1 n (D + 1) (k + 1 + rb) 1 = if r = 0 then rL N F (ss_A m1 16 (upd (os_A m1 16) D (Int32.ofInt (r : Int)))) n D (k + 2 + rb) 1 else rL N F (ss_A m1 16 (upd (os_A m1 16) D (Int32.ofInt (r : Int)))) n (D + 1) (k + 1) 1 := by
  have hin : os_in (Int32.ofInt ((k + 1 + rb : Nat) : Int)) 60 := ia_in (by omega) (by omega) (by omega)
  have hna : Int32.toNatClampNeg (Int32.ofInt ((k + 1 + rb : Nat) : Int)) = k + 1 + rb := by rw [ia_nat (by omega) (by omega), Int.toNat_natCast]
  have eD : Int32.ofInt ((D + 1 : Nat) : Int) - (1 : Int32) = Int32.ofInt (D : Int) := by rw [ii_1, ia_sub]; congr 1; omega
  have eD0 : Int32.ofInt ((D + 1 : Nat) : Int) - (0 : Int32) = Int32.ofInt ((D + 1 : Nat) : Int) := by rw [ii_0, ia_sub]; congr 1
  have hinD : os_in (Int32.ofInt (D : Int)) 2 := ia_in (by omega) (by omega) (by omega)
  have hnaD : Int32.toNatClampNeg (Int32.ofInt (D : Int)) = D := by rw [ia_nat (by omega) (by omega), Int.toNat_natCast]
  have e16 : Int32.ofInt ((r + 1 : Nat) : Int) - (1 : Int32) = Int32.ofInt (r : Int) := by rw [ii_1, ia_sub]; congr 1; omega
  have ke1 : Int32.ofInt ((k + 1 + rb : Nat) : Int) + (1 : Int32) = Int32.ofInt ((k + 2 + rb : Nat) : Int) := by rw [ii_1, ia_add]; congr 1; omega
  have kb1 : Int32.ofInt (k : Int) + (1 : Int32) = Int32.ofInt ((k + 1 : Nat) : Int) := by rw [ii_1, ia_add]; rfl
  have t1 : ff_X13_truth N (1 : Int32) = some 1 := rfl
  have t0 : ff_X13_truth N (0 : Int32) = some 0 := rfl
  have g15' : os_A (ss_A m1 16 (upd (os_A m1 16) D (Int32.ofInt (r : Int)))) 15 D = Int32.ofInt (k : Int) := g15
  rw [rL_s, ff_X13_runs0_c9, if_neg (show ¬ ((1 : Int32) = 0) by decide), if_neg hnq, ii_60, ii_le (by omega) (by omega), if_neg (by omega)]
  simp only [if_pos hin, hna]
  rw [g13, if_neg (show ¬ (Int32.ofInt 12 = (11 : Int32)) by decide), if_pos (show Int32.ofInt 12 = (12 : Int32) from rfl), eD]
  simp only [if_pos hinD, hnaD]
  rw [g16, e16, up_eq]
  simp only [i0_le (a := (r : Int)) (by omega)]
  by_cases c0 : r = 0
  · rw [if_pos (show (r : Int) ≤ 0 by omega), if_pos c0, ff_X13_runs0_b108, if_pos rfl, ff_X13_runs0_b131, if_pos rfl, ff_X13_runs0_b143, t1, Option.bind_some, ke1, eD]
    rfl
  · rw [if_neg (show ¬ ((r : Int) ≤ 0) by omega), if_neg c0, ff_X13_runs0_b108, if_neg (show ¬ ((1 : Int32) = 0) by decide), eD, if_pos hinD, hnaD, g15', kb1, ff_X13_runs0_b131, if_neg (show ¬ ((1 : Int32) = 0) by decide), ff_X13_runs0_b143, t0, Option.bind_some, eD0]
    rfl
theorem FR_laps {k rb cb q : Nat} {EB : List Nat} (hN : 100000 < N) (hb : FR N S T0 H0 R x w s m0 (D + 1) cb (k + 1) (k + 1 + rb) EB) (hend : os_A m0 13 (k + 1 + rb) = Int32.ofInt 12) (hk : k + 1 + rb < q) (hq60 : q ≤ 60) (hq : os_I m0 38 = Int32.ofInt (q : Int)) (hD : D ≤ 1) : ∀ (r : Nat), 1 ≤ r → r ≤ 20 → ∀ (m o sp wa : os_T) (T H : Int → Int → Int) (n F : Nat), xp S T0 H0 R o w m T H → xq m0 m → n ≤ 60 → r * (cb + 1) + 2 ≤ F → os_A m 15 D = Int32.ofInt (k : Int) → os_A m 16 D = Int32.ofInt (r : Int) →
    (∃ (m' o' sp' wa' : os_T) (T' H' : Int → Int → Int) (F' : Nat), rL N F m n (D + 1) (k + 1) 1 = rL N F' m' (n + (rept r EB).length) D (k + 2 + rb) 1 ∧ F ≤ F' + r * (cb + 1) ∧ cE N x w s (rept r EB) n o sp wa = some (true, n + (rept r EB).length, o', sp', wa') ∧ n + (rept r EB).length ≤ 60 ∧ xp S T0 H0 R o' w m' T' H' ∧ fD D m m') ∨
    (∃ (m' o' sp' wa' : os_T) (T' H' : Int → Int → Int) (n' : Nat) (b : Bool), rL N F m n (D + 1) (k + 1) 1 = some (Int32.ofInt (n' : Int), m') ∧ n' ≤ 60 ∧ cE N x w s ((rept r EB).take (60 - n)) n o sp wa = some (b, n', o', sp', wa') ∧ (b = true → 60 - n ≤ (rept r EB).length) ∧ xp S T0 H0 R o' w m' T' H' ∧ fD D m m') := by
  intro r
  induction r with
  | zero => intro h; omega
  | succ r ih =>
    intro _ hr m o sp wa T H n F hx hxq hn hF h15 h16
    have hmul : (r + 1) * (cb + 1) = r * (cb + 1) + (cb + 1) := Nat.succ_mul _ _
    have er : rept (r + 1) EB = EB ++ rept r EB := rfl
    rw [er]
    rcases hb m o sp wa T H n F hx hxq hn (by omega) with ⟨m1, o1, sp1, wa1, T1, H1, F1, a1, a2, a3, a4, a5, a6⟩ | ⟨m1, o1, sp1, wa1, T1, H1, n1, b, a1, a2, a3, a4, a5, a6⟩
    · have hxq1 := hxq.fD a6
      have h38 : os_I m1 38 = Int32.ofInt (q : Int) := hxq1.2.2.trans hq
      have hnq : ¬ (os_I m1 38 ≤ Int32.ofInt ((k + 1 + rb : Nat) : Int)) := by
        rw [h38]; intro z
        have := (ia_le (a := (q : Int)) (b := ((k + 1 + rb : Nat) : Int)) (by omega) (by omega) (by omega) (by omega)).mp z
        omega
      by_cases c60 : n + EB.length = 60
      · right
        refine ⟨m1, o1, sp1, wa1, T1, H1, 60, true, ?_, Nat.le_refl _, ?_, fun _ => by rw [List.length_append]; omega, a5, a6.lower⟩
        · rw [a1, c60]
          exact r_full hnq (by omega)
        · have e : (EB ++ rept r EB).take (60 - n) = EB := by
            rw [List.take_append, List.take_of_length_le (by omega), show 60 - n - EB.length = 0 by omega, List.take_zero, List.append_nil]
          rw [e, a3, c60]
      · obtain ⟨F1, rfl⟩ : ∃ F', F1 = F' + 1 := ⟨F1 - 1, by omega⟩
        have g13 : os_A m1 13 (k + 1 + rb) = Int32.ofInt 12 := by rw [hxq1.1]; exact hend
        have g15 : os_A m1 15 D = Int32.ofInt (k : Int) := by rw [(a6.2 D (by omega)).1]; exact h15
        have g16 : os_A m1 16 D = Int32.ofInt ((r + 1 : Nat) : Int) := by rw [(a6.2 D (by omega)).2]; exact h16
        have hin : os_in (Int32.ofInt ((k + 1 + rb : Nat) : Int)) 60 := ia_in (by omega) (by omega) (by omega)
        have hna : Int32.toNatClampNeg (Int32.ofInt ((k + 1 + rb : Nat) : Int)) = k + 1 + rb := by rw [ia_nat (by omega) (by omega), Int.toNat_natCast]
        have eD : Int32.ofInt ((D + 1 : Nat) : Int) - (1 : Int32) = Int32.ofInt (D : Int) := by rw [ii_1, ia_sub]; congr 1; omega
        have hinD : os_in (Int32.ofInt (D : Int)) 2 := ia_in (by omega) (by omega) (by omega)
        have hnaD : Int32.toNatClampNeg (Int32.ofInt (D : Int)) = D := by rw [ia_nat (by omega) (by omega), Int.toNat_natCast]
        have e16 : Int32.ofInt ((r + 1 : Nat) : Int) - (1 : Int32) = Int32.ofInt (r : Int) := by rw [ii_1, ia_sub]; congr 1; omega
        have ke1 : Int32.ofInt ((k + 1 + rb : Nat) : Int) + (1 : Int32) = Int32.ofInt ((k + 2 + rb : Nat) : Int) := by rw [ii_1, ia_add]; congr 1; omega
        have kb1 : Int32.ofInt (k : Int) + (1 : Int32) = Int32.ofInt ((k + 1 : Nat) : Int) := by rw [ii_1, ia_add]; rfl
        have step := r_end (N := N) (F := F1) (n := n + EB.length) (r := r) g13 g15 g16 hnq (by omega) (by omega) hD
        have hf2 : fD D m (ss_A m1 16 (upd (os_A m1 16) D (Int32.ofInt (r : Int)))) := ⟨a6.1.tr (sy_A (by decide)), fun j hj => ⟨(a6.2 j (by omega)).1, (show upd (os_A m1 16) D (Int32.ofInt (r : Int)) j = _ from (up_ne (by omega)).trans (a6.2 j (by omega)).2)⟩⟩
        have hx2 : xp S T0 H0 R o1 w (ss_A m1 16 (upd (os_A m1 16) D (Int32.ofInt (r : Int)))) T1 H1 := ⟨a5.1, ⟨a5.2.1.1, a5.2.1.2.1, a5.2.1.2.2⟩, a5.2.2.1, a5.2.2.2.1, a5.2.2.2.2.1, ⟨a5.2.2.2.2.2.1, a5.2.2.2.2.2.2.1, a5.2.2.2.2.2.2.2⟩⟩
        by_cases c0 : r = 0
        · subst c0
          left
          refine ⟨_, o1, sp1, wa1, T1, H1, F1, ?_, by omega, ?_, by show n + (EB ++ []).length ≤ 60; rw [List.append_nil]; exact a4, hx2, hf2⟩
          · rw [a1, step, if_pos rfl]
            show _ = rL N F1 _ (n + (EB ++ []).length) D (k + 2 + rb) 1
            rw [List.append_nil]
          · show cE N x w s (EB ++ []) n o sp wa = some (true, n + (EB ++ []).length, _)
            rw [List.append_nil]; exact a3
        · rcases ih (by omega) (by omega) (ss_A m1 16 (upd (os_A m1 16) D (Int32.ofInt (r : Int)))) o1 sp1 wa1 T1 H1 (n + EB.length) F1 hx2 (hxq.fD hf2) a4 (by omega) g15 (show upd (os_A m1 16) D (Int32.ofInt (r : Int)) D = _ from up_eq) with ⟨m2, o2, sp2, wa2, T2, H2, F2, b1, b2, b3, b4, b5, b6⟩ | ⟨m2, o2, sp2, wa2, T2, H2, n2, b, b1, b2, b3, b4, b5, b6⟩
          · left
            refine ⟨m2, o2, sp2, wa2, T2, H2, F2, ?_, by omega, ?_, by rw [List.length_append]; omega, b5, hf2.tr b6⟩
            · rw [a1, step, if_neg c0, b1, List.length_append, Nat.add_assoc]
            · rw [cE_app EB _ _ _ _ _ _ _ _ _ a3, b3, List.length_append, Nat.add_assoc]
          · right
            refine ⟨m2, o2, sp2, wa2, T2, H2, n2, b, by rw [a1, step, if_neg c0, b1], b2, ?_, fun hb => by have := b4 hb; rw [List.length_append]; omega, b5, hf2.tr b6⟩
            have e : (EB ++ rept r EB).take (60 - n) = EB ++ (rept r EB).take (60 - (n + EB.length)) := by
              rw [List.take_append, List.take_of_length_le (by omega), Nat.sub_sub]
            rw [e, cE_app EB _ _ _ _ _ _ _ _ _ a3]
            exact b3
    · right
      refine ⟨m1, o1, sp1, wa1, T1, H1, n1, b, a1, a2, ?_, fun hb => by have := a4 hb; rw [List.length_append]; omega, a5, a6.lower⟩
      rw [List.take_append]
      cases b with
      | false => exact cE_false _ _ _ _ _ _ _ _ _ _ a3
      | true =>
        have := a4 rfl
        rw [show 60 - n - EB.length = 0 by omega, List.take_zero, List.append_nil]
        exact a3
theorem FR_rep {i e k t rb cb q : Nat} {EB : List Nat} (hN : 100000 < N) (hr : rpt s m0 i k t e) (hb : FR N S T0 H0 R x w s m0 (D + 1) cb (k + 1) (k + 1 + rb) EB) (hend : os_A m0 13 (k + 1 + rb) = Int32.ofInt 12) (hk : k + 1 + rb < q) (hq60 : q ≤ 60) (hq : os_I m0 38 = Int32.ofInt (q : Int)) (hD : D ≤ 1) : FR N S T0 H0 R x w s m0 D (1 + t * (cb + 1)) k (k + 2 + rb) (rept t EB) := by
  intro m o sp wa T H n F hx hxq hn hF
  obtain ⟨r1, r2, r3, r4, r5, r6, r7⟩ := hr
  obtain ⟨F, rfl⟩ : ∃ F', F = F' + 1 := ⟨F - 1, by omega⟩
  have h38 : os_I m 38 = Int32.ofInt (q : Int) := hxq.2.2.trans hq
  have hnq : ¬ (os_I m 38 ≤ Int32.ofInt (k : Int)) := by
    rw [h38]; intro z
    have := (ia_le (a := (q : Int)) (b := (k : Int)) (by omega) (by omega) (by omega) (by omega)).mp z
    omega
  by_cases c60 : n = 60
  · subst c60
    right
    exact ⟨m, o, sp, wa, T, H, 60, true, r_full hnq (by omega), Nat.le_refl _, rfl, fun _ => by omega, hx, fD.rf⟩
  · have hin : os_in (Int32.ofInt (k : Int)) 60 := ia_in (by omega) (by omega) (by omega)
    have hna : Int32.toNatClampNeg (Int32.ofInt (k : Int)) = k := by rw [ia_nat (by omega) (by omega), Int.toNat_natCast]
    have hinD : os_in (Int32.ofInt (D : Int)) 2 := ia_in (by omega) (by omega) (by omega)
    have hnaD : Int32.toNatClampNeg (Int32.ofInt (D : Int)) = D := by rw [ia_nat (by omega) (by omega), Int.toNat_natCast]
    have e5k : (5 : Int32) * Int32.ofInt (k : Int) = Int32.ofInt ((5 * k : Nat) : Int) := by rw [ii_5, ia_mul]; rfl
    have hin5 := (t_in0 (k := k) (by omega)).1
    have hna5 := (t_in0 (k := k) (by omega)).2
    have kb1 : Int32.ofInt (k : Int) + 1 = Int32.ofInt ((k + 1 : Nat) : Int) := by rw [ii_1, ia_add]; rfl
    have db1 : Int32.ofInt (D : Int) + 1 = Int32.ofInt ((D + 1 : Nat) : Int) := by rw [ii_1, ia_add]; rfl
    have step : rL N (F + 1) m n D k 1 = rL N F (ss_A (ss_A m 15 (upd (os_A m 15) D (Int32.ofInt (k : Int)))) 16 (upd (os_A m 16) D (Int32.ofInt (t : Int)))) n (D + 1) (k + 1) 1 := by
      rw [rL_s, ff_X13_runs0_c9, if_neg (show ¬ ((1 : Int32) = 0) by decide), if_neg hnq, ii_60, ii_le (by omega) (by omega), if_neg (by omega)]
      simp only [if_pos hin, hna]
      have g13 : os_A m 13 k = Int32.ofInt 11 := by rw [hxq.1]; exact r2
      rw [g13, if_pos (show Int32.ofInt 11 = (11 : Int32) from rfl), e5k]
      simp only [if_pos hinD, hnaD, if_pos hin5, hna5]
      have g14 : os_A m 14 (5 * k) = Int32.ofInt (t : Int) := by rw [hxq.2.1]; exact r6
      rw [g14, kb1, db1]
      rfl
    have hf0 : fD D m (ss_A (ss_A m 15 (upd (os_A m 15) D (Int32.ofInt (k : Int)))) 16 (upd (os_A m 16) D (Int32.ofInt (t : Int)))) := ⟨(show sy k41 jY m (ss_A m 15 (upd (os_A m 15) D (Int32.ofInt (k : Int)))) from sy_A (by decide)).tr (sy_A (by decide)), fun j hj => ⟨up_ne (by omega), up_ne (by omega)⟩⟩
    have hx2 : xp S T0 H0 R o w (ss_A (ss_A m 15 (upd (os_A m 15) D (Int32.ofInt (k : Int)))) 16 (upd (os_A m 16) D (Int32.ofInt (t : Int)))) T H := ⟨hx.1, ⟨hx.2.1.1, hx.2.1.2.1, hx.2.1.2.2⟩, hx.2.2.1, hx.2.2.2.1, hx.2.2.2.2.1, ⟨hx.2.2.2.2.2.1, hx.2.2.2.2.2.2.1, hx.2.2.2.2.2.2.2⟩⟩
    rcases FR_laps (N := N) hN hb hend hk hq60 hq hD t r3 r4 _ o sp wa T H n F hx2 (hxq.fD hf0) hn (by omega) up_eq up_eq with ⟨m2, o2, sp2, wa2, T2, H2, F2, b1, b2, b3, b4, b5, b6⟩ | ⟨m2, o2, sp2, wa2, T2, H2, n2, b, b1, b2, b3, b4, b5, b6⟩
    · exact Or.inl ⟨m2, o2, sp2, wa2, T2, H2, F2, step.trans b1, by omega, b3, b4, b5, hf0.tr b6⟩
    · exact Or.inr ⟨m2, o2, sp2, wa2, T2, H2, n2, b, step.trans b1, b2, b3, b4, b5, hf0.tr b6⟩
theorem FR_list {β : Type} {cb rb ob : β → Nat} {lb : os_T → os_T → Nat → Nat → β → Prop} {xb : Nat → β → List Nat} {q : Nat} (hN : 100000 < N) (hS : sv S) (hq60 : q ≤ 60) (hq : os_I m0 38 = Int32.ofInt (q : Int)) (hD : D ≤ 2) (hb : ∀ (i k : Nat) (b : β), lb s m0 i k b → i + cb b ≤ 30 → k + rb b ≤ q → D ≤ 1 ∧ FR N S T0 H0 R x w s m0 (D + 1) (ob b) k (k + rb b) (xb i b)) (l : List (Option (Nat × β))) : ∀ i k, ly cb rb lb s m0 i k l → i + cs cb l ≤ 30 → k + rsz rb l ≤ q → FR N S T0 H0 R x w s m0 D (co ob l) k (k + rsz rb l) (eo cb xb i l) := by
  induction l with
  | nil => intro i k _ _ _; exact FR_nil
  | cons a l ih =>
    intro i k h hi hk
    cases a with
    | none =>
      have e1 : cs cb (none :: l) = 1 + cs cb l := rfl
      have e2 : rsz rb (none :: l) = 1 + rsz rb l := rfl
      rw [e1] at hi
      rw [e2] at hk ⊢
      have g := FR_seq (FR_leaf (x := x) (w := w) (R := R) (T0 := T0) (H0 := H0) hN hS h.1 (by omega) (q := q) (by omega) hq60 hq hD) (ih (i + 1) (k + 1) h.2 (by omega) (by omega))
      rw [show k + (1 + rsz rb l) = k + 1 + rsz rb l by omega]
      exact g
    | some a =>
      have e1 : cs cb (some a :: l) = 1 + cb a.2 + cs cb l := rfl
      have e2 : rsz rb (some a :: l) = rb a.2 + 2 + rsz rb l := rfl
      rw [e1] at hi
      rw [e2] at hk ⊢
      obtain ⟨hD1, hbb⟩ := hb (i + 1) (k + 1) a.2 h.2.1 (by omega) (by omega)
      have g := FR_seq (FR_rep hN h.1 hbb h.2.2.1 (q := q) (by omega) hq60 hq hD1) (ih (i + 1 + cb a.2) (k + 2 + rb a.2) h.2.2.2 (by omega) (by omega))
      rw [show k + (rb a.2 + 2 + rsz rb l) = k + 2 + rb a.2 + rsz rb l by omega]
      exact g
end FRs
