/-! LAYER 2. runScript, pairwise -/
theorem o0_le (l : P0) : o_0 l ≤ r_0 l := by
  induction l with
  | nil => exact Nat.le_refl _
  | cons a l ih =>
    cases a with
    | none => show 1 + o_0 l ≤ 1 + r_0 l; omega
    | some a => exact a.2.elim
theorem co_le {β : Type} {cb rb ob : β → Nat} {lb : os_T → os_T → Nat → Nat → β → Prop} {s m : os_T} {K : Nat} (hK : 1 ≤ K) (hb : ∀ i k b, lb s m i k b → ob b ≤ K * rb b) (l : List (Option (Nat × β))) : ∀ i k, ly cb rb lb s m i k l → co ob l ≤ 20 * K * rsz rb l := by
  induction l with
  | nil => intro i k _; exact Nat.zero_le _
  | cons a l ih =>
    intro i k h
    cases a with
    | none =>
      have h2 := ih _ _ h.2
      show 1 + co ob l ≤ 20 * K * (1 + rsz rb l)
      rw [Nat.mul_add]
      omega
    | some a =>
      have h2 := ih _ _ h.2.2.2
      have h3 := hb _ _ _ h.2.1
      have ht := h.1.2.2.2.1
      have h4 : a.1 * (ob a.2 + 1) ≤ 20 * (K * rb a.2 + 1) := Nat.mul_le_mul ht (by omega)
      show (1 + a.1 * (ob a.2 + 1)) + co ob l ≤ 20 * K * (rb a.2 + 2 + rsz rb l)
      have e1 : 20 * K * (rb a.2 + 2 + rsz rb l) = 20 * (K * rb a.2) + 40 * K + 20 * K * rsz rb l := by
        rw [Nat.mul_add, Nat.mul_add, Nat.mul_assoc 20 K (rb a.2)]
        omega
      rw [e1]
      omega
section Run
variable {N L : Nat} {X : tx} {x o sp oh wa w t s m : os_T} {p n : Nat} {S : Nat → Nat} {T H : Int → Int → Int} {R : Nat → Int} {B : Nat → Int} {P : Nat → os_T} {U : Nat → (Int → Int → Int) × (Int → Int → Int)}
theorem rr_sq {K J : Nat → Prop} {m' : os_T} (h : rr w m R) (hx : sq K J m m') (h12 : ¬ J 12) : rr w m' R := ⟨h.1, fun i hi => by rw [hx.2 12 h12]; exact h.2.1 i hi, h.2.2⟩
/-- what the machine does with a script as it lies -/
theorem FR_all {T0 H0 : Int → Int → Int} {m0 : os_T} {q : Nat} {l : P2} (hN : 100000 < N) (hS : sv S) (hq60 : q ≤ 60) (hq : os_I m0 38 = Int32.ofInt (q : Int)) (hl : l_2 s m0 0 0 l) (hc : c_2 l ≤ 30) (hr : r_2 l = q) : FR N S T0 H0 R x w s m0 0 (o_2 l) 0 q (e_2 0 l) := by
  have f0 : ∀ (i k : Nat) (b : P0), l_0 s m0 i k b → i + c_0 b ≤ 30 → k + r_0 b ≤ q → FR N S T0 H0 R x w s m0 2 (o_0 b) k (k + r_0 b) (e_0 i b) := fun i k b h h1 h2 => FR_list hN hS hq60 hq (by decide) (fun _ _ b => b.elim) b i k h h1 h2
  have f1 : ∀ (i k : Nat) (b : P1), l_1 s m0 i k b → i + c_1 b ≤ 30 → k + r_1 b ≤ q → FR N S T0 H0 R x w s m0 1 (o_1 b) k (k + r_1 b) (e_1 i b) := fun i k b h h1 h2 => FR_list hN hS hq60 hq (by decide) (fun i k b h h1 h2 => ⟨by decide, f0 i k b h h1 h2⟩) b i k h h1 h2
  have f2 := FR_list (x := x) (w := w) (R := R) (T0 := T0) (H0 := H0) (D := 0) hN hS hq60 hq (by decide) (fun i k b h h1 h2 => ⟨by decide, f1 i k b h h1 h2⟩) l 0 0 hl (by show 0 + c_2 l ≤ 30; omega) (by show 0 + r_2 l ≤ q; omega)
  have e : 0 + rsz r_1 l = q := by show 0 + r_2 l = q; omega
  rw [e] at f2
  exact f2
theorem o2_le {m0 : os_T} {l : P2} (hl : l_2 s m0 0 0 l) : o_2 l ≤ 400 * r_2 l := by
  have f1 : ∀ (i k : Nat) (b : P1), l_1 s m0 i k b → o_1 b ≤ 20 * r_1 b := fun i k b h => co_le (K := 1) (Nat.le_refl _) (fun i k b h => by rw [Nat.one_mul]; exact o0_le b) b i k h
  exact co_le (K := 20) (by decide) f1 l 0 0 hl
/-- the class's loop over its plan -/
theorem cl_loop {p0 p1 p2 p3 p4 p5 p6 : os_T} {Z : List Nat} (hZ : Z.length ≤ 60) (hp : bw s 2 6 (Z.map fun (n : Nat) => (n : Int))) (hi : ∀ i, i ∈ Z → i < 30) : ∀ (A : List Nat) (n F : Nat) (o sp wa o4 sp4 wa4 : os_T) (n4 : Nat) (b : Bool), Z.drop n = A → n ≤ Z.length → A.length < F → cE N x w s A n o sp wa = some (b, n4, o4, sp4, wa4) → os_loop (fun k39 s1 => ff_X12_runScript_c39 N w k39 s1.1 s1.2.1 s1.2.2.1 s1.2.2.2.1 s1.2.2.2.2.1 s1.2.2.2.2.2.1 s1.2.2.2.2.2.2.1 s1.2.2.2.2.2.2.2.1 s1.2.2.2.2.2.2.2.2.1 s1.2.2.2.2.2.2.2.2.2.1 s1.2.2.2.2.2.2.2.2.2.2.1 s1.2.2.2.2.2.2.2.2.2.2.2.1 s1.2.2.2.2.2.2.2.2.2.2.2.2.1 s1.2.2.2.2.2.2.2.2.2.2.2.2.2.1 s1.2.2.2.2.2.2.2.2.2.2.2.2.2.2.1 s1.2.2.2.2.2.2.2.2.2.2.2.2.2.2.2) F (x, o, sp, oh, p0, p1, p2, p3, p4, p5, p6, wa, t, s, Int32.ofInt (n : Int), Int32.ofInt (n : Int)) = ff_X12_runScript_b74 N w x o4 sp4 oh p0 p1 p2 p3 p4 p5 p6 wa4 t s (Int32.ofInt (n4 : Int)) := by
  have h6 : os_I s 6 = Int32.ofInt (Z.length : Int) := by rw [hp.1, List.length_map]
  intro A
  induction A with
  | nil =>
    intro n F o sp wa o4 sp4 wa4 n4 b hA hn hF hc
    obtain ⟨F, rfl⟩ : ∃ F', F = F' + 1 := ⟨F - 1, by omega⟩
    have hl : Z.length ≤ n := by
      have := congrArg List.length hA
      rw [List.length_drop] at this
      have e : ([] : List Nat).length = 0 := rfl
      omega
    have hc : some (true, n, o, sp, wa) = some (b, n4, o4, sp4, wa4) := hc
    have hc := Option.some.inj hc
    have e1 : n = n4 := congrArg (fun z => z.2.1) hc
    have e2 : o = o4 := congrArg (fun z => z.2.2.1) hc
    have e3 : sp = sp4 := congrArg (fun z => z.2.2.2.1) hc
    have e4 : wa = wa4 := congrArg (fun z => z.2.2.2.2) hc
    subst e1 e2 e3 e4
    rw [lo_1]
    show ff_X12_runScript_c39 N w _ x o sp oh p0 p1 p2 p3 p4 p5 p6 wa t s (Int32.ofInt (n : Int)) (Int32.ofInt (n : Int)) = _
    rw [ff_X12_runScript_c39, h6, ii_le (by omega) (by omega), if_pos (by omega)]
  | cons i A ih =>
    intro n F o sp wa o4 sp4 wa4 n4 b hA hn hF hc
    obtain ⟨F, rfl⟩ : ∃ F', F = F' + 1 := ⟨F - 1, by omega⟩
    have hl : n < Z.length := by
      have := congrArg List.length hA
      rw [List.length_drop] at this
      have e : (i :: A).length = A.length + 1 := rfl
      omega
    have hd : Z.drop n = Z[n] :: Z.drop (n + 1) := List.drop_eq_getElem_cons hl
    rw [hd] at hA
    have hZi : Z[n] = i := (List.cons.inj hA).1
    have hAd : Z.drop (n + 1) = A := (List.cons.inj hA).2
    have hi30 : i < 30 := hi i (by rw [← hZi]; exact List.getElem_mem hl)
    have hat : ff_X8_plannedAt N s (Int32.ofInt (n : Int)) = some (Int32.ofInt (i : Int)) := by
      unfold ff_X8_plannedAt
      simp only [i0_lt (a := (n : Int)) (by omega)]
      rw [if_neg (by omega), h6, ii_le (by omega) (by omega), if_neg (by omega), ii_60, ii_le (by omega) (by omega), if_neg (by omega), if_pos (ia_in (by omega) (by omega) (by omega)), ia_nat (by omega) (by omega), Int.toNat_natCast, hp.2 n (by rw [List.length_map]; exact hl), List.getElem_map, hZi]
    have hc : ((ff_X12_tryCommand N x o sp wa w s (Int32.ofInt (i : Int))).bind fun u => if u.1 = 0 then (if u.2.1 = 0 then some (false, n, u.2.2.1, u.2.2.2.1, u.2.2.2.2) else cE N x w s A (n + 1) u.2.2.1 u.2.2.2.1 u.2.2.2.2) else none) = _ := hc
    rw [lo_1]
    show ff_X12_runScript_c39 N w (os_loop (fun k39 s1 => ff_X12_runScript_c39 N w k39 s1.1 s1.2.1 s1.2.2.1 s1.2.2.2.1 s1.2.2.2.2.1 s1.2.2.2.2.2.1 s1.2.2.2.2.2.2.1 s1.2.2.2.2.2.2.2.1 s1.2.2.2.2.2.2.2.2.1 s1.2.2.2.2.2.2.2.2.2.1 s1.2.2.2.2.2.2.2.2.2.2.1 s1.2.2.2.2.2.2.2.2.2.2.2.1 s1.2.2.2.2.2.2.2.2.2.2.2.2.1 s1.2.2.2.2.2.2.2.2.2.2.2.2.2.1 s1.2.2.2.2.2.2.2.2.2.2.2.2.2.2.1 s1.2.2.2.2.2.2.2.2.2.2.2.2.2.2.2) F) x o sp oh p0 p1 p2 p3 p4 p5 p6 wa t s (Int32.ofInt (n : Int)) (Int32.ofInt (n : Int)) = _
    rw [ff_X12_runScript_c39, h6, ii_le (by omega) (by omega), if_neg (by omega), hat, Option.bind_some]
    cases ht : ff_X12_tryCommand N x o sp wa w s (Int32.ofInt (i : Int)) with
    | none => rw [ht] at hc; cases hc
    | some u =>
      rw [ht, Option.bind_some] at hc
      rw [Option.bind_some]
      by_cases c : u.1 = 0
      · rw [if_pos c] at hc ⊢
        by_cases c2 : u.2.1 = 0
        · rw [if_pos c2] at hc ⊢
          have hc := Option.some.inj hc
          have e1 : n = n4 := congrArg (fun z => z.2.1) hc
          have e2 : u.2.2.1 = o4 := congrArg (fun z => z.2.2.1) hc
          have e3 : u.2.2.2.1 = sp4 := congrArg (fun z => z.2.2.2.1) hc
          have e4 : u.2.2.2.2 = wa4 := congrArg (fun z => z.2.2.2.2) hc
          rw [e1, e2, e3, e4]
        · rw [if_neg c2] at hc ⊢
          have einc : Int32.ofInt (n : Int) + 1 = Int32.ofInt ((n + 1 : Nat) : Int) := by rw [ii_1, ia_add]; rfl
          rw [einc]
          have hF2 : A.length + 1 < F + 1 := hF
          exact ih (n + 1) F _ _ _ _ _ _ _ _ hAd (by omega) (by omega) hc
      · rw [if_neg c] at hc; cases hc
abbrev kS : Nat → Prop := fun i => i = 0 ∨ (2 ≤ i ∧ i ≤ 11) ∨ (18 ≤ i ∧ i ≤ 23) ∨ i = 29 ∨ (38 ≤ i ∧ i ≤ 41)
abbrev jS : Nat → Prop := fun j => (2 ≤ j ∧ j ≤ 11) ∨ (13 ≤ j ∧ j ≤ 16)
theorem eo_lt {β : Type} {cb : β → Nat} {xb : Nat → β → List Nat} (hb : ∀ i b v, v ∈ xb i b → i ≤ v ∧ v < i + cb b) (l : List (Option (Nat × β))) : ∀ i v, v ∈ eo cb xb i l → i ≤ v ∧ v < i + cs cb l := by
  induction l with
  | nil => intro i v h; cases h
  | cons a l ih =>
    intro i v h
    cases a with
    | none =>
      have e : cs cb (none :: l) = 1 + cs cb l := rfl
      have h : v ∈ i :: eo cb xb (i + 1) l := h
      rcases List.mem_cons.mp h with rfl | h
      · omega
      · have := ih _ _ h
        omega
    | some a =>
      have e : cs cb (some a :: l) = 1 + cb a.2 + cs cb l := rfl
      have h : v ∈ rept a.1 (xb (i + 1) a.2) ++ eo cb xb (i + 1 + cb a.2) l := h
      rcases List.mem_append.mp h with h | h
      · have hr : ∀ t, v ∈ rept t (xb (i + 1) a.2) → v ∈ xb (i + 1) a.2 := by
          intro t
          induction t with
          | zero => intro h; cases h
          | succ t ih =>
            intro h
            rcases List.mem_append.mp h with h | h
            · exact h
            · exact ih h
        have := hb _ _ _ (hr _ h)
        omega
      · have := ih _ _ h
        omega
theorem e2_lt {l : P2} {v : Nat} (h : v ∈ e_2 0 l) : v < c_2 l := by
  have f0 : ∀ (i : Nat) (b : P0) (v : Nat), v ∈ e_0 i b → i ≤ v ∧ v < i + c_0 b := fun i b v h => eo_lt (fun _ b => b.elim) b i v h
  have f1 : ∀ (i : Nat) (b : P1) (v : Nat), v ∈ e_1 i b → i ≤ v ∧ v < i + c_1 b := fun i b v h => eo_lt f0 b i v h
  have := eo_lt f1 l 0 v h
  have e : c_2 l = cs c_1 l := rfl
  omega
theorem jr_runScript (hN : 100000 < N) (hS : sv S) (hj : jr o oh P m S T H n U) (hR : rr w m R) (hb : tb t m L B) : ∃ (k : Nat) (c : Int32) (x2 o2 sp2 oh2 : os_T) (P2 : Nat → os_T) (wa2 t2 s2 m2 : os_T) (T2 H2 : Int → Int → Int) (n2 : Nat) (U2 : Nat → (Int → Int → Int) × (Int → Int → Int)), ff_X12_runScript N x o sp oh (P 0) (P 1) (P 2) (P 3) (P 4) (P 5) (P 6) wa w t s = some (k, c, x2, o2, sp2, oh2, P2 0, P2 1, P2 2, P2 3, P2 4, P2 5, P2 6, wa2, t2, s2) ∧ ff_X13_runScript N m = some (c, m2) ∧ jr o2 oh2 P2 m2 S T2 H2 n2 U2 ∧ rr w m2 R ∧ tb t2 m2 0 B ∧ er x2 m2 ∧ sy (fun i => i = 13 ∨ i = 14) (fun _ => False) x x2 ∧ sq kS jS m m2 ∧ ((k = 0 ∧ os_I m2 0 = 0) ∨ (k = 2 ∧ os_I m2 0 = 1)) := by
  obtain ⟨X, t1, m1, e1, e2, h1, hC, z2, q1⟩ := tj_begin (N := N) (by omega) hb
  have h2 : tj X t1 (ss_I (ss_I (ss_I m1 38 (0 : Int32)) 39 (0 : Int32)) 40 (0 : Int32)) 0 := tj_I (tj_I (tj_I h1 (by decide)) (by decide)) (by decide)
  have q2 : sq kS jS m (ss_I (ss_I (ss_I m1 38 (0 : Int32)) 39 (0 : Int32)) 40 (0 : Int32)) := (((q1.mono (fun i hi => by omega) (fun j hj => hj.elim)).tr (sq_I (by decide))).tr (sq_I (by decide))).tr (sq_I (by decide))
  have hM : ff_X13_runScript N m = mL N N (ss_I (ss_I (ss_I m1 38 (0 : Int32)) 39 (0 : Int32)) 40 (0 : Int32)) := by
    unfold ff_X13_runScript
    rw [e2, Option.bind_some]
    rfl
  have hsj : sj X (ss_I (ss_I s 5 (0 : Int32)) 6 (0 : Int32)) t1 (ss_I (ss_I (ss_I m1 38 (0 : Int32)) 39 (0 : Int32)) 40 (0 : Int32)) 0 0 0 0 := ⟨h2, rfl, by decide, rfl, rfl, rfl, by decide⟩
  have hcL := cL_no (N := N) (f := N) (M := N) (d := 0) h2 (by omega) rfl (by decide) (Or.inl rfl)
  have hall := rd_cmds2 (N := N) (by omega) hC (by omega) (X.2.2.2.2.2 - 0) 0 (ss_I (ss_I s 5 (0 : Int32)) 6 (0 : Int32)) t1 (ss_I (ss_I (ss_I m1 38 (0 : Int32)) 39 (0 : Int32)) 40 (0 : Int32)) 0 0 0 N N N (Nat.le_refl _) (by omega) hsj (by omega) (by omega) (by omega)
  rw [hcL, ← hM] at hall
  have hrc : ff_X8_readCommands_v2 N (ss_I (ss_I s 5 (0 : Int32)) 6 (0 : Int32)) t1 (0 : Int32) = os_loop (fun k2 s1 => ff_X8_readCommands_v2_c2 N k2 s1.1 s1.2.1 s1.2.2.1 s1.2.2.2) N ((ss_I (ss_I s 5 (0 : Int32)) 6 (0 : Int32)), t1, Int32.ofInt ((0 : Nat) : Int), Int32.ofInt ((0 : Nat) : Int)) := by
    unfold ff_X8_readCommands_v2 ff_X8_readCommands_v2_l2
    rfl
  rw [← hrc] at hall
  unfold ff_X12_runScript ff_X8_readAll
  rw [e1, Option.bind_some]
  rcases hall with ⟨s3, t3, m3, p3, c3, q3, f3, M3, l, y1, y2, ⟨g1, g5, gc, g38, g39, g40, gqd⟩, yp, yf, yM, ec, eq, yl, ya, yq, y6, yE⟩ | ⟨s3, t3, m3, y1, y2, h3, yq⟩
  · have yf : 0 < f3 := yf
    have yM0 : 0 < M3 := by omega
    have er2 : r_2 l = q3 := by rw [eq]; show r_2 l = 0 + r_2 l; omega
    have ec2 : c_2 l = c3 := by rw [ec]; show c_2 l = 0 + c_2 l; omega
    -- the reference at its end
    have hend : cL N f3 M3 m3 = ff_X13_runScript_b82 N m3 := by
      rw [cL_no (d := 0) g1 yf g40 (by decide) (Or.inl rfl)]
      obtain ⟨M3, rfl⟩ : ∃ M', M3 = M' + 1 := ⟨M3 - 1, by omega⟩
      unfold mL
      rw [lo_1]
      show ff_X13_runScript_c19 N _ m3 = _
      rw [ff_X13_runScript_c19, tj_good g1, Option.bind_some, if_neg (show ¬ ((1 : Int32) = 0) by decide), if_pos (by rw [kq_6 g1]; exact yE), ff_X13_runScript_b63, tj_good g1, Option.bind_some, if_neg (show ¬ ((1 : Int32) = 0) by decide), g40, if_pos (show Int32.ofInt ((0 : Nat) : Int) ≤ 0 by decide)]
    have z3 : os_I m3 2 = 0 := by rw [yq.1 2 (by decide)]; exact z2
    -- the class's plan
    have hp0 : pq s3 [] := by
      refine ⟨?_, fun j h => by cases h⟩
      show os_I s3 6 = 0
      rw [y6]; rfl
    obtain ⟨s4, w1, w2, w3⟩ := pc_2 (N := N) (s := s3) (m := m3) (i := 0) (k := 0) (l := l) (PL := []) (by omega) (by omega) yl hp0
    have w1 : ff_X8_planCommands_v2 N s3 (0 : Int32) (Int32.ofInt ((0 + c_2 l : Nat) : Int)) (0 : Int32) = some (0, s4) := w1
    rw [Nat.zero_add, ec2, ← g5] at w1
    obtain ⟨x4, t4, m4, v1, v2, her, htb, vz0, qx, qm⟩ := tj_end (N := N) (x := x) (B := B) g1 z3
    have qA : sq kS jS m m4 := (q2.tr (yq.mono (fun i hi => by omega) (fun j hj => by omega))).tr (qm.sq.mono (fun i hi => by omega) (fun j hj => hj.elim))
    have qA2 : sq (fun i => i = 0 ∨ (2 ≤ i ∧ i ≤ 11) ∨ (18 ≤ i ∧ i ≤ 23) ∨ (38 ≤ i ∧ i ≤ 40)) jt m m4 := ((((q1.mono (fun i hi => by omega) (fun j hj => hj.elim)).tr (show sq (fun i => i = 0 ∨ (2 ≤ i ∧ i ≤ 11) ∨ (18 ≤ i ∧ i ≤ 23) ∨ (38 ≤ i ∧ i ≤ 40)) jt m1 (ss_I m1 38 (0 : Int32)) from sq_I (by decide))).tr (sq_I (by decide))).tr (sq_I (by decide)) |>.tr (yq.mono (fun i hi => by omega) (fun j hj => hj))).tr (qm.sq.mono (fun i hi => by omega) (fun j hj => hj.elim))
    have hj4 : jr o oh P m4 S T H n U := jr_sq hj qA2 (by decide) (by decide) (by decide) (by decide) (by decide)
    have hR4 : rr w m4 R := rr_sq hR qA2 (by decide)
    obtain ⟨m5, b1, b7, b8, bx⟩ := rc_aside (N := N) (by omega) hj4.2.2.1
    have hr5 : rp m5 S T H := hj4.2.2.1.sx bx (by decide) (by decide) (by decide)
    have hU5 : hr_R m5 n U := hj4.2.2.2.1.sy (K := fun _ => False) bx.sy (fun z => z) (by decide)
    have hR5 : rr w m5 R := hR4.sy (K := fun _ => False) bx.sy (by decide)
    have f13 : os_A m5 13 = os_A m3 13 := by rw [bx.2.2 13 (by decide), qm.2.2 13 (fun z => z)]
    have f14 : os_A m5 14 = os_A m3 14 := by rw [bx.2.2 14 (by decide), qm.2.2 14 (fun z => z)]
    have f38 : os_I m5 38 = Int32.ofInt (q3 : Int) := by rw [bx.1 38, qm.1 38 (by decide)]; exact g38
    have hl5 : l_2 s4 m5 0 0 l := l2_agr l 0 0 yl ⟨fun j _ _ => ⟨by rw [ps_R w3], by rw [w3.1.2.2 1 (by decide)]⟩, fun j _ _ => by rw [w3.1.2.2 0 (by decide)], fun j _ _ => by rw [f13], fun j _ _ => by rw [f14]⟩
    have hx5 : xp S T H R o w m5 T H := ⟨hj4.1, hr5, hj4.2.2.2.2.1, hj4.2.2.2.2.2.1, fun _ _ _ => ⟨rfl, rfl⟩, hR5⟩
    have hcost := o2_le hl5
    have hF := FR_all (x := x4) (w := w) (R := R) (T0 := T) (H0 := H) hN hS (by omega) f38 hl5 (by omega) er2
    have hrun : ∃ (m6 o6 sp6 wa6 : os_T) (T6 H6 : Int → Int → Int) (n6 : Nat) (b : Bool), ff_X13_runs0 N m5 = some (Int32.ofInt (n6 : Int), m6) ∧ cE N x4 w s4 ((e_2 0 l).take 60) 0 o sp wa = some (b, n6, o6, sp6, wa6) ∧ xp S T H R o6 w m6 T6 H6 ∧ fD 0 m5 m6 := by
      have e0 : ff_X13_runs0 N m5 = rL N N m5 0 0 0 1 := by
        unfold ff_X13_runs0 ff_X13_runs0_l9 rL
        rfl
      rcases hF m5 o sp wa T H 0 N hx5 ⟨rfl, rfl, rfl⟩ (by decide) (by omega) with ⟨m6, o6, sp6, wa6, T6, H6, F6, a1, a2, a3, a4, a5, a6⟩ | ⟨m6, o6, sp6, wa6, T6, H6, n6, b, a1, a2, a3, a4, a5, a6⟩
      · obtain ⟨F6, rfl⟩ : ∃ F', F6 = F' + 1 := ⟨F6 - 1, by omega⟩
        refine ⟨m6, o6, sp6, wa6, T6, H6, 0 + (e_2 0 l).length, true, ?_, ?_, a5, a6⟩
        · rw [e0, a1, rL_s, ff_X13_runs0_c9, if_neg (show ¬ ((1 : Int32) = 0) by decide), if_pos (show os_I m6 38 ≤ Int32.ofInt (q3 : Int) by rw [a6.1.1 38 (by decide), f38, ia_le (by omega) (by omega) (by omega) (by omega)]; exact Int.le_refl _)]
        · rw [List.take_of_length_le (by omega)]; exact a3
      · exact ⟨m6, o6, sp6, wa6, T6, H6, n6, b, e0.trans a1, a3, a5, a6⟩
    obtain ⟨m6, o6, sp6, wa6, T6, H6, n6, b, r1, r2, r3, r4⟩ := hrun
    have hx6 : sx jY (ss_I m5 41 (os_I m6 41)) m6 := ⟨fun i => by
      by_cases c : i = 41
      · subst c
        show os_I m6 41 = os_u m5.1 41 (os_I m6 41) 41
        rw [os_u_eq]
      · have : os_I (ss_I m5 41 (os_I m6 41)) i = os_I m5 i := os_u_ne c
        rw [this]; exact r4.1.1 i c, r4.1.2.1, r4.1.2.2⟩
    obtain ⟨P7, oh7, m7, n7, U7, u1, u2, u3, u4, u5⟩ := ch_all (N := N) (m1 := ss_I m5 41 (os_I m6 41)) hN hS hj4 r3.1 r3.2.2.1 r3.2.2.2.1 r3.2.2.2.2.1 b7 b8 ⟨hU5.1, hU5.2.1, hU5.2.2⟩ r3.2.1 hx6 (by decide) (by decide) (by decide)
    have q8 : sq kS jS m4 m5 := (bx.sy (K := fun _ => False)).sq.mono (fun i hi => hi.elim) (fun j hj => by omega)
    have q9 : sq kS jS m5 m6 := r4.1.sq.mono (fun i hi => by omega) (fun j hj => by omega)
    have q10 : sq kS jS m6 m7 := u5.sq.mono (fun i hi => by omega) (fun j hj => by omega)
    have q7 : sq kS jS m (ss_I m7 41 (Int32.ofInt (q_df S H H6))) := (((qA.tr q8).tr q9).tr q10).tr (sq_I (by decide))
    have hy6 : sy (fun i => i = 29 ∨ i = 41) (fun j => jY j ∨ j = 7 ∨ j = 8 ∨ j = 10) m4 m7 := ((bx.mono (fun j hj => Or.inr (by omega))).sy.tr (r4.1.mono (fun i hi => Or.inr hi) (fun j hj => Or.inl hj))).tr (u5.mono (fun i hi => Or.inl hi) (fun j hj => by omega))
    refine ⟨0, Int32.ofInt (n6 : Int), x4, o6, sp6, oh7, P7, wa6, t4, s4, ss_I m7 41 (Int32.ofInt (q_df S H H6)), T6, H6, n7, U7, ?_, ?_, u4.sy (show sy (fun i => i = 41) (fun _ => False) m7 (ss_I m7 41 (Int32.ofInt (q_df S H H6))) from sy_I rfl) (fun z => z) (fun z => z) (fun z => z) (fun z => z) (by decide), ?_, ⟨htb.1, htb.2.1, ?_, fun i hi => by omega⟩, ⟨?_, ?_⟩, qx, q7, Or.inl ⟨rfl, ?_⟩⟩
    · rw [y1, Option.bind_some, if_pos rfl, if_neg (show ¬ ((1 : Int32) = 0) by decide)]
      show ((ff_X8_planCommands_v2 N s3 (0 : Int32) (os_I s3 5) (0 : Int32)).bind _).bind _ = _
      rw [w1, Option.bind_some, if_pos rfl, Option.bind_some, if_pos rfl, v1, Option.bind_some, if_neg (show ¬ ((1 : Int32) = 0) by decide), u1, Option.bind_some]
      have w2' : bw s4 2 6 (((e_2 0 l).take 60).map fun (n : Nat) => (n : Int)) := w2
      have hk := cl_loop (N := N) (x := x4) (w := w) (oh := oh) (t := t4) (p0 := P7 0) (p1 := P7 1) (p2 := P7 2) (p3 := P7 3) (p4 := P7 4) (p5 := P7 5) (p6 := P7 6) (by rw [List.length_take]; omega) w2' (fun i hi => by have := e2_lt (List.mem_of_mem_take hi); omega) ((e_2 0 l).take 60) 0 N o sp wa o6 sp6 wa6 n6 b rfl (Nat.zero_le _) (by rw [List.length_take]; omega) r2
      unfold ff_X12_runScript_l39
      refine hk.trans ?_
      unfold ff_X12_runScript_b74
      rw [u2, Option.bind_some]
    · rw [y2, hend]
      unfold ff_X13_runScript_b82
      rw [v2, Option.bind_some, if_neg (show ¬ ((1 : Int32) = 0) by decide), b1, Option.bind_some, r1, Option.bind_some, u3, Option.bind_some]
    · exact (r3.2.2.2.2.2.sy u5 (by decide)).sy (show sy (fun i => i = 41) (fun _ => False) m7 (ss_I m7 41 (Int32.ofInt (q_df S H H6))) from sy_I rfl) (fun z => z)
    · show os_I m7 2 = _
      rw [hy6.1 2 (by decide)]; exact htb.2.2.1
    · show os_I x4 13 = os_I m7 10
      rw [hy6.1 10 (by decide)]; exact her.1
    · show os_I x4 14 = os_I m7 11
      rw [hy6.1 11 (by decide)]; exact her.2
    · show os_I m7 0 = 0
      rw [hy6.1 0 (by decide)]; exact vz0
  · have z3 : os_I m3 2 = 0 := by rw [yq.1 2 (by decide)]; exact z2
    obtain ⟨x4, t4, m4, v1, v2, her, htb, vz0, qx, qm⟩ := te_end (N := N) (x := x) (B := B) h3 z3
    have qA : sq kS jS m m4 := (q2.tr (yq.mono (fun i hi => by omega) (fun j hj => by omega))).tr (qm.sq.mono (fun i hi => by omega) (fun j hj => hj.elim))
    have qA2 : sq (fun i => i = 0 ∨ (2 ≤ i ∧ i ≤ 11) ∨ (18 ≤ i ∧ i ≤ 23) ∨ (38 ≤ i ∧ i ≤ 40)) jt m m4 := ((((q1.mono (fun i hi => by omega) (fun j hj => hj.elim)).tr (show sq (fun i => i = 0 ∨ (2 ≤ i ∧ i ≤ 11) ∨ (18 ≤ i ∧ i ≤ 23) ∨ (38 ≤ i ∧ i ≤ 40)) jt m1 (ss_I m1 38 (0 : Int32)) from sq_I (by decide))).tr (sq_I (by decide))).tr (sq_I (by decide)) |>.tr (yq.mono (fun i hi => by omega) (fun j hj => hj))).tr (qm.sq.mono (fun i hi => by omega) (fun j hj => hj.elim))
    refine ⟨2, 0, x4, o, sp, oh, P, wa, t4, s3, m4, T, H, n, U, ?_, ?_, jr_sq hj qA2 (by decide) (by decide) (by decide) (by decide) (by decide), rr_sq hR qA2 (by decide), htb, her, qx, qA, Or.inr ⟨rfl, vz0⟩⟩
    · rw [y1, Option.bind_some, if_pos rfl, if_pos rfl, Option.bind_some, if_pos rfl, v1, Option.bind_some, if_pos rfl]
    · rw [y2]
      unfold ff_X13_runScript_b82
      rw [v2, Option.bind_some, if_pos rfl]
end Run
