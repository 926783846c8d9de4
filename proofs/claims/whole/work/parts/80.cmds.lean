/-! LAYER 2. A script: how it lies on both sides, and the reference's two loops -/
/-- a command that is no repeat -/
def lf (s m : os_T) (i k : Nat) : Prop := ∃ (c : Nat) (V : Nat → Int), c < 11 ∧ os_R s 0 i = some c ∧ os_A m 13 k = Int32.ofInt (c : Int) ∧ (∀ a, a < nm c → (0 ≤ V a ∧ V a ≤ hw c a) ∧ os_A s 0 (5 * i + a) = Int32.ofInt (V a) ∧ os_A m 14 (5 * k + a) = Int32.ofInt (V a)) ∧ os_A s 1 i = Int32.ofInt ((i + 1 : Nat) : Int)
def rpt (s m : os_T) (i k t e : Nat) : Prop := os_R s 0 i = some 11 ∧ os_A m 13 k = Int32.ofInt 11 ∧ 1 ≤ t ∧ t ≤ 20 ∧ os_A s 0 (5 * i) = Int32.ofInt (t : Int) ∧ os_A m 14 (5 * k) = Int32.ofInt (t : Int) ∧ os_A s 1 i = Int32.ofInt (e : Int)
section Lay
variable {β : Type}
def cs (cb : β → Nat) : List (Option (Nat × β)) → Nat
  | [] => 0
  | none :: l => 1 + cs cb l
  | some x :: l => 1 + cb x.2 + cs cb l
def rsz (rb : β → Nat) : List (Option (Nat × β)) → Nat
  | [] => 0
  | none :: l => 1 + rsz rb l
  | some x :: l => rb x.2 + 2 + rsz rb l
def ly (cb rb : β → Nat) (lb : os_T → os_T → Nat → Nat → β → Prop) (s m : os_T) : Nat → Nat → List (Option (Nat × β)) → Prop
  | _, _, [] => True
  | i, k, none :: l => lf s m i k ∧ ly cb rb lb s m (i + 1) (k + 1) l
  | i, k, some x :: l => rpt s m i k x.1 (i + 1 + cb x.2) ∧ lb s m (i + 1) (k + 1) x.2 ∧ os_A m 13 (k + 1 + rb x.2) = Int32.ofInt 12 ∧ ly cb rb lb s m (i + 1 + cb x.2) (k + 2 + rb x.2) l
variable {cb rb : β → Nat} {lb : os_T → os_T → Nat → Nat → β → Prop} {s m s' m' : os_T}
theorem cs_app (l l2 : List (Option (Nat × β))) : cs cb (l ++ l2) = cs cb l + cs cb l2 := by
  induction l with
  | nil => show cs cb l2 = 0 + cs cb l2; omega
  | cons x l ih =>
    cases x with
    | none => show 1 + cs cb (l ++ l2) = 1 + cs cb l + cs cb l2; omega
    | some x => show 1 + cb x.2 + cs cb (l ++ l2) = 1 + cb x.2 + cs cb l + cs cb l2; omega
theorem rsz_app (l l2 : List (Option (Nat × β))) : rsz rb (l ++ l2) = rsz rb l + rsz rb l2 := by
  induction l with
  | nil => show rsz rb l2 = 0 + rsz rb l2; omega
  | cons x l ih =>
    cases x with
    | none => show 1 + rsz rb (l ++ l2) = 1 + rsz rb l + rsz rb l2; omega
    | some x => show rb x.2 + 2 + rsz rb (l ++ l2) = rb x.2 + 2 + rsz rb l + rsz rb l2; omega
theorem ly_app (l l2 : List (Option (Nat × β))) : ∀ i k, ly cb rb lb s m i k l → ly cb rb lb s m (i + cs cb l) (k + rsz rb l) l2 → ly cb rb lb s m i k (l ++ l2) := by
  induction l with
  | nil => intro i k _ h; exact h
  | cons x l ih =>
    intro i k h h2
    cases x with
    | none =>
      refine ⟨h.1, ih _ _ h.2 ?_⟩
      have e1 : i + 1 + cs cb l = i + cs cb (none :: l) := by show _ = i + (1 + cs cb l); omega
      have e2 : k + 1 + rsz rb l = k + rsz rb (none :: l) := by show _ = k + (1 + rsz rb l); omega
      rw [e1, e2]; exact h2
    | some x =>
      refine ⟨h.1, h.2.1, h.2.2.1, ih _ _ h.2.2.2 ?_⟩
      have e1 : i + 1 + cb x.2 + cs cb l = i + cs cb (some x :: l) := by show _ = i + (1 + cb x.2 + cs cb l); omega
      have e2 : k + 2 + rb x.2 + rsz rb l = k + rsz rb (some x :: l) := by show _ = k + (rb x.2 + 2 + rsz rb l); omega
      rw [e1, e2]; exact h2
/-- the same between two places -/
def agr (s m s' m' : os_T) (i i2 k k2 : Nat) : Prop := (∀ j, i ≤ j → j < i2 → os_R s' 0 j = os_R s 0 j ∧ os_A s' 1 j = os_A s 1 j) ∧ (∀ j, 5 * i ≤ j → j < 5 * i2 → os_A s' 0 j = os_A s 0 j) ∧ (∀ j, k ≤ j → j < k2 → os_A m' 13 j = os_A m 13 j) ∧ ∀ j, 5 * k ≤ j → j < 5 * k2 → os_A m' 14 j = os_A m 14 j
theorem agr.rf {i i2 k k2 : Nat} : agr s m s m i i2 k k2 := ⟨fun _ _ _ => ⟨rfl, rfl⟩, fun _ _ _ => rfl, fun _ _ _ => rfl, fun _ _ _ => rfl⟩
theorem agr.tr {s2 m2 : os_T} {i i2 k k2 : Nat} (h : agr s m s' m' i i2 k k2) (h2 : agr s' m' s2 m2 i i2 k k2) : agr s m s2 m2 i i2 k k2 :=
  ⟨fun j a b => ⟨(h2.1 j a b).1.trans (h.1 j a b).1, (h2.1 j a b).2.trans (h.1 j a b).2⟩, fun j a b => (h2.2.1 j a b).trans (h.2.1 j a b), fun j a b => (h2.2.2.1 j a b).trans (h.2.2.1 j a b), fun j a b => (h2.2.2.2 j a b).trans (h.2.2.2 j a b)⟩
theorem agr.mono {i i2 k k2 a a2 b b2 : Nat} (h : agr s m s' m' i i2 k k2) (h1 : i ≤ a) (h2 : a2 ≤ i2) (h3 : k ≤ b) (h4 : b2 ≤ k2) : agr s m s' m' a a2 b b2 :=
  ⟨fun j x y => h.1 j (by omega) (by omega), fun j x y => h.2.1 j (by omega) (by omega), fun j x y => h.2.2.1 j (by omega) (by omega), fun j x y => h.2.2.2 j (by omega) (by omega)⟩
theorem lf_agr {i k : Nat} (h : lf s m i k) (ha : agr s m s' m' i (i + 1) k (k + 1)) : lf s' m' i k := by
  obtain ⟨c, V, h1, h2, h3, h4, h5⟩ := h
  have := (nm_c c (by omega)).2.2
  refine ⟨c, V, h1, by rw [(ha.1 i (Nat.le_refl _) (by omega)).1]; exact h2, by rw [ha.2.2.1 k (Nat.le_refl _) (by omega)]; exact h3, fun a hk => ?_, by rw [(ha.1 i (Nat.le_refl _) (by omega)).2]; exact h5⟩
  rw [ha.2.1 _ (by omega) (by omega), ha.2.2.2 _ (by omega) (by omega)]
  exact h4 a hk
theorem rpt_agr {i k t e : Nat} (h : rpt s m i k t e) (ha : agr s m s' m' i (i + 1) k (k + 1)) : rpt s' m' i k t e := by
  obtain ⟨h1, h2, h3, h4, h5, h6, h7⟩ := h
  refine ⟨by rw [(ha.1 i (Nat.le_refl _) (by omega)).1]; exact h1, by rw [ha.2.2.1 k (Nat.le_refl _) (by omega)]; exact h2, h3, h4, by rw [ha.2.1 _ (by omega) (by omega)]; exact h5, by rw [ha.2.2.2 _ (by omega) (by omega)]; exact h6, by rw [(ha.1 i (Nat.le_refl _) (by omega)).2]; exact h7⟩
theorem ly_agr (hl : ∀ i k b, lb s m i k b → agr s m s' m' i (i + cb b) k (k + rb b) → lb s' m' i k b) (l : List (Option (Nat × β))) : ∀ i k, ly cb rb lb s m i k l → agr s m s' m' i (i + cs cb l) k (k + rsz rb l) → ly cb rb lb s' m' i k l := by
  induction l with
  | nil => intro i k h _; exact True.intro
  | cons x l ih =>
    intro i k h ha
    cases x with
    | none =>
      have e1 : cs cb (none :: l) = 1 + cs cb l := rfl
      have e2 : rsz rb (none :: l) = 1 + rsz rb l := rfl
      rw [e1, e2] at ha
      exact ⟨lf_agr h.1 (ha.mono (Nat.le_refl _) (by omega) (Nat.le_refl _) (by omega)), ih _ _ h.2 (ha.mono (by omega) (by omega) (by omega) (by omega))⟩
    | some x =>
      have e1 : cs cb (some x :: l) = 1 + cb x.2 + cs cb l := rfl
      have e2 : rsz rb (some x :: l) = rb x.2 + 2 + rsz rb l := rfl
      rw [e1, e2] at ha
      refine ⟨rpt_agr h.1 (ha.mono (Nat.le_refl _) (by omega) (Nat.le_refl _) (by omega)), hl _ _ _ h.2.1 (ha.mono (by omega) (by omega) (by omega) (by omega)), ?_, ih _ _ h.2.2.2 (ha.mono (by omega) (by omega) (by omega) (by omega))⟩
      rw [ha.2.2.1 _ (by omega) (by omega)]; exact h.2.2.1
end Lay
abbrev P0 : Type := List (Option (Nat × Empty))
abbrev P1 : Type := List (Option (Nat × P0))
abbrev P2 : Type := List (Option (Nat × P1))
abbrev c_0 : P0 → Nat := cs (fun x => x.elim)
abbrev r_0 : P0 → Nat := rsz (fun x => x.elim)
abbrev l_0 : os_T → os_T → Nat → Nat → P0 → Prop := ly (fun x => x.elim) (fun x => x.elim) (fun _ _ _ _ x => x.elim)
abbrev c_1 : P1 → Nat := cs c_0
abbrev r_1 : P1 → Nat := rsz r_0
abbrev l_1 : os_T → os_T → Nat → Nat → P1 → Prop := ly c_0 r_0 l_0
abbrev c_2 : P2 → Nat := cs c_1
abbrev r_2 : P2 → Nat := rsz r_1
abbrev l_2 : os_T → os_T → Nat → Nat → P2 → Prop := ly c_1 r_1 l_1
theorem l0_agr {s m s' m' : os_T} (b : P0) (i k : Nat) (h : l_0 s m i k b) (ha : agr s m s' m' i (i + c_0 b) k (k + r_0 b)) : l_0 s' m' i k b := ly_agr (fun i k b => b.elim) b i k h ha
theorem l1_agr {s m s' m' : os_T} (b : P1) (i k : Nat) (h : l_1 s m i k b) (ha : agr s m s' m' i (i + c_1 b) k (k + r_1 b)) : l_1 s' m' i k b := ly_agr (fun i k b h ha => l0_agr b i k h ha) b i k h ha
theorem l2_agr {s m s' m' : os_T} (b : P2) (i k : Nat) (h : l_2 s m i k b) (ha : agr s m s' m' i (i + c_2 b) k (k + r_2 b)) : l_2 s' m' i k b := ly_agr (fun i k b h ha => l1_agr b i k h ha) b i k h ha
/-- the reference from within closes on -/
def mL (N M : Nat) (m : os_T) : Option (Int32 × os_T) := os_loop (fun k19 s1 => ff_X13_runScript_c19 N k19 s1) M m
def cL (N f M : Nat) (m : os_T) : Option (Int32 × os_T) := (os_loop (fun k0 s1 => ff_X13_closes_c0 N k0 s1) f m).bind fun u => mL N M u
section Machine
variable {N : Nat} {X : tx} {t m s : os_T} {p : Nat}
theorem te_mL {M : Nat} (h : te t m) (hM : 0 < M) : mL N M m = ff_X13_runScript_b82 N m := by
  obtain ⟨M, rfl⟩ : ∃ M', M = M' + 1 := ⟨M - 1, by omega⟩
  show ff_X13_runScript_c19 N _ m = _
  unfold ff_X13_runScript_c19 ff_X13_runScript_b63
  rw [te_good h, Option.bind_some, if_pos rfl, Option.bind_some, if_pos rfl]
theorem te_cL {f M : Nat} (h : te t m) (hf : 0 < f) (hM : 0 < M) : cL N f M m = ff_X13_runScript_b82 N m := by
  obtain ⟨f, rfl⟩ : ∃ M', f = M' + 1 := ⟨f - 1, by omega⟩
  have e : ff_X13_isSign N m (41 : Int32) = some 0 := by
    unfold ff_X13_isSign
    rw [if_neg (te_8 h)]
  have : os_loop (fun k0 s1 => ff_X13_closes_c0 N k0 s1) (f + 1) m = some m := by
    show ff_X13_closes_c0 N _ m = _
    unfold ff_X13_closes_c0
    rw [e, Option.bind_some, if_pos rfl]
    exact ite_self _
  unfold cL
  rw [this, Option.bind_some]
  exact te_mL h hM
/-- no bracket here: the other loop goes on -/
theorem cL_no {f M d : Nat} (h : tj X t m p) (hf : 0 < f) (hd : os_I m 40 = Int32.ofInt (d : Int)) (hd2 : d ≤ 2) (hn : d = 0 ∨ ¬ (kq X p = 3 ∧ fq X p 0 = 41)) : cL N f M m = mL N M m := by
  obtain ⟨f, rfl⟩ : ∃ M', f = M' + 1 := ⟨f - 1, by omega⟩
  have : os_loop (fun k0 s1 => ff_X13_closes_c0 N k0 s1) (f + 1) m = some m := by
    show ff_X13_closes_c0 N _ m = _
    unfold ff_X13_closes_c0
    rw [hd]
    simp only [i0_le (a := (d : Int)) (by omega)]
    by_cases c : d = 0
    · rw [if_pos (by omega)]
    · rw [if_neg (by omega)]
      show ((ff_X13_isSign N m (Int32.ofInt 41)).bind _) = _
      rw [(tj_isSign h (by decide)).2, Option.bind_some, oz_ite, if_neg (by omega)]
  unfold cL
  rw [this, Option.bind_some]
theorem kq_6 (h : tj X t m p) : (os_I m 6 = 0) = (kq X p = 0) := by
  have hkr := kq_r h
  rw [tj_m6 h]
  refine (i0_eq (by split <;> omega)).trans (propext ⟨fun z => ?_, fun z => ?_⟩)
  · split at z <;> omega
  · rw [if_neg (by omega)]; exact z
/-- a step of the reference's loop -/
theorem mL_step {M : Nat} {m1 : os_T} (h : tj X t m p) (hk : kq X p ≠ 0) (hc : ff_X13_command N m = some m1) : mL N (M + 1) m = if os_I m1 40 = os_I m 40 then ((ff_X13_mustSign N m1 (59 : Int32)).bind fun u => cL N N M u) else cL N N M m1 := by
  show ff_X13_runScript_c19 N _ m = _
  unfold ff_X13_runScript_c19
  rw [tj_good h, Option.bind_some, if_neg (show ¬ ((1 : Int32) = 0) by decide), if_neg (by rw [kq_6 h]; exact hk), hc, Option.bind_some]
  rfl
theorem mL_te {M : Nat} {m1 t1 : os_T} (hN : 0 < N) (h : tj X t m p) (hk : kq X p ≠ 0) (hc : ff_X13_command N m = some m1) (he : te t1 m1) (h4 : os_I m1 40 = os_I m 40) (hM : 1 < M) : mL N M m = ff_X13_runScript_b82 N m1 := by
  obtain ⟨M, rfl⟩ : ∃ M', M = M' + 1 := ⟨M - 1, by omega⟩
  rw [mL_step h hk hc, if_pos h4, te_mustSign he, Option.bind_some]
  exact te_cL he hN (by omega)
/-- the end of the text within a repeat -/
theorem mL_end {M d : Nat} (h : tj X t m p) (hk : kq X p = 0) (hd : os_I m 40 = Int32.ofInt (d : Int)) (hd1 : 1 ≤ d) (hd2 : d ≤ 2) (hM : 0 < M) : ∃ m1, mL N M m = ff_X13_runScript_b82 N m1 ∧ te (ss_I t 10 1) m1 ∧ sq ke kn m m1 := by
  obtain ⟨M, rfl⟩ : ∃ M', M = M' + 1 := ⟨M - 1, by omega⟩
  obtain ⟨m1, w1, w2, hj, hq, -⟩ := tj_fail (N := N) (c := 1) h (by omega) (by omega)
  refine ⟨m1, ?_, hj, hq⟩
  show ff_X13_runScript_c19 N _ m = _
  unfold ff_X13_runScript_c19 ff_X13_runScript_b63
  have w2 : ff_X13_wrong N m (1 : Int32) = some m1 := w2
  rw [tj_good h, Option.bind_some, if_neg (show ¬ ((1 : Int32) = 0) by decide), if_pos (by rw [kq_6 h]; exact hk), Option.bind_some, if_neg (show ¬ ((1 : Int32) = 0) by decide), hd]
  simp only [i0_le (a := (d : Int)) (by omega)]
  rw [if_neg (by omega), w2, Option.bind_some]
/-- commands of the reference that are wrong -/
theorem cmN (h : tj X t m p) (hh : ff_X13_commandHere N m = some (-1)) : ∃ m1, ff_X13_command N m = some m1 ∧ te (ss_I t 10 1) m1 ∧ sq ke kn m m1 := by
  obtain ⟨m1, w1, w2, hj, hq, -⟩ := tj_fail (N := N) (c := 1) h (by omega) (by omega)
  have w2 : ff_X13_wrong N m (1 : Int32) = some m1 := w2
  refine ⟨m1, ?_, hj, hq⟩
  unfold ff_X13_command ff_X13_command_b15 ff_X13_command_b34 ff_X13_command_b48
  rw [hh, Option.bind_some, if_pos rfl, w2, Option.bind_some, if_neg (show ¬ ((-1 : Int32) = 11) by decide), te_wrong hj, Option.bind_some, te_good hj, Option.bind_some, if_pos rfl]
  exact ite_self _
theorem cmD (h : tj X t m p) (hk : kq X p = 1) (hh : ff_X13_commandHere N m = some (Int32.ofInt 11)) (h4 : os_I m 40 = Int32.ofInt 2) : ∃ m1, ff_X13_command N m = some m1 ∧ te (ss_I t 10 3) m1 ∧ sq ke kn m m1 := by
  obtain ⟨m1, w1, w2, hj, hq, -⟩ := tj_fail (N := N) (c := 3) h (by omega) (by omega)
  have w2 : ff_X13_wrong N m (3 : Int32) = some m1 := w2
  refine ⟨m1, ?_, hj, hq⟩
  unfold ff_X13_command ff_X13_command_b15 ff_X13_command_b34 ff_X13_command_b48
  rw [hh, Option.bind_some, if_neg (show ¬ (Int32.ofInt 11 = -1) by decide), if_pos (show Int32.ofInt 11 = (11 : Int32) from rfl), h4, if_pos (show Int32.ofInt 2 = (2 : Int32) from rfl), w2, Option.bind_some, te_wrong hj, Option.bind_some, te_good hj, Option.bind_some, if_pos rfl]
  exact ite_self _
theorem cmG {k c d : Nat} (hN : 1000 < N) (h : tj X t m p) (hkq : kq X p = 1) (hk : k < 12) (hh : ff_X13_commandHere N m = some (Int32.ofInt (k : Int))) (h4 : os_I m 40 = Int32.ofInt (d : Int)) (hd : d ≤ 2) (hkd : ¬ (k = 11 ∧ d = 2)) (h39 : os_I m 39 = Int32.ofInt (c : Int)) (hc : c ≤ 30) : (c = 30 ∧ ∃ m1, ff_X13_command N m = some m1 ∧ te (ss_I t 10 5) m1 ∧ sq ke kn m m1) ∨ (c < 30 ∧ ∃ t1 m1, ff_X10_advance N t = some t1 ∧ ff_X13_command N m = ff_X13_command_l72 N N (m1, Int32.ofInt (k : Int), (0 : Int32)) ∧ tj X t1 m1 (p + 1) ∧ os_I m1 39 = Int32.ofInt ((c + 1 : Nat) : Int) ∧ sq (fun i => ke i ∨ i = 39) kn m m1) := by
  have ek : ¬ (Int32.ofInt (k : Int) = (-1 : Int32)) := fun z => by
    have := (ia_eq (a := (k : Int)) (b := -1) (by omega) (by omega) (by omega) (by omega)).mp (show Int32.ofInt (k : Int) = Int32.ofInt (-1) from z)
    omega
  have ek11 : (Int32.ofInt (k : Int) = (11 : Int32)) = (k = 11) := (ia_eq (b := 11) (by omega) (by omega) (by omega) (by omega)).trans (propext (by omega))
  have ed2 : (Int32.ofInt (d : Int) = (2 : Int32)) = (d = 2) := (ia_eq (b := 2) (by omega) (by omega) (by omega) (by omega)).trans (propext (by omega))
  have ec30 : (Int32.ofInt (c : Int) = (30 : Int32)) = (c = 30) := (ia_eq (b := 30) (by omega) (by omega) (by omega) (by omega)).trans (propext (by omega))
  have e34 : ff_X13_command N m = ff_X13_command_b34 N m (Int32.ofInt (k : Int)) := by
    unfold ff_X13_command ff_X13_command_b15
    rw [hh, Option.bind_some, if_neg ek, h4]
    simp only [ek11, ed2]
    by_cases c1 : k = 11
    · rw [if_pos c1, if_neg (by omega)]
    · rw [if_neg c1]
  rw [e34]
  unfold ff_X13_command_b34
  rw [h39]
  simp only [ec30]
  by_cases c3 : c = 30
  · left
    obtain ⟨m1, w1, w2, hj, hq, -⟩ := tj_fail (N := N) (c := 5) h (by omega) (by omega)
    have w2 : ff_X13_wrong N m (5 : Int32) = some m1 := w2
    refine ⟨c3, m1, ?_, hj, hq⟩
    unfold ff_X13_command_b48
    rw [if_pos c3, w2, Option.bind_some, te_good hj, Option.bind_some, if_pos rfl]
  · right
    have cp : p < X.2.2.2.2.2 := (kq_w h hkq).1
    have hj : tj X t (ss_I m 39 (Int32.ofInt ((c + 1 : Nat) : Int))) p := tj_I h (by decide)
    obtain ⟨t1, m1, w1, w2, h3, q3⟩ := tj_adv (N := N) hN hj cp
    refine ⟨by omega, t1, m1, w1, ?_, h3, by rw [q3.1 39 (by decide)]; rfl, (show sq (fun i => ke i ∨ i = 39) kn m (ss_I m 39 (Int32.ofInt ((c + 1 : Nat) : Int))) from sq_I (Or.inr rfl)).tr (q3.mono (fun i hi => Or.inl hi) (fun j hj => hj))⟩
    unfold ff_X13_command_b48
    have einc : Int32.ofInt (c : Int) + (1 : Int32) = Int32.ofInt ((c + 1 : Nat) : Int) := by rw [ii_1, ia_add]; rfl
    rw [if_neg c3, tj_good h, Option.bind_some, if_neg (show ¬ ((1 : Int32) = 0) by decide), h39, einc, w2, Option.bind_some]
/-- a command is kept -/
theorem cmK {k q d : Nat} (h : tj X t m p) (hk : k < 12) (h38 : os_I m 38 = Int32.ofInt (q : Int)) (hq : q < 60) (h4 : os_I m 40 = Int32.ofInt (d : Int)) : ff_X13_command_b143 N m (Int32.ofInt (k : Int)) = some (ss_I (ss_I (ss_A m 13 (upd (os_A m 13) q (Int32.ofInt (k : Int)))) 38 (Int32.ofInt ((q + 1 : Nat) : Int))) 40 (Int32.ofInt ((d + (if k = 11 then 1 else 0) : Nat) : Int))) := by
  have ek11 : (Int32.ofInt (k : Int) = (11 : Int32)) = (k = 11) := (ia_eq (b := 11) (by omega) (by omega) (by omega) (by omega)).trans (propext (by omega))
  have einc : Int32.ofInt (q : Int) + (1 : Int32) = Int32.ofInt ((q + 1 : Nat) : Int) := by rw [ii_1, ia_add]; rfl
  unfold ff_X13_command_b143 ff_X13_command_b187 ff_X13_truth
  simp only [ek11]
  rw [tj_good h, Option.bind_some, if_neg (show ¬ ((1 : Int32) = 0) by decide), h38, h4, einc, if_pos (ia_in (by omega) (by omega) (by omega)), ia_nat (by omega) (by omega), Int.toNat_natCast]
  by_cases c1 : k = 11
  · rw [if_pos c1, if_pos c1, if_neg (show ¬ ((1 : Int32) = 0) by decide), Option.bind_some, ii_1, ia_add]; rfl
  · rw [if_neg c1, if_neg c1, if_pos trivial, Option.bind_some, ii_0, ia_add]; rfl
/-- a bracket closes -/
theorem cL_close {f M d q : Nat} (hN : 1000 < N) (h : tj X t m p) (hs : kq X p = 3 ∧ fq X p 0 = 41) (h4 : os_I m 40 = Int32.ofInt ((d + 1 : Nat) : Int)) (hd : d ≤ 1) (h38 : os_I m 38 = Int32.ofInt (q : Int)) (hq : q < 60) : ∃ t1 m1, ff_X10_takeSign N t (41 : Int32) = some (1, t1) ∧ tj X t1 m1 (p + 1) ∧ cL N (f + 1) M m = ((ff_X13_mustSign N m1 (59 : Int32)).bind fun u => cL N f M u) ∧ os_I m1 38 = Int32.ofInt ((q + 1 : Nat) : Int) ∧ os_I m1 40 = Int32.ofInt (d : Int) ∧ os_A m1 13 = upd (os_A m 13) q (Int32.ofInt 12) ∧ p < X.2.2.2.2.2 ∧ sq (fun i => ke i ∨ i = 38 ∨ i = 40) (fun j => j = 13) m m1 := by
  have hr := kq_r h
  have cp : p < X.2.2.2.2.2 := by omega
  have hj0 : tj X t (ss_I (ss_I (ss_A m 13 (upd (os_A m 13) q (Int32.ofInt 12))) 38 (Int32.ofInt ((q + 1 : Nat) : Int))) 40 (Int32.ofInt (d : Int))) p := tj_I (tj_I (tj_A h (by decide)) (by decide)) (by decide)
  obtain ⟨t1, m1, w1, w2, h3, q3⟩ := tj_adv (N := N) hN hj0 cp
  have y0 : sq (fun i => ke i ∨ i = 38 ∨ i = 40) (fun j => j = 13) m (ss_I (ss_I (ss_A m 13 (upd (os_A m 13) q (Int32.ofInt 12))) 38 (Int32.ofInt ((q + 1 : Nat) : Int))) 40 (Int32.ofInt (d : Int))) := ((show sq (fun i => ke i ∨ i = 38 ∨ i = 40) (fun j => j = 13) m (ss_A m 13 (upd (os_A m 13) q (Int32.ofInt 12))) from sq_A rfl).tr (sq_I (Or.inr (Or.inl rfl)))).tr (sq_I (Or.inr (Or.inr rfl)))
  refine ⟨t1, m1, ?_, h3, ?_, by rw [q3.1 38 (by decide)]; rfl, by rw [q3.1 40 (by decide)]; rfl, by rw [q3.2 13 (fun z => z)]; rfl, cp, y0.tr (q3.mono (fun i hi => Or.inl hi) (fun j hj => hj.elim))⟩
  · unfold ff_X10_takeSign
    show ((ff_X10_isSign N t (Int32.ofInt 41)).bind _) = _
    rw [(tj_isSign (N := N) h (v := 41) (by decide)).1, Option.bind_some, oz_ite, if_pos hs, w1, Option.bind_some]
  · have e0 : ff_X13_closes_c0 N (os_loop (fun k0 s1 => ff_X13_closes_c0 N k0 s1) f) m = ((ff_X13_mustSign N m1 (59 : Int32)).bind fun u => os_loop (fun k0 s1 => ff_X13_closes_c0 N k0 s1) f u) := by
      rw [ff_X13_closes_c0, h4]
      simp only [i0_le (a := ((d + 1 : Nat) : Int)) (by omega)]
      rw [if_neg (by omega)]
      show ((ff_X13_isSign N m (Int32.ofInt 41)).bind _) = _
      have e1 : Int32.ofInt ((d + 1 : Nat) : Int) - (1 : Int32) = Int32.ofInt (d : Int) := by rw [ii_1, ia_sub]; congr 1; omega
      have einc : Int32.ofInt (q : Int) + (1 : Int32) = Int32.ofInt ((q + 1 : Nat) : Int) := by rw [ii_1, ia_add]; rfl
      have w2 : ff_X13_goOn N (ss_I (ss_I (ss_A m 13 (upd (os_A m 13) q (12 : Int32))) 38 (Int32.ofInt ((q + 1 : Nat) : Int))) 40 (Int32.ofInt (d : Int))) = some m1 := w2
      rw [(tj_isSign (N := N) h (v := 41) (by decide)).2, Option.bind_some, oz_ite, if_pos hs, h38, if_pos (ia_in (by omega) (by omega) (by omega)), ia_nat (by omega) (by omega), Int.toNat_natCast, einc, e1, w2, Option.bind_some]
    show ((ff_X13_closes_c0 N (os_loop (fun k0 s1 => ff_X13_closes_c0 N k0 s1) f) m).bind fun u => mL N M u) = _
    rw [e0]
    cases ff_X13_mustSign N m1 (59 : Int32) <;> rfl
end Machine
