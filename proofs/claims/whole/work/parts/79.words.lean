/-! LAYER 2. A script's words and numbers -/
theorem wk_0 : (671173 : Int64) = Int64.ofInt (wcv 0) := by decide +kernel
theorem wk_1 : (273980692 : Int64) = Int64.ofInt (wcv 1) := by decide +kernel
theorem wk_2 : (206220 : Int64) = Int64.ofInt (wcv 2) := by decide +kernel
theorem wk_3 : (20579760 : Int64) = Int64.ofInt (wcv 3) := by decide +kernel
theorem wk_4 : (651673224 : Int64) = Int64.ofInt (wcv 4) := by decide +kernel
theorem wk_5 : (609748274 : Int64) = Int64.ofInt (wcv 5) := by decide +kernel
theorem wk_6 : (165477 : Int64) = Int64.ofInt (wcv 6) := by decide +kernel
theorem wk_7 : (144318642 : Int64) = Int64.ofInt (wcv 7) := by decide +kernel
theorem wk_8 : (553002600 : Int64) = Int64.ofInt (wcv 8) := by decide +kernel
theorem wk_9 : (317396564 : Int64) = Int64.ofInt (wcv 9) := by decide +kernel
theorem wk_10 : (446253554 : Int64) = Int64.ofInt (wcv 10) := by decide +kernel
theorem wk_11 : (609752116 : Int64) = Int64.ofInt (wcv 11) := by decide +kernel
theorem wk_inj : ∀ i, i < 12 → ∀ j, j < 12 → wcv i = wcv j → i = j := by decide +kernel
section Script
variable {N : Nat} {X : tx} {t m s : os_T} {p : Nat}
theorem pr_word (hN : 1000 < N) (h : tj X t m p) {k : Nat} (hk : k < 12) (h1 : kq X p = 1) (h2 : wl (fq X p) (zq X p) = wcv k) : ff_X8_presentCommand N s t = some (0, some k) ∧ ff_X13_commandHere N m = some (Int32.ofInt (k : Int)) := by
  have eC : ∀ j, j < 19 → ff_X10_isWord N t j = some (0, oz (decide (wcv k = wcv j))) := fun j hj => by
    rw [tj_isWord hN h hj, h2]
    simp [h1]
  have eR : ∀ j, j < 12 → ∀ w : Int64, w = Int64.ofInt (wcv j) → ff_X13_isWord N m w = some (oz (decide (k = j))) := fun j hj w hw => by
    rw [tj_isWordR h (by omega) hw, h2]
    have : (kq X p = 1 ∧ wcv k = wcv j) ↔ k = j := ⟨fun z => wk_inj k hk j hj z.2, fun z => ⟨h1, by rw [z]⟩⟩
    simp only [this]
  constructor
  · unfold ff_X8_presentCommand ff_X8_presentCommand_l2
    refine lo_run (fun i => Int32.ofInt (i : Int)) k (fun i hi r => ?_) (fun r => ?_) (by omega)
    · show ff_X8_presentCommand_c2 N s t r (Int32.ofInt (i : Int)) = _
      unfold ff_X8_presentCommand_c2
      have hne : ¬ (wcv k = wcv i) := fun z => by
        have := wk_inj k hk i (by omega) z
        omega
      rw [ii_12, ii_le (by omega) (by omega), if_neg (by omega)]
      simp only [if_pos (show os_in (Int32.ofInt (i : Int)) 12 from ia_in (by omega) (by omega) (by omega))]
      rw [ia_nat (by omega) (by omega), Int.toNat_natCast, if_pos (by omega), eC i (by omega), Option.bind_some, if_pos rfl, oz_ite, if_neg hne, ii_1, ia_add]
      rfl
    · show ff_X8_presentCommand_c2 N s t r (Int32.ofInt (k : Int)) = _
      unfold ff_X8_presentCommand_c2
      rw [ii_12, ii_le (by omega) (by omega), if_neg (by omega)]
      simp only [if_pos (show os_in (Int32.ofInt (k : Int)) 12 from ia_in (by omega) (by omega) (by omega))]
      rw [ia_nat (by omega) (by omega), Int.toNat_natCast, if_pos (by omega), eC k (by omega), Option.bind_some, if_pos rfl, oz_ite, if_pos rfl]
  · unfold ff_X13_commandHere
    rw [eR 0 (by decide) _ wk_0, eR 1 (by decide) _ wk_1, eR 2 (by decide) _ wk_2, eR 3 (by decide) _ wk_3, eR 4 (by decide) _ wk_4, eR 6 (by decide) _ wk_6, eR 5 (by decide) _ wk_5, eR 7 (by decide) _ wk_7, eR 8 (by decide) _ wk_8, eR 9 (by decide) _ wk_9, eR 10 (by decide) _ wk_10, eR 11 (by decide) _ wk_11]
    have hk2 : k = 0 ∨ k = 1 ∨ k = 2 ∨ k = 3 ∨ k = 4 ∨ k = 5 ∨ k = 6 ∨ k = 7 ∨ k = 8 ∨ k = 9 ∨ k = 10 ∨ k = 11 := by omega
    rcases hk2 with rfl | rfl | rfl | rfl | rfl | rfl | rfl | rfl | rfl | rfl | rfl | rfl <;> rfl
theorem pr_none (hN : 1000 < N) (h : tj X t m p) (hn : ∀ k, k < 12 → ¬ (kq X p = 1 ∧ wl (fq X p) (zq X p) = wcv k)) : ff_X8_presentCommand N s t = some (0, none) ∧ ff_X13_commandHere N m = some (-1) := by
  have eR : ∀ j, j < 12 → ∀ w : Int64, w = Int64.ofInt (wcv j) → ff_X13_isWord N m w = some (oz false) := fun j hj w hw => by
    rw [tj_isWordR h (by omega) hw, decide_eq_false (hn j hj)]
  constructor
  · unfold ff_X8_presentCommand ff_X8_presentCommand_l2
    refine lo_run (fun i => Int32.ofInt (i : Int)) 12 (fun i hi r => ?_) (fun r => ?_) (by omega)
    · show ff_X8_presentCommand_c2 N s t r (Int32.ofInt (i : Int)) = _
      unfold ff_X8_presentCommand_c2
      rw [ii_12, ii_le (by omega) (by omega), if_neg (by omega)]
      simp only [if_pos (show os_in (Int32.ofInt (i : Int)) 12 from ia_in (by omega) (by omega) (by omega))]
      rw [ia_nat (by omega) (by omega), Int.toNat_natCast, if_pos (by omega), tj_isWord hN h (by omega), Option.bind_some, if_pos rfl, oz_ite, if_neg (hn i hi), ii_1, ia_add]
      rfl
    · show ff_X8_presentCommand_c2 N s t r (Int32.ofInt ((12 : Nat) : Int)) = _
      unfold ff_X8_presentCommand_c2
      rw [if_pos (by decide)]
  · unfold ff_X13_commandHere
    rw [eR 0 (by decide) _ wk_0, eR 1 (by decide) _ wk_1, eR 2 (by decide) _ wk_2, eR 3 (by decide) _ wk_3, eR 4 (by decide) _ wk_4, eR 6 (by decide) _ wk_6, eR 5 (by decide) _ wk_5, eR 7 (by decide) _ wk_7, eR 8 (by decide) _ wk_8, eR 9 (by decide) _ wk_9, eR 10 (by decide) _ wk_10, eR 11 (by decide) _ wk_11]
    rfl
/-- how many numbers a command has -/
def nm (k : Nat) : Nat := if k = 0 ∨ k = 1 then 3 else if k = 2 then 5 else if k = 3 then 4 else if k = 11 ∨ k = 4 then 1 else 0
theorem nm_c : ∀ k, k < 12 → st_num.getD k 0 = Int32.ofInt (nm k : Int) ∧ ff_X13_numbersOf 0 (Int32.ofInt (k : Int)) = some (Int32.ofInt (nm k : Int)) ∧ nm k ≤ 5 := by decide +kernel
theorem nm_ref {k : Nat} (hk : k < 12) : ff_X13_numbersOf N (Int32.ofInt (k : Int)) = some (Int32.ofInt (nm k : Int)) := (nm_c k hk).2.1
def lw (k : Nat) : Int := if k = 11 then 1 else 0
def hw (k n : Nat) : Int := if k = 0 ∧ n = 2 then 255 else 20
/-- numbers of a command, in an error -/
theorem te_nums {k q : Nat} (hk : k < 12) (hq : q < 60) : ∀ j n M (m : os_T), n + j = nm k → j < M → te t m → os_I m 38 = Int32.ofInt (q : Int) → ∃ m', os_loop (fun k72 s1 => ff_X13_command_c72 N k72 s1.1 s1.2.1 s1.2.2) M (m, Int32.ofInt (k : Int), Int32.ofInt (n : Int)) = some m' ∧ te t m' ∧ sq kn (fun j => j = 14) m m' := by
  have hk5 := (nm_c k hk).2.2
  intro j
  induction j with
  | zero =>
    intro n M m hn hM ht h38
    obtain ⟨M', rfl⟩ : ∃ M', M = M' + 1 := ⟨M - 1, by omega⟩
    refine ⟨m, ?_, ht, sq.rf⟩
    rw [lo_1]
    show ff_X13_command_c72 N _ m (Int32.ofInt (k : Int)) (Int32.ofInt (n : Int)) = _
    unfold ff_X13_command_c72 ff_X13_command_b143
    rw [nm_ref hk, Option.bind_some, ii_le (by omega) (by omega), if_pos (by omega), te_mustSign ht, Option.bind_some, te_good ht, Option.bind_some, if_pos rfl]
    exact ite_self _
  | succ j ih =>
    intro n M m hn hM ht h38
    obtain ⟨M', rfl⟩ : ∃ M', M = M' + 1 := ⟨M - 1, by omega⟩
    have hin : os_in ((5 : Int32) * Int32.ofInt (q : Int) + Int32.ofInt (n : Int)) 300 := by
      rw [ii_5, ia_mul, ia_add]
      exact ia_in (by omega) (by omega) (by omega)
    obtain ⟨m', e', h', q'⟩ := ih (n + 1) M' (ss_A m 14 (upd (os_A m 14) (Int32.toNatClampNeg ((5 : Int32) * Int32.ofInt (q : Int) + Int32.ofInt (n : Int))) (os_I m 7))) (by omega) (by omega) (te_A ht) h38
    have einc : Int32.ofInt (n : Int) + 1 = Int32.ofInt ((n + 1 : Nat) : Int) := by rw [ii_1, ia_add]; rfl
    refine ⟨m', ?_, h', (show sq kn (fun j => j = 14) m (ss_A m 14 (upd (os_A m 14) (Int32.toNatClampNeg ((5 : Int32) * Int32.ofInt (q : Int) + Int32.ofInt (n : Int))) (os_I m 7))) from sq_A rfl).tr q'⟩
    rw [lo_1]
    show ff_X13_command_c72 N _ m (Int32.ofInt (k : Int)) (Int32.ofInt (n : Int)) = _
    unfold ff_X13_command_c72 ff_X13_command_b104 ff_X13_command_b119 ff_X13_command_b121
    have en : ∀ a b : Int32, ff_X13_number N m a b = some (os_I m 7, m) := fun a b => te_number ht
    simp only [en, Option.bind_some, h38, if_pos hin]
    rw [nm_ref hk, Option.bind_some, ii_le (by omega) (by omega), if_neg (by omega), einc, ite_self, ite_self, ite_self]
    exact e'
/-- numbers of a command -/
theorem sc_nums (hN : 1000 < N) {k q i : Nat} (hk : k < 12) (hq : q < 60) (hi : i < 30) : ∀ j n M1 M2 (p : Nat) (t m s : os_T) (V : Nat → Int), n + j = nm k → j < M1 → j < M2 → tj X t m p → os_I m 38 = Int32.ofInt (q : Int) → (∀ a, a < n → (lw k ≤ V a ∧ V a ≤ hw k a) ∧ os_A s 0 (5 * i + a) = Int32.ofInt (V a) ∧ os_A m 14 (5 * q + a) = Int32.ofInt (V a)) →
    (∃ (p' : Nat) (t' m' s' : os_T) (V' : Nat → Int), os_loop (fun k16 s1 => ff_X8_readNumbers_c16 N k16 s1.1 s1.2.1 s1.2.2.1 s1.2.2.2.1 s1.2.2.2.2.1 s1.2.2.2.2.2) M1 (s, t, k, Int32.ofInt (i : Int), Int32.ofInt (lw k), Int32.ofInt (n : Int)) = some (0, 1, s', t') ∧ os_loop (fun k72 s1 => ff_X13_command_c72 N k72 s1.1 s1.2.1 s1.2.2) M2 (m, Int32.ofInt (k : Int), Int32.ofInt (n : Int)) = (if Int32.ofInt (k : Int) = (11 : Int32) then ((ff_X13_mustSign N m' (40 : Int32)).bind fun u_22 => ff_X13_command_b143 N u_22 (Int32.ofInt (k : Int))) else ff_X13_command_b143 N m' (Int32.ofInt (k : Int))) ∧ tj X t' m' p' ∧ p ≤ p' ∧ (∀ a, a < nm k → (lw k ≤ V' a ∧ V' a ≤ hw k a) ∧ os_A s' 0 (5 * i + a) = Int32.ofInt (V' a) ∧ os_A m' 14 (5 * q + a) = Int32.ofInt (V' a)) ∧ (∀ a, (a < 5 * i ∨ 5 * i + 5 ≤ a) → os_A s' 0 a = os_A s 0 a) ∧ (∀ a, (a < 5 * q ∨ 5 * q + 5 ≤ a) → os_A m' 14 a = os_A m 14 a) ∧ sq kn (fun j => j = 0) s s' ∧ s'.2.2.2 = s.2.2.2 ∧ sq ke (fun j => j = 14) m m') ∨
    (∃ (t' m' s' : os_T), os_loop (fun k16 s1 => ff_X8_readNumbers_c16 N k16 s1.1 s1.2.1 s1.2.2.1 s1.2.2.2.1 s1.2.2.2.2.1 s1.2.2.2.2.2) M1 (s, t, k, Int32.ofInt (i : Int), Int32.ofInt (lw k), Int32.ofInt (n : Int)) = some (0, 0, s', t') ∧ os_loop (fun k72 s1 => ff_X13_command_c72 N k72 s1.1 s1.2.1 s1.2.2) M2 (m, Int32.ofInt (k : Int), Int32.ofInt (n : Int)) = some m' ∧ te t' m' ∧ sq ke (fun j => j = 14) m m') := by
  have hk5 := (nm_c k hk).2.2
  have enm := (nm_c k hk).1
  intro j
  induction j with
  | zero =>
    intro n M1 M2 p t m s V hn h1 h2 ht h38 hV
    obtain ⟨M1, rfl⟩ : ∃ M', M1 = M' + 1 := ⟨M1 - 1, by omega⟩
    obtain ⟨M2, rfl⟩ : ∃ M', M2 = M' + 1 := ⟨M2 - 1, by omega⟩
    have hn : n = nm k := by omega
    subst hn
    refine Or.inl ⟨p, t, m, s, V, ?_, ?_, ht, Nat.le_refl _, hV, fun _ _ => rfl, fun _ _ => rfl, sq.rf, rfl, sq.rf⟩
    · rw [lo_1]
      show ff_X8_readNumbers_c16 N _ s t k (Int32.ofInt (i : Int)) (Int32.ofInt (lw k)) (Int32.ofInt (nm k : Int)) = _
      unfold ff_X8_readNumbers_c16
      rw [if_pos hk, enm, ii_le (by omega) (by omega), if_pos (by omega)]
    · rw [lo_1]
      show ff_X13_command_c72 N _ m (Int32.ofInt (k : Int)) (Int32.ofInt (nm k : Int)) = _
      unfold ff_X13_command_c72
      rw [nm_ref hk, Option.bind_some, ii_le (by omega) (by omega), if_pos (by omega)]
  | succ j ih =>
    intro n M1 M2 p t m s V hn h1 h2 ht h38 hV
    obtain ⟨M1, rfl⟩ : ∃ M', M1 = M' + 1 := ⟨M1 - 1, by omega⟩
    obtain ⟨M2, rfl⟩ : ∃ M', M2 = M' + 1 := ⟨M2 - 1, by omega⟩
    have hlw : 0 ≤ lw k ∧ lw k ≤ 1 := by unfold lw; split <;> omega
    have hhw : 20 ≤ hw k n ∧ hw k n ≤ 255 := by unfold hw; split <;> omega
    have ek0 : (Int32.ofInt (k : Int) = 0) = (k = 0) := (i0_eq (by omega)).trans (propext (by omega))
    have ek11 : (Int32.ofInt (k : Int) = (11 : Int32)) = (k = 11) := (ia_eq (b := 11) (by omega) (by omega) (by omega) (by omega)).trans (propext (by omega))
    have en2 : (Int32.ofInt (n : Int) = (2 : Int32)) = (n = 2) := (ia_eq (b := 2) (by omega) (by omega) (by omega) (by omega)).trans (propext (by omega))
    have einc : Int32.ofInt (n : Int) + 1 = Int32.ofInt ((n + 1 : Nat) : Int) := by rw [ii_1, ia_add]; rfl
    have e5i : Int32.ofInt (i : Int) * (5 : Int32) + Int32.ofInt (n : Int) = Int32.ofInt ((5 * i + n : Nat) : Int) := by
      rw [ii_5, ia_mul, ia_add]; congr 1; omega
    have e5q : (5 : Int32) * Int32.ofInt (q : Int) + Int32.ofInt (n : Int) = Int32.ofInt ((5 * q + n : Nat) : Int) := by
      rw [ii_5, ia_mul, ia_add]; congr 1
    have in1 : os_in (Int32.ofInt ((5 * i + n : Nat) : Int)) 150 := ia_in (by omega) (by omega) (by omega)
    have in2 : os_in (Int32.ofInt ((5 * q + n : Nat) : Int)) 300 := ia_in (by omega) (by omega) (by omega)
    have cls : ∀ g, ff_X8_readNumbers_c16 N g s t k (Int32.ofInt (i : Int)) (Int32.ofInt (lw k)) (Int32.ofInt (n : Int)) = ff_X8_readNumbers_b52 N g s t k (Int32.ofInt (i : Int)) (Int32.ofInt (lw k)) (Int32.ofInt (n : Int)) (Int32.ofInt (hw k n)) := fun g => by
      unfold ff_X8_readNumbers_c16 ff_X8_readNumbers_b50
      simp only [en2]
      rw [if_pos hk, enm, ii_le (by omega) (by omega), if_neg (by omega), ii_5, ii_le (by omega) (by omega), if_neg (by omega), if_pos hk]
      unfold hw
      by_cases c1 : k = 0
      · rw [if_pos c1]
        by_cases c2 : n = 2
        · rw [if_pos c2, if_pos ⟨c1, c2⟩]; rfl
        · rw [if_neg c2, if_neg (fun z => c2 z.2)]; rfl
      · rw [if_neg c1, if_neg (fun z => c1 z.1)]; rfl
    have ref : ∀ g, ff_X13_command_c72 N g m (Int32.ofInt (k : Int)) (Int32.ofInt (n : Int)) = ff_X13_command_b121 N g m (Int32.ofInt (k : Int)) (Int32.ofInt (n : Int)) (Int32.ofInt (hw k n)) (Int32.ofInt (lw k)) (Int32.ofInt ((5 * q + n : Nat) : Int)) := fun g => by
      unfold ff_X13_command_c72 ff_X13_command_b104 ff_X13_command_b119
      rw [nm_ref hk, Option.bind_some, ii_le (by omega) (by omega), if_neg (by omega), h38, e5q]
      simp only [ek0, ek11, en2]
      unfold hw lw
      by_cases c11 : k = 11
      · rw [if_pos c11, if_neg (by omega), if_neg (fun z => by omega), if_pos c11]; rfl
      · rw [if_neg c11, if_neg c11]
        by_cases c1 : k = 0
        · rw [if_pos c1]
          by_cases c2 : n = 2
          · rw [if_pos c2, if_pos ⟨c1, c2⟩]; rfl
          · rw [if_neg c2, if_neg (fun z => c2 z.2)]; rfl
        · rw [if_neg c1, if_neg (fun z => c1 z.1)]; rfl
    rw [lo_1, lo_1]
    rcases tj_number (N := N) (a := lw k) (b := hw k n) hN ht (by omega) (by omega) with ⟨v, t2, m2, v1, v2, w1, w2, h3, -, q2⟩ | ⟨t2, m2, w, w1, w2, h3, q2⟩
    · have s1 : ff_X8_readNumbers_c16 N (os_loop (fun k16 s1 => ff_X8_readNumbers_c16 N k16 s1.1 s1.2.1 s1.2.2.1 s1.2.2.2.1 s1.2.2.2.2.1 s1.2.2.2.2.2) M1) s t k (Int32.ofInt (i : Int)) (Int32.ofInt (lw k)) (Int32.ofInt (n : Int)) = os_loop (fun k16 s1 => ff_X8_readNumbers_c16 N k16 s1.1 s1.2.1 s1.2.2.1 s1.2.2.2.1 s1.2.2.2.2.1 s1.2.2.2.2.2) M1 (ss_A s 0 (upd (os_A s 0) (5 * i + n) (Int32.ofInt v)), t2, k, Int32.ofInt (i : Int), Int32.ofInt (lw k), Int32.ofInt ((n + 1 : Nat) : Int)) := by
        rw [cls, ff_X8_readNumbers_b52, w1, Option.bind_some, neg1 (by omega), e5i, if_pos in1, ia_nat (by omega) (by omega), Int.toNat_natCast, einc]
      have s2 : ff_X13_command_c72 N (os_loop (fun k72 s1 => ff_X13_command_c72 N k72 s1.1 s1.2.1 s1.2.2) M2) m (Int32.ofInt (k : Int)) (Int32.ofInt (n : Int)) = os_loop (fun k72 s1 => ff_X13_command_c72 N k72 s1.1 s1.2.1 s1.2.2) M2 (ss_A m2 14 (upd (os_A m2 14) (5 * q + n) (Int32.ofInt v)), Int32.ofInt (k : Int), Int32.ofInt ((n + 1 : Nat) : Int)) := by
        rw [ref, ff_X13_command_b121, w2, Option.bind_some, if_pos in2, ia_nat (by omega) (by omega), Int.toNat_natCast, einc]
      have f14 : os_A m2 14 = os_A m 14 := q2.2 14 (fun z => z)
      have qs : sq ke (fun j => j = 14) m (ss_A m2 14 (upd (os_A m2 14) (5 * q + n) (Int32.ofInt v))) := (q2.mono (fun i hi => hi) (fun j hj => hj.elim)).tr (sq_A rfl)
      rcases ih (n + 1) M1 M2 (p + 1) t2 (ss_A m2 14 (upd (os_A m2 14) (5 * q + n) (Int32.ofInt v))) (ss_A s 0 (upd (os_A s 0) (5 * i + n) (Int32.ofInt v))) (fun a => if a = n then v else V a) (by omega) (by omega) (by omega) (tj_A h3 (by decide)) (by show os_I m2 38 = _; rw [q2.1 38 (by decide)]; exact h38) (fun a ha => by
        show (lw k ≤ (if a = n then v else V a) ∧ (if a = n then v else V a) ≤ hw k a) ∧ upd (os_A s 0) (5 * i + n) (Int32.ofInt v) (5 * i + a) = Int32.ofInt (if a = n then v else V a) ∧ upd (os_A m2 14) (5 * q + n) (Int32.ofInt v) (5 * q + a) = Int32.ofInt (if a = n then v else V a)
        by_cases c : a = n
        · subst c
          rw [if_pos rfl, up_eq, up_eq]
          exact ⟨⟨v1, v2⟩, rfl, rfl⟩
        · rw [if_neg c, up_ne (by omega), up_ne (by omega), f14]
          exact hV a (by omega)) with ⟨p', t', m', s', V', g1, g2, g3, g4, g5, g6, g7, g8, g9, g10⟩ | ⟨t', m', s', g1, g2, g3, g4⟩
      · refine Or.inl ⟨p', t', m', s', V', s1.trans g1, s2.trans g2, g3, by omega, g5, fun a ha => ?_, fun a ha => ?_, (show sq kn (fun j => j = 0) s (ss_A s 0 (upd (os_A s 0) (5 * i + n) (Int32.ofInt v))) from sq_A rfl).tr g8, g9, qs.tr g10⟩
        · rw [g6 a ha]
          show upd (os_A s 0) (5 * i + n) (Int32.ofInt v) a = _
          rw [up_ne (by omega)]
        · rw [g7 a ha]
          show upd (os_A m2 14) (5 * q + n) (Int32.ofInt v) a = _
          rw [up_ne (by omega), f14]
      · exact Or.inr ⟨t', m', s', s1.trans g1, s2.trans g2, g3, qs.tr g4⟩
    · obtain ⟨m', e', h', q'⟩ := te_nums (N := N) (t := t2) hk hq j (n + 1) M2 (ss_A m2 14 (upd (os_A m2 14) (5 * q + n) w)) (by omega) (by omega) (te_A h3) (by show os_I m2 38 = _; rw [q2.1 38 (by decide)]; exact h38)
      refine Or.inr ⟨t2, m', s, ?_, ?_, h', ((show sq ke (fun j => j = 14) m m2 from q2.mono (fun i hi => hi) (fun j hj => hj.elim)).tr (show sq ke (fun j => j = 14) m2 (ss_A m2 14 (upd (os_A m2 14) (5 * q + n) w)) from sq_A rfl)).tr (q'.mono (fun i hi => hi.elim) (fun j hj => hj))⟩
      · show ff_X8_readNumbers_c16 N _ s t k (Int32.ofInt (i : Int)) (Int32.ofInt (lw k)) (Int32.ofInt (n : Int)) = _
        rw [cls, ff_X8_readNumbers_b52, w1, Option.bind_some, if_pos rfl]
      · show ff_X13_command_c72 N _ m (Int32.ofInt (k : Int)) (Int32.ofInt (n : Int)) = _
        rw [ref, ff_X13_command_b121, w2, Option.bind_some, if_pos in2, ia_nat (by omega) (by omega), Int.toNat_natCast, einc]
        exact e'
end Script
