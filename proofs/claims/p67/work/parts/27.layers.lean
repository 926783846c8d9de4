/-! LAYER 2. Layers: runs and rectangles -/
/-- how often from 0 on p holds without a gap -/
def q_first (p : Nat → Bool) : Nat → Nat
  | 0 => 0
  | n + 1 => if p 0 = true then q_first (fun k => p (k + 1)) n + 1 else 0
theorem q_first_spec : ∀ (n : Nat) (p : Nat → Bool), (∃ m, m ≤ n ∧ p m = false) → (∀ k, k < q_first p n → p k = true) ∧ p (q_first p n) = false ∧ q_first p n ≤ n := by
  intro n
  induction n with
  | zero =>
    rintro p ⟨m, hm, e⟩
    obtain rfl : m = 0 := by omega
    exact ⟨fun k hk => absurd hk (Nat.not_lt_zero k), e, Nat.le_refl _⟩
  | succ n ih =>
    rintro p ⟨m, hm, e⟩
    unfold q_first
    by_cases c : p 0 = true
    · rw [if_pos c]
      obtain ⟨i1, i2, i3⟩ := ih (fun k => p (k + 1)) ⟨m - 1, by omega, by
        have : m ≠ 0 := fun z => by rw [z, c] at e; cases e
        show p (m - 1 + 1) = false
        rwa [show m - 1 + 1 = m by omega]⟩
      refine ⟨fun k hk => ?_, i2, by omega⟩
      rcases k with _ | k
      · exact c
      · exact i1 k (by omega)
    · rw [if_neg c]
      exact ⟨fun k hk => absurd hk (Nat.not_lt_zero k), by simpa using c, by omega⟩
/-- two loops of which the inner one ends all at one cell -/
theorem lo_gridX {S1 S2 α σ : Type} {step1 : (S1 → Option α) → S1 → Option α} {step2 : (S1 → Option α) → (S2 → Option α) → S2 → Option α} {out : Option α} {N : Nat} (emb1 : σ → Nat → S1) (emb2 : σ → Nat → Nat → S2) (w h : Nat) (g : Int → Int → σ → σ) (a0 : σ) (m : Nat) (hm : m < w * h)
    (h1 : ∀ a y r, y < h → step1 r (emb1 a y) = os_loop (step2 r) N (emb2 a y 0))
    (h2 : ∀ a x y k r, x < w → y < h → w * y + x < m → a = fo (fg w g) (w * y + x) a0 → step2 k r (emb2 a y x) = r (emb2 (g x y a) y (x + 1)))
    (h3 : ∀ a y k r, y < h → w * (y + 1) ≤ m → a = fo (fg w g) (w * (y + 1)) a0 → step2 k r (emb2 a y w) = k (emb1 a (y + 1)))
    (h4 : ∀ a k r, a = fo (fg w g) m a0 → step2 k r (emb2 a (m / w) (m % w)) = out) (hw : w < N) (hh : h < N) : os_loop step1 N (emb1 a0 0) = out := by
  have w0 : 0 < w := Nat.pos_of_ne_zero fun e => by subst e; simp at hm
  have hy : m / w < h := Nat.div_lt_of_lt_mul hm
  have hx : m % w < w := Nat.mod_lt _ w0
  have em : w * (m / w) + m % w = m := Nat.div_add_mod m w
  refine lo_run (fun y => emb1 (fo (fg w g) (w * y) a0) y) (m / w) ?_ ?_ (by omega)
  · intro y hy2 r
    show step1 r (emb1 (fo (fg w g) (w * y) a0) y) = _
    have hle : w * (y + 1) ≤ m := Nat.le_trans (Nat.mul_le_mul_left _ hy2) (by omega)
    rw [h1 _ y r (by omega)]
    refine lo_run (fun x => emb2 (fo (fg w g) (w * y + x) a0) y x) w ?_ ?_ hw
    · intro x hx r2
      show step2 r r2 (emb2 (fo (fg w g) (w * y + x) a0) y x) = _
      rw [h2 _ x y r r2 hx (by omega) (by rw [Nat.mul_add, Nat.mul_one] at hle; omega) rfl, ← fg_at (g := g) hx]
      rfl
    · intro r2
      exact h3 _ y r r2 (by omega) hle rfl
  · intro r
    show step1 r (emb1 (fo (fg w g) (w * (m / w)) a0) (m / w)) = _
    rw [h1 _ _ r hy]
    refine lo_run (fun x => emb2 (fo (fg w g) (w * (m / w) + x) a0) (m / w) x) (m % w) ?_ ?_ (by omega)
    · intro x hx2 r2
      show step2 r r2 (emb2 (fo (fg w g) (w * (m / w) + x) a0) (m / w) x) = _
      rw [h2 _ x _ r r2 (by omega) hy (by omega) rfl, ← fg_at (w := w) (g := g) (show x < w by omega)]
      rfl
    · intro r2
      exact h4 _ r r2 (by rw [em])
abbrev il (S : Nat → Nat) (H : Int → Int → Int) (d x y : Int) : Prop := ic S x y ∧ d ≤ H x y
def q_br (S : Nat → Nat) (H : Int → Int → Int) (d x y : Int) : Bool := decide (il S H d x y) && !decide (il S H d (x - 1) y)
def q_rl (S : Nat → Nat) (H : Int → Int → Int) (d x y : Int) : Nat := q_first (fun k => decide (il S H d (x + k) y)) 16
def q_tw (S : Nat → Nat) (H : Int → Int → Int) (d x y z : Int) : Bool := q_br S H d x z && decide (q_rl S H d x z = q_rl S H d x y)
def q_bb (S : Nat → Nat) (H : Int → Int → Int) (d x y : Int) : Bool := q_br S H d x y && !q_tw S H d x y (y - 1)
def q_ro (S : Nat → Nat) (H : Int → Int → Int) (d x y : Int) : Nat := q_first (fun k => q_tw S H d x y (y + k)) 12
theorem q_br_t {S : Nat → Nat} {H : Int → Int → Int} {d x y : Int} : q_br S H d x y = true ↔ il S H d x y ∧ ¬ il S H d (x - 1) y := by
  unfold q_br
  rw [Bool.and_eq_true, decide_eq_true_eq, Bool.not_eq_true', decide_eq_false_iff_not]
theorem q_rls {S : Nat → Nat} (hS : sv S) {H : Int → Int → Int} {d x y : Int} (hx : 0 ≤ x) : (∀ k : Nat, k < q_rl S H d x y → il S H d (x + k) y) ∧ ¬ il S H d (x + q_rl S H d x y) y ∧ q_rl S H d x y ≤ 16 := by
  have hs := sv_a hS
  obtain ⟨i1, i2, i3⟩ := q_first_spec 16 (fun k => decide (il S H d (x + k) y)) ⟨16, Nat.le_refl _, decide_eq_false (fun z => by omega)⟩
  exact ⟨fun k hk => of_decide_eq_true (i1 k hk), of_decide_eq_false i2, i3⟩
theorem q_ros {S : Nat → Nat} (hS : sv S) {H : Int → Int → Int} {d x y : Int} (hy : 0 ≤ y) : (∀ k : Nat, k < q_ro S H d x y → q_tw S H d x y (y + k) = true) ∧ q_tw S H d x y (y + q_ro S H d x y) = false ∧ q_ro S H d x y ≤ 12 := by
  have hs := sv_a hS
  exact q_first_spec 12 (fun k => q_tw S H d x y (y + k)) ⟨12, Nat.le_refl _, by
    have : q_br S H d x (y + 12) = false := by
      cases e : q_br S H d x (y + 12) with
      | false => rfl
      | true => have := q_br_t.mp e; omega
    show (q_br S H d x (y + 12) && _) = false
    rw [this]; rfl⟩
section Lay
variable {N : Nat} {o ol : os_T} {S : Nat → Nat} {T H : Int → Int → Int} {d : Int}
theorem pc_br (hS : sv S) (h : cp o S T H) (hH : wv S H) {x y : Int} (hx : -1000000 ≤ x ∧ x ≤ 1000000) (hy : ib y) (hd : ib d) : ff_X4_beginsRun N ol o (Int32.ofInt d) (Int32.ofInt x) (Int32.ofInt y) = some (oz (q_br S H d x y)) := by
  unfold ff_X4_beginsRun q_br
  rw [pc_reaches hS h hH (by omega) hy hd, Option.bind_some, oz_ite]
  by_cases c : il S H d x y
  · rw [if_pos c, decide_eq_true c, ii_1, ia_sub, pc_reaches hS h hH (by omega) hy hd, Option.bind_some, oz_ite]
    by_cases c2 : il S H d (x - 1) y
    · rw [if_pos c2, decide_eq_true c2]; rfl
    · rw [if_neg c2, decide_eq_false c2]; rfl
  · rw [if_neg c, decide_eq_false c]; rfl
theorem pc_rl (hN : 1000 < N) (hS : sv S) (h : cp o S T H) (hH : wv S H) {x y : Int} (hx : 0 ≤ x ∧ x ≤ 1000000) (hy : ib y) (hd : ib d) : ff_X4_runFrom N ol o (Int32.ofInt d) (Int32.ofInt x) (Int32.ofInt y) = some (Int32.ofInt (q_rl S H d x y)) := by
  obtain ⟨q1, q2, q3⟩ := q_rls hS (H := H) (d := d) (x := x) (y := y) hx.1
  unfold ff_X4_runFrom ff_X4_runFrom_l6
  have e : x = x + ((0 : Nat) : Int) := (Int.add_zero x).symm
  show os_loop _ N (Int32.ofInt d, Int32.ofInt x, Int32.ofInt y, Int32.ofInt x, Int32.ofInt ((0 : Nat) : Int)) = _
  rw [show (Int32.ofInt d, Int32.ofInt x, Int32.ofInt y, Int32.ofInt x, Int32.ofInt ((0 : Nat) : Int)) = (fun k : Nat => (Int32.ofInt d, Int32.ofInt x, Int32.ofInt y, Int32.ofInt (x + k), Int32.ofInt (k : Int))) 0 by show _ = (Int32.ofInt d, Int32.ofInt x, Int32.ofInt y, Int32.ofInt (x + ((0 : Nat) : Int)), Int32.ofInt ((0 : Nat) : Int)); rw [← e]]
  refine lo_run (fun k : Nat => (Int32.ofInt d, Int32.ofInt x, Int32.ofInt y, Int32.ofInt (x + k), Int32.ofInt (k : Int))) (q_rl S H d x y) ?_ ?_ (by omega)
  · intro k hk r
    show ff_X4_runFrom_c6 N ol o r (Int32.ofInt d) (Int32.ofInt x) (Int32.ofInt y) (Int32.ofInt (x + k)) (Int32.ofInt (k : Int)) = _
    unfold ff_X4_runFrom_c6
    rw [ii_16, ii_le (by omega) (by omega), if_neg (by omega), pc_reaches hS h hH (by omega) hy hd, Option.bind_some, oz_ite, if_pos (q1 k hk), ii_1, ia_add, ia_s, Int.add_assoc]
    rfl
  · intro r
    show ff_X4_runFrom_c6 N ol o r (Int32.ofInt d) (Int32.ofInt x) (Int32.ofInt y) (Int32.ofInt (x + (q_rl S H d x y : Nat))) (Int32.ofInt ((q_rl S H d x y : Nat) : Int)) = _
    unfold ff_X4_runFrom_c6 ff_X4_runFrom_b36
    rw [ia_sub, show x + (q_rl S H d x y : Int) - x = q_rl S H d x y by omega, ii_16, ii_le (by omega) (by omega), pc_reaches hS h hH (by omega) hy hd, Option.bind_some, oz_ite, if_neg q2]
    split <;> rfl
theorem oz_bt {α : Type} {b : Bool} {A B : α} (hb : b = true) : (if oz b = 0 then A else B) = B := by subst hb; rfl
theorem oz_bf {α : Type} {b : Bool} {A B : α} (hb : b = false) : (if oz b = 0 then A else B) = A := by subst hb; rfl
theorem br_x {x y : Int} (hb : q_br S H d x y = true) : 0 ≤ x ∧ x < S 0 ∧ 0 ≤ y ∧ y < S 1 := (q_br_t.mp hb).1.1
theorem pc_isRun (hN : 1000 < N) (hS : sv S) (h : cp o S T H) (hH : wv S H) {x y : Int} {n : Nat} (hn : n ≤ 1000) (hx : -1000000 ≤ x ∧ x ≤ 1000000) (hy : ib y) (hd : ib d) : ff_X4_isRun N ol o (Int32.ofInt d) (Int32.ofInt x) (Int32.ofInt y) (Int32.ofInt (n : Int)) = some (oz (q_br S H d x y && decide (q_rl S H d x y = n))) := by
  have hs := sv_a hS
  unfold ff_X4_isRun
  rw [pc_br hS h hH hx hy hd, Option.bind_some]
  cases hb : q_br S H d x y with
  | false => rfl
  | true =>
    have hq := br_x hb
    have q3 := (q_rls hS (H := H) (d := d) (x := x) (y := y) hq.1).2.2
    rw [oz_bt rfl, pc_rl hN hS h hH (by omega) hy hd, Option.bind_some, ii_eq (by omega) (by omega)]
    by_cases c : q_rl S H d x y = n
    · rw [if_pos (by omega), decide_eq_true c]; rfl
    · rw [if_neg (by omega), decide_eq_false c]; rfl
theorem pc_bb (hN : 1000 < N) (hS : sv S) (h : cp o S T H) (hH : wv S H) {x y : Int} (hx : -1000000 ≤ x ∧ x ≤ 1000000) (hy : -1000000 ≤ y ∧ y ≤ 1000000) (hd : ib d) : ff_X4_beginsBlock N ol o (Int32.ofInt d) (Int32.ofInt x) (Int32.ofInt y) = some (oz (q_bb S H d x y)) := by
  have hs := sv_a hS
  unfold ff_X4_beginsBlock q_bb
  rw [pc_br hS h hH hx (by omega) hd, Option.bind_some]
  cases hb : q_br S H d x y with
  | false => rfl
  | true =>
    have hq := br_x hb
    have q3 := (q_rls hS (H := H) (d := d) (x := x) (y := y) hq.1).2.2
    rw [oz_bt rfl, pc_rl hN hS h hH (by omega) (by omega) hd, Option.bind_some, ii_1, ia_sub, pc_isRun hN hS h hH (by omega) hx (by omega) hd, Option.bind_some]
    show _ = some (oz (true && !(q_br S H d x (y - 1) && decide (q_rl S H d x (y - 1) = q_rl S H d x y))))
    cases (q_br S H d x (y - 1) && decide (q_rl S H d x (y - 1) = q_rl S H d x y)) <;> rfl
theorem q_ro1 {x y : Int} (hb : q_br S H d x y = true) : 1 ≤ q_ro S H d x y := by
  unfold q_ro q_first
  have : q_tw S H d x y (y + ((0 : Nat) : Int)) = true := by
    rw [show y + ((0 : Nat) : Int) = y from Int.add_zero y]
    unfold q_tw
    rw [hb, decide_eq_true rfl]; rfl
  rw [if_pos this]
  omega
theorem pc_lcells (hN : 1000 < N) (hS : sv S) (h : cp o S T H) (hH : wv S H) (hd : ib d) : ff_X4_countOfCells N ol o (Int32.ofInt d) = some (Int32.ofInt (q_cnt S (fun x y => decide (il S H d x y)))) := by
  have hs := sv_a hS
  unfold ff_X4_countOfCells ff_X4_countOfCells_l4
  refine lo_grid (N := N) (step2 := fun k2 r2 s1 => ff_X4_countOfCells_c18 N ol o k2 r2 s1.1 s1.2.1 s1.2.2.1 s1.2.2.2) (fun (a : Int) (y : Nat) => (Int32.ofInt d, Int32.ofInt a, Int32.ofInt (y : Int))) (fun (a : Int) (y x : Nat) => (Int32.ofInt d, Int32.ofInt a, Int32.ofInt (y : Int), Int32.ofInt (x : Int))) (S 0) (S 1) (fun x y a => a + (bif decide (il S H d x y) then 1 else 0)) (0) ?_ ?_ ?_ ?_ (by omega) (by omega)
  · intro a y r hy
    show ff_X4_countOfCells_c4 N ol o r (Int32.ofInt d) (Int32.ofInt a) (Int32.ofInt (y : Int)) = _
    unfold ff_X4_countOfCells_c4
    rw [if_neg (pc_rN hS h (by omega))]
    rfl
  · intro a x y k r hx hy ha
    have hc : ic S (x : Int) (y : Int) := ic_n hx (by omega)
    have hr := ic_r hS hc
    show ff_X4_countOfCells_c18 N ol o k r (Int32.ofInt d) (Int32.ofInt a) (Int32.ofInt (y : Int)) (Int32.ofInt (x : Int)) = _
    unfold ff_X4_countOfCells_c18
    rw [if_neg (pc_wN hS h hx)]
    rw [pc_reaches hS h hH (by omega) (by omega) hd, Option.bind_some, oz_ite]
    unfold ff_X4_countOfCells_b50
    by_cases c : il S H d x y
    · rw [if_pos c, decide_eq_true c, ii_1, ia_add, ia_s]; rfl
    · rw [if_neg c, decide_eq_false c, ii_0, ii_1, ia_add, ia_s]; rfl
  · intro a y k r hy ha
    show ff_X4_countOfCells_c18 N ol o k r (Int32.ofInt d) (Int32.ofInt a) (Int32.ofInt (y : Int)) (Int32.ofInt (S 0 : Int)) = _
    unfold ff_X4_countOfCells_c18
    rw [if_pos (pc_wE h), ii_1, ia_add]
    rfl
  · intro r
    show ff_X4_countOfCells_c4 N ol o r (Int32.ofInt d) _ (Int32.ofInt (S 1 : Int)) = _
    unfold ff_X4_countOfCells_c4
    rw [if_pos (pc_rE h)]
    all_goals rfl

theorem pc_runs (hN : 1000 < N) (hS : sv S) (h : cp o S T H) (hH : wv S H) (hd : ib d) : ff_X4_countOfRuns N ol o (Int32.ofInt d) = some (Int32.ofInt (q_cnt S (q_br S H d))) := by
  have hs := sv_a hS
  unfold ff_X4_countOfRuns ff_X4_countOfRuns_l4
  refine lo_grid (N := N) (step2 := fun k2 r2 s1 => ff_X4_countOfRuns_c18 N ol o k2 r2 s1.1 s1.2.1 s1.2.2.1 s1.2.2.2) (fun (a : Int) (y : Nat) => (Int32.ofInt d, Int32.ofInt a, Int32.ofInt (y : Int))) (fun (a : Int) (y x : Nat) => (Int32.ofInt d, Int32.ofInt a, Int32.ofInt (y : Int), Int32.ofInt (x : Int))) (S 0) (S 1) (fun x y a => a + (bif q_br S H d x y then 1 else 0)) (0) ?_ ?_ ?_ ?_ (by omega) (by omega)
  · intro a y r hy
    show ff_X4_countOfRuns_c4 N ol o r (Int32.ofInt d) (Int32.ofInt a) (Int32.ofInt (y : Int)) = _
    unfold ff_X4_countOfRuns_c4
    rw [if_neg (pc_rN hS h (by omega))]
    rfl
  · intro a x y k r hx hy ha
    have hc : ic S (x : Int) (y : Int) := ic_n hx (by omega)
    have hr := ic_r hS hc
    show ff_X4_countOfRuns_c18 N ol o k r (Int32.ofInt d) (Int32.ofInt a) (Int32.ofInt (y : Int)) (Int32.ofInt (x : Int)) = _
    unfold ff_X4_countOfRuns_c18
    rw [if_neg (pc_wN hS h hx)]
    rw [pc_br hS h hH (by omega) (by omega) hd, Option.bind_some]
    unfold ff_X4_countOfRuns_b47
    cases hb : q_br S H d x y with
    | true => rw [oz_bt rfl, ii_1, ia_add, ia_s]; rfl
    | false => rw [oz_bf rfl, ii_0, ii_1, ia_add, ia_s]; rfl
  · intro a y k r hy ha
    show ff_X4_countOfRuns_c18 N ol o k r (Int32.ofInt d) (Int32.ofInt a) (Int32.ofInt (y : Int)) (Int32.ofInt (S 0 : Int)) = _
    unfold ff_X4_countOfRuns_c18
    rw [if_pos (pc_wE h), ii_1, ia_add]
    rfl
  · intro r
    show ff_X4_countOfRuns_c4 N ol o r (Int32.ofInt d) _ (Int32.ofInt (S 1 : Int)) = _
    unfold ff_X4_countOfRuns_c4
    rw [if_pos (pc_rE h)]
    all_goals rfl

end Lay
