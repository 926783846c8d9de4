/-! LAYER 2. Questions about heights: class and reference come to the same folds -/
theorem oz_ite {α : Type} {P : Prop} [Decidable P] {A B : α} : (if oz (decide P) = 0 then A else B) = if P then B else A := by
  by_cases h : P <;> simp [h, oz]
theorem ia_s (a : Nat) : Int32.ofInt (a : Int) + Int32.ofInt 1 = Int32.ofInt ((a + 1 : Nat) : Int) := ia_add _ _
theorem ic_n {S : Nat → Nat} {x y : Nat} (hx : x < S 0) (hy : y < S 1) : ic S (x : Int) (y : Int) := ⟨Int.natCast_nonneg _, Int.ofNat_lt.mpr hx, Int.natCast_nonneg _, Int.ofNat_lt.mpr hy⟩
section Guards
variable {N : Nat} {o : os_T} {S : Nat → Nat} {T H : Int → Int → Int}
theorem pc_wN (hS : sv S) (h : cp o S T H) {x : Nat} (hx : x < S 0) : ¬ (os_I o 0 ≤ Int32.ofInt (x : Int)) := by
  have := sv_a hS
  rw [h.1 0 (by decide), ia_le (by omega) (by omega) (by omega) (by omega)]
  omega
theorem pc_rN (hS : sv S) (h : cp o S T H) {y : Nat} (hy : y < S 1) : ¬ (os_I o 1 ≤ Int32.ofInt (y : Int)) := by
  have := sv_a hS
  rw [h.1 1 (by decide), ia_le (by omega) (by omega) (by omega) (by omega)]
  omega
theorem pc_wE (h : cp o S T H) : os_I o 0 ≤ Int32.ofInt (S 0 : Int) := by
  rw [h.1 0 (by decide)]
  exact Int32.le_refl _
theorem pc_rE (h : cp o S T H) : os_I o 1 ≤ Int32.ofInt (S 1 : Int) := by
  rw [h.1 1 (by decide)]
  exact Int32.le_refl _
theorem pc_rE1 (hS : sv S) (h : cp o S T H) : os_I o 1 ≤ Int32.ofInt ((S 1 - 1 + 1 : Nat) : Int) := by
  have := sv_a hS
  rw [h.1 1 (by decide), show S 1 - 1 + 1 = S 1 by omega]
  exact Int32.le_refl _
end Guards
/-- a row in which nothing happens may be left out -/
theorem gr_skip {σ : Type} {w h : Nat} {g : Int → Int → σ → σ} {a : σ} (hh : 1 ≤ h) (hs : ∀ x : Nat, x < w → ∀ a, g x 0 a = a) : gr w h g a = gr w (h - 1) (fun x y => g x (y + 1)) a := by
  unfold gr
  have e : w * h = w + w * (h - 1) := by
    obtain ⟨n, rfl⟩ : ∃ n, h = n + 1 := ⟨h - 1, by omega⟩
    rw [Nat.add_sub_cancel, Nat.mul_add, Nat.mul_one, Nat.add_comm]
  rw [e, fo_add]
  have e1 : fo (fg w g) w a = a := by
    have : ∀ n, n ≤ w → fo (fg w g) n a = a := by
      intro n
      induction n with
      | zero => intro _; rfl
      | succ n ih =>
        intro hn
        rw [fo_s, ih (by omega)]
        have := fg_at (g := g) (x := n) (y := 0) (w := w) (by omega) a
        rw [Nat.mul_zero, Nat.zero_add] at this
        rw [this]
        exact hs n (by omega) a
    exact this w (Nat.le_refl _)
  rw [e1]
  refine fo_congr ?_
  intro k hk b _
  have hw : 0 < w := Nat.pos_of_ne_zero fun e => by subst e; simp at hk
  unfold fg
  rw [Nat.add_mod_left, Nat.add_div_left _ hw]
  rfl
/-- a greatest number, by what is below it -/
theorem gr_max {w h : Nat} {f : Int → Int → Int} {c M : Int} : gr w h (fun x y a => max a (f x y)) c ≤ M ↔ c ≤ M ∧ ∀ x y : Nat, x < w → y < h → f x y ≤ M := by
  constructor
  · intro hM
    have key : ∀ n, n ≤ w * h → c ≤ fo (fg w (fun x y a => max a (f x y))) n c ∧ ∀ k, k < n → f ((k % w : Nat) : Int) ((k / w : Nat) : Int) ≤ fo (fg w (fun x y a => max a (f x y))) n c := by
      intro n
      induction n with
      | zero => intro _; exact ⟨Int.le_refl _, fun k hk => by omega⟩
      | succ n ih =>
        intro hn
        obtain ⟨i1, i2⟩ := ih (by omega)
        rw [fo_s]
        show c ≤ max _ _ ∧ ∀ k, k < n + 1 → _ ≤ max _ _
        refine ⟨by omega, fun k hk => ?_⟩
        by_cases e : k = n
        · subst e; omega
        · have := i2 k (by omega); omega
    obtain ⟨k1, k2⟩ := key (w * h) (Nat.le_refl _)
    have hM : fo (fg w (fun x y a => max a (f x y))) (w * h) c ≤ M := hM
    refine ⟨by omega, fun x y hx hy => ?_⟩
    have := k2 (w * y + x) (by
      have : w * (y + 1) ≤ w * h := Nat.mul_le_mul_left _ hy
      rw [Nat.mul_add, Nat.mul_one] at this
      omega)
    rw [fg_mod hx, fg_div hx] at this
    omega
  · rintro ⟨h1, h2⟩
    exact gr_inv (fun _ a => a ≤ M) h1 fun x y hx hy a ha => by
      have := h2 x y hx hy
      show max a (f x y) ≤ M
      omega
section Ask
variable {N : Nat} {o : os_T} {S : Nat → Nat} {T H : Int → Int → Int}
def q_sum (S : Nat → Nat) (H : Int → Int → Int) : Int := gr (S 0) (S 1) (fun x y a => a + H x y) 0
def q_cnt (S : Nat → Nat) (P : Int → Int → Bool) : Int := gr (S 0) (S 1) (fun x y a => a + (bif P x y then 1 else 0)) 0

theorem pc_sum (hN : 1000 < N) (hS : sv S) (h : cp o S T H) : ff_X5_sumOfHeights N o  = some (Int32.ofInt (q_sum S H)) := by
  have hs := sv_a hS
  unfold ff_X5_sumOfHeights ff_X5_sumOfHeights_l4
  refine lo_grid (N := N) (step2 := fun k2 r2 s1 => ff_X5_sumOfHeights_c14 N o k2 r2 s1.1 s1.2.1 s1.2.2) (fun (a : Int) (y : Nat) => (Int32.ofInt a, Int32.ofInt (y : Int))) (fun (a : Int) (y x : Nat) => (Int32.ofInt a, Int32.ofInt (y : Int), Int32.ofInt (x : Int))) (S 0) (S 1) (fun x y a => a + H x y) (0) ?_ ?_ ?_ ?_ (by omega) (by omega)
  · intro a y r hy
    show ff_X5_sumOfHeights_c4 N o r (Int32.ofInt a) (Int32.ofInt (y : Int)) = _
    unfold ff_X5_sumOfHeights_c4
    rw [if_neg (pc_rN hS h (by omega))]
    rfl
  · intro a x y k r hx hy ha
    have hc : ic S (x : Int) (y : Int) := ic_n hx (by omega)
    have hr := ic_r hS hc
    show ff_X5_sumOfHeights_c14 N o k r (Int32.ofInt a) (Int32.ofInt (y : Int)) (Int32.ofInt (x : Int)) = _
    unfold ff_X5_sumOfHeights_c14
    rw [if_neg (pc_wN hS h hx)]
    rw [pc_heightAt hS h (by omega) (by omega), if_pos hc, Option.bind_some, ia_add, ii_1, ia_s]
  · intro a y k r hy ha
    show ff_X5_sumOfHeights_c14 N o k r (Int32.ofInt a) (Int32.ofInt (y : Int)) (Int32.ofInt (S 0 : Int)) = _
    unfold ff_X5_sumOfHeights_c14
    rw [if_pos (pc_wE h), ii_1, ia_add]
    rfl
  · intro r
    show ff_X5_sumOfHeights_c4 N o r _ (Int32.ofInt (S 1 : Int)) = _
    unfold ff_X5_sumOfHeights_c4
    rw [if_pos (pc_rE h)]
    all_goals rfl

theorem pc_countOf (hN : 1000 < N) (hS : sv S) (h : cp o S T H) (hH : wv S H) {v : Int} (hv : ib v) : ff_X5_countOf N o (Int32.ofInt v) = some (Int32.ofInt (q_cnt S (fun x y => decide (H x y = v)))) := by
  have hs := sv_a hS
  unfold ff_X5_countOf ff_X5_countOf_l4
  refine lo_grid (N := N) (step2 := fun k2 r2 s1 => ff_X5_countOf_c15 N o k2 r2 s1.1 s1.2.1 s1.2.2.1 s1.2.2.2) (fun (a : Int) (y : Nat) => (Int32.ofInt v, Int32.ofInt a, Int32.ofInt (y : Int))) (fun (a : Int) (y x : Nat) => (Int32.ofInt v, Int32.ofInt a, Int32.ofInt (y : Int), Int32.ofInt (x : Int))) (S 0) (S 1) (fun x y a => a + (bif decide (H x y = v) then 1 else 0)) (0) ?_ ?_ ?_ ?_ (by omega) (by omega)
  · intro a y r hy
    show ff_X5_countOf_c4 N o r (Int32.ofInt v) (Int32.ofInt a) (Int32.ofInt (y : Int)) = _
    unfold ff_X5_countOf_c4
    rw [if_neg (pc_rN hS h (by omega))]
    rfl
  · intro a x y k r hx hy ha
    have hc : ic S (x : Int) (y : Int) := ic_n hx (by omega)
    have hr := ic_r hS hc
    show ff_X5_countOf_c15 N o k r (Int32.ofInt v) (Int32.ofInt a) (Int32.ofInt (y : Int)) (Int32.ofInt (x : Int)) = _
    unfold ff_X5_countOf_c15
    rw [if_neg (pc_wN hS h hx)]
    have hh := hH _ _ hc
    rw [pc_heightAt hS h (by omega) (by omega), if_pos hc, Option.bind_some, ii_eq (by omega) hv]
    unfold ff_X5_countOf_b38
    by_cases c : H x y = v
    · rw [if_pos c, decide_eq_true c, ii_1, ia_add, ia_s]; rfl
    · rw [if_neg c, decide_eq_false c, ii_1, ia_s]
      show _ = r (Int32.ofInt v, Int32.ofInt (a + 0), _, _)
      rw [Int.add_zero]
  · intro a y k r hy ha
    show ff_X5_countOf_c15 N o k r (Int32.ofInt v) (Int32.ofInt a) (Int32.ofInt (y : Int)) (Int32.ofInt (S 0 : Int)) = _
    unfold ff_X5_countOf_c15
    rw [if_pos (pc_wE h), ii_1, ia_add]
    rfl
  · intro r
    show ff_X5_countOf_c4 N o r (Int32.ofInt v) _ (Int32.ofInt (S 1 : Int)) = _
    unfold ff_X5_countOf_c4
    rw [if_pos (pc_rE h)]
    all_goals rfl

end Ask
