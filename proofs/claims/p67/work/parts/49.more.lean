/-! LAYER 2. More of sums and counts over a panel -/
section More
variable {S : Nat → Nat} {H G : Int → Int → Int} {P Q : Int → Int → Bool}
theorem gr_le {w h : Nat} {f g : Int → Int → Int} (e : ∀ x y : Nat, x < w → y < h → f x y ≤ g x y) : gr w h (fun x y a => a + f x y) 0 ≤ gr w h (fun x y a => a + g x y) 0 := by
  have key : ∀ n, n ≤ w * h → fo (fg w (fun x y a => a + f x y)) n 0 ≤ fo (fg w (fun x y a => a + g x y)) n 0 := by
    intro n
    induction n with
    | zero => intro _; exact Int.le_refl _
    | succ n ih =>
      intro hn
      have hw : 0 < w := Nat.pos_of_ne_zero fun e => by subst e; simp at hn
      have := e (n % w) (n / w) (Nat.mod_lt _ hw) (Nat.div_lt_of_lt_mul (by omega))
      rw [fo_s, fo_s]
      show fo (fg w (fun x y a => a + f x y)) n 0 + f ((n % w : Nat) : Int) ((n / w : Nat) : Int) ≤ fo (fg w (fun x y a => a + g x y)) n 0 + g ((n % w : Nat) : Int) ((n / w : Nat) : Int)
      have := ih (by omega)
      omega
  exact key _ (Nat.le_refl _)
theorem gr_eq {w h : Nat} {f g : Int → Int → Int} (e : ∀ x y : Nat, x < w → y < h → f x y = g x y) : gr w h (fun x y a => a + f x y) 0 = gr w h (fun x y a => a + g x y) 0 :=
  Int.le_antisymm (gr_le fun x y a b => Int.le_of_eq (e x y a b)) (gr_le fun x y a b => Int.le_of_eq (e x y a b).symm)
/-- where no term is smaller and one is greater, the sum is greater -/
theorem gr_lt {w h : Nat} {f g : Int → Int → Int} (e : ∀ x y : Nat, x < w → y < h → f x y ≤ g x y) {u v : Nat} (hu : u < w) (hv : v < h) (l : f u v < g u v) : gr w h (fun x y a => a + f x y) 0 < gr w h (fun x y a => a + g x y) 0 := by
  have key : ∀ n, n ≤ w * h → fo (fg w (fun x y a => a + f x y)) n 0 + (if w * v + u < n then 1 else 0) ≤ fo (fg w (fun x y a => a + g x y)) n 0 := by
    intro n
    induction n with
    | zero => intro _; rw [if_neg (Nat.not_lt_zero _)]; exact Int.le_refl _
    | succ n ih =>
      intro hn
      have hw : 0 < w := Nat.pos_of_ne_zero fun e => by subst e; simp at hn
      have h1 := e (n % w) (n / w) (Nat.mod_lt _ hw) (Nat.div_lt_of_lt_mul (by omega))
      rw [fo_s, fo_s]
      show fo (fg w (fun x y a => a + f x y)) n 0 + f ((n % w : Nat) : Int) ((n / w : Nat) : Int) + _ ≤ fo (fg w (fun x y a => a + g x y)) n 0 + g ((n % w : Nat) : Int) ((n / w : Nat) : Int)
      have h2 := ih (by omega)
      by_cases c : w * v + u < n
      · rw [if_pos c] at h2
        rw [if_pos (by omega)]
        omega
      · rw [if_neg c] at h2
        by_cases c2 : w * v + u = n
        · subst c2
          rw [if_pos (by omega), fg_mod hu, fg_div hu]
          rw [fg_mod hu, fg_div hu] at h1
          omega
        · rw [if_neg (by omega)]
          omega
  have := key _ (Nat.le_refl _)
  rw [if_pos (fg_lt hu hv)] at this
  show _ < fo (fg w (fun x y a => a + g x y)) (w * h) 0
  have h3 : gr w h (fun x y a => a + f x y) 0 = fo (fg w (fun x y a => a + f x y)) (w * h) 0 := rfl
  rw [h3]
  omega
theorem ic_nat {x y : Int} (c : ic S x y) : ∃ u v : Nat, x = u ∧ y = v ∧ u < S 0 ∧ v < S 1 := ⟨x.toNat, y.toNat, by omega, by omega, by omega, by omega⟩
theorem gr_z {w h : Nat} : gr w h (fun _ _ a => a + 0) (0 : Int) = 0 := by
  unfold gr
  generalize w * h = n
  induction n with
  | zero => rfl
  | succ n ih => rw [fo_s, ih]; rfl
theorem q_cnt_le (h : ∀ x y, ic S x y → P x y = true → Q x y = true) : q_cnt S P ≤ q_cnt S Q :=
  gr_le fun x y hx hy => by
    have := h x y (ic_n hx hy)
    cases hp : P x y with
    | false => cases Q x y <;> decide
    | true => rw [this hp]; decide
theorem q_cnt_cg (h : ∀ x y, ic S x y → P x y = Q x y) : q_cnt S P = q_cnt S Q :=
  gr_eq fun x y hx hy => by rw [h x y (ic_n hx hy)]
theorem q_cnt_f : q_cnt S (fun _ _ => false) = 0 := gr_z
theorem q_cnt_nn : 0 ≤ q_cnt S P := by rw [← q_cnt_f (S := S)]; exact q_cnt_le fun _ _ _ h => by cases h
theorem q_cnt_t : q_cnt S (fun _ _ => true) = ((S 0 * S 1 : Nat) : Int) := by
  unfold q_cnt gr
  generalize S 0 * S 1 = n
  induction n with
  | zero => rfl
  | succ n ih => rw [fo_s, ih]; rfl
theorem q_cnt_up : q_cnt S P ≤ ((S 0 * S 1 : Nat) : Int) := by rw [← q_cnt_t]; exact q_cnt_le fun _ _ _ _ => rfl
theorem q_cnt_pos {x y : Int} (c : ic S x y) (h : P x y = true) : 0 < q_cnt S P := by
  obtain ⟨u, v, rfl, rfl, hu, hv⟩ := ic_nat c
  rw [← q_cnt_f (S := S)]
  refine gr_lt (fun a b _ _ => ?_) hu hv ?_
  · show (bif false then (1 : Int) else 0) ≤ bif P a b then 1 else 0
    cases P a b <;> decide
  · show (bif false then (1 : Int) else 0) < bif P u v then 1 else 0
    rw [h]; decide
theorem q_cnt_0 : q_cnt S P = 0 ↔ ∀ x y, ic S x y → P x y = false := by
  refine ⟨fun h x y c => ?_, fun h => ?_⟩
  · cases hp : P x y with
    | false => rfl
    | true => have := q_cnt_pos c hp; omega
  · rw [← q_cnt_f (S := S)]; exact q_cnt_cg h
theorem q_df_0 : q_df S H G = 0 ↔ ∀ x y, ic S x y → H x y = G x y := by
  unfold q_df
  rw [q_cnt_0]
  refine ⟨fun h x y c => Classical.byContradiction fun z => ?_, fun h x y c => decide_eq_false fun z => z (h x y c)⟩
  have := h x y c
  rw [decide_eq_true z] at this
  cases this
theorem q_sum_le (h : ∀ x y, ic S x y → H x y ≤ G x y) : q_sum S H ≤ q_sum S G := gr_le fun x y hx hy => h x y (ic_n hx hy)
theorem q_sum_eq (h : ∀ x y, ic S x y → H x y = G x y) : q_sum S H = q_sum S G := gr_eq fun x y hx hy => h x y (ic_n hx hy)
theorem q_sum_lt (h : ∀ x y, ic S x y → H x y ≤ G x y) {x y : Int} (c : ic S x y) (l : H x y < G x y) : q_sum S H < q_sum S G := by
  obtain ⟨u, v, rfl, rfl, hu, hv⟩ := ic_nat c
  exact gr_lt (fun a b ha hb => h a b (ic_n ha hb)) hu hv l
end More
