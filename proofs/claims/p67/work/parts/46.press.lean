/-! LAYER 2. Pressing a stamp -/
section Press
variable {N : Nat} {o : os_T} {S : Nat → Nat} {T H V : Int → Int → Int}
def q_pr (S : Nat → Nat) (H V : Int → Int → Int) (x y : Int) (w r c : Nat) : Int → Int → Int := fun a b => if ic S a b ∧ x ≤ a ∧ a < x + w ∧ y ≤ b ∧ (b < y + r ∨ (b = y + r ∧ a < x + c)) then V a b else H a b
theorem q_pr_0 {x y : Int} {w : Nat} : q_pr S H V x y w 0 0 = H := by
  funext a b; exact if_neg (fun z => by omega)
theorem q_pr_s {x y : Int} {w r c : Nat} (hi : ic S (x + c) (y + r)) (hc : c < w) : hu (q_pr S H V x y w r c) (x + c) (y + r) (V (x + c) (y + r)) = q_pr S H V x y w r (c + 1) := by
  funext a b
  unfold hu q_pr
  by_cases e : a = x + c ∧ b = y + r
  · rw [if_pos e, e.1, e.2, if_pos ⟨hi, by omega⟩]
  · rw [if_neg e]
    by_cases d : ic S a b ∧ x ≤ a ∧ a < x + w ∧ y ≤ b ∧ (b < y + r ∨ (b = y + r ∧ a < x + c))
    · rw [if_pos d, if_pos ⟨d.1, by omega⟩]
    · rw [if_neg d, if_neg (fun z => d ⟨z.1, by omega⟩)]
theorem q_pr_n {x y : Int} {w r c : Nat} (hi : ¬ ic S (x + c) (y + r)) : q_pr S H V x y w r c = q_pr S H V x y w r (c + 1) := by
  funext a b
  unfold q_pr
  by_cases d : ic S a b ∧ x ≤ a ∧ a < x + w ∧ y ≤ b ∧ (b < y + r ∨ (b = y + r ∧ a < x + c))
  · rw [if_pos d, if_pos ⟨d.1, by omega⟩]
  · rw [if_neg d]
    by_cases e : a = x + c ∧ b = y + r
    · rw [if_neg (fun z => hi (by rw [← e.1, ← e.2]; exact z.1))]
    · rw [if_neg (fun z => d ⟨z.1, by omega⟩)]
theorem q_pr_r {x y : Int} {w r : Nat} : q_pr S H V x y w r w = q_pr S H V x y w (r + 1) 0 := by
  funext a b
  unfold q_pr
  by_cases d : ic S a b ∧ x ≤ a ∧ a < x + w ∧ y ≤ b ∧ (b < y + r ∨ (b = y + r ∧ a < x + w))
  · rw [if_pos d, if_pos ⟨d.1, by omega⟩]
  · rw [if_neg d, if_neg (fun z => d ⟨z.1, by omega⟩)]
theorem q_pr_at {x y : Int} {w r c : Nat} : q_pr S H V x y w r c (x + c) (y + r) = H (x + c) (y + r) := if_neg (fun z => by omega)
theorem q_pr_hv {x y : Int} {w r c : Nat} (hH : hv S H) (hV : hv S V) : hv S (q_pr S H V x y w r c) := fun a b d => by
  unfold q_pr
  split
  · exact hV a b d
  · exact hH a b d
theorem q_pr_out {x y a b : Int} {w r c : Nat} (h : ¬ ic S a b) : q_pr S H V x y w r c a b = H a b := if_neg (fun z => h z.1)
def q_pv (S : Nat → Nat) (H : Int → Int → Int) (s : Int) : Int → Int → Int := fun a b => max (S 4) (min (S 2) (H a b + s))
theorem q_pv_hv {s : Int} (hS : sv S) : hv S (q_pv S H s) := fun a b c => by
  have := sv_a hS
  unfold q_pv; omega
def q_ps2 (k b : Nat) : Int := if k = 1 then (b : Int) else -(b : Int)
/-- the heights after pressing -/
def q_stm (S : Nat → Nat) (H : Int → Int → Int) (k a b : Nat) (x y : Int) : Int → Int → Int := q_pr S H (q_pv S H (q_ps2 k b)) x y a a 0
def q_code (k a b : Nat) : Nat := 1000 * k + 100 * a + b
end Press
