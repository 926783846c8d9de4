/-! LAYER 2. Smoothing -/
section Flat
variable {N : Nat} {o p : os_T} {S : Nat → Nat} {T H G F : Int → Int → Int} {d : Int}
def q_av (z : Int) : Int := if z < 0 then -z else z
def q_ft (H : Int → Int → Int) (d x y i j : Int) : Int := H i j - d * (q_av (i - x) + q_av (j - y))
def q_fa (S : Nat → Nat) (H : Int → Int → Int) (d : Int) : Int → Int → Int := fun x y => fo (fg (S 0) (fun i j a => max a (q_ft H d x y i j))) (S 0 * S 1) (H x y)
theorem q_fm (n : Nat) {g : Int → Int → Int} {a : Int} : a ≤ fo (fg (S 0) (fun i j a => max a (g i j))) n a ∧ ∀ k, k < n → g ((k % S 0 : Nat) : Int) ((k / S 0 : Nat) : Int) ≤ fo (fg (S 0) (fun i j a => max a (g i j))) n a := by
  induction n with
  | zero => exact ⟨Int.le_refl _, fun k hk => absurd hk (Nat.not_lt_zero k)⟩
  | succ n ih =>
    rw [fo_s]
    show a ≤ max _ _ ∧ ∀ k, k < n + 1 → _ ≤ max _ _
    refine ⟨Int.le_trans ih.1 (Int.le_max_left _ _), fun k hk => ?_⟩
    by_cases e : k = n
    · subst e; exact Int.le_max_right _ _
    · exact Int.le_trans (ih.2 k (by omega)) (Int.le_max_left _ _)
theorem q_fb (n : Nat) {g : Int → Int → Int} {a B : Int} (ha : a ≤ B) (h : ∀ k, k < n → g ((k % S 0 : Nat) : Int) ((k / S 0 : Nat) : Int) ≤ B) : fo (fg (S 0) (fun i j a => max a (g i j))) n a ≤ B := by
  induction n with
  | zero => exact ha
  | succ n ih =>
    rw [fo_s]
    exact Int.max_le.mpr ⟨ih (fun k hk => h k (by omega)), h n (by omega)⟩
theorem q_fa_g {i j : Int} (c : ic S i j) (x y : Int) : q_ft H d x y i j ≤ q_fa S H d x y := by
  obtain ⟨k, hk, rfl, rfl⟩ := ck_of c
  exact (q_fm (S 0 * S 1)).2 k hk
theorem q_fa_h (x y : Int) : H x y ≤ q_fa S H d x y := (q_fm (S 0 * S 1)).1
theorem q_av_0 : q_av 0 = 0 := rfl
theorem q_av_b {z : Int} : 0 ≤ q_av z ∧ (q_av z = z ∨ q_av z = -z) := by unfold q_av; split <;> omega
theorem q_fa_b (hS : sv S) {B x y : Int} (c : ic S x y) (h : ∀ i j, ic S i j → q_ft H d x y i j ≤ B) : q_fa S H d x y ≤ B := by
  refine q_fb (S 0 * S 1) ?_ fun k hk => h _ _ (ic_k hS hk)
  have := h x y c
  unfold q_ft at this
  rw [Int.sub_self, Int.sub_self, q_av_0] at this
  simpa using this
theorem q_fa_lip (hS : sv S) (hd : 0 ≤ d) {x y x2 y2 : Int} (c : ic S x y) (hn : ∀ i j : Int, q_av (i - x2) + q_av (j - y2) ≤ q_av (i - x) + q_av (j - y) + 1) : q_fa S H d x y - d ≤ q_fa S H d x2 y2 := by
  have : q_fa S H d x y ≤ q_fa S H d x2 y2 + d := by
    refine q_fa_b hS c fun i j ci => ?_
    have h1 := q_fa_g (H := H) (d := d) ci x2 y2
    have h2 := Int.mul_le_mul_of_nonneg_left (hn i j) hd
    unfold q_ft at h1 ⊢
    rw [Int.mul_add d (q_av (i - x) + q_av (j - y)) 1, Int.mul_one] at h2
    omega
  omega
theorem q_fa_hv (hS : sv S) (hH : hv S H) (hd : 0 ≤ d) : hv S (q_fa S H d) := fun x y c => by
  have h0 := hH x y c
  have h1 := q_fa_h (S := S) (H := H) (d := d) x y
  have h2 := q_fa_b (H := H) (d := d) (B := S 2) hS c fun i j ci => by
    have h3 := hH i j ci
    have h4 : 0 ≤ d * (q_av (i - x) + q_av (j - y)) := Int.mul_nonneg hd (by have := q_av_b (z := i - x); have := q_av_b (z := j - y); omega)
    unfold q_ft
    omega
  omega
/-! one raise -/
def q_ra (S : Nat → Nat) (G : Int → Int → Int) (x y x2 y2 d : Int) : Int := if ic S x2 y2 then max (G x y) (G x2 y2 - d) else G x y
theorem pc_raise (hS : sv S) (h : cp o S T G) (hG : wv S G) {x y x2 y2 : Int} (hc : ic S x y) (hx : ib x2) (hy : ib y2) (hd : 0 ≤ d ∧ d ≤ 20) : ∃ o', ff_X11_raiseBeside N o (Int32.ofInt x) (Int32.ofInt y) (Int32.ofInt x2) (Int32.ofInt y2) (Int32.ofInt d) = some o' ∧ cp o' S T (hu G x y (q_ra S G x y x2 y2 d)) := by
  have hs := sv_a hS
  have hr := ic_r hS hc
  have hxy : 0 ≤ x ∧ 0 ≤ y := by unfold ic at hc; omega
  have h0 := hG x y hc
  unfold ff_X11_raiseBeside q_ra
  rw [pc_has hS h hx hy, Option.bind_some, oz_ite]
  by_cases c : ic S x2 y2
  · have h1 := hG x2 y2 c
    obtain ⟨o2, e2, h2⟩ := pc_build (N := N) (v := max (G x y) (G x2 y2 - d)) hS h hG hc (by omega)
    refine ⟨o2, ?_, by rw [if_pos c]; exact h2⟩
    rw [if_pos c, pc_heightAt hS h hx hy, if_pos c, Option.bind_some, pc_heightAt hS h (by omega) (by omega), if_pos hc, Option.bind_some, ia_sub, ii_lt (by omega) (by omega)]
    have e : (if G x y < G x2 y2 - d then Int32.ofInt (G x2 y2 - d) else Int32.ofInt (G x y)) = Int32.ofInt (max (G x y) (G x2 y2 - d)) := by
      by_cases cc : G x y < G x2 y2 - d
      · rw [if_pos cc, Int.max_eq_right (by omega)]
      · rw [if_neg cc, Int.max_eq_left (by omega)]
    rw [e, e2, Option.bind_some]
  · refine ⟨o, by rw [if_neg c], ?_⟩
    rw [if_neg c, hu_id]; exact h
/-- both raises of a cell -/
def q_r2 (S : Nat → Nat) (G : Int → Int → Int) (x y : Int) (e d : Int) : Int := max (q_ra S G x y (x + e) y d) (q_ra S G x y x (y + e) d)
theorem pc_raise2 (hS : sv S) (h : cp o S T G) (hG : wv S G) {x y e : Int} (hc : ic S x y) (he : e = 1 ∨ e = -1) (hd : 0 ≤ d ∧ d ≤ 20) : ∃ o1 o', ff_X11_raiseBeside N o (Int32.ofInt x) (Int32.ofInt y) (Int32.ofInt (x + e)) (Int32.ofInt y) (Int32.ofInt d) = some o1 ∧ ff_X11_raiseBeside N o1 (Int32.ofInt x) (Int32.ofInt y) (Int32.ofInt x) (Int32.ofInt (y + e)) (Int32.ofInt d) = some o' ∧ cp o' S T (hu G x y (q_r2 S G x y e d)) := by
  have hs := sv_a hS
  have hr := ic_r hS hc
  have hxy : 0 ≤ x ∧ 0 ≤ y := by unfold ic at hc; omega
  have h0 := hG x y hc
  obtain ⟨o1, e1, h1⟩ := pc_raise (N := N) hS h hG hc (x2 := x + e) (y2 := y) (by omega) (by omega) hd
  have hb : -1000000 ≤ q_ra S G x y (x + e) y d ∧ q_ra S G x y (x + e) y d ≤ 1000000 := by
    unfold q_ra
    split
    · rename_i c; have := hG _ _ c; omega
    · omega
  obtain ⟨o2, e2, h2⟩ := pc_raise (N := N) hS h1 (hu_wv hG hb) hc (x2 := x) (y2 := y + e) (by omega) (by omega) hd
  refine ⟨o1, o2, e1, e2, ?_⟩
  rw [hu_hu] at h2
  have : q_ra S (hu G x y (q_ra S G x y (x + e) y d)) x y x (y + e) d = q_r2 S G x y e d := by
    unfold q_r2 
    rw [q_ra, hu_at, hu_ne (by omega)]
    have hm : G x y ≤ q_ra S G x y (x + e) y d := by
      unfold q_ra; split
      · exact Int.le_max_left _ _
      · exact Int.le_refl _
    generalize q_ra S G x y (x + e) y d = u at *
    unfold q_ra
    split
    · omega
    · omega
  rw [this] at h2
  exact h2
theorem q_r2_b {x y e B : Int} (h : G x y ≤ B) (h1 : ic S (x + e) y → G (x + e) y - d ≤ B) (h2 : ic S x (y + e) → G x (y + e) - d ≤ B) : q_r2 S G x y e d ≤ B := by
  unfold q_r2 q_ra
  refine Int.max_le.mpr ⟨?_, ?_⟩
  · split
    · rename_i c; exact Int.max_le.mpr ⟨h, h1 c⟩
    · exact h
  · split
    · rename_i c; exact Int.max_le.mpr ⟨h, h2 c⟩
    · exact h
theorem q_r2_0 {x y e : Int} : G x y ≤ q_r2 S G x y e d := by
  unfold q_r2 q_ra
  split <;> split <;> omega
theorem q_r2_1 {x y e : Int} (c : ic S (x + e) y) : G (x + e) y - d ≤ q_r2 S G x y e d := by
  unfold q_r2 q_ra
  rw [if_pos c]
  omega
theorem q_r2_2 {x y e : Int} (c : ic S x (y + e)) : G x (y + e) - d ≤ q_r2 S G x y e d := by
  unfold q_r2 q_ra
  rw [if_pos c]
  omega
/-- what holds in a round: e tells the direction; B is where it began -/
def q_fi (S : Nat → Nat) (H B G : Int → Int → Int) (d e : Int) (P : Int → Int → Prop) : Prop :=
  (∀ x y, ic S x y → B x y ≤ G x y ∧ G x y ≤ q_fa S H d x y) ∧ (∀ x y, ¬ ic S x y → G x y = B x y) ∧ ∀ x y, ic S x y → P x y → (ic S (x + e) y → G (x + e) y - d ≤ G x y) ∧ (ic S x (y + e) → G x (y + e) - d ≤ G x y)
theorem q_fi_s {B : Int → Int → Int} {e x y : Int} {P Q : Int → Int → Prop} (hS : sv S) (hd : 0 ≤ d) (he : e = 1 ∨ e = -1) (h : q_fi S H B G d e P) (c : ic S x y) (hP : ∀ a b, ic S a b → Q a b → P a b ∨ (a = x ∧ b = y)) (hP2 : ∀ a b, P a b → ¬ (a + e = x ∧ b = y) ∧ ¬ (a = x ∧ b + e = y)) (hPn : ¬ P x y) : q_fi S H B (hu G x y (q_r2 S G x y e d)) d e Q := by
  obtain ⟨h1, h2, h3⟩ := h
  refine ⟨fun a b cab => ?_, fun a b cab => ?_, fun a b cab hq => ?_⟩
  · by_cases z : a = x ∧ b = y
    · rw [z.1, z.2, hu_at]
      refine ⟨Int.le_trans (h1 x y c).1 q_r2_0, q_r2_b (h1 x y c).2 (fun c2 => ?_) (fun c2 => ?_)⟩
      · have := (h1 _ _ c2).2
        have := q_fa_lip (H := H) (x2 := x) (y2 := y) hS hd c2 (fun i j => by unfold q_av; (repeat' split) <;> omega)
        omega
      · have := (h1 _ _ c2).2
        have := q_fa_lip (H := H) (x2 := x) (y2 := y) hS hd c2 (fun i j => by unfold q_av; (repeat' split) <;> omega)
        omega
    · rw [hu_ne z]; exact h1 a b cab
  · rw [hu_ne (fun z => cab (by rw [z.1, z.2]; exact c))]; exact h2 a b cab
  · rcases hP a b cab hq with hp | z
    · have n1 := hP2 a b hp
      have n0 : ¬ (a = x ∧ b = y) := fun z => hPn (by rw [← z.1, ← z.2]; exact hp)
      rw [hu_ne n0, hu_ne n1.1, hu_ne n1.2]
      exact h3 a b cab hp
    · rw [z.1, z.2, hu_at, hu_ne (by omega), hu_ne (by omega)]
      exact ⟨q_r2_1, q_r2_2⟩
theorem q_fi_hv {B : Int → Int → Int} {e : Int} {P : Int → Int → Prop} (hS : sv S) (hH : hv S H) (hB : hv S B) (hd : 0 ≤ d) (h : q_fi S H B G d e P) : hv S G := fun x y c => by
  have h1 := h.1 x y c
  have h2 := q_fa_hv hS hH hd x y c
  have h3 := hB x y c
  omega
/-- along a line -/
theorem q_fl1 {e : Int} (hd : 0 ≤ d) (h : ∀ x y, ic S x y → (ic S (x + e) y → G (x + e) y - d ≤ G x y) ∧ (ic S x (y + e) → G x (y + e) - d ≤ G x y)) (m : Nat) {x y : Int} (c0 : ic S x y) (c : ic S (x + m * e) y) (hi : ∀ i : Nat, i ≤ m → ic S (x + i * e) y) : G (x + m * e) y - d * m ≤ G x y := by
  induction m with
  | zero => simp
  | succ m ih =>
    have h1 := ih (hi m (by omega)) (fun i hi2 => hi i (by omega))
    have h2 := (h (x + m * e) y (hi m (by omega))).1
    have e1 : x + (m : Int) * e + e = x + ((m + 1 : Nat) : Int) * e := by rw [Int.natCast_add, Int.add_mul, Int.add_assoc]; congr 2; exact (Int.one_mul e).symm
    rw [e1] at h2
    have h3 := h2 c
    have e2 : d * ((m + 1 : Nat) : Int) = d * m + d := by rw [Int.natCast_add, Int.mul_add]; congr 1; exact Int.mul_one d
    rw [e2]
    omega
theorem q_fl2 {e : Int} (hd : 0 ≤ d) (h : ∀ x y, ic S x y → (ic S (x + e) y → G (x + e) y - d ≤ G x y) ∧ (ic S x (y + e) → G x (y + e) - d ≤ G x y)) (m : Nat) {x y : Int} (c0 : ic S x y) (c : ic S x (y + m * e)) (hi : ∀ i : Nat, i ≤ m → ic S x (y + i * e)) : G x (y + m * e) - d * m ≤ G x y := by
  induction m with
  | zero => simp
  | succ m ih =>
    have h1 := ih (hi m (by omega)) (fun i hi2 => hi i (by omega))
    have h2 := (h x (y + m * e) (hi m (by omega))).2
    have e1 : y + (m : Int) * e + e = y + ((m + 1 : Nat) : Int) * e := by rw [Int.natCast_add, Int.add_mul, Int.add_assoc]; congr 2; exact (Int.one_mul e).symm
    rw [e1] at h2
    have h3 := h2 c
    have e2 : d * ((m + 1 : Nat) : Int) = d * m + d := by rw [Int.natCast_add, Int.mul_add]; congr 1; exact Int.mul_one d
    rw [e2]
    omega
/-- both rounds together give the reference's heights -/
theorem q_fi_f {A : Int → Int → Int} (hS : sv S) (hd : 0 ≤ d) (h1 : q_fi S H H A d (-1) (fun _ _ => True)) (h2 : q_fi S H A F d 1 (fun _ _ => True)) {x y : Int} (c : ic S x y) : F x y = q_fa S H d x y := by
  refine Int.le_antisymm (h2.1 x y c).2 (q_fa_b hS c fun i j ci => ?_)
  have k1 := fun x y c => h1.2.2 x y c trivial
  have k2 := fun x y c => h2.2.2 x y c trivial
  have lx : ∀ y, ic S x y → ic S i y → A i y - d * q_av (i - x) ≤ F x y := by
    intro y cx cy
    by_cases l : i ≤ x
    · have := q_fl1 (e := -1) hd k1 (x - i).toNat (x := x) (y := y) cx (by rw [show x + ((x - i).toNat : Int) * -1 = i by omega]; exact cy) (fun m hm => by unfold ic at cx cy ⊢; omega)
      rw [show x + ((x - i).toNat : Int) * -1 = i by omega, show ((x - i).toNat : Int) = q_av (i - x) by unfold q_av; split <;> omega] at this
      have h3 := (h2.1 x y cx).1
      omega
    · have := q_fl1 (e := 1) hd k2 (i - x).toNat (x := x) (y := y) cx (by rw [show x + ((i - x).toNat : Int) * 1 = i by omega]; exact cy) (fun m hm => by unfold ic at cx cy ⊢; omega)
      rw [show x + ((i - x).toNat : Int) * 1 = i by omega, show ((i - x).toNat : Int) = q_av (i - x) by unfold q_av; split <;> omega] at this
      have h3 := (h2.1 i y cy).1
      omega
  have cij : ic S x j := by unfold ic at c ci ⊢; omega
  have ciy : ic S i y := by unfold ic at c ci ⊢; omega
  have hA := (h1.1 i j ci).1
  have hm : d * (q_av (i - x) + q_av (j - y)) = d * q_av (i - x) + d * q_av (j - y) := Int.mul_add _ _ _
  unfold q_ft
  rw [hm]
  by_cases l : j ≤ y
  · have h3 := q_fl2 (e := -1) hd k1 (y - j).toNat (x := i) (y := y) ciy (by rw [show y + ((y - j).toNat : Int) * -1 = j by omega]; exact ci) (fun m hm => by unfold ic at c ci ⊢; omega)
    rw [show y + ((y - j).toNat : Int) * -1 = j by omega, show ((y - j).toNat : Int) = q_av (j - y) by unfold q_av; split <;> omega] at h3
    have := lx y c ciy
    omega
  · have h3 := q_fl2 (e := 1) hd k2 (j - y).toNat (x := x) (y := y) c (by rw [show y + ((j - y).toNat : Int) * 1 = j by omega]; exact cij) (fun m hm => by unfold ic at c ci ⊢; omega)
    rw [show y + ((j - y).toNat : Int) * 1 = j by omega, show ((j - y).toNat : Int) = q_av (j - y) by unfold q_av; split <;> omega] at h3
    have := lx j cij ci
    omega
end Flat
