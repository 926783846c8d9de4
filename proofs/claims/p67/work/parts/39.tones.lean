/-! LAYER 2. Changes of tones; the count of what changed on both sides -/
section Any
variable {N : Nat} {o : os_T} {S : Nat → Nat} {T H : Int → Int → Int}
theorem q_vg_0 {V : Int → Int → Int} : q_vg S H V 0 0 = H := by
  funext a b
  unfold q_vg
  exact if_neg (fun z => by have := z.1; unfold ic at this; omega)
theorem vis_any {α : Type} {S1 S2 : Type} {step1 : (S1 → Option α) → S1 → Option α} {step2 : (S1 → Option α) → (S2 → Option α) → S2 → Option α} (hN : 1000 < N) (hS : sv S) (R : os_T → (Int → Int → Int) → Prop) (G V : Int → Int → Int) (h : R o G) (emb1 : os_T → Nat → S1) (emb2 : os_T → Nat → Nat → S2) (P : Option α → Prop)
    (h1 : ∀ (y : Nat) o' G', y < S 1 → R o' G' → ∀ r, step1 r (emb1 o' y) = os_loop (step2 r) N (emb2 o' y 0))
    (h2 : ∀ (x y : Nat) o', x < S 0 → y < S 1 → R o' (q_vg S G V y x) → ∃ o2, R o2 (hu (q_vg S G V y x) x y (V x y)) ∧ ∀ k r, step2 k r (emb2 o' y x) = r (emb2 o2 y (x + 1)))
    (h3 : ∀ (y : Nat) o' G', y < S 1 → R o' G' → ∀ k r, step2 k r (emb2 o' y (S 0)) = k (emb1 o' (y + 1)))
    (h4 : ∀ o', R o' (q_vf S G V) → ∃ v, P v ∧ ∀ r, step1 r (emb1 o' (S 1)) = v) :
    ∃ v, P v ∧ os_loop step1 N (emb1 o 0) = v := by
  have hs := sv_a hS
  refine lo_gridI (N := N) (step2 := step2) (fun y s => ∃ o', s = emb1 o' y ∧ R o' (q_vg S G V y 0)) (fun y x s => ∃ o', s = emb2 o' y x ∧ R o' (q_vg S G V y x)) P (S 0) (S 1) ?_ ?_ ?_ ?_ (by omega) (by omega) ⟨o, rfl, by rw [q_vg_0]; exact h⟩
  · rintro y s hy ⟨o', rfl, h'⟩
    exact ⟨_, ⟨o', rfl, h'⟩, h1 _ _ _ hy h'⟩
  · rintro x y s hx hy ⟨o', rfl, h'⟩
    obtain ⟨o2, h2', e2⟩ := h2 x y o' hx hy h'
    exact ⟨_, ⟨o2, rfl, by rw [← q_vg_s (ic_n hx hy)]; exact h2'⟩, e2⟩
  · rintro y s hy ⟨o', rfl, h'⟩
    exact ⟨_, ⟨o', rfl, by rw [← q_vg_r]; exact h'⟩, h3 _ _ _ hy h'⟩
  · rintro s ⟨o', rfl, h'⟩
    rw [q_vg_f] at h'
    exact h4 _ h'
/-! negate and brighten of the class -/
def q_neg (T : Int → Int → Int) : Int → Int → Int := fun x y => 255 - T x y
def q_bri (a : Int) (T : Int → Int → Int) : Int → Int → Int := fun x y => max 0 (min 255 (T x y + a))
theorem q_neg_tv (hT : tv S T) : tv S (q_neg T) := fun x y c => by
  have := hT x y c
  unfold q_neg; omega
theorem q_bri_tv {a : Int} : tv S (q_bri a T) := fun x y c => by unfold q_bri; omega
theorem q_vf_tv {V : Int → Int → Int} (hV : tv S V) : tv S (q_vf S T V) := fun x y c => by rw [q_vf_in c]; exact hV x y c
theorem q_vf_hv {V : Int → Int → Int} (hV : hv S V) : hv S (q_vf S H V) := fun x y c => by rw [q_vf_in c]; exact hV x y c
theorem q_fol_vf {V : Int → Int → Int} : q_vf S H (q_fol S (q_vf S T V)) = q_vf S H (q_fol S V) := by
  funext a b
  by_cases c : ic S a b
  · rw [q_vf_in c, q_vf_in c]; unfold q_fol; rw [q_vf_in c]
  · rw [q_vf_out c, q_vf_out c]
theorem pc_negate (hN : 1000 < N) (hS : sv S) (h : cp o S T H) (hT : tv S T) (hH : wv S H) : ∃ o', ff_X5_negate N o = some (Int32.ofInt (q_df S H (q_vf S H (q_fol S (q_neg T)))), o') ∧ cp o' S (q_vf S T (q_neg T)) (q_vf S H (q_fol S (q_neg T))) := by
  have hs := sv_a hS
  unfold ff_X5_negate ff_X5_negate_l2
  have key : ∃ v, (∃ o', v = some (Int32.ofInt (q_df S H (q_vf S H (q_fol S (q_neg T)))), o') ∧ cp o' S (q_vf S T (q_neg T)) (q_vf S H (q_fol S (q_neg T)))) ∧ os_loop (fun k2 s1 => ff_X5_negate_c2 N k2 s1.1 s1.2) N (o, Int32.ofInt ((0 : Nat) : Int)) = v := by
    refine vis_any (N := N) (step2 := fun k2 r2 s1 => ff_X5_negate_c12 N k2 r2 s1.1 s1.2.1 s1.2.2) hN hS (fun o G => cp o S G H) T (q_neg T) h (fun o y => (o, Int32.ofInt (y : Int))) (fun o y x => (o, Int32.ofInt (y : Int), Int32.ofInt (x : Int))) (fun v => ∃ o', v = some (Int32.ofInt (q_df S H (q_vf S H (q_fol S (q_neg T)))), o') ∧ cp o' S (q_vf S T (q_neg T)) (q_vf S H (q_fol S (q_neg T)))) ?_ ?_ ?_ ?_
    · intro y o' G hy h' r
      show ff_X5_negate_c2 N r o' (Int32.ofInt (y : Int)) = _
      unfold ff_X5_negate_c2
      rw [if_neg (pc_rN hS h' hy)]
      rfl
    · intro x y o' hx hy h'
      have hc : ic S (x : Int) (y : Int) := ic_n hx hy
      obtain ⟨o2, e2, h2⟩ := pc_dye (N := N) (v := 255 - T x y) hS h' hc
      refine ⟨o2, h2, fun k r => ?_⟩
      show ff_X5_negate_c12 N k r o' (Int32.ofInt (y : Int)) (Int32.ofInt (x : Int)) = _
      unfold ff_X5_negate_c12
      rw [if_neg (pc_wN hS h' hx), pc_toneAt hS h' (by omega) (by omega), if_pos hc, q_vg_at, Option.bind_some, ii_255, ia_sub, e2, Option.bind_some, ii_1, ia_s]
    · intro y o' G hy h' k r
      show ff_X5_negate_c12 N k r o' (Int32.ofInt (y : Int)) (Int32.ofInt (S 0 : Int)) = _
      unfold ff_X5_negate_c12
      rw [if_pos (pc_wE h'), ii_1, ia_s]
    · intro o' h'
      obtain ⟨o2, e2, h2⟩ := pc_follow (N := N) hN hS h' hH (q_vf_tv (q_neg_tv hT))
      rw [q_fol_vf] at h2 e2
      refine ⟨_, ⟨o2, rfl, h2⟩, fun r => ?_⟩
      show ff_X5_negate_c2 N r o' (Int32.ofInt (S 1 : Int)) = _
      unfold ff_X5_negate_c2
      rw [if_pos (pc_rE h'), e2, Option.bind_some]
  obtain ⟨v, ⟨o', rfl, hm⟩, e⟩ := key
  exact ⟨o', e, hm⟩
theorem ii_clamp {t : Int} (ht : ib t) : (if (0 : Int32) < (if Int32.ofInt t < (255 : Int32) then Int32.ofInt t else (255 : Int32)) then (if Int32.ofInt t < (255 : Int32) then Int32.ofInt t else (255 : Int32)) else (0 : Int32)) = Int32.ofInt (max 0 (min 255 t)) := by
  have e : (if Int32.ofInt t < (255 : Int32) then Int32.ofInt t else (255 : Int32)) = Int32.ofInt (min 255 t) := by
    rw [ii_255, ii_lt ht (by omega)]
    by_cases c : t < 255
    · rw [if_pos c, Int.min_eq_right (by omega)]
    · rw [if_neg c, Int.min_eq_left (by omega)]
  rw [e]
  simp only [i0_gt (show ib (min 255 t) by omega)]
  by_cases c : 0 < min 255 t
  · rw [if_pos c, Int.max_eq_right (by omega)]
  · rw [if_neg c, Int.max_eq_left (by omega), ii_0]
theorem pc_brighten (hN : 1000 < N) (hS : sv S) (h : cp o S T H) (hT : tv S T) (hH : wv S H) {a : Int} (ha : -255 ≤ a ∧ a ≤ 255) : ∃ o', ff_X5_brighten N o (Int32.ofInt a) = some (Int32.ofInt (q_df S H (q_vf S H (q_fol S (q_bri a T)))), o') ∧ cp o' S (q_vf S T (q_bri a T)) (q_vf S H (q_fol S (q_bri a T))) := by
  have hs := sv_a hS
  unfold ff_X5_brighten ff_X5_brighten_l2
  have key : ∃ v, (∃ o', v = some (Int32.ofInt (q_df S H (q_vf S H (q_fol S (q_bri a T)))), o') ∧ cp o' S (q_vf S T (q_bri a T)) (q_vf S H (q_fol S (q_bri a T)))) ∧ os_loop (fun k2 s1 => ff_X5_brighten_c2 N k2 s1.1 s1.2.1 s1.2.2) N (o, Int32.ofInt a, Int32.ofInt ((0 : Nat) : Int)) = v := by
    refine vis_any (N := N) (step2 := fun k2 r2 s1 => ff_X5_brighten_c12 N k2 r2 s1.1 s1.2.1 s1.2.2.1 s1.2.2.2) hN hS (fun o G => cp o S G H) T (q_bri a T) h (fun o y => (o, Int32.ofInt a, Int32.ofInt (y : Int))) (fun o y x => (o, Int32.ofInt a, Int32.ofInt (y : Int), Int32.ofInt (x : Int))) (fun v => ∃ o', v = some (Int32.ofInt (q_df S H (q_vf S H (q_fol S (q_bri a T)))), o') ∧ cp o' S (q_vf S T (q_bri a T)) (q_vf S H (q_fol S (q_bri a T)))) ?_ ?_ ?_ ?_
    · intro y o' G hy h' r
      show ff_X5_brighten_c2 N r o' (Int32.ofInt a) (Int32.ofInt (y : Int)) = _
      unfold ff_X5_brighten_c2
      rw [if_neg (pc_rN hS h' hy)]
      rfl
    · intro x y o' hx hy h'
      have hc : ic S (x : Int) (y : Int) := ic_n hx hy
      have ht := hT _ _ hc
      obtain ⟨o2, e2, h2⟩ := pc_dye (N := N) (v := max 0 (min 255 (T x y + a))) hS h' hc
      refine ⟨o2, h2, fun k r => ?_⟩
      show ff_X5_brighten_c12 N k r o' (Int32.ofInt a) (Int32.ofInt (y : Int)) (Int32.ofInt (x : Int)) = _
      unfold ff_X5_brighten_c12
      rw [if_neg (pc_wN hS h' hx), pc_toneAt hS h' (by omega) (by omega), if_pos hc, q_vg_at, Option.bind_some, ia_add, ii_clamp (by omega), e2, Option.bind_some, ii_1, ia_s]
    · intro y o' G hy h' k r
      show ff_X5_brighten_c12 N k r o' (Int32.ofInt a) (Int32.ofInt (y : Int)) (Int32.ofInt (S 0 : Int)) = _
      unfold ff_X5_brighten_c12
      rw [if_pos (pc_wE h'), ii_1, ia_s]
    · intro o' h'
      obtain ⟨o2, e2, h2⟩ := pc_follow (N := N) hN hS h' hH (q_vf_tv q_bri_tv)
      rw [q_fol_vf] at h2 e2
      refine ⟨_, ⟨o2, rfl, h2⟩, fun r => ?_⟩
      show ff_X5_brighten_c2 N r o' (Int32.ofInt a) (Int32.ofInt (S 1 : Int)) = _
      unfold ff_X5_brighten_c2
      rw [if_pos (pc_rE h'), e2, Option.bind_some]
  obtain ⟨v, ⟨o', rfl, hm⟩, e⟩ := key
  exact ⟨o', e, hm⟩
/-! one cell of the class -/
theorem pc_paint (hN : 1000 < N) (hS : sv S) (h : cp o S T H) (hH : wv S H) {x y t : Int} (hc : ic S x y) (ht : 0 ≤ t ∧ t ≤ 255) : ∃ o', ff_X5_paint N o (Int32.ofInt x) (Int32.ofInt y) (Int32.ofInt t) = some o' ∧ cp o' S (hu T x y t) (hu H x y (sh S (fl_w t.toNat))) := by
  have hs := sv_a hS
  have hw : fw_m 200 (fl_w t.toNat) := fl_w200 (by omega)
  have hr := sh_r hS hw
  obtain ⟨o1, e1, h1⟩ := pc_dye (N := N) (v := t) hS h hc
  obtain ⟨o2, e2, h2⟩ := pc_build (N := N) (v := (sh S (fl_w t.toNat) : Int)) hS h1 hH hc (by omega)
  refine ⟨o2, ?_, h2⟩
  unfold ff_X5_paint
  rw [e1, Option.bind_some, pc_wish ht.1 ht.2, Option.bind_some, pc_stepFor hN hS h1 hw, Option.bind_some, e2, Option.bind_some]
/-! the reference -/
theorem q_vg_k {V : Int → Int → Int} (hS : sv S) {k : Nat} (hk : k < S 0 * S 1) : hu (q_vg S H V (k / S 0) (k % S 0)) ((k % S 0 : Nat) : Int) ((k / S 0 : Nat) : Int) (V ((k % S 0 : Nat) : Int) ((k / S 0 : Nat) : Int)) = q_vg S H V ((k + 1) / S 0) ((k + 1) % S 0) := by
  have hs := sv_a hS
  have hl : k % S 0 < S 0 := Nat.mod_lt _ (by omega)
  rw [q_vg_s (ic_k hS hk)]
  by_cases c : k % S 0 + 1 < S 0
  · have e := Nat.div_add_mod k (S 0)
    rw [show k + 1 = k % S 0 + 1 + S 0 * (k / S 0) by omega, Nat.add_mul_div_left _ _ (by omega), Nat.add_mul_mod_self_left, Nat.mod_eq_of_lt c, Nat.div_eq_of_lt c, Nat.zero_add]
  · have e := Nat.div_add_mod k (S 0)
    rw [show k % S 0 + 1 = S 0 by omega, q_vg_r, show k + 1 = S 0 + S 0 * (k / S 0) by omega, Nat.add_mul_div_left _ _ (by omega), Nat.add_mul_mod_self_left, Nat.mod_self, Nat.div_self (by omega), Nat.add_comm 1]
theorem q_vg_kf {V : Int → Int → Int} (hS : sv S) : q_vg S H V (S 0 * S 1 / S 0) (S 0 * S 1 % S 0) = q_vf S H V := by
  have hs := sv_a hS
  rw [Nat.mul_div_cancel_left _ (by omega), Nat.mul_mod_right, q_vg_f]
theorem q_vg_k0 {V : Int → Int → Int} (hS : sv S) : q_vg S H V (0 / S 0) (0 % S 0) = H := by
  rw [Nat.zero_div, Nat.zero_mod, q_vg_0]
/-! how many cells the reference counts as changed -/
theorem fo_rows {σ : Type} (f : Nat → σ → σ) (w h : Nat) (s : σ) : fo f (w * h) s = fo (fun y a => fo (fun x => f (w * y + x)) w a) h s := by
  induction h with
  | zero => rfl
  | succ h ih => rw [Nat.mul_succ, fo_add, ih, fo_s]
theorem fo_tr {σ : Type} (f : Nat → σ → σ) (m n : Nat) (s : σ) (hmn : m ≤ n) (h : ∀ k, m ≤ k → k < n → ∀ a, f k a = a) : fo f n s = fo f m s := by
  induction n with
  | zero => rw [show m = 0 by omega]
  | succ n ih =>
    by_cases e : m = n + 1
    · rw [e]
    · rw [fo_s, h n (by omega) (by omega), ih (by omega) (fun k h1 h2 => h k h1 (by omega))]
end Any
