/-! LAYER 2. Ease, fill, mirror -/
section Ease
variable {N : Nat} {o : os_T} {S : Nat → Nat} {T H : Int → Int → Int}
theorem q_vg_y0 {V : Int → Int → Int} {y0 : Nat} (hV0 : ∀ a b, ic S a b → b < y0 → V a b = H a b) : q_vg S H V y0 0 = H := by
  funext a b
  unfold q_vg
  by_cases d : ic S a b ∧ (b < y0 ∨ (b = y0 ∧ a < (0 : Nat)))
  · rw [if_pos d]; refine hV0 a b d.1 ?_
    have := d.1; unfold ic at this; omega
  · rw [if_neg d]
theorem vis_any2 {α : Type} {S1 S2 : Type} {step1 : (S1 → Option α) → S1 → Option α} {step2 : (S1 → Option α) → (S2 → Option α) → S2 → Option α} (hN : 1000 < N) (hS : sv S) (R : os_T → (Int → Int → Int) → Prop) (G V : Int → Int → Int) (h : R o G) (y0 : Nat) (hy0 : y0 ≤ S 1) (hV0 : ∀ a b, ic S a b → b < y0 → V a b = G a b) (emb1 : os_T → Nat → S1) (emb2 : os_T → Nat → Nat → S2) (P : Option α → Prop)
    (h1 : ∀ (y : Nat) o' G', y < S 1 → R o' G' → ∀ r, step1 r (emb1 o' y) = os_loop (step2 r) N (emb2 o' y 0))
    (h2 : ∀ (x y : Nat) o', x < S 0 → y < S 1 → y0 ≤ y → R o' (q_vg S G V y x) → ∃ o2, R o2 (hu (q_vg S G V y x) x y (V x y)) ∧ ∀ k r, step2 k r (emb2 o' y x) = r (emb2 o2 y (x + 1)))
    (h3 : ∀ (y : Nat) o' G', y < S 1 → R o' G' → ∀ k r, step2 k r (emb2 o' y (S 0)) = k (emb1 o' (y + 1)))
    (h4 : ∀ o', R o' (q_vf S G V) → ∃ v, P v ∧ ∀ r, step1 r (emb1 o' (S 1)) = v) :
    ∃ v, P v ∧ os_loop step1 N (emb1 o y0) = v := by
  have hs := sv_a hS
  refine lo_gridI (N := N) (step2 := step2) (fun y s => ∃ o', s = emb1 o' (y0 + y) ∧ R o' (q_vg S G V (y0 + y) 0)) (fun y x s => ∃ o', s = emb2 o' (y0 + y) x ∧ R o' (q_vg S G V (y0 + y) x)) P (S 0) (S 1 - y0) ?_ ?_ ?_ ?_ (by omega) (by omega) ⟨o, rfl, by rw [Nat.add_zero, q_vg_y0 hV0]; exact h⟩
  · rintro y s hy ⟨o', rfl, h'⟩
    exact ⟨_, ⟨o', rfl, h'⟩, h1 _ _ _ (by omega) h'⟩
  · rintro x y s hx hy ⟨o', rfl, h'⟩
    obtain ⟨o2, h2', e2⟩ := h2 x (y0 + y) o' hx (by omega) (by omega) h'
    exact ⟨_, ⟨o2, rfl, by rw [← q_vg_s (ic_n hx (by omega))]; exact h2'⟩, e2⟩
  · rintro y s hy ⟨o', rfl, h'⟩
    exact ⟨_, ⟨o', rfl, by rw [← Nat.add_assoc, ← q_vg_r]; exact h'⟩, h3 _ _ _ (by omega) h'⟩
  · rintro s ⟨o', rfl, h'⟩
    rw [show y0 + (S 1 - y0) = S 1 by omega] at h' ⊢
    rw [q_vg_f] at h'
    exact h4 _ h'
/-- the eased heights -/
def q_ea (S : Nat → Nat) (H : Int → Int → Int) (x : Int) : Nat → Int
  | 0 => H x 0
  | y + 1 => H x ((y : Int) + 1) - max 0 (H x ((y : Int) + 1) - q_ea S H x y - S 6)
def q_eas (S : Nat → Nat) (H : Int → Int → Int) : Int → Int → Int := fun a b => q_ea S H a b.toNat
theorem q_ea_b (hS : sv S) (hH : hv S H) {x : Nat} (hx : x < S 0) : ∀ y : Nat, y < S 1 → (S 4 : Int) ≤ q_ea S H x y ∧ q_ea S H x y ≤ S 2 := by
  intro y
  induction y with
  | zero => intro hy; exact hH _ _ (ic_n (y := 0) hx hy)
  | succ y ih =>
    intro hy
    have h1 := hH _ _ (ic_n (S := S) (y := y + 1) hx hy)
    have h2 := ih (by omega)
    rw [Int.natCast_add] at h1
    show _ ≤ H x ((y : Int) + 1) - max 0 (H x ((y : Int) + 1) - q_ea S H x y - S 6) ∧ H x ((y : Int) + 1) - max 0 (H x ((y : Int) + 1) - q_ea S H x y - S 6) ≤ _
    rw [show ((1 : Nat) : Int) = 1 from rfl] at h1
    omega
theorem q_eas_hv (hS : sv S) (hH : hv S H) : hv S (q_eas S H) := fun x y c => by
  obtain ⟨c1, c2, c3, c4⟩ := c
  have := q_ea_b hS hH (x := x.toNat) (by omega) y.toNat (by omega)
  rw [Int.toNat_of_nonneg c1] at this
  exact this
theorem q_eas_s {x y : Nat} (hy : 1 ≤ y) : q_eas S H x y = H x y - max 0 (H x y - q_eas S H x ((y : Int) - 1) - S 6) := by
  obtain ⟨z, rfl⟩ : ∃ z, y = z + 1 := ⟨y - 1, by omega⟩
  unfold q_eas
  rw [Int.toNat_natCast, show (((z + 1 : Nat) : Int) - 1).toNat = z by omega]
  rfl
theorem q_vg_up {V : Int → Int → Int} {x y : Nat} (hx : x < S 0) (hy : 1 ≤ y) (hy2 : y < S 1) : q_vg S H V y x x ((y : Int) - 1) = V x ((y : Int) - 1) := if_pos ⟨by unfold ic; omega, by omega⟩
theorem q_eas_0 : ∀ a b, ic S a b → b < ((1 : Nat) : Int) → q_eas S H a b = H a b := fun a b c l => by
  have : b = 0 := by unfold ic at c; omega
  rw [this]; rfl
theorem pc_settle (hN : 1000 < N) (hS : sv S) (h : cp o S T H) (hH : hv S H) : ∃ o', ff_X9_settle N o = some (Int32.ofInt (q_df S H (q_vf S H (q_eas S H))), o') ∧ cp o' S T (q_vf S H (q_eas S H)) := by
  have hs := sv_a hS
  unfold ff_X9_settle ff_X9_settle_l4
  refine vis_grid (step2 := fun k2 r2 s1 => ff_X9_settle_c14 N k2 r2 s1.1 s1.2.1 s1.2.2.1 s1.2.2.2) hN hS h (q_eas S H) 1 (by omega) q_eas_0 ?_ ?_ ?_ ?_
  · intro y o' c r G hy h'
    show ff_X9_settle_c4 N r o' c (Int32.ofInt (y : Int)) = _
    unfold ff_X9_settle_c4
    rw [if_neg (pc_rN hS h' hy)]
    rfl
  · intro x y o' c hx hy hy1 h'
    have hc : ic S (x : Int) (y : Int) := ic_n hx hy
    have hc1 : ic S (x : Int) ((y : Int) - 1) := by unfold ic at hc ⊢; omega
    have hv := (q_eas_hv hS hH) _ _ hc
    have hv1 := (q_eas_hv hS hH) _ _ hc1
    have hh := hH _ _ hc
    have hw := q_vg_wv (hH.wv hS) ((q_eas_hv hS hH).wv hS) y x
    obtain ⟨o2, eb, h2⟩ := pc_build (N := N) hS h' hw hc (v := q_eas S H x y) (by omega)
    refine ⟨o2, h2, fun k r => ?_⟩
    rw [q_vg_at] at eb
    show ff_X9_settle_c14 N k r o' c (Int32.ofInt (y : Int)) (Int32.ofInt (x : Int)) = _
    unfold ff_X9_settle_c14
    rw [if_neg (pc_wN hS h' hx), pc_heightAt hS h' (by omega) (by omega), if_pos hc, q_vg_at, Option.bind_some, pc_excess hS h' hw hc, Option.bind_some, ia_sub]
    have e : H x y - q_ex S (q_vg S H (q_eas S H) y x) x y = q_eas S H x y := by
      unfold q_ex
      rw [if_neg (by omega), q_vg_at, q_vg_up hx hy1 hy, q_eas_s hy1]
    rw [e, eb, Option.bind_some, ii_1, ia_s]
  · intro y o' c k r G hy h'
    show ff_X9_settle_c14 N k r o' c (Int32.ofInt (y : Int)) (Int32.ofInt (S 0 : Int)) = _
    unfold ff_X9_settle_c14
    rw [if_pos (pc_wE h'), ii_1, ia_s]
  · intro o' c r G h'
    show ff_X9_settle_c4 N r o' c (Int32.ofInt (S 1 : Int)) = _
    unfold ff_X9_settle_c4
    rw [if_pos (pc_rE h')]
theorem rc_rN (hS : sv S) (h : rp o S T H) {y : Nat} (hy : y < S 1) : ¬ (os_A o 1 (Int32.toNatClampNeg (1 : Int32)) ≤ Int32.ofInt (y : Int)) := by
  have := sv_a hS
  rw [rs_1 h, ia_le (by omega) (by omega) (by omega) (by omega)]
  omega
theorem rc_wN (hS : sv S) (h : rp o S T H) {x : Nat} (hx : x < S 0) : ¬ (os_A o 1 (Int32.toNatClampNeg (0 : Int32)) ≤ Int32.ofInt (x : Int)) := by
  have := sv_a hS
  rw [rs_0 h, ia_le (by omega) (by omega) (by omega) (by omega)]
  omega
theorem rc_rE (h : rp o S T H) : os_A o 1 (Int32.toNatClampNeg (1 : Int32)) ≤ Int32.ofInt (S 1 : Int) := by
  rw [rs_1 h]
  exact Int32.le_refl _
theorem rc_wE (h : rp o S T H) : os_A o 1 (Int32.toNatClampNeg (0 : Int32)) ≤ Int32.ofInt (S 0 : Int) := by
  rw [rs_0 h]
  exact Int32.le_refl _
end Ease
