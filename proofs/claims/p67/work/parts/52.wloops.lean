/-! LAYER 2. Loops that hand on to more than one place; the law's picture: counts, copies, heights by tones -/
theorem lo_cntP {K S T α : Type} {step : K → (S → Option α) → S → Option α} (out : K → T → Option α) (I : Nat → S → Prop) (J : T → Prop) (n : Nat) (h : ∀ j s, j < n → I j s → ∃ s', I (j + 1) s' ∧ ∀ k r, step k r s = r s') (he : ∀ s, I n s → ∃ t, J t ∧ ∀ k r, step k r s = out k t) {N : Nat} (hN : n < N) {s : S} (h0 : I 0 s) : ∃ t, J t ∧ ∀ k, os_loop (step k) N s = out k t := by
  have aux : ∀ m j, m + j = n → ∀ N s, m < N → I j s → ∃ t, J t ∧ ∀ k, os_loop (step k) N s = out k t := by
    intro m
    induction m with
    | zero =>
      intro j hj N s hN hs
      obtain ⟨N', rfl⟩ : ∃ N', N = N' + 1 := ⟨N - 1, by omega⟩
      have : j = n := by omega
      subst this
      obtain ⟨t, ht, e⟩ := he s hs
      exact ⟨t, ht, fun k => e k _⟩
    | succ m ih =>
      intro j hj N s hN hs
      obtain ⟨N', rfl⟩ : ∃ N', N = N' + 1 := ⟨N - 1, by omega⟩
      obtain ⟨s', hs', e⟩ := h j s (by omega) hs
      obtain ⟨t, ht, e2⟩ := ih (j + 1) (by omega) N' s' (by omega) hs'
      exact ⟨t, ht, fun k => (e k (os_loop (step k) N')).trans (e2 k)⟩
  exact aux n 0 (by omega) N s hN h0
theorem lo_gridP {K S1 S2 T α : Type} {step1 : K → (S1 → Option α) → S1 → Option α} {step2 : K → (S1 → Option α) → (S2 → Option α) → S2 → Option α} {N M : Nat} (out : K → T → Option α) (I1 : Nat → S1 → Prop) (I2 : Nat → Nat → S2 → Prop) (J : T → Prop) (w h : Nat)
    (h1 : ∀ y s, y < h → I1 y s → ∃ s2, I2 y 0 s2 ∧ ∀ k r, step1 k r s = os_loop (step2 k r) M s2)
    (h2 : ∀ x y s, x < w → y < h → I2 y x s → ∃ s', I2 y (x + 1) s' ∧ ∀ k r r2, step2 k r r2 s = r2 s')
    (h3 : ∀ y s, y < h → I2 y w s → ∃ s1, I1 (y + 1) s1 ∧ ∀ k r r2, step2 k r r2 s = r s1)
    (h4 : ∀ s, I1 h s → ∃ t, J t ∧ ∀ k r, step1 k r s = out k t) (hw : w < M) (hh : h < N) {s : S1} (h0 : I1 0 s) : ∃ t, J t ∧ ∀ k, os_loop (step1 k) N s = out k t := by
  refine lo_cntP out I1 J h ?_ h4 hh h0
  intro y s hy hs
  obtain ⟨s2, hs2, e⟩ := h1 y s hy hs
  obtain ⟨t, ht, e2⟩ := lo_cntP (K := K × (S1 → Option α)) (step := fun k => step2 k.1 k.2) (fun k t => k.2 t) (I2 y) (I1 (y + 1)) w (fun x s hx hs => by
    obtain ⟨s', a, b⟩ := h2 x y s hx hy hs
    exact ⟨s', a, fun k r => b k.1 k.2 r⟩) (fun s hs => by
    obtain ⟨s', a, b⟩ := h3 y s hy hs
    exact ⟨s', a, fun k r => b k.1 k.2 r⟩) hw hs2
  exact ⟨t, ht, fun k r => (e k r).trans (e2 (k, r))⟩
/-- two loops with two bounds, by what holds in them -/
theorem lo_gridI2 {S1 S2 α : Type} {step1 : (S1 → Option α) → S1 → Option α} {step2 : (S1 → Option α) → (S2 → Option α) → S2 → Option α} {N M : Nat} (I1 : Nat → S1 → Prop) (I2 : Nat → Nat → S2 → Prop) (E : Option α → Prop) (w h : Nat)
    (h1 : ∀ y s, y < h → I1 y s → ∃ s2, I2 y 0 s2 ∧ ∀ r, step1 r s = os_loop (step2 r) M s2)
    (h2 : ∀ x y s, x < w → y < h → I2 y x s → ∃ s', I2 y (x + 1) s' ∧ ∀ k r, step2 k r s = r s')
    (h3 : ∀ y s, y < h → I2 y w s → ∃ s1, I1 (y + 1) s1 ∧ ∀ k r, step2 k r s = k s1)
    (h4 : ∀ s, I1 h s → ∃ v, E v ∧ ∀ r, step1 r s = v) (hw : w < M) (hh : h < N) {s : S1} (h0 : I1 0 s) : ∃ v, E v ∧ os_loop step1 N s = v := by
  refine lo_cnt I1 E h ?_ h4 hh h0
  intro y s hy hs
  obtain ⟨s2, hs2, e⟩ := h1 y s hy hs
  obtain ⟨t, ht, e2⟩ := lo_cntK (step := step2) (I2 y) (I1 (y + 1)) w (fun x s hx hs => h2 x y s hx hy hs) (fun s hs => h3 y s hy hs) hw hs2
  exact ⟨t, ht, fun r => (e r).trans (e2 r)⟩
section WL
variable {N : Nat} {o p q : os_T} {S : Nat → Nat} {T H F G : Int → Int → Int}
theorem vis_w {K S1 S2 Z α : Type} {step1 : K → (S1 → Option α) → S1 → Option α} {step2 : K → (S1 → Option α) → (S2 → Option α) → S2 → Option α} {N M : Nat} (out : K → Z → Option α) (R : os_T → (Int → Int → Int) → Prop) (G V : Int → Int → Int) (h : R o G) (y0 : Nat) (hy0 : y0 ≤ S 1) (hV0 : ∀ a b, ic S a b → b < y0 → V a b = G a b) (hw : S 0 < M) (hh : S 1 < N) (emb1 : os_T → Nat → S1) (emb2 : os_T → Nat → Nat → S2) (P : Z → Prop)
    (h1 : ∀ (y : Nat) o' G', y < S 1 → R o' G' → ∀ k r, step1 k r (emb1 o' y) = os_loop (step2 k r) M (emb2 o' y 0))
    (h2 : ∀ (x y : Nat) o', x < S 0 → y < S 1 → y0 ≤ y → R o' (q_vg S G V y x) → ∃ o2, R o2 (hu (q_vg S G V y x) x y (V x y)) ∧ ∀ k r r2, step2 k r r2 (emb2 o' y x) = r2 (emb2 o2 y (x + 1)))
    (h3 : ∀ (y : Nat) o' G', y < S 1 → R o' G' → ∀ k r r2, step2 k r r2 (emb2 o' y (S 0)) = r (emb1 o' (y + 1)))
    (h4 : ∀ o', R o' (q_vf S G V) → ∃ v, P v ∧ ∀ k r, step1 k r (emb1 o' (S 1)) = out k v) :
    ∃ v, P v ∧ ∀ k, os_loop (step1 k) N (emb1 o y0) = out k v := by
  refine lo_gridP (N := N) (M := M) (step2 := step2) out (fun y s => ∃ o', s = emb1 o' (y0 + y) ∧ R o' (q_vg S G V (y0 + y) 0)) (fun y x s => ∃ o', s = emb2 o' (y0 + y) x ∧ R o' (q_vg S G V (y0 + y) x)) P (S 0) (S 1 - y0) ?_ ?_ ?_ ?_ hw (by omega) ⟨o, rfl, by rw [Nat.add_zero, q_vg_y0 hV0]; exact h⟩
  · rintro y s hy ⟨o', rfl, h'⟩
    exact ⟨_, ⟨o', rfl, h'⟩, h1 _ _ _ (by omega) h'⟩
  · rintro x y s hx hy ⟨o', rfl, h'⟩
    obtain ⟨o2, h2', e2⟩ := h2 x (y0 + y) o' hx (by omega) (by omega) h'
    exact ⟨_, ⟨o2, rfl, by rw [← q_vg_s (ic_n hx (by omega))]; exact h2'⟩, e2⟩
  · rintro y s hy ⟨o', rfl, h'⟩
    exact ⟨_, ⟨o', rfl, by rw [← Nat.add_assoc, ← q_vg_r]; exact h'⟩, h3 _ _ _ (by omega) h'⟩
  · rintro s ⟨o', rfl, h'⟩
    rw [show y0 + (S 1 - y0) = S 1 by omega] at h' ⊢
    rw [q_vg_f] at h'
    exact h4 _ h'
theorem wc_others (hN : 1000 < N) (hS : sv S) (h : wh o S) (hp : wm p S H) (hq : wm q S G) (hH : wv S H) (hG : wv S G) {o2 : os_T} : ff_X13_others N o p o2 q = some (Int32.ofInt (q_df S H G)) := by
  have hs := sv_a hS
  unfold ff_X13_others ff_X13_others_l4
  refine lo_grid (N := N) (step2 := fun k4 k15 s1 => ff_X13_others_c15 N o p o2 q k4 k15 s1.1 s1.2.1 s1.2.2) (fun (a : Int) (y : Nat) => (Int32.ofInt a, Int32.ofInt (y : Int))) (fun (a : Int) (y x : Nat) => (Int32.ofInt a, Int32.ofInt (y : Int), Int32.ofInt (x : Int))) (S 0) (S 1) (fun x y a => a + (bif decide (H x y ≠ G x y) then 1 else 0)) 0 ?_ ?_ ?_ ?_ (by omega) (by omega)
  · intro a y r hy
    show ff_X13_others_c4 N o p o2 q r (Int32.ofInt a) (Int32.ofInt (y : Int)) = _
    unfold ff_X13_others_c4
    simp only [ww_r hS h hy, if_false]
    rfl
  · intro a x y k r hx hy _
    have hc : ic S (x : Int) (y : Int) := ic_n hx hy
    obtain ⟨g1, g2, g3, g4⟩ := wg hS hp hc
    obtain ⟨k1, k2, k3, k4⟩ := wg hS hq hc
    have b1 := hH _ _ hc
    have b2 := hG _ _ hc
    show ff_X13_others_c15 N o p o2 q k r (Int32.ofInt a) (Int32.ofInt (y : Int)) (Int32.ofInt (x : Int)) = _
    unfold ff_X13_others_c15 ff_X13_others_b51
    simp only [ww_w hS h hx, g1, g2, g3, g4, k1, k2, k3, k4, if_true, if_false]
    rw [ii_eq (by omega) (by omega), ii_1, ia_s, ii_0, ia_add, ia_add]
    by_cases c : H x y = G x y
    · rw [if_pos c, decide_eq_false (fun z => z c)]; rfl
    · rw [if_neg c, decide_eq_true c]; rfl
  · intro a y k r hy _
    show ff_X13_others_c15 N o p o2 q k r (Int32.ofInt a) (Int32.ofInt (y : Int)) (Int32.ofInt (S 0 : Int)) = _
    unfold ff_X13_others_c15
    simp only [ww_W h, if_true]
    rw [ii_1, ia_s]
  · intro r
    show ff_X13_others_c4 N o p o2 q r _ (Int32.ofInt (S 1 : Int)) = _
    unfold ff_X13_others_c4
    simp only [ww_R h, if_true]
    rfl
/-- a row after another of a copy -/
def wk (p p' : os_T) (S : Nat → Nat) (y : Nat) : Prop := (os_I p' 0 = Int32.ofInt (S 1) ∧ os_I p' 1 = Int32.ofInt (S 0) ∧ os_I p' 2 = Int32.ofInt (y : Int)) ∧ ∀ j, j < y → os_A p' j = os_A p j
theorem wk_s {p p' : os_T} {y : Nat} (hy : y < 100) (h : wk p p' S y) : wk p (ss_I (ss_A p' (Int32.toNatClampNeg (Int32.ofInt (y : Int))) (os_A (ss_A os_zero 0 (os_A p (Int32.toNatClampNeg (Int32.ofInt (y : Int))))) 0)) 2 (Int32.ofNat (Int32.toNatClampNeg (Int32.ofInt (y : Int)) + 1))) S (y + 1) := by
  have e : Int32.toNatClampNeg (Int32.ofInt (y : Int)) = y := by rw [ia_nat (by omega) (by omega)]; exact Int.toNat_natCast _
  rw [e]
  refine ⟨⟨h.1.1, h.1.2.1, rfl⟩, fun j hj => ?_⟩
  show os_u (os_A p') y (os_u (os_A os_zero) 0 (os_A p y) 0) j = _
  rw [os_u_eq]
  by_cases c : j = y
  · subst c; rw [os_u_eq]
  · rw [os_u_ne (fun z => c z)]; exact h.2 j (by omega)
theorem wk_g {p p' : os_T} {y : Nat} (hS : sv S) (hy : y < S 1) (h : wk p p' S y) : os_in (Int32.ofInt (y : Int)) (cm_n p') = True ∧ Int32.toNatClampNeg (Int32.ofInt (y : Int)) = cm_b p' ∧ cm_c p' = S 0 ∧ cm_b p' < 1000 := by
  have := sv_a hS
  have e : Int32.toNatClampNeg (Int32.ofInt (y : Int)) = y := by rw [ia_nat (by omega) (by omega)]; exact Int.toNat_natCast _
  refine ⟨?_, ?_, ?_, ?_⟩
  · show os_in (Int32.ofInt (y : Int)) (Int32.toNatClampNeg (os_I p' 0)) = True
    rw [h.1.1, ia_nat (by omega) (by omega)]
    exact eq_true (ia_in (by omega) (by omega) (by omega))
  · show _ = Int32.toNatClampNeg (os_I p' 2)
    rw [h.1.2.2]
  · show Int32.toNatClampNeg (os_I p' 1) = _
    rw [h.1.2.1, ia_nat (by omega) (by omega)]; exact Int.toNat_natCast _
  · show Int32.toNatClampNeg (os_I p' 2) < 1000
    rw [h.1.2.2, e]; omega
theorem wk_m {p p' : os_T} (hS : sv S) (hp : wm p S F) (h : wk p p' S (S 1)) : wm p' S F := ⟨h.1, fun x y c => by
  rw [h.2 y.toNat (by unfold ic at c; omega)]; exact hp.2 x y c⟩
theorem wc_copy (hS : sv S) (hz : wz S) (h : wh o S) (hq : wm q S T) (hp : wm p S H) : ∃ o' q' p', ff_X13_copy N o q p = some (o', q', p') ∧ wh o' S ∧ wm q' S T ∧ wm p' S H := by
  have hs := sv_a hS
  obtain ⟨z0, z1⟩ := hz
  unfold ff_X13_copy ff_X13_init
  rw [Option.bind_some]
  have g : (¬ os_I o 1 < 0 ∧ Int32.toNatClampNeg (os_I o 1) ≤ 8) = True := by
    rw [h 1 (by decide), i0_lt (by omega), ia_nat (by omega) (by omega)]
    exact eq_true (by omega)
  simp only [g, if_true]
  have key : ∃ t, (fun t : os_T × os_T × os_T => wh t.1 S ∧ wm t.2.1 S T ∧ wm t.2.2 S H) t ∧ ∀ _ : Unit, ff_X13_copy_l88 N o q p 13 (ss_I (ss_I (ss_I (ss_I (ss_I (ss_I (ss_I (ss_I (ss_I (ss_I (ss_I (ss_I (ss_I (ss_I os_zero 0 (4 : Int32)) 1 (4 : Int32)) 2 (8 : Int32)) 3 (80 : Int32)) 4 (1 : Int32)) 5 (2 : Int32)) 6 (1 : Int32)) 0 (os_I o 0)) 1 (os_I o 1)) 2 (os_I o 2)) 3 (os_I o 3)) 4 (os_I o 4)) 5 (os_I o 5)) 6 (os_I o 6), ss_I (ss_I os_zero 0 (os_I o 1)) 1 (os_I p 1), ss_I (ss_I os_zero 0 (os_I o 1)) 1 (os_I q 1), (0 : Int32)) = some t := by
    unfold ff_X13_copy_l88
    refine lo_cntP (K := Unit) (step := fun _ k88 s1 => ff_X13_copy_c88 N o q p k88 s1.1 s1.2.1 s1.2.2.1 s1.2.2.2) (fun _ t => some t) (fun y s => ∃ o' p' q', s = (o', p', q', Int32.ofInt (y : Int)) ∧ wh o' S ∧ wk p p' S y ∧ wk q q' S y) (fun t : os_T × os_T × os_T => wh t.1 S ∧ wm t.2.1 S T ∧ wm t.2.2 S H) (S 1) ?_ ?_ (by omega) ⟨_, _, _, rfl, ?_, ⟨⟨h 1 (by decide), hp.1.2.1, rfl⟩, fun j hj => absurd hj (Nat.not_lt_zero j)⟩, ⟨⟨h 1 (by decide), hq.1.2.1, rfl⟩, fun j hj => absurd hj (Nat.not_lt_zero j)⟩⟩
    · rintro y s hy ⟨o', p', q', rfl, ho, h1, h2⟩
      refine ⟨_, ⟨o', _, _, rfl, ho, wk_s (by omega) h1, wk_s (by omega) h2⟩, fun _ r => ?_⟩
      show ff_X13_copy_c88 N o q p r o' p' q' (Int32.ofInt (y : Int)) = _
      have hc : ic S (0 : Int) (y : Int) := by unfold ic; omega
      obtain ⟨a1, a2, -, -⟩ := wg hS hp hc
      obtain ⟨b1, b2, -, -⟩ := wg hS hq hc
      obtain ⟨c1, c2, c3, c4⟩ := wk_g hS hy h1
      obtain ⟨d1, d2, d3, d4⟩ := wk_g hS hy h2
      have e1 : (Int32.toNatClampNeg (Int32.ofInt (y : Int)) = cm_b q' ∧ cm_c q = cm_c q' ∧ cm_b q' < 1000) = True := eq_true ⟨d2, (wm_c hS hq).trans d3.symm, d4⟩
      have e2 : (Int32.toNatClampNeg (Int32.ofInt (y : Int)) = cm_b p' ∧ cm_c p = cm_c p' ∧ cm_b p' < 1000) = True := eq_true ⟨c2, (wm_c hS hp).trans c3.symm, c4⟩
      have e3 : (cm_c q ≤ 8) = True := eq_true (by rw [wm_c hS hq]; exact z0)
      have e4 : (cm_c p ≤ 8) = True := eq_true (by rw [wm_c hS hp]; exact z0)
      unfold ff_X13_copy_c88
      simp only [ww_r hS h hy, a1, a2, b1, b2, c1, d1, e1, e2, e3, e4, if_true, if_false]
      rw [ii_1, ia_s]
    · rintro s ⟨o', p', q', rfl, ho, h1, h2⟩
      refine ⟨(o', q', p'), ⟨ho, wk_m hS hq h2, wk_m hS hp h1⟩, fun _ r => ?_⟩
      show ff_X13_copy_c88 N o q p r o' p' q' (Int32.ofInt (S 1 : Int)) = _
      unfold ff_X13_copy_c88
      simp only [ww_R h, if_true]
    · intro i hi
      obtain rfl | rfl | rfl | rfl | rfl | rfl | rfl : i = 0 ∨ i = 1 ∨ i = 2 ∨ i = 3 ∨ i = 4 ∨ i = 5 ∨ i = 6 := by omega
      · exact h 0 (by decide)
      · exact h 1 (by decide)
      · exact h 2 (by decide)
      · exact h 3 (by decide)
      · exact h 4 (by decide)
      · exact h 5 (by decide)
      · exact h 6 (by decide)
  obtain ⟨⟨o', q', p'⟩, ⟨k1, k2, k3⟩, e⟩ := key
  exact ⟨o', q', p', e (), k1, k2, k3⟩
theorem wc_relights (hN : 1000 < N) (hS : sv S) (h : wh o S) (hq : wm q S T) (hT : tv S T) (hp : wm p S H) : ∃ p', ff_X13_relights N o q p = some p' ∧ wm p' S (q_vf S H (q_fol S T)) := by
  have hs := sv_a hS
  unfold ff_X13_relights ff_X13_relights_l2
  have key := vis_w (K := Unit) (o := p) (S := S) (N := N) (M := N) (step1 := fun _ k2 s1 => ff_X13_relights_c2 N o q k2 s1.1 s1.2) (step2 := fun _ k2 k12 s1 => ff_X13_relights_c12 N o q k2 k12 s1.1 s1.2.1 s1.2.2) (fun _ t => some t) (fun p' G => wm p' S G) H (q_fol S T) hp 0 (by omega) (fun a b c l => by unfold ic at c; omega) (by omega) (by omega) (fun o y => (o, Int32.ofInt (y : Int))) (fun o y x => (o, Int32.ofInt (y : Int), Int32.ofInt (x : Int))) (fun p' => wm p' S (q_vf S H (q_fol S T))) ?_ ?_ ?_ ?_
  · obtain ⟨p', hp', e⟩ := key
    exact ⟨p', e (), hp'⟩
  · intro y p' G hy h' k r
    show ff_X13_relights_c2 N o q r p' (Int32.ofInt (y : Int)) = _
    unfold ff_X13_relights_c2
    simp only [ww_r hS h hy, if_false]
    rfl
  · intro x y p' hx hy _ h'
    have hc : ic S (x : Int) (y : Int) := ic_n hx hy
    have ht := hT _ _ hc
    obtain ⟨g1, g2, g3, g4⟩ := wg hS hq hc
    obtain ⟨k1, k2, k3, k4⟩ := wg hS h' hc
    have hw : fw_m 200 (fl_w (T x y).toNat) := fl_w200 (by omega)
    refine ⟨_, wm_hu hS h' hc, fun k r r2 => ?_⟩
    show ff_X13_relights_c12 N o q r r2 p' (Int32.ofInt (y : Int)) (Int32.ofInt (x : Int)) = _
    unfold ff_X13_relights_c12
    simp only [ww_w hS h hx, g1, g2, g3, g4, k1, k2, k3, if_true, if_false, fl_wT ht.1]
    rw [if_pos (fl_wn (by omega)), wc_heightFor hN hS h hw, Option.bind_some, ii_1, ia_s]
    rfl
  · intro y p' G hy h' k r r2
    show ff_X13_relights_c12 N o q r r2 p' (Int32.ofInt (y : Int)) (Int32.ofInt (S 0 : Int)) = _
    unfold ff_X13_relights_c12
    simp only [ww_W h, if_true]
    rw [ii_1, ia_s]
  · intro p' h'
    refine ⟨p', h', fun k r => ?_⟩
    show ff_X13_relights_c2 N o q r p' (Int32.ofInt (S 1 : Int)) = _
    unfold ff_X13_relights_c2
    simp only [ww_R h, if_true]
end WL
