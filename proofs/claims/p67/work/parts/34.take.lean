/-! LAYER 2. Passes that lower thin cells -/
/-- the reference's object after a change of some of its arrays alone -/
def sx (J : Nat → Prop) (o o' : os_T) : Prop := (∀ i, os_I o' i = os_I o i) ∧ (∀ i, os_L o' i = os_L o i) ∧ ∀ j, ¬ J j → os_A o' j = os_A o j
theorem sx.rf {J : Nat → Prop} {o : os_T} : sx J o o := ⟨fun _ => rfl, fun _ => rfl, fun _ _ => rfl⟩
theorem sx.tr {J : Nat → Prop} {o p q : os_T} (h : sx J o p) (h2 : sx J p q) : sx J o q := ⟨fun i => (h2.1 i).trans (h.1 i), fun i => (h2.2.1 i).trans (h.2.1 i), fun j hj => (h2.2.2 j hj).trans (h.2.2 j hj)⟩
theorem sx.mono {J K : Nat → Prop} {o p : os_T} (h : sx J o p) (hJ : ∀ j, J j → K j) : sx K o p := ⟨h.1, h.2.1, fun j hj => h.2.2 j (fun z => hj (hJ j z))⟩
theorem os_u_eq {α : Type} {f : Nat → α} {k : Nat} {v : α} : os_u f k v k = v := by
  unfold os_u
  rw [Nat.beq_refl]; rfl
theorem sx_A {J : Nat → Prop} {o : os_T} {j : Nat} {f : Nat → Int32} (hj : J j) : sx J o (ss_A o j f) :=
  ⟨fun _ => rfl, fun _ => rfl, fun i hi => os_u_ne (fun e => hi (e ▸ hj))⟩
theorem rp.sx {o o' : os_T} {S : Nat → Nat} {T H : Int → Int → Int} {J : Nat → Prop} (h : rp o S T H) (hx : sx J o o') (h1 : ¬ J 1) (h3 : ¬ J 3) (h4 : ¬ J 4) : rp o' S T H := by
  refine ⟨fun i hi => ?_, fun x y a b c d => ?_, fun x y a b c d => ?_⟩
  · rw [hx.2.2 1 h1]; exact h.1 i hi
  · rw [hx.2.2 3 h3]; exact h.2.1 x y a b c d
  · rw [hx.2.2 4 h4]; exact h.2.2 x y a b c d
def plq (S : Nat → Nat) (k : Nat) : Nat := (16 * ((k / S 0 : Nat) : Int) + ((k % S 0 : Nat) : Int)).toNat
theorem pl_lt {S : Nat → Nat} (hS : sv S) {k : Nat} (hk : k < S 0 * S 1) : plq S k < 192 := by
  have := ic_r hS (ic_k hS hk)
  unfold plq
  omega
theorem ck_inj {S : Nat → Nat} {k j : Nat} (h1 : k % S 0 = j % S 0) (h2 : k / S 0 = j / S 0) : k = j := by
  rw [← Nat.div_add_mod k (S 0), ← Nat.div_add_mod j (S 0), h1, h2]
theorem pl_inj {S : Nat → Nat} (hS : sv S) {k j : Nat} (hk : k < S 0 * S 1) (hj : j < S 0 * S 1) (e : plq S k = plq S j) : k = j := by
  have c1 := ic_k hS hk
  have c2 := ic_k hS hj
  have := ic_inj hS c2 c1 e
  exact ck_inj (Int.ofNat_inj.mp this.1) (Int.ofNat_inj.mp this.2)
def q_thk (S : Nat → Nat) (H : Int → Int → Int) (k : Nat) : Bool := q_th S H ((k % S 0 : Nat) : Int) ((k / S 0 : Nat) : Int)
def mkd (f : Nat → Int32) (S : Nat → Nat) (H : Int → Int → Int) (n : Nat) : Prop := ∀ j, j < n → f (plq S j) = oz (q_thk S H j)
theorem mkd_s {f : Nat → Int32} {S : Nat → Nat} {H : Int → Int → Int} {n : Nat} (hS : sv S) (hn : n < S 0 * S 1) (h : mkd f S H n) : mkd (upd f (plq S n) (oz (q_thk S H n))) S H (n + 1) := by
  intro j hj
  unfold upd
  by_cases e : j = n
  · rw [e, if_pos rfl]
  · rw [if_neg (fun z => e (pl_inj hS (by omega) hn z))]
    exact h j (by omega)
def q_cn (S : Nat → Nat) (H : Int → Int → Int) (n : Nat) : Int := fo (fg (S 0) (fun x y a => a + (bif q_th S H x y then 1 else 0))) n 0
theorem q_cn_s {S : Nat → Nat} {H : Int → Int → Int} (n : Nat) : q_cn S H (n + 1) = q_cn S H n + (bif q_thk S H n then 1 else 0) := rfl
theorem q_cn_all {S : Nat → Nat} {H : Int → Int → Int} : q_cn S H (S 0 * S 1) = q_cnt S (q_th S H) := rfl
theorem q_cn_b {S : Nat → Nat} {H : Int → Int → Int} (n : Nat) : 0 ≤ q_cn S H n ∧ q_cn S H n ≤ n := by
  induction n with
  | zero => exact ⟨Int.le_refl _, Int.le_refl _⟩
  | succ n ih => rw [q_cn_s]; cases q_thk S H n <;> simp only [cond_true, cond_false] <;> omega
theorem thk_at {S : Nat → Nat} {H : Int → Int → Int} {x y : Nat} (hx : x < S 0) : q_thk S H (S 0 * y + x) = q_th S H x y := by
  unfold q_thk
  rw [fg_mod hx, fg_div hx]
theorem pl_at {S : Nat → Nat} {x y : Nat} (hx : x < S 0) : plq S (S 0 * y + x) = (16 * (y : Int) + (x : Int)).toNat := by
  unfold plq
  rw [fg_mod hx, fg_div hx]
section Take
variable {N : Nat} {o ow : os_T} {S : Nat → Nat} {T H : Int → Int → Int}
theorem pc_mark (hN : 1000 < N) (hS : sv S) (h : cp o S T H) (hH : wv S H) : ∃ ow', ff_X11_mark N ow o = some (Int32.ofInt (q_cnt S (q_th S H)), ow') ∧ mkd (os_A ow' 0) S H (S 0 * S 1) := by
  have hs := sv_a hS
  have key : ∃ v, (∃ ow', v = some (Int32.ofInt (q_cnt S (q_th S H)), ow') ∧ mkd (os_A ow' 0) S H (S 0 * S 1)) ∧ ff_X11_mark_l4 N o N (ow, Int32.ofInt 0, Int32.ofInt ((0 : Nat) : Int)) = v := by
    unfold ff_X11_mark_l4
    refine lo_gridI (N := N) (step2 := fun k2 r2 s1 => ff_X11_mark_c15 N o k2 r2 s1.1 s1.2.1 s1.2.2.1 s1.2.2.2) (fun y s => ∃ ow', s = (ow', Int32.ofInt (q_cn S H (S 0 * y)), Int32.ofInt (y : Int)) ∧ mkd (os_A ow' 0) S H (S 0 * y)) (fun y x s => ∃ ow', s = (ow', Int32.ofInt (q_cn S H (S 0 * y + x)), Int32.ofInt (y : Int), Int32.ofInt (x : Int)) ∧ mkd (os_A ow' 0) S H (S 0 * y + x)) (fun v => ∃ ow', v = some (Int32.ofInt (q_cnt S (q_th S H)), ow') ∧ mkd (os_A ow' 0) S H (S 0 * S 1)) (S 0) (S 1) ?_ ?_ ?_ ?_ (by omega) (by omega) ⟨ow, rfl, fun j hj => absurd hj (Nat.not_lt_zero j)⟩
    · rintro y s hy ⟨ow', rfl, hm⟩
      refine ⟨_, ⟨ow', rfl, hm⟩, fun r => ?_⟩
      show ff_X11_mark_c4 N o r ow' (Int32.ofInt (q_cn S H (S 0 * y))) (Int32.ofInt (y : Int)) = _
      unfold ff_X11_mark_c4
      rw [if_neg (pc_rN hS h hy)]
      rfl
    · rintro x y s hx hy ⟨ow', rfl, hm⟩
      have hc : ic S (x : Int) (y : Int) := ic_n hx hy
      have hr := ic_r hS hc
      have hlt := fg_lt hx hy
      refine ⟨_, ⟨ss_A ow' 0 (upd (os_A ow' 0) (plq S (S 0 * y + x)) (oz (q_thk S H (S 0 * y + x)))), rfl, mkd_s hS hlt hm⟩, fun k r => ?_⟩
      show ff_X11_mark_c15 N o k r ow' (Int32.ofInt (q_cn S H (S 0 * y + x))) (Int32.ofInt (y : Int)) (Int32.ofInt (x : Int)) = r (_, Int32.ofInt (q_cn S H (S 0 * y + x + 1)), Int32.ofInt (y : Int), Int32.ofInt ((x + 1 : Nat) : Int))
      unfold ff_X11_mark_c15
      rw [if_neg (pc_wN hS h hx), pc_thin hN hS h hH hc, Option.bind_some]
      unfold ff_X11_setMark
      have e1 : (Int32.ofInt (y : Int) * 16 + Int32.ofInt (x : Int) < 0) = False := by rw [cp_ix, i0_lt (by omega)]; exact eq_false (by omega)
      have e2 : ((192 : Int32) ≤ Int32.ofInt (y : Int) * 16 + Int32.ofInt (x : Int)) = False := by rw [cp_ix, show (192 : Int32) = Int32.ofInt 192 from rfl, ia_le (by omega) (by omega) (by omega) (by omega)]; exact eq_false (by omega)
      simp only [e1, e2, if_false]
      rw [if_pos (cp_in hS hc), cp_na hS hc, Option.bind_some, vn_oz, q_cn_s, thk_at hx, pl_at hx]
      unfold ff_X11_mark_b53
      cases q_th S H x y with
      | true => rw [oz_bt rfl, ii_1, ia_add, ia_s]; rfl
      | false => rw [oz_bf rfl, ii_0, ii_1, ia_add, ia_s]; rfl
    · rintro y s hy ⟨ow', rfl, hm⟩
      refine ⟨_, ⟨ow', rfl, by rw [Nat.mul_add, Nat.mul_one]; exact hm⟩, fun k r => ?_⟩
      show ff_X11_mark_c15 N o k r ow' (Int32.ofInt (q_cn S H (S 0 * y + S 0))) (Int32.ofInt (y : Int)) (Int32.ofInt (S 0 : Int)) = _
      unfold ff_X11_mark_c15
      rw [if_pos (pc_wE h), ii_1, ia_s, Nat.mul_add, Nat.mul_one]
    · rintro s ⟨ow', rfl, hm⟩
      refine ⟨_, ⟨ow', rfl, hm⟩, fun r => ?_⟩
      show ff_X11_mark_c4 N o r ow' (Int32.ofInt (q_cn S H (S 0 * S 1))) (Int32.ofInt (S 1 : Int)) = _
      unfold ff_X11_mark_c4
      rw [if_pos (pc_rE h)]
      rfl
  obtain ⟨v, ⟨ow', rfl, hm⟩, e⟩ := key
  exact ⟨ow', e, hm⟩
/-! one pass -/
def q_ps (S : Nat → Nat) (H : Int → Int → Int) (k : Nat) (G : Int → Int → Int) : Int → Int → Int := hu G ((k % S 0 : Nat) : Int) ((k / S 0 : Nat) : Int) (G ((k % S 0 : Nat) : Int) ((k / S 0 : Nat) : Int) - (bif q_thk S H k then 1 else 0))
def q_pass (S : Nat → Nat) (H : Int → Int → Int) : Int → Int → Int := fo (q_ps S H) (S 0 * S 1) H
theorem q_pn (hS : sv S) (n : Nat) (hn : n ≤ S 0 * S 1) : (∀ x y, ¬ ic S x y → fo (q_ps S H) n H x y = H x y) ∧ ∀ j, j < S 0 * S 1 → fo (q_ps S H) n H ((j % S 0 : Nat) : Int) ((j / S 0 : Nat) : Int) = H ((j % S 0 : Nat) : Int) ((j / S 0 : Nat) : Int) - (if j < n then (bif q_thk S H j then 1 else 0) else 0) := by
  induction n with
  | zero => exact ⟨fun _ _ _ => rfl, fun j _ => by rw [if_neg (Nat.not_lt_zero j)]; exact (Int.sub_zero _).symm⟩
  | succ n ih =>
    obtain ⟨i1, i2⟩ := ih (by omega)
    have hcn := ic_k hS (show n < S 0 * S 1 by omega)
    rw [fo_s]
    clear ih
    generalize fo (q_ps S H) n H = G at i1 i2 ⊢
    refine ⟨fun x y c => ?_, fun j hj => ?_⟩
    · unfold q_ps
      rw [hu_ne (fun z => c (by rw [z.1, z.2]; exact hcn))]
      exact i1 x y c
    · unfold q_ps
      by_cases e : j = n
      · subst e
        rw [hu_at, i2 j hj, if_neg (Nat.lt_irrefl j), if_pos (Nat.lt_succ_self j), Int.sub_zero]
      · rw [hu_ne (fun z => e (ck_inj (Int.ofNat_inj.mp z.1) (Int.ofNat_inj.mp z.2))), i2 j hj]
        by_cases l : j < n
        · rw [if_pos l, if_pos (by omega)]
        · rw [if_neg l, if_neg (by omega)]
theorem ck_of {x y : Int} (c : ic S x y) : ∃ k, k < S 0 * S 1 ∧ ((k % S 0 : Nat) : Int) = x ∧ ((k / S 0 : Nat) : Int) = y := by
  obtain ⟨xn, rfl⟩ : ∃ n : Nat, x = n := ⟨x.toNat, by omega⟩
  obtain ⟨yn, rfl⟩ : ∃ n : Nat, y = n := ⟨y.toNat, by omega⟩
  have hx : xn < S 0 := by omega
  refine ⟨S 0 * yn + xn, fg_lt hx (by omega), ?_, ?_⟩
  · rw [fg_mod hx]
  · rw [fg_div hx]
theorem q_psc (hS : sv S) {x y : Int} (c : ic S x y) : q_pass S H x y = H x y - (bif q_th S H x y then 1 else 0) := by
  obtain ⟨k, hk, rfl, rfl⟩ := ck_of c
  have := (q_pn (H := H) hS _ (Nat.le_refl _)).2 k hk
  rw [if_pos hk] at this
  exact this
theorem q_pso (hS : sv S) {x y : Int} (c : ¬ ic S x y) : q_pass S H x y = H x y := (q_pn (H := H) hS _ (Nat.le_refl _)).1 x y c
theorem q_psv (hS : sv S) (hH : hv S H) : hv S (q_pass S H) := fun x y c => by
  have h0 := hH x y c
  rw [q_psc hS c]
  cases e : q_th S H x y with
  | false => simp only [cond_false]; omega
  | true =>
    unfold q_th at e
    have := (of_decide_eq_true e).1
    simp only [cond_true]
    omega
theorem q_pnw (hS : sv S) (hH : hv S H) (n : Nat) (hn : n ≤ S 0 * S 1) : wv S (fo (q_ps S H) n H) := fun x y c => by
  obtain ⟨k, hk, rfl, rfl⟩ := ck_of c
  have hs := sv_a hS
  have h0 := hH _ _ c
  rw [(q_pn (H := H) hS n hn).2 k hk]
  split
  · cases q_thk S H k <;> simp only [cond_true, cond_false] <;> omega
  · omega
theorem pc_lower (hN : 1000 < N) (hS : sv S) (h : cp o S T H) (hH : hv S H) (hm : mkd (os_A ow 0) S H (S 0 * S 1)) : ∃ o', ff_X11_lowerMarked N ow o = some o' ∧ cp o' S T (q_pass S H) := by
  have hs := sv_a hS
  have key : ∃ v, (∃ o', v = some o' ∧ cp o' S T (q_pass S H)) ∧ ff_X11_lowerMarked_l2 N ow N (o, Int32.ofInt ((0 : Nat) : Int)) = v := by
    unfold ff_X11_lowerMarked_l2
    refine lo_gridI (N := N) (step2 := fun k2 r2 s1 => ff_X11_lowerMarked_c12 N ow k2 r2 s1.1 s1.2.1 s1.2.2) (fun y s => ∃ o', s = (o', Int32.ofInt (y : Int)) ∧ cp o' S T (fo (q_ps S H) (S 0 * y) H)) (fun y x s => ∃ o', s = (o', Int32.ofInt (y : Int), Int32.ofInt (x : Int)) ∧ cp o' S T (fo (q_ps S H) (S 0 * y + x) H)) (fun v => ∃ o', v = some o' ∧ cp o' S T (q_pass S H)) (S 0) (S 1) ?_ ?_ ?_ ?_ (by omega) (by omega) ⟨o, rfl, h⟩
    · rintro y s hy ⟨o', rfl, h'⟩
      refine ⟨_, ⟨o', rfl, h'⟩, fun r => ?_⟩
      show ff_X11_lowerMarked_c2 N ow r o' (Int32.ofInt (y : Int)) = _
      unfold ff_X11_lowerMarked_c2
      rw [if_neg (pc_rN hS h' hy)]
      rfl
    · rintro x y s hx hy ⟨o', rfl, h'⟩
      have hc : ic S (x : Int) (y : Int) := ic_n hx hy
      have hr := ic_r hS hc
      have hlt := fg_lt hx hy
      have hw := q_pnw hS hH (S 0 * y + x) (by omega)
      have hmj := hm _ hlt
      rw [thk_at hx, pl_at hx] at hmj
      have e1 : (Int32.ofInt (y : Int) * 16 + Int32.ofInt (x : Int) < 0) = False := by rw [cp_ix, i0_lt (by omega)]; exact eq_false (by omega)
      have e2 : ((192 : Int32) ≤ Int32.ofInt (y : Int) * 16 + Int32.ofInt (x : Int)) = False := by rw [cp_ix, show (192 : Int32) = Int32.ofInt 192 from rfl, ia_le (by omega) (by omega) (by omega) (by omega)]; exact eq_false (by omega)
      have eH : ff_X11_hasMark N ow (Int32.ofInt (x : Int)) (Int32.ofInt (y : Int)) = some (oz (q_th S H x y)) := by
        unfold ff_X11_hasMark
        simp only [e1, e2, if_false]
        rw [if_pos (cp_in hS hc), cp_na hS hc, hmj]
        cases q_th S H x y <;> rfl
      have es : fo (q_ps S H) (S 0 * y + x + 1) H = hu (fo (q_ps S H) (S 0 * y + x) H) x y (fo (q_ps S H) (S 0 * y + x) H x y - (bif q_th S H x y then 1 else 0)) := by
        rw [fo_s]
        unfold q_ps
        rw [thk_at hx, fg_mod hx, fg_div hx]
      generalize fo (q_ps S H) (S 0 * y + x) H = G at *
      have h0 := hw _ _ hc
      cases ht : q_th S H x y with
      | false =>
        refine ⟨_, ⟨o', rfl, ?_⟩, fun k r => ?_⟩
        · rw [show S 0 * y + (x + 1) = S 0 * y + x + 1 from rfl, es, ht]
          simp only [cond_false]
          rw [Int.sub_zero, hu_id]
          exact h'
        · show ff_X11_lowerMarked_c12 N ow k r o' (Int32.ofInt (y : Int)) (Int32.ofInt (x : Int)) = _
          unfold ff_X11_lowerMarked_c12
          rw [if_neg (pc_wN hS h' hx), eH, Option.bind_some, oz_bf ht]
          unfold ff_X11_lowerMarked_b44
          rw [ii_1, ia_s]
      | true =>
        obtain ⟨o2, eb, h2⟩ := pc_build (N := N) hS h' hw hc (v := G x y - 1) (by omega)
        refine ⟨_, ⟨o2, rfl, ?_⟩, fun k r => ?_⟩
        · rw [show S 0 * y + (x + 1) = S 0 * y + x + 1 from rfl, es, ht]
          exact h2
        · show ff_X11_lowerMarked_c12 N ow k r o' (Int32.ofInt (y : Int)) (Int32.ofInt (x : Int)) = _
          unfold ff_X11_lowerMarked_c12
          rw [if_neg (pc_wN hS h' hx), eH, Option.bind_some, oz_bt ht, pc_heightAt hS h' (by omega) (by omega), if_pos hc, Option.bind_some, ii_1, ia_sub, eb, Option.bind_some]
          unfold ff_X11_lowerMarked_b44
          rw [ii_1, ia_s]
    · rintro y s hy ⟨o', rfl, h'⟩
      refine ⟨_, ⟨o', rfl, by rw [Nat.mul_add, Nat.mul_one]; exact h'⟩, fun k r => ?_⟩
      show ff_X11_lowerMarked_c12 N ow k r o' (Int32.ofInt (y : Int)) (Int32.ofInt (S 0 : Int)) = _
      unfold ff_X11_lowerMarked_c12
      rw [if_pos (pc_wE h'), ii_1, ia_s]
    · rintro s ⟨o', rfl, h'⟩
      refine ⟨_, ⟨o', rfl, h'⟩, fun r => ?_⟩
      show ff_X11_lowerMarked_c2 N ow r o' (Int32.ofInt (S 1 : Int)) = _
      unfold ff_X11_lowerMarked_c2
      rw [if_pos (pc_rE h')]
  obtain ⟨v, ⟨o', rfl, hm⟩, e⟩ := key
  exact ⟨o', e, hm⟩
end Take
