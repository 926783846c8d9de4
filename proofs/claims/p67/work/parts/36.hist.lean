/-! LAYER 2. Copies of panels, what differs, the history of the class -/
section Copy
variable {N : Nat} {o p q : os_T} {S : Nat → Nat} {T H T2 H2 : Int → Int → Int}
theorem va_c {α : Type} {f g : Nat → α} {n k : Nat} (hk : k < n) : va_cpy f g 0 0 n k = f k := by
  unfold va_cpy
  rw [if_pos ⟨Nat.zero_le k, by omega⟩, Nat.zero_add, Nat.sub_zero]
theorem pc_copyH (hS : sv S) (h : cp o S T H) (hp : cp p S T2 H2) : ∃ p', ff_X5_copyHeightsFrom N p o = some p' ∧ cp p' S T2 H := by
  refine ⟨_, rfl, hp.1, hp.2.1, fun x y c => ?_, hp.2.2.2⟩
  have := ic_r hS c
  exact (va_c (show (16 * y + x).toNat < 192 by omega)).trans (h.2.2.1 x y c)
theorem pc_copy (hS : sv S) (h : cp o S T H) : ∃ p', ff_X5_copyFrom N p o = some p' ∧ cp p' S T H := by
  refine ⟨_, rfl, fun i hi => ?_, fun x y c => ?_, fun x y c => ?_, fun k hk => ?_⟩
  · rcases i with _ | _ | _ | _ | _ | _ | _ | i
    · exact h.1 0 (by decide)
    · exact h.1 1 (by decide)
    · exact h.1 2 (by decide)
    · exact h.1 3 (by decide)
    · exact h.1 4 (by decide)
    · exact h.1 5 (by decide)
    · exact h.1 6 (by decide)
    · omega
  · have := ic_r hS c
    exact (va_c (show (16 * y + x).toNat < 192 by omega)).trans (h.2.1 x y c)
  · have := ic_r hS c
    exact (va_c (show (16 * y + x).toNat < 192 by omega)).trans (h.2.2.1 x y c)
  · exact (va_c (show k < 21 by omega)).trans (h.2.2.2 k hk)
/-- how many cells differ -/
def q_df (S : Nat → Nat) (H G : Int → Int → Int) : Int := q_cnt S (fun x y => decide (H x y ≠ G x y))

theorem pc_diff (hN : 1000 < N) (hS : sv S) (h : cp o S T H) (hH : wv S H) (hp : cp p S T2 H2) (hH2 : wv S H2) : ff_X5_differencesTo N o p  = some (Int32.ofInt (q_df S H H2)) := by
  have hs := sv_a hS
  unfold ff_X5_differencesTo ff_X5_differencesTo_l4
  refine lo_grid (N := N) (step2 := fun k2 r2 s1 => ff_X5_differencesTo_c15 N o p k2 r2 s1.1 s1.2.1 s1.2.2) (fun (a : Int) (y : Nat) => (Int32.ofInt a, Int32.ofInt (y : Int))) (fun (a : Int) (y x : Nat) => (Int32.ofInt a, Int32.ofInt (y : Int), Int32.ofInt (x : Int))) (S 0) (S 1) (fun x y a => a + (bif decide (H x y ≠ H2 x y) then 1 else 0)) (0) ?_ ?_ ?_ ?_ (by omega) (by omega)
  · intro a y r hy
    show ff_X5_differencesTo_c4 N o p r (Int32.ofInt a) (Int32.ofInt (y : Int)) = _
    unfold ff_X5_differencesTo_c4
    rw [if_neg (pc_rN hS h (by omega))]
    rfl
  · intro a x y k r hx hy ha
    have hc : ic S (x : Int) (y : Int) := ic_n hx (by omega)
    have hr := ic_r hS hc
    show ff_X5_differencesTo_c15 N o p k r (Int32.ofInt a) (Int32.ofInt (y : Int)) (Int32.ofInt (x : Int)) = _
    unfold ff_X5_differencesTo_c15
    rw [if_neg (pc_wN hS h hx)]
    have h0 := hH _ _ hc
    have h1 := hH2 _ _ hc
    rw [pc_heightAt hS h (by omega) (by omega), if_pos hc, Option.bind_some, pc_heightAt hS hp (by omega) (by omega), if_pos hc, Option.bind_some, ii_eq (by omega) (by omega)]
    unfold ff_X5_differencesTo_b44
    show _ = r (Int32.ofInt (a + (bif decide (H x y ≠ H2 x y) then 1 else 0)), _, _)
    by_cases c : H x y = H2 x y
    · rw [if_pos c, decide_eq_false (fun z => z c), ii_1, ia_s]
      show _ = r (Int32.ofInt (a + 0), _, _)
      rw [Int.add_zero]
    · rw [if_neg c, decide_eq_true c, ii_1, ia_add, ia_s]; rfl
  · intro a y k r hy ha
    show ff_X5_differencesTo_c15 N o p k r (Int32.ofInt a) (Int32.ofInt (y : Int)) (Int32.ofInt (S 0 : Int)) = _
    unfold ff_X5_differencesTo_c15
    rw [if_pos (pc_wE h), ii_1, ia_add]
    rfl
  · intro r
    show ff_X5_differencesTo_c4 N o p r _ (Int32.ofInt (S 1 : Int)) = _
    unfold ff_X5_differencesTo_c4
    rw [if_pos (pc_rE h)]
    all_goals rfl

theorem pc_likeT (hN : 1000 < N) (hS : sv S) (h : cp o S T H) (hp : cp p S T2 H2) (he : ∀ x y, ic S x y → H x y = H2 x y ∧ T x y = T2 x y) : ff_X5_looksLike N o p = some 1 := by
  have hs := sv_a hS
  unfold ff_X5_looksLike ff_X5_looksLike_l2
  refine lo_grid (N := N) (step2 := fun k2 r2 s1 => ff_X5_looksLike_c12 N o p k2 r2 s1.1 s1.2) (fun (_ : Unit) (y : Nat) => Int32.ofInt (y : Int)) (fun (_ : Unit) (y x : Nat) => (Int32.ofInt (y : Int), Int32.ofInt (x : Int))) (S 0) (S 1) (fun _ _ a => a) () ?_ ?_ ?_ ?_ (by omega) (by omega)
  · intro a y r hy
    show ff_X5_looksLike_c2 N o p r (Int32.ofInt (y : Int)) = _
    unfold ff_X5_looksLike_c2
    rw [if_neg (pc_rN hS h hy)]
    rfl
  · intro a x y k r hx hy ha
    have hc : ic S (x : Int) (y : Int) := ic_n hx hy
    have hr := ic_r hS hc
    have e := he _ _ hc
    show ff_X5_looksLike_c12 N o p k r (Int32.ofInt (y : Int)) (Int32.ofInt (x : Int)) = _
    unfold ff_X5_looksLike_c12
    rw [if_neg (pc_wN hS h hx), pc_heightAt hS h (by omega) (by omega), if_pos hc, Option.bind_some, pc_heightAt hS hp (by omega) (by omega), if_pos hc, Option.bind_some, if_pos (congrArg Int32.ofInt e.1), pc_toneAt hS h (by omega) (by omega), if_pos hc, Option.bind_some, pc_toneAt hS hp (by omega) (by omega), if_pos hc, Option.bind_some, if_pos (congrArg Int32.ofInt e.2), ii_1, ia_s]
  · intro a y k r hy ha
    show ff_X5_looksLike_c12 N o p k r (Int32.ofInt (y : Int)) (Int32.ofInt (S 0 : Int)) = _
    unfold ff_X5_looksLike_c12
    rw [if_pos (pc_wE h), ii_1, ia_s]
  · intro r
    show ff_X5_looksLike_c2 N o p r (Int32.ofInt (S 1 : Int)) = _
    unfold ff_X5_looksLike_c2
    rw [if_pos (pc_rE h)]
theorem pc_likeF (hN : 1000 < N) (hS : sv S) (h : cp o S T H) (hp : cp p S T2 H2) (hH : wv S H) (hH2 : wv S H2) (hT : wv S T) (hT2 : wv S T2) (he : ∃ x y, ic S x y ∧ ¬ (H x y = H2 x y ∧ T x y = T2 x y)) : ff_X5_looksLike N o p = some 0 := by
  have hs := sv_a hS
  -- the first cell that differs
  obtain ⟨m, hm, hne, hlt⟩ : ∃ m, m < S 0 * S 1 ∧ ¬ (H ((m % S 0 : Nat) : Int) ((m / S 0 : Nat) : Int) = H2 ((m % S 0 : Nat) : Int) ((m / S 0 : Nat) : Int) ∧ T ((m % S 0 : Nat) : Int) ((m / S 0 : Nat) : Int) = T2 ((m % S 0 : Nat) : Int) ((m / S 0 : Nat) : Int)) ∧ ∀ k, k < m → H ((k % S 0 : Nat) : Int) ((k / S 0 : Nat) : Int) = H2 ((k % S 0 : Nat) : Int) ((k / S 0 : Nat) : Int) ∧ T ((k % S 0 : Nat) : Int) ((k / S 0 : Nat) : Int) = T2 ((k % S 0 : Nat) : Int) ((k / S 0 : Nat) : Int) := by
    obtain ⟨x, y, c, hne⟩ := he
    obtain ⟨k, hk, rfl, rfl⟩ := ck_of c
    obtain ⟨i1, i2, i3⟩ := q_first_spec k (fun k => decide (H ((k % S 0 : Nat) : Int) ((k / S 0 : Nat) : Int) = H2 ((k % S 0 : Nat) : Int) ((k / S 0 : Nat) : Int) ∧ T ((k % S 0 : Nat) : Int) ((k / S 0 : Nat) : Int) = T2 ((k % S 0 : Nat) : Int) ((k / S 0 : Nat) : Int))) ⟨k, Nat.le_refl _, decide_eq_false hne⟩
    exact ⟨_, Nat.lt_of_le_of_lt i3 hk, of_decide_eq_false i2, fun j hj => of_decide_eq_true (i1 j hj)⟩
  unfold ff_X5_looksLike ff_X5_looksLike_l2
  refine lo_gridX (N := N) (step2 := fun k2 r2 s1 => ff_X5_looksLike_c12 N o p k2 r2 s1.1 s1.2) (fun (_ : Unit) (y : Nat) => Int32.ofInt (y : Int)) (fun (_ : Unit) (y x : Nat) => (Int32.ofInt (y : Int), Int32.ofInt (x : Int))) (S 0) (S 1) (fun _ _ a => a) () m hm ?_ ?_ ?_ ?_ (by omega) (by omega)
  · intro a y r hy
    show ff_X5_looksLike_c2 N o p r (Int32.ofInt (y : Int)) = _
    unfold ff_X5_looksLike_c2
    rw [if_neg (pc_rN hS h hy)]
    rfl
  · intro a x y k r hx hy hxm ha
    have hc : ic S (x : Int) (y : Int) := ic_n hx hy
    have hr := ic_r hS hc
    have e := hlt _ hxm
    rw [fg_mod hx, fg_div hx] at e
    show ff_X5_looksLike_c12 N o p k r (Int32.ofInt (y : Int)) (Int32.ofInt (x : Int)) = _
    unfold ff_X5_looksLike_c12
    rw [if_neg (pc_wN hS h hx), pc_heightAt hS h (by omega) (by omega), if_pos hc, Option.bind_some, pc_heightAt hS hp (by omega) (by omega), if_pos hc, Option.bind_some, if_pos (congrArg Int32.ofInt e.1), pc_toneAt hS h (by omega) (by omega), if_pos hc, Option.bind_some, pc_toneAt hS hp (by omega) (by omega), if_pos hc, Option.bind_some, if_pos (congrArg Int32.ofInt e.2), ii_1, ia_s]
  · intro a y k r hy hle ha
    show ff_X5_looksLike_c12 N o p k r (Int32.ofInt (y : Int)) (Int32.ofInt (S 0 : Int)) = _
    unfold ff_X5_looksLike_c12
    rw [if_pos (pc_wE h), ii_1, ia_s]
  · intro a k r ha
    have hc := ic_k hS hm
    have hr := ic_r hS hc
    have hw : m % S 0 < S 0 := Nat.mod_lt _ (by omega)
    have b1 := hH _ _ hc
    have b2 := hH2 _ _ hc
    have b3 := hT _ _ hc
    have b4 := hT2 _ _ hc
    show ff_X5_looksLike_c12 N o p k r (Int32.ofInt ((m / S 0 : Nat) : Int)) (Int32.ofInt ((m % S 0 : Nat) : Int)) = _
    unfold ff_X5_looksLike_c12
    rw [if_neg (pc_wN hS h hw), pc_heightAt hS h (by omega) (by omega), if_pos hc, Option.bind_some, pc_heightAt hS hp (by omega) (by omega), if_pos hc, Option.bind_some, pc_toneAt hS h (by omega) (by omega), if_pos hc, Option.bind_some, pc_toneAt hS hp (by omega) (by omega), if_pos hc, Option.bind_some, ii_eq (by omega) (by omega), ii_eq (by omega) (by omega)]
    generalize ((m % S 0 : Nat) : Int) = x at *
    generalize ((m / S 0 : Nat) : Int) = y at *
    by_cases c1 : H x y = H2 x y
    · rw [if_pos c1, if_neg (fun c2 => hne ⟨c1, c2⟩)]
    · rw [if_neg c1]
/-! the history: the class keeps the latest n in a ring of 7 -/
def hc_R (oh : os_T) (P : Nat → os_T) (S : Nat → Nat) (n : Nat) (U : Nat → (Int → Int → Int) × (Int → Int → Int)) : Prop :=
  n ≤ 6 ∧ (∀ i, i < n → (tv S (U i).1 ∧ hv S (U i).2)) ∧ ∃ nx : Nat, nx < 7 ∧ os_I oh 1 = Int32.ofInt (nx : Int) ∧ os_I oh 2 = Int32.ofInt (n : Int) ∧ ∀ i, i < n → cp (P ((nx + 7 - n + i) % 7)) S (U i).1 (U i).2
def hp_n (n : Nat) : Nat := if n = 6 then 6 else n + 1
def hp_U (n : Nat) (U : Nat → (Int → Int → Int) × (Int → Int → Int)) (e : (Int → Int → Int) × (Int → Int → Int)) : Nat → (Int → Int → Int) × (Int → Int → Int) := if n = 6 then (fun i => if i = 5 then e else U (i + 1)) else (fun i => if i = n then e else U i)
/-- behind open: the slot that comes next holds the panel -/
def hc_O (oh : os_T) (P : Nat → os_T) (S : Nat → Nat) (n : Nat) (U : Nat → (Int → Int → Int) × (Int → Int → Int)) (T H : Int → Int → Int) : Prop :=
  n ≤ 6 ∧ (∀ i, i < n → (tv S (U i).1 ∧ hv S (U i).2)) ∧ ∃ nx : Nat, nx < 7 ∧ os_I oh 1 = Int32.ofInt (nx : Int) ∧ os_I oh 2 = Int32.ofInt (n : Int) ∧ (∀ i, i < n → cp (P ((nx + 7 - n + i) % 7)) S (U i).1 (U i).2) ∧ cp (P nx) S T H
theorem hc_O.R {oh : os_T} {P : Nat → os_T} {n : Nat} {U : Nat → (Int → Int → Int) × (Int → Int → Int)} (h : hc_O oh P S n U T H) : hc_R oh P S n U := by
  obtain ⟨h1, h2, nx, h3, h4, h5, h6, -⟩ := h
  exact ⟨h1, h2, nx, h3, h4, h5, h6⟩

theorem pc_open {oh : os_T} {P : Nat → os_T} {n : Nat} {U : Nat → (Int → Int → Int) × (Int → Int → Int)} (hS : sv S) (h : hc_R oh P S n U) (ho : cp o S T H) : ∃ P' : Nat → os_T, ff_X3_open N oh (P 0) (P 1) (P 2) (P 3) (P 4) (P 5) (P 6) o = some (P' 0, P' 1, P' 2, P' 3, P' 4, P' 5, P' 6) ∧ hc_O oh P' S n U T H := by
  obtain ⟨h1, h2, nx, h3, h4, h5, h6⟩ := h
  obtain ⟨p', e, hp⟩ := pc_copy (N := N) (p := P nx) hS ho
  rcases nx with _ | _ | _ | _ | _ | _ | _ | nx
  · refine ⟨fun i => if i = 0 then p' else P i, ?_, h1, h2, 0, by decide, h4, h5, fun i hi => ?_, ?_⟩
    · unfold ff_X3_open
      rw [h4, if_neg (by decide), if_neg (by decide), if_pos (by decide), if_pos (by decide), e]
      rfl
    · show cp (if (0 + 7 - n + i) % 7 = 0 then p' else P ((0 + 7 - n + i) % 7)) S _ _
      rw [if_neg (by omega)]
      exact h6 i hi
    · exact hp
  · refine ⟨fun i => if i = 1 then p' else P i, ?_, h1, h2, 1, by decide, h4, h5, fun i hi => ?_, ?_⟩
    · unfold ff_X3_open
      rw [h4, if_neg (by decide), if_neg (by decide), if_pos (by decide), if_neg (by decide), if_pos (by decide), e]
      rfl
    · show cp (if (1 + 7 - n + i) % 7 = 1 then p' else P ((1 + 7 - n + i) % 7)) S _ _
      rw [if_neg (by omega)]
      exact h6 i hi
    · exact hp
  · refine ⟨fun i => if i = 2 then p' else P i, ?_, h1, h2, 2, by decide, h4, h5, fun i hi => ?_, ?_⟩
    · unfold ff_X3_open
      rw [h4, if_neg (by decide), if_neg (by decide), if_pos (by decide), if_neg (by decide), if_neg (by decide), if_pos (by decide), e]
      rfl
    · show cp (if (2 + 7 - n + i) % 7 = 2 then p' else P ((2 + 7 - n + i) % 7)) S _ _
      rw [if_neg (by omega)]
      exact h6 i hi
    · exact hp
  · refine ⟨fun i => if i = 3 then p' else P i, ?_, h1, h2, 3, by decide, h4, h5, fun i hi => ?_, ?_⟩
    · unfold ff_X3_open
      rw [h4, if_neg (by decide), if_neg (by decide), if_pos (by decide), if_neg (by decide), if_neg (by decide), if_neg (by decide), if_pos (by decide), e]
      rfl
    · show cp (if (3 + 7 - n + i) % 7 = 3 then p' else P ((3 + 7 - n + i) % 7)) S _ _
      rw [if_neg (by omega)]
      exact h6 i hi
    · exact hp
  · refine ⟨fun i => if i = 4 then p' else P i, ?_, h1, h2, 4, by decide, h4, h5, fun i hi => ?_, ?_⟩
    · unfold ff_X3_open
      rw [h4, if_neg (by decide), if_neg (by decide), if_pos (by decide), if_neg (by decide), if_neg (by decide), if_neg (by decide), if_neg (by decide), if_pos (by decide), e]
      rfl
    · show cp (if (4 + 7 - n + i) % 7 = 4 then p' else P ((4 + 7 - n + i) % 7)) S _ _
      rw [if_neg (by omega)]
      exact h6 i hi
    · exact hp
  · refine ⟨fun i => if i = 5 then p' else P i, ?_, h1, h2, 5, by decide, h4, h5, fun i hi => ?_, ?_⟩
    · unfold ff_X3_open
      rw [h4, if_neg (by decide), if_neg (by decide), if_pos (by decide), if_neg (by decide), if_neg (by decide), if_neg (by decide), if_neg (by decide), if_neg (by decide), if_pos (by decide), e]
      rfl
    · show cp (if (5 + 7 - n + i) % 7 = 5 then p' else P ((5 + 7 - n + i) % 7)) S _ _
      rw [if_neg (by omega)]
      exact h6 i hi
    · exact hp
  · refine ⟨fun i => if i = 6 then p' else P i, ?_, h1, h2, 6, by decide, h4, h5, fun i hi => ?_, ?_⟩
    · unfold ff_X3_open
      rw [h4, if_neg (by decide), if_neg (by decide), if_pos (by decide), if_neg (by decide), if_neg (by decide), if_neg (by decide), if_neg (by decide), if_neg (by decide), if_neg (by decide), if_pos (by decide), e]
      rfl
    · show cp (if (6 + 7 - n + i) % 7 = 6 then p' else P ((6 + 7 - n + i) % 7)) S _ _
      rw [if_neg (by omega)]
      exact h6 i hi
    · exact hp
  · omega
theorem pc_closeB {oh : os_T} {P : Nat → os_T} {n : Nat} {U : Nat → (Int → Int → Int) × (Int → Int → Int)} (hS : sv S) (h : hc_O oh P S n U T H) (hT : tv S T) (hH : hv S H) {b : Bool} (hb : ∀ q, cp q S T H → ff_X5_looksLike N o q = some (oz b)) : ∃ oh', ff_X3_close N oh (P 0) (P 1) (P 2) (P 3) (P 4) (P 5) (P 6) o = some oh' ∧ (b = true → hc_R oh' P S n U) ∧ (b = false → hc_R oh' P S (hp_n n) (hp_U n U (T, H))) := by
  obtain ⟨h1, h2, nx, h3, h4, h5, h6, hq⟩ := h
  have hl := hb _ hq
  rcases nx with _ | _ | _ | _ | _ | _ | _ | nx
  · unfold ff_X3_close
    rw [h4, if_neg (by decide), if_neg (by decide), if_pos (by decide), if_pos (by decide), hl]
    cases b with
    | true => exact ⟨_, rfl, fun _ => ⟨h1, h2, 0, by decide, h4, h5, h6⟩, fun z => absurd z (by decide)⟩
    | false =>
      refine ⟨_, rfl, fun z => absurd z (by decide), fun _ => ⟨?_, ?_, 1, by decide, by show (Int32.ofInt ((0 : Nat) : Int) + 1) - _ = _; decide, ?_, fun i hi => ?_⟩⟩
      · unfold hp_n; split <;> omega
      · intro i hi
        unfold hp_n at hi
        unfold hp_U
        by_cases c6 : n = 6
        · rw [if_pos c6] at hi ⊢
          by_cases c5 : i = 5
          · show tv S (if i = 5 then (T, H) else U (i + 1)).1 ∧ hv S (if i = 5 then (T, H) else U (i + 1)).2
            rw [if_pos c5]; exact ⟨hT, hH⟩
          · show tv S (if i = 5 then (T, H) else U (i + 1)).1 ∧ hv S (if i = 5 then (T, H) else U (i + 1)).2
            rw [if_neg c5]; exact h2 (i + 1) (by omega)
        · rw [if_neg c6] at hi ⊢
          by_cases c5 : i = n
          · show tv S (if i = n then (T, H) else U i).1 ∧ hv S (if i = n then (T, H) else U i).2
            rw [if_pos c5]; exact ⟨hT, hH⟩
          · show tv S (if i = n then (T, H) else U i).1 ∧ hv S (if i = n then (T, H) else U i).2
            rw [if_neg c5]; exact h2 i (by omega)
      · show (if (6 : Int32) < os_I oh 2 + 1 then (6 : Int32) else os_I oh 2 + 1) = _
        rw [h5, ii_1, ia_add, ii_6, ii_lt (by omega) (by omega)]
        unfold hp_n
        by_cases c6 : n = 6
        · rw [if_pos (by omega), if_pos c6]; rfl
        · rw [if_neg (by omega), if_neg c6]; rfl
      · unfold hp_n at hi ⊢
        unfold hp_U
        by_cases c6 : n = 6
        · rw [if_pos c6] at hi
          simp only [if_pos c6]
          by_cases c5 : i = 5
          · simp only [if_pos c5]
            rw [show (1 + 7 - 6 + i) % 7 = 0 by omega]
            exact hq
          · simp only [if_neg c5]
            rw [show (1 + 7 - 6 + i) % 7 = (0 + 7 - n + (i + 1)) % 7 by omega]
            exact h6 (i + 1) (by omega)
        · rw [if_neg c6] at hi
          simp only [if_neg c6]
          by_cases c5 : i = n
          · simp only [if_pos c5]
            rw [show (1 + 7 - (n + 1) + i) % 7 = 0 by omega]
            exact hq
          · simp only [if_neg c5]
            rw [show (1 + 7 - (n + 1) + i) % 7 = (0 + 7 - n + i) % 7 by omega]
            exact h6 i (by omega)
  · unfold ff_X3_close
    rw [h4, if_neg (by decide), if_neg (by decide), if_pos (by decide), if_neg (by decide), if_pos (by decide), hl]
    cases b with
    | true => exact ⟨_, rfl, fun _ => ⟨h1, h2, 1, by decide, h4, h5, h6⟩, fun z => absurd z (by decide)⟩
    | false =>
      refine ⟨_, rfl, fun z => absurd z (by decide), fun _ => ⟨?_, ?_, 2, by decide, by show (Int32.ofInt ((1 : Nat) : Int) + 1) - _ = _; decide, ?_, fun i hi => ?_⟩⟩
      · unfold hp_n; split <;> omega
      · intro i hi
        unfold hp_n at hi
        unfold hp_U
        by_cases c6 : n = 6
        · rw [if_pos c6] at hi ⊢
          by_cases c5 : i = 5
          · show tv S (if i = 5 then (T, H) else U (i + 1)).1 ∧ hv S (if i = 5 then (T, H) else U (i + 1)).2
            rw [if_pos c5]; exact ⟨hT, hH⟩
          · show tv S (if i = 5 then (T, H) else U (i + 1)).1 ∧ hv S (if i = 5 then (T, H) else U (i + 1)).2
            rw [if_neg c5]; exact h2 (i + 1) (by omega)
        · rw [if_neg c6] at hi ⊢
          by_cases c5 : i = n
          · show tv S (if i = n then (T, H) else U i).1 ∧ hv S (if i = n then (T, H) else U i).2
            rw [if_pos c5]; exact ⟨hT, hH⟩
          · show tv S (if i = n then (T, H) else U i).1 ∧ hv S (if i = n then (T, H) else U i).2
            rw [if_neg c5]; exact h2 i (by omega)
      · show (if (6 : Int32) < os_I oh 2 + 1 then (6 : Int32) else os_I oh 2 + 1) = _
        rw [h5, ii_1, ia_add, ii_6, ii_lt (by omega) (by omega)]
        unfold hp_n
        by_cases c6 : n = 6
        · rw [if_pos (by omega), if_pos c6]; rfl
        · rw [if_neg (by omega), if_neg c6]; rfl
      · unfold hp_n at hi ⊢
        unfold hp_U
        by_cases c6 : n = 6
        · rw [if_pos c6] at hi
          simp only [if_pos c6]
          by_cases c5 : i = 5
          · simp only [if_pos c5]
            rw [show (2 + 7 - 6 + i) % 7 = 1 by omega]
            exact hq
          · simp only [if_neg c5]
            rw [show (2 + 7 - 6 + i) % 7 = (1 + 7 - n + (i + 1)) % 7 by omega]
            exact h6 (i + 1) (by omega)
        · rw [if_neg c6] at hi
          simp only [if_neg c6]
          by_cases c5 : i = n
          · simp only [if_pos c5]
            rw [show (2 + 7 - (n + 1) + i) % 7 = 1 by omega]
            exact hq
          · simp only [if_neg c5]
            rw [show (2 + 7 - (n + 1) + i) % 7 = (1 + 7 - n + i) % 7 by omega]
            exact h6 i (by omega)
  · unfold ff_X3_close
    rw [h4, if_neg (by decide), if_neg (by decide), if_pos (by decide), if_neg (by decide), if_neg (by decide), if_pos (by decide), hl]
    cases b with
    | true => exact ⟨_, rfl, fun _ => ⟨h1, h2, 2, by decide, h4, h5, h6⟩, fun z => absurd z (by decide)⟩
    | false =>
      refine ⟨_, rfl, fun z => absurd z (by decide), fun _ => ⟨?_, ?_, 3, by decide, by show (Int32.ofInt ((2 : Nat) : Int) + 1) - _ = _; decide, ?_, fun i hi => ?_⟩⟩
      · unfold hp_n; split <;> omega
      · intro i hi
        unfold hp_n at hi
        unfold hp_U
        by_cases c6 : n = 6
        · rw [if_pos c6] at hi ⊢
          by_cases c5 : i = 5
          · show tv S (if i = 5 then (T, H) else U (i + 1)).1 ∧ hv S (if i = 5 then (T, H) else U (i + 1)).2
            rw [if_pos c5]; exact ⟨hT, hH⟩
          · show tv S (if i = 5 then (T, H) else U (i + 1)).1 ∧ hv S (if i = 5 then (T, H) else U (i + 1)).2
            rw [if_neg c5]; exact h2 (i + 1) (by omega)
        · rw [if_neg c6] at hi ⊢
          by_cases c5 : i = n
          · show tv S (if i = n then (T, H) else U i).1 ∧ hv S (if i = n then (T, H) else U i).2
            rw [if_pos c5]; exact ⟨hT, hH⟩
          · show tv S (if i = n then (T, H) else U i).1 ∧ hv S (if i = n then (T, H) else U i).2
            rw [if_neg c5]; exact h2 i (by omega)
      · show (if (6 : Int32) < os_I oh 2 + 1 then (6 : Int32) else os_I oh 2 + 1) = _
        rw [h5, ii_1, ia_add, ii_6, ii_lt (by omega) (by omega)]
        unfold hp_n
        by_cases c6 : n = 6
        · rw [if_pos (by omega), if_pos c6]; rfl
        · rw [if_neg (by omega), if_neg c6]; rfl
      · unfold hp_n at hi ⊢
        unfold hp_U
        by_cases c6 : n = 6
        · rw [if_pos c6] at hi
          simp only [if_pos c6]
          by_cases c5 : i = 5
          · simp only [if_pos c5]
            rw [show (3 + 7 - 6 + i) % 7 = 2 by omega]
            exact hq
          · simp only [if_neg c5]
            rw [show (3 + 7 - 6 + i) % 7 = (2 + 7 - n + (i + 1)) % 7 by omega]
            exact h6 (i + 1) (by omega)
        · rw [if_neg c6] at hi
          simp only [if_neg c6]
          by_cases c5 : i = n
          · simp only [if_pos c5]
            rw [show (3 + 7 - (n + 1) + i) % 7 = 2 by omega]
            exact hq
          · simp only [if_neg c5]
            rw [show (3 + 7 - (n + 1) + i) % 7 = (2 + 7 - n + i) % 7 by omega]
            exact h6 i (by omega)
  · unfold ff_X3_close
    rw [h4, if_neg (by decide), if_neg (by decide), if_pos (by decide), if_neg (by decide), if_neg (by decide), if_neg (by decide), if_pos (by decide), hl]
    cases b with
    | true => exact ⟨_, rfl, fun _ => ⟨h1, h2, 3, by decide, h4, h5, h6⟩, fun z => absurd z (by decide)⟩
    | false =>
      refine ⟨_, rfl, fun z => absurd z (by decide), fun _ => ⟨?_, ?_, 4, by decide, by show (Int32.ofInt ((3 : Nat) : Int) + 1) - _ = _; decide, ?_, fun i hi => ?_⟩⟩
      · unfold hp_n; split <;> omega
      · intro i hi
        unfold hp_n at hi
        unfold hp_U
        by_cases c6 : n = 6
        · rw [if_pos c6] at hi ⊢
          by_cases c5 : i = 5
          · show tv S (if i = 5 then (T, H) else U (i + 1)).1 ∧ hv S (if i = 5 then (T, H) else U (i + 1)).2
            rw [if_pos c5]; exact ⟨hT, hH⟩
          · show tv S (if i = 5 then (T, H) else U (i + 1)).1 ∧ hv S (if i = 5 then (T, H) else U (i + 1)).2
            rw [if_neg c5]; exact h2 (i + 1) (by omega)
        · rw [if_neg c6] at hi ⊢
          by_cases c5 : i = n
          · show tv S (if i = n then (T, H) else U i).1 ∧ hv S (if i = n then (T, H) else U i).2
            rw [if_pos c5]; exact ⟨hT, hH⟩
          · show tv S (if i = n then (T, H) else U i).1 ∧ hv S (if i = n then (T, H) else U i).2
            rw [if_neg c5]; exact h2 i (by omega)
      · show (if (6 : Int32) < os_I oh 2 + 1 then (6 : Int32) else os_I oh 2 + 1) = _
        rw [h5, ii_1, ia_add, ii_6, ii_lt (by omega) (by omega)]
        unfold hp_n
        by_cases c6 : n = 6
        · rw [if_pos (by omega), if_pos c6]; rfl
        · rw [if_neg (by omega), if_neg c6]; rfl
      · unfold hp_n at hi ⊢
        unfold hp_U
        by_cases c6 : n = 6
        · rw [if_pos c6] at hi
          simp only [if_pos c6]
          by_cases c5 : i = 5
          · simp only [if_pos c5]
            rw [show (4 + 7 - 6 + i) % 7 = 3 by omega]
            exact hq
          · simp only [if_neg c5]
            rw [show (4 + 7 - 6 + i) % 7 = (3 + 7 - n + (i + 1)) % 7 by omega]
            exact h6 (i + 1) (by omega)
        · rw [if_neg c6] at hi
          simp only [if_neg c6]
          by_cases c5 : i = n
          · simp only [if_pos c5]
            rw [show (4 + 7 - (n + 1) + i) % 7 = 3 by omega]
            exact hq
          · simp only [if_neg c5]
            rw [show (4 + 7 - (n + 1) + i) % 7 = (3 + 7 - n + i) % 7 by omega]
            exact h6 i (by omega)
  · unfold ff_X3_close
    rw [h4, if_neg (by decide), if_neg (by decide), if_pos (by decide), if_neg (by decide), if_neg (by decide), if_neg (by decide), if_neg (by decide), if_pos (by decide), hl]
    cases b with
    | true => exact ⟨_, rfl, fun _ => ⟨h1, h2, 4, by decide, h4, h5, h6⟩, fun z => absurd z (by decide)⟩
    | false =>
      refine ⟨_, rfl, fun z => absurd z (by decide), fun _ => ⟨?_, ?_, 5, by decide, by show (Int32.ofInt ((4 : Nat) : Int) + 1) - _ = _; decide, ?_, fun i hi => ?_⟩⟩
      · unfold hp_n; split <;> omega
      · intro i hi
        unfold hp_n at hi
        unfold hp_U
        by_cases c6 : n = 6
        · rw [if_pos c6] at hi ⊢
          by_cases c5 : i = 5
          · show tv S (if i = 5 then (T, H) else U (i + 1)).1 ∧ hv S (if i = 5 then (T, H) else U (i + 1)).2
            rw [if_pos c5]; exact ⟨hT, hH⟩
          · show tv S (if i = 5 then (T, H) else U (i + 1)).1 ∧ hv S (if i = 5 then (T, H) else U (i + 1)).2
            rw [if_neg c5]; exact h2 (i + 1) (by omega)
        · rw [if_neg c6] at hi ⊢
          by_cases c5 : i = n
          · show tv S (if i = n then (T, H) else U i).1 ∧ hv S (if i = n then (T, H) else U i).2
            rw [if_pos c5]; exact ⟨hT, hH⟩
          · show tv S (if i = n then (T, H) else U i).1 ∧ hv S (if i = n then (T, H) else U i).2
            rw [if_neg c5]; exact h2 i (by omega)
      · show (if (6 : Int32) < os_I oh 2 + 1 then (6 : Int32) else os_I oh 2 + 1) = _
        rw [h5, ii_1, ia_add, ii_6, ii_lt (by omega) (by omega)]
        unfold hp_n
        by_cases c6 : n = 6
        · rw [if_pos (by omega), if_pos c6]; rfl
        · rw [if_neg (by omega), if_neg c6]; rfl
      · unfold hp_n at hi ⊢
        unfold hp_U
        by_cases c6 : n = 6
        · rw [if_pos c6] at hi
          simp only [if_pos c6]
          by_cases c5 : i = 5
          · simp only [if_pos c5]
            rw [show (5 + 7 - 6 + i) % 7 = 4 by omega]
            exact hq
          · simp only [if_neg c5]
            rw [show (5 + 7 - 6 + i) % 7 = (4 + 7 - n + (i + 1)) % 7 by omega]
            exact h6 (i + 1) (by omega)
        · rw [if_neg c6] at hi
          simp only [if_neg c6]
          by_cases c5 : i = n
          · simp only [if_pos c5]
            rw [show (5 + 7 - (n + 1) + i) % 7 = 4 by omega]
            exact hq
          · simp only [if_neg c5]
            rw [show (5 + 7 - (n + 1) + i) % 7 = (4 + 7 - n + i) % 7 by omega]
            exact h6 i (by omega)
  · unfold ff_X3_close
    rw [h4, if_neg (by decide), if_neg (by decide), if_pos (by decide), if_neg (by decide), if_neg (by decide), if_neg (by decide), if_neg (by decide), if_neg (by decide), if_pos (by decide), hl]
    cases b with
    | true => exact ⟨_, rfl, fun _ => ⟨h1, h2, 5, by decide, h4, h5, h6⟩, fun z => absurd z (by decide)⟩
    | false =>
      refine ⟨_, rfl, fun z => absurd z (by decide), fun _ => ⟨?_, ?_, 6, by decide, by show (Int32.ofInt ((5 : Nat) : Int) + 1) - _ = _; decide, ?_, fun i hi => ?_⟩⟩
      · unfold hp_n; split <;> omega
      · intro i hi
        unfold hp_n at hi
        unfold hp_U
        by_cases c6 : n = 6
        · rw [if_pos c6] at hi ⊢
          by_cases c5 : i = 5
          · show tv S (if i = 5 then (T, H) else U (i + 1)).1 ∧ hv S (if i = 5 then (T, H) else U (i + 1)).2
            rw [if_pos c5]; exact ⟨hT, hH⟩
          · show tv S (if i = 5 then (T, H) else U (i + 1)).1 ∧ hv S (if i = 5 then (T, H) else U (i + 1)).2
            rw [if_neg c5]; exact h2 (i + 1) (by omega)
        · rw [if_neg c6] at hi ⊢
          by_cases c5 : i = n
          · show tv S (if i = n then (T, H) else U i).1 ∧ hv S (if i = n then (T, H) else U i).2
            rw [if_pos c5]; exact ⟨hT, hH⟩
          · show tv S (if i = n then (T, H) else U i).1 ∧ hv S (if i = n then (T, H) else U i).2
            rw [if_neg c5]; exact h2 i (by omega)
      · show (if (6 : Int32) < os_I oh 2 + 1 then (6 : Int32) else os_I oh 2 + 1) = _
        rw [h5, ii_1, ia_add, ii_6, ii_lt (by omega) (by omega)]
        unfold hp_n
        by_cases c6 : n = 6
        · rw [if_pos (by omega), if_pos c6]; rfl
        · rw [if_neg (by omega), if_neg c6]; rfl
      · unfold hp_n at hi ⊢
        unfold hp_U
        by_cases c6 : n = 6
        · rw [if_pos c6] at hi
          simp only [if_pos c6]
          by_cases c5 : i = 5
          · simp only [if_pos c5]
            rw [show (6 + 7 - 6 + i) % 7 = 5 by omega]
            exact hq
          · simp only [if_neg c5]
            rw [show (6 + 7 - 6 + i) % 7 = (5 + 7 - n + (i + 1)) % 7 by omega]
            exact h6 (i + 1) (by omega)
        · rw [if_neg c6] at hi
          simp only [if_neg c6]
          by_cases c5 : i = n
          · simp only [if_pos c5]
            rw [show (6 + 7 - (n + 1) + i) % 7 = 5 by omega]
            exact hq
          · simp only [if_neg c5]
            rw [show (6 + 7 - (n + 1) + i) % 7 = (5 + 7 - n + i) % 7 by omega]
            exact h6 i (by omega)
  · unfold ff_X3_close
    rw [h4, if_neg (by decide), if_neg (by decide), if_pos (by decide), if_neg (by decide), if_neg (by decide), if_neg (by decide), if_neg (by decide), if_neg (by decide), if_neg (by decide), if_pos (by decide), hl]
    cases b with
    | true => exact ⟨_, rfl, fun _ => ⟨h1, h2, 6, by decide, h4, h5, h6⟩, fun z => absurd z (by decide)⟩
    | false =>
      refine ⟨_, rfl, fun z => absurd z (by decide), fun _ => ⟨?_, ?_, 0, by decide, by show (Int32.ofInt ((6 : Nat) : Int) + 1) - _ = _; decide, ?_, fun i hi => ?_⟩⟩
      · unfold hp_n; split <;> omega
      · intro i hi
        unfold hp_n at hi
        unfold hp_U
        by_cases c6 : n = 6
        · rw [if_pos c6] at hi ⊢
          by_cases c5 : i = 5
          · show tv S (if i = 5 then (T, H) else U (i + 1)).1 ∧ hv S (if i = 5 then (T, H) else U (i + 1)).2
            rw [if_pos c5]; exact ⟨hT, hH⟩
          · show tv S (if i = 5 then (T, H) else U (i + 1)).1 ∧ hv S (if i = 5 then (T, H) else U (i + 1)).2
            rw [if_neg c5]; exact h2 (i + 1) (by omega)
        · rw [if_neg c6] at hi ⊢
          by_cases c5 : i = n
          · show tv S (if i = n then (T, H) else U i).1 ∧ hv S (if i = n then (T, H) else U i).2
            rw [if_pos c5]; exact ⟨hT, hH⟩
          · show tv S (if i = n then (T, H) else U i).1 ∧ hv S (if i = n then (T, H) else U i).2
            rw [if_neg c5]; exact h2 i (by omega)
      · show (if (6 : Int32) < os_I oh 2 + 1 then (6 : Int32) else os_I oh 2 + 1) = _
        rw [h5, ii_1, ia_add, ii_6, ii_lt (by omega) (by omega)]
        unfold hp_n
        by_cases c6 : n = 6
        · rw [if_pos (by omega), if_pos c6]; rfl
        · rw [if_neg (by omega), if_neg c6]; rfl
      · unfold hp_n at hi ⊢
        unfold hp_U
        by_cases c6 : n = 6
        · rw [if_pos c6] at hi
          simp only [if_pos c6]
          by_cases c5 : i = 5
          · simp only [if_pos c5]
            rw [show (0 + 7 - 6 + i) % 7 = 6 by omega]
            exact hq
          · simp only [if_neg c5]
            rw [show (0 + 7 - 6 + i) % 7 = (6 + 7 - n + (i + 1)) % 7 by omega]
            exact h6 (i + 1) (by omega)
        · rw [if_neg c6] at hi
          simp only [if_neg c6]
          by_cases c5 : i = n
          · simp only [if_pos c5]
            rw [show (0 + 7 - (n + 1) + i) % 7 = 6 by omega]
            exact hq
          · simp only [if_neg c5]
            rw [show (0 + 7 - (n + 1) + i) % 7 = (6 + 7 - n + i) % 7 by omega]
            exact h6 i (by omega)
  · omega
end Copy
