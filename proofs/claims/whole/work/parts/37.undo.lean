/-! LAYER 2. Undoing; the history of the reference -/
section Undo
variable {N : Nat} {o : os_T} {S : Nat → Nat} {T H T2 H2 : Int → Int → Int}
theorem pc_back {oh : os_T} {P : Nat → os_T} {n : Nat} {U : Nat → (Int → Int → Int) × (Int → Int → Int)} (hS : sv S) (h : hc_R oh P S n U) (hn : 1 ≤ n) : ∃ oh' o', ff_X3_takeBack N oh (P 0) (P 1) (P 2) (P 3) (P 4) (P 5) (P 6) o = some (1, oh', o') ∧ hc_R oh' P S (n - 1) U ∧ cp o' S (U (n - 1)).1 (U (n - 1)).2 := by
  obtain ⟨h1, h2, nx, h3, h4, h5, h6⟩ := h
  rcases nx with _ | _ | _ | _ | _ | _ | _ | nx
  · obtain ⟨p', e, hp⟩ := pc_copy (N := N) (p := o) hS (h6 (n - 1) (by omega))
    rw [show (0 + 7 - n + (n - 1)) % 7 = 6 by omega] at e
    refine ⟨ss_I (ss_I oh 1 (Int32.ofInt ((6 : Nat) : Int))) 2 (Int32.ofInt ((n - 1 : Nat) : Int)), p', ?_, ⟨by omega, fun i hi => h2 i (by omega), 6, by decide, rfl, rfl, fun i hi => ?_⟩, hp⟩
    · unfold ff_X3_takeBack
      rw [h5, h4, ii_1, ii_lt (by omega) (by omega), if_neg (by omega), if_pos (by decide), if_pos (by decide), if_neg (by decide), if_neg (by decide), if_neg (by decide), if_neg (by decide), if_neg (by decide), if_neg (by decide), if_pos (by decide), e, Option.bind_some, ia_sub, show (n : Int) - 1 = ((n - 1 : Nat) : Int) by omega]
      rfl
    · rw [show (6 + 7 - (n - 1) + i) % 7 = (0 + 7 - n + i) % 7 by omega]
      exact h6 i (by omega)
  · obtain ⟨p', e, hp⟩ := pc_copy (N := N) (p := o) hS (h6 (n - 1) (by omega))
    rw [show (1 + 7 - n + (n - 1)) % 7 = 0 by omega] at e
    refine ⟨ss_I (ss_I oh 1 (Int32.ofInt ((0 : Nat) : Int))) 2 (Int32.ofInt ((n - 1 : Nat) : Int)), p', ?_, ⟨by omega, fun i hi => h2 i (by omega), 0, by decide, rfl, rfl, fun i hi => ?_⟩, hp⟩
    · unfold ff_X3_takeBack
      rw [h5, h4, ii_1, ii_lt (by omega) (by omega), if_neg (by omega), if_pos (by decide), if_pos (by decide), if_pos (by decide), e, Option.bind_some, ia_sub, show (n : Int) - 1 = ((n - 1 : Nat) : Int) by omega]
      rfl
    · rw [show (0 + 7 - (n - 1) + i) % 7 = (1 + 7 - n + i) % 7 by omega]
      exact h6 i (by omega)
  · obtain ⟨p', e, hp⟩ := pc_copy (N := N) (p := o) hS (h6 (n - 1) (by omega))
    rw [show (2 + 7 - n + (n - 1)) % 7 = 1 by omega] at e
    refine ⟨ss_I (ss_I oh 1 (Int32.ofInt ((1 : Nat) : Int))) 2 (Int32.ofInt ((n - 1 : Nat) : Int)), p', ?_, ⟨by omega, fun i hi => h2 i (by omega), 1, by decide, rfl, rfl, fun i hi => ?_⟩, hp⟩
    · unfold ff_X3_takeBack
      rw [h5, h4, ii_1, ii_lt (by omega) (by omega), if_neg (by omega), if_pos (by decide), if_pos (by decide), if_neg (by decide), if_pos (by decide), e, Option.bind_some, ia_sub, show (n : Int) - 1 = ((n - 1 : Nat) : Int) by omega]
      rfl
    · rw [show (1 + 7 - (n - 1) + i) % 7 = (2 + 7 - n + i) % 7 by omega]
      exact h6 i (by omega)
  · obtain ⟨p', e, hp⟩ := pc_copy (N := N) (p := o) hS (h6 (n - 1) (by omega))
    rw [show (3 + 7 - n + (n - 1)) % 7 = 2 by omega] at e
    refine ⟨ss_I (ss_I oh 1 (Int32.ofInt ((2 : Nat) : Int))) 2 (Int32.ofInt ((n - 1 : Nat) : Int)), p', ?_, ⟨by omega, fun i hi => h2 i (by omega), 2, by decide, rfl, rfl, fun i hi => ?_⟩, hp⟩
    · unfold ff_X3_takeBack
      rw [h5, h4, ii_1, ii_lt (by omega) (by omega), if_neg (by omega), if_pos (by decide), if_pos (by decide), if_neg (by decide), if_neg (by decide), if_pos (by decide), e, Option.bind_some, ia_sub, show (n : Int) - 1 = ((n - 1 : Nat) : Int) by omega]
      rfl
    · rw [show (2 + 7 - (n - 1) + i) % 7 = (3 + 7 - n + i) % 7 by omega]
      exact h6 i (by omega)
  · obtain ⟨p', e, hp⟩ := pc_copy (N := N) (p := o) hS (h6 (n - 1) (by omega))
    rw [show (4 + 7 - n + (n - 1)) % 7 = 3 by omega] at e
    refine ⟨ss_I (ss_I oh 1 (Int32.ofInt ((3 : Nat) : Int))) 2 (Int32.ofInt ((n - 1 : Nat) : Int)), p', ?_, ⟨by omega, fun i hi => h2 i (by omega), 3, by decide, rfl, rfl, fun i hi => ?_⟩, hp⟩
    · unfold ff_X3_takeBack
      rw [h5, h4, ii_1, ii_lt (by omega) (by omega), if_neg (by omega), if_pos (by decide), if_pos (by decide), if_neg (by decide), if_neg (by decide), if_neg (by decide), if_pos (by decide), e, Option.bind_some, ia_sub, show (n : Int) - 1 = ((n - 1 : Nat) : Int) by omega]
      rfl
    · rw [show (3 + 7 - (n - 1) + i) % 7 = (4 + 7 - n + i) % 7 by omega]
      exact h6 i (by omega)
  · obtain ⟨p', e, hp⟩ := pc_copy (N := N) (p := o) hS (h6 (n - 1) (by omega))
    rw [show (5 + 7 - n + (n - 1)) % 7 = 4 by omega] at e
    refine ⟨ss_I (ss_I oh 1 (Int32.ofInt ((4 : Nat) : Int))) 2 (Int32.ofInt ((n - 1 : Nat) : Int)), p', ?_, ⟨by omega, fun i hi => h2 i (by omega), 4, by decide, rfl, rfl, fun i hi => ?_⟩, hp⟩
    · unfold ff_X3_takeBack
      rw [h5, h4, ii_1, ii_lt (by omega) (by omega), if_neg (by omega), if_pos (by decide), if_pos (by decide), if_neg (by decide), if_neg (by decide), if_neg (by decide), if_neg (by decide), if_pos (by decide), e, Option.bind_some, ia_sub, show (n : Int) - 1 = ((n - 1 : Nat) : Int) by omega]
      rfl
    · rw [show (4 + 7 - (n - 1) + i) % 7 = (5 + 7 - n + i) % 7 by omega]
      exact h6 i (by omega)
  · obtain ⟨p', e, hp⟩ := pc_copy (N := N) (p := o) hS (h6 (n - 1) (by omega))
    rw [show (6 + 7 - n + (n - 1)) % 7 = 5 by omega] at e
    refine ⟨ss_I (ss_I oh 1 (Int32.ofInt ((5 : Nat) : Int))) 2 (Int32.ofInt ((n - 1 : Nat) : Int)), p', ?_, ⟨by omega, fun i hi => h2 i (by omega), 5, by decide, rfl, rfl, fun i hi => ?_⟩, hp⟩
    · unfold ff_X3_takeBack
      rw [h5, h4, ii_1, ii_lt (by omega) (by omega), if_neg (by omega), if_pos (by decide), if_pos (by decide), if_neg (by decide), if_neg (by decide), if_neg (by decide), if_neg (by decide), if_neg (by decide), if_pos (by decide), e, Option.bind_some, ia_sub, show (n : Int) - 1 = ((n - 1 : Nat) : Int) by omega]
      rfl
    · rw [show (5 + 7 - (n - 1) + i) % 7 = (6 + 7 - n + i) % 7 by omega]
      exact h6 i (by omega)
  · omega
theorem pc_back0 {oh : os_T} {P : Nat → os_T} {U : Nat → (Int → Int → Int) × (Int → Int → Int)} (h : hc_R oh P S 0 U) : ff_X3_takeBack N oh (P 0) (P 1) (P 2) (P 3) (P 4) (P 5) (P 6) o = some (0, oh, o) := by
  obtain ⟨h1, h2, nx, h3, h4, h5, h6⟩ := h
  unfold ff_X3_takeBack
  rw [h5, if_pos (by decide)]
theorem pc_forget {oh : os_T} {P : Nat → os_T} {n : Nat} {S' : Nat → Nat} {U U' : Nat → (Int → Int → Int) × (Int → Int → Int)} (h : hc_R oh P S n U) : ∃ oh', ff_X3_forget N oh = some oh' ∧ hc_R oh' P S' 0 U' := by
  obtain ⟨h1, h2, nx, h3, h4, h5, h6⟩ := h
  exact ⟨_, rfl, by decide, fun i hi => absurd hi (Nat.not_lt_zero i), nx, h3, h4, rfl, fun i hi => absurd hi (Nat.not_lt_zero i)⟩
/-! the reference -/
def sy (K J : Nat → Prop) (o o' : os_T) : Prop := (∀ i, ¬ K i → os_I o' i = os_I o i) ∧ (∀ i, os_L o' i = os_L o i) ∧ ∀ j, ¬ J j → os_A o' j = os_A o j
theorem sy.rf {K J : Nat → Prop} {o : os_T} : sy K J o o := ⟨fun _ _ => rfl, fun _ => rfl, fun _ _ => rfl⟩
theorem sy.tr {K J : Nat → Prop} {o p q : os_T} (h : sy K J o p) (h2 : sy K J p q) : sy K J o q := ⟨fun i hi => (h2.1 i hi).trans (h.1 i hi), fun i => (h2.2.1 i).trans (h.2.1 i), fun j hj => (h2.2.2 j hj).trans (h.2.2 j hj)⟩
theorem sy.mono {K J K2 J2 : Nat → Prop} {o p : os_T} (h : sy K J o p) (hK : ∀ j, K j → K2 j) (hJ : ∀ j, J j → J2 j) : sy K2 J2 o p := ⟨fun i hi => h.1 i (fun z => hi (hK i z)), h.2.1, fun j hj => h.2.2 j (fun z => hj (hJ j z))⟩
theorem sx.sy {K J : Nat → Prop} {o p : os_T} (h : sx J o p) : sy K J o p := ⟨fun i _ => h.1 i, h.2.1, h.2.2⟩
theorem sy_A {K J : Nat → Prop} {o : os_T} {j : Nat} {f : Nat → Int32} (hj : J j) : sy K J o (ss_A o j f) := (sx_A hj).sy
theorem sy_I {K J : Nat → Prop} {o : os_T} {k : Nat} {v : Int32} (hk : K k) : sy K J o (ss_I o k v) := ⟨fun i hi => os_u_ne (fun e => hi (e ▸ hk)), fun _ => rfl, fun _ _ => rfl⟩
theorem rp.sy {o o' : os_T} {K J : Nat → Prop} (h : rp o S T H) (hx : sy K J o o') (h1 : ¬ J 1) (h3 : ¬ J 3) (h4 : ¬ J 4) : rp o' S T H := by
  refine ⟨fun i hi => ?_, fun x y a b c d => ?_, fun x y a b c d => ?_⟩
  · rw [hx.2.2 1 h1]; exact h.1 i hi
  · rw [hx.2.2 3 h3]; exact h.2.1 x y a b c d
  · rw [hx.2.2 4 h4]; exact h.2.2 x y a b c d
/-- a row of 192 numbers, 16 a line -/
def a16 (f : Nat → Int32) (G : Int → Int → Int) : Prop := ∀ k, k < 192 → f k = Int32.ofInt (G ((k % 16 : Nat) : Int) ((k / 16 : Nat) : Int))
theorem a16_of {f : Nat → Int32} {G : Int → Int → Int} (h : ∀ x y : Int, 0 ≤ x → x < 16 → 0 ≤ y → y < 12 → f (16 * y + x).toNat = Int32.ofInt (G x y)) : a16 f G := fun k hk => by
  have := h ((k % 16 : Nat) : Int) ((k / 16 : Nat) : Int) (by omega) (by omega) (by omega) (by omega)
  rwa [show (16 * ((k / 16 : Nat) : Int) + ((k % 16 : Nat) : Int)).toNat = k by omega] at this
theorem a16_to {f : Nat → Int32} {G : Int → Int → Int} (h : a16 f G) : ∀ x y : Int, 0 ≤ x → x < 16 → 0 ≤ y → y < 12 → f (16 * y + x).toNat = Int32.ofInt (G x y) := fun x y h1 h2 h3 h4 => by
  have := h (16 * y + x).toNat (by omega)
  rwa [show (((16 * y + x).toNat % 16 : Nat) : Int) = x by omega, show (((16 * y + x).toNat / 16 : Nat) : Int) = y by omega] at this
theorem rp_a (h : rp o S T H) : a16 (os_A o 3) T ∧ a16 (os_A o 4) H := ⟨a16_of h.2.1, a16_of h.2.2⟩
theorem rp_mk (h1 : ∀ i : Nat, i < 7 → os_A o 1 i = Int32.ofInt (S i)) (h3 : a16 (os_A o 3) T) (h4 : a16 (os_A o 4) H) : rp o S T H := ⟨h1, a16_to h3, a16_to h4⟩
theorem up_eq {f : Nat → Int32} {k : Nat} {v : Int32} : upd f k v k = v := if_pos rfl
theorem up_ne {f : Nat → Int32} {k j : Nat} {v : Int32} (h : j ≠ k) : upd f k v j = f j := if_neg h
theorem rc_aside (hN : 1000 < N) (h : rp o S T H) : ∃ o', ff_X13_laysAside N o = some o' ∧ a16 (os_A o' 7) H ∧ a16 (os_A o' 8) T ∧ sx (fun j => j = 7 ∨ j = 8) o o' := by
  have key : ∃ v, (∃ o', v = some o' ∧ a16 (os_A o' 7) H ∧ a16 (os_A o' 8) T ∧ sx (fun j => j = 7 ∨ j = 8) o o') ∧ ff_X13_laysAside_l2 N N (o, Int32.ofInt ((0 : Nat) : Int)) = v := by
    unfold ff_X13_laysAside_l2
    refine lo_cnt (N := N) (fun k s => ∃ o', s = (o', Int32.ofInt (k : Int)) ∧ (∀ j, j < k → os_A o' 7 j = os_A o 4 j ∧ os_A o' 8 j = os_A o 3 j) ∧ sx (fun j => j = 7 ∨ j = 8) o o') (fun v => ∃ o', v = some o' ∧ a16 (os_A o' 7) H ∧ a16 (os_A o' 8) T ∧ sx (fun j => j = 7 ∨ j = 8) o o') 192 ?_ ?_ (by omega) ⟨o, rfl, fun j hj => absurd hj (Nat.not_lt_zero j), sx.rf⟩
    · rintro k s hk ⟨o', rfl, hm, hx⟩
      refine ⟨_, ⟨ss_A (ss_A o' 7 (upd (os_A o' 7) k (os_A o' 4 k))) 8 (upd (os_A o' 8) k (os_A o' 3 k)), rfl, fun j hj => ?_, (hx.tr (sx_A (Or.inl rfl))).tr (sx_A (Or.inr rfl))⟩, fun r => ?_⟩
      · have e4 : os_A o' 4 = os_A o 4 := hx.2.2 4 (by decide)
        have e3 : os_A o' 3 = os_A o 3 := hx.2.2 3 (by decide)
        show upd (os_A o' 7) k (os_A o' 4 k) j = os_A o 4 j ∧ upd (os_A o' 8) k (os_A o' 3 k) j = os_A o 3 j
        by_cases e : j = k
        · rw [e, up_eq, up_eq, e4, e3]; exact ⟨rfl, rfl⟩
        · rw [up_ne e, up_ne e]; exact hm j (by omega)
      · show ff_X13_laysAside_c2 N r o' (Int32.ofInt (k : Int)) = _
        unfold ff_X13_laysAside_c2
        have hin : os_in (Int32.ofInt (k : Int)) 192 := ia_in (by omega) (by omega) (by omega)
        simp only [if_pos hin]
        rw [show (192 : Int32) = Int32.ofInt 192 from rfl, ii_le (by omega) (by omega), if_neg (by omega), ia_nat (by omega) (by omega), Int.toNat_natCast, ii_1, ia_s]
    · rintro s ⟨o', rfl, hm, hx⟩
      refine ⟨_, ⟨o', rfl, fun k hk => ?_, fun k hk => ?_, hx⟩, fun r => ?_⟩
      · rw [(hm k hk).1]; exact (rp_a h).2 k hk
      · rw [(hm k hk).2]; exact (rp_a h).1 k hk
      · show ff_X13_laysAside_c2 N r o' (Int32.ofInt ((192 : Nat) : Int)) = _
        unfold ff_X13_laysAside_c2
        rw [if_pos (by decide)]
  obtain ⟨v, ⟨o', rfl, hm⟩, e⟩ := key
  exact ⟨o', e, hm⟩
def hr_R (o : os_T) (n : Nat) (U : Nat → (Int → Int → Int) × (Int → Int → Int)) : Prop :=
  n ≤ 6 ∧ os_I o 29 = Int32.ofInt (n : Int) ∧ ∀ i, i < n → a16 (fun k => os_A o 10 (384 * i + k)) (U i).2 ∧ a16 (fun k => os_A o 10 (384 * i + 192 + k)) (U i).1
theorem hr_R.sy {o' : os_T} {n : Nat} {U : Nat → (Int → Int → Int) × (Int → Int → Int)} {K J : Nat → Prop} (h : hr_R o n U) (hx : sy K J o o') (h1 : ¬ K 29) (h2 : ¬ J 10) : hr_R o' n U := by
  refine ⟨h.1, (hx.1 29 h1).trans h.2.1, fun i hi => ?_⟩
  rw [hx.2.2 10 h2]
  exact h.2.2 i hi
def q_16 (G H : Int → Int → Int) (n : Nat) : Int := fo (fun k a => a + (bif decide (G ((k % 16 : Nat) : Int) ((k / 16 : Nat) : Int) ≠ H ((k % 16 : Nat) : Int) ((k / 16 : Nat) : Int)) then 1 else 0)) n 0
theorem q_16b {G : Int → Int → Int} (n : Nat) : 0 ≤ q_16 G H n ∧ q_16 G H n ≤ n := by
  induction n with
  | zero => exact ⟨Int.le_refl _, Int.le_refl _⟩
  | succ n ih =>
    show 0 ≤ q_16 G H n + _ ∧ q_16 G H n + _ ≤ _
    cases decide (G ((n % 16 : Nat) : Int) ((n / 16 : Nat) : Int) ≠ H ((n % 16 : Nat) : Int) ((n / 16 : Nat) : Int)) <;> simp only [cond_true, cond_false] <;> omega
theorem q_16z {G : Int → Int → Int} {n : Nat} (h : q_16 G H n = 0) : ∀ k, k < n → G ((k % 16 : Nat) : Int) ((k / 16 : Nat) : Int) = H ((k % 16 : Nat) : Int) ((k / 16 : Nat) : Int) := by
  induction n with
  | zero => intro k hk; omega
  | succ n ih =>
    have hb := q_16b (G := G) (H := H) n
    have h' : q_16 G H n + (bif decide (G ((n % 16 : Nat) : Int) ((n / 16 : Nat) : Int) ≠ H ((n % 16 : Nat) : Int) ((n / 16 : Nat) : Int)) then 1 else 0) = 0 := h
    intro k hk
    by_cases e : G ((n % 16 : Nat) : Int) ((n / 16 : Nat) : Int) = H ((n % 16 : Nat) : Int) ((n / 16 : Nat) : Int)
    · rw [decide_eq_false (fun z => z e)] at h'
      simp only [cond_false] at h'
      by_cases ek : k = n
      · rw [ek]; exact e
      · exact ih (by omega) k (by omega)
    · rw [decide_eq_true e] at h'
      simp only [cond_true] at h'
      omega
theorem q_16n {G : Int → Int → Int} {n : Nat} (h : ∀ k, k < n → G ((k % 16 : Nat) : Int) ((k / 16 : Nat) : Int) = H ((k % 16 : Nat) : Int) ((k / 16 : Nat) : Int)) : q_16 G H n = 0 := by
  induction n with
  | zero => rfl
  | succ n ih =>
    show q_16 G H n + _ = 0
    rw [ih (fun k hk => h k (by omega)), decide_eq_false (fun z => z (h n (by omega)))]
    rfl
theorem rc_keepB (hN : 100000 < N) {n : Nat} {U : Nat → (Int → Int → Int) × (Int → Int → Int)} {c : Int32} (hn : n ≤ 5) (h29 : os_I o 29 = Int32.ofInt (n : Int)) (hU : ∀ i, i < n → a16 (fun k => os_A o 10 (384 * i + k)) (U i).2 ∧ a16 (fun k => os_A o 10 (384 * i + 192 + k)) (U i).1) (hA : a16 (os_A o 7) H) (hB : a16 (os_A o 8) T) : ∃ o', ff_X13_keeps_b134 N o c = some (c, o') ∧ hr_R o' (n + 1) (fun i => if i = n then (T, H) else U i) ∧ sy (fun i => i = 29) (fun j => j = 10) o o' := by
  have key : ∃ v, (∃ o', v = some (c, o') ∧ hr_R o' (n + 1) (fun i => if i = n then (T, H) else U i) ∧ sy (fun i => i = 29) (fun j => j = 10) o o') ∧ ff_X13_keeps_l136 N N (o, c, Int32.ofInt ((0 : Nat) : Int)) = v := by
    unfold ff_X13_keeps_l136
    refine lo_cnt (N := N) (fun k s => ∃ o', s = (o', c, Int32.ofInt (k : Int)) ∧ (∀ j, j < 384 * n → os_A o' 10 j = os_A o 10 j) ∧ (∀ j, j < k → os_A o' 10 (384 * n + j) = os_A o 7 j ∧ os_A o' 10 (384 * n + 192 + j) = os_A o 8 j) ∧ sx (fun j => j = 10) o o') (fun v => ∃ o', v = some (c, o') ∧ hr_R o' (n + 1) (fun i => if i = n then (T, H) else U i) ∧ sy (fun i => i = 29) (fun j => j = 10) o o') 192 ?_ ?_ (by omega) ⟨o, rfl, fun _ _ => rfl, fun j hj => absurd hj (Nat.not_lt_zero j), sx.rf⟩
    · rintro k s hk ⟨o', rfl, hm, hm2, hx⟩
      refine ⟨_, ⟨ss_A o' 10 (upd (upd (os_A o' 10) (384 * n + k) (os_A o' 7 k)) (384 * n + 192 + k) (os_A o' 8 k)), rfl, fun j hj => ?_, fun j hj => ?_, hx.tr (sx_A rfl)⟩, fun r => ?_⟩
      · show upd (upd (os_A o' 10) (384 * n + k) (os_A o' 7 k)) (384 * n + 192 + k) (os_A o' 8 k) j = _
        rw [up_ne (by omega), up_ne (by omega)]
        exact hm j hj
      · have e7 : os_A o' 7 = os_A o 7 := hx.2.2 7 (by decide)
        have e8 : os_A o' 8 = os_A o 8 := hx.2.2 8 (by decide)
        show upd (upd (os_A o' 10) (384 * n + k) (os_A o' 7 k)) (384 * n + 192 + k) (os_A o' 8 k) (384 * n + j) = _ ∧ upd (upd (os_A o' 10) (384 * n + k) (os_A o' 7 k)) (384 * n + 192 + k) (os_A o' 8 k) (384 * n + 192 + j) = _
        by_cases e : j = k
        · rw [e, up_ne (by omega), up_eq, up_eq, e7, e8]; exact ⟨rfl, rfl⟩
        · rw [up_ne (by omega), up_ne (by omega), up_ne (by omega), up_ne (by omega)]; exact hm2 j (by omega)
      · show ff_X13_keeps_c136 N r o' c (Int32.ofInt (k : Int)) = _
        unfold ff_X13_keeps_c136
        rw [show os_I o' 29 = Int32.ofInt (n : Int) from (hx.1 29).trans h29, show (384 : Int32) = Int32.ofInt 384 from rfl, show (192 : Int32) = Int32.ofInt 192 from rfl, ia_mul, ia_add, ia_add, ia_add, ii_le (by omega) (by omega), if_neg (by omega), if_pos (ia_in (by omega) (by omega) (by omega)), if_pos (ia_in (by omega) (by omega) (by omega)), if_pos (ia_in (by omega) (by omega) (by omega)), if_pos (ia_in (by omega) (by omega) (by omega)), ia_nat (by omega) (by omega), ia_nat (by omega) (by omega), ia_nat (by omega) (by omega), Int.toNat_natCast, show (384 * (n : Int) + (k : Int)).toNat = 384 * n + k by omega, show (384 * (n : Int) + 192 + (k : Int)).toNat = 384 * n + 192 + k by omega, ii_1, ia_s]
    · rintro s ⟨o', rfl, hm, hm2, hx⟩
      refine ⟨_, ⟨ss_I o' 29 (os_I o' 29 + 1), rfl, ⟨by omega, ?_, fun i hi => ?_⟩, hx.sy.tr (sy_I rfl)⟩, fun r => ?_⟩
      · show os_I o' 29 + 1 = _
        rw [show os_I o' 29 = Int32.ofInt (n : Int) from (hx.1 29).trans h29, ii_1, ia_s]
      · show a16 (fun k => os_A o' 10 (384 * i + k)) _ ∧ a16 (fun k => os_A o' 10 (384 * i + 192 + k)) _
        by_cases e : i = n
        · simp only [if_pos e]
          rw [e]
          exact ⟨fun k hk => (hm2 k hk).1.trans (hA k hk), fun k hk => (hm2 k hk).2.trans (hB k hk)⟩
        · simp only [if_neg e]
          have := hU i (by omega)
          exact ⟨fun k hk => (hm _ (by omega)).trans (this.1 k hk), fun k hk => (hm _ (by omega)).trans (this.2 k hk)⟩
      · show ff_X13_keeps_c136 N r o' c (Int32.ofInt ((192 : Nat) : Int)) = _
        unfold ff_X13_keeps_c136
        rw [if_pos (by decide)]
  obtain ⟨v, ⟨o', rfl, hm⟩, e⟩ := key
  exact ⟨o', e, hm⟩
theorem rc_keepS (hN : 100000 < N) {U : Nat → (Int → Int → Int) × (Int → Int → Int)} {c : Int32} (h29 : os_I o 29 = Int32.ofInt 5) (hU : ∀ i, i < 6 → a16 (fun k => os_A o 10 (384 * i + k)) (U i).2 ∧ a16 (fun k => os_A o 10 (384 * i + 192 + k)) (U i).1) (hA : a16 (os_A o 7) H) (hB : a16 (os_A o 8) T) : ∃ o', ff_X13_keeps_l100 N N (o, c, Int32.ofInt ((0 : Nat) : Int)) = some (c, o') ∧ hr_R o' 6 (fun i => if i = 5 then (T, H) else U (i + 1)) ∧ sy (fun i => i = 29) (fun j => j = 10) o o' := by
  unfold ff_X13_keeps_l100
  have key : ∃ v, (∃ o', v = some (c, o') ∧ hr_R o' 6 (fun i => if i = 5 then (T, H) else U (i + 1)) ∧ sy (fun i => i = 29) (fun j => j = 10) o o') ∧ os_loop (fun k100 s1 => ff_X13_keeps_c100 N k100 s1.1 s1.2.1 s1.2.2) N (o, c, Int32.ofInt ((0 : Nat) : Int)) = v := by
    refine lo_cnt (N := N) (fun k s => ∃ o', s = (o', c, Int32.ofInt (k : Int)) ∧ (∀ j, os_A o' 10 j = if j < k then os_A o 10 (j + 384) else os_A o 10 j) ∧ sx (fun j => j = 10) o o') (fun v => ∃ o', v = some (c, o') ∧ hr_R o' 6 (fun i => if i = 5 then (T, H) else U (i + 1)) ∧ sy (fun i => i = 29) (fun j => j = 10) o o') 1920 ?_ ?_ (by omega) ⟨o, rfl, fun j => (if_neg (Nat.not_lt_zero j)).symm, sx.rf⟩
    · rintro k s hk ⟨o', rfl, hm, hx⟩
      refine ⟨_, ⟨ss_A o' 10 (upd (os_A o' 10) k (os_A o' 10 (k + 384))), rfl, fun j => ?_, hx.tr (sx_A rfl)⟩, fun r => ?_⟩
      · show upd (os_A o' 10) k (os_A o' 10 (k + 384)) j = _
        by_cases e : j = k
        · rw [e, up_eq, hm, if_neg (by omega), if_pos (by omega)]
        · rw [up_ne e, hm]
          by_cases l : j < k
          · rw [if_pos l, if_pos (by omega)]
          · rw [if_neg l, if_neg (by omega)]
      · show ff_X13_keeps_c100 N r o' c (Int32.ofInt (k : Int)) = _
        unfold ff_X13_keeps_c100
        rw [show os_I o' 29 = Int32.ofInt 5 from (hx.1 29).trans h29, show (384 : Int32) = Int32.ofInt 384 from rfl, ia_mul, ia_add, ii_le (by omega) (by omega), if_neg (by omega), if_pos (ia_in (by omega) (by omega) (by omega)), if_pos (ia_in (by omega) (by omega) (by omega)), ia_nat (by omega) (by omega), ia_nat (by omega) (by omega), Int.toNat_natCast, show ((k : Int) + 384).toNat = k + 384 by omega, ii_1, ia_s]
    · rintro s ⟨o', rfl, hm, hx⟩
      have h29' : os_I o' 29 = Int32.ofInt ((5 : Nat) : Int) := (hx.1 29).trans h29
      have hU5 : ∀ i, i < 5 → a16 (fun k => os_A o' 10 (384 * i + k)) (U (i + 1)).2 ∧ a16 (fun k => os_A o' 10 (384 * i + 192 + k)) (U (i + 1)).1 := by
        intro i hi
        have := hU (i + 1) (by omega)
        refine ⟨fun k hk => ?_, fun k hk => ?_⟩
        · show os_A o' 10 (384 * i + k) = _
          rw [hm, if_pos (by omega), show 384 * i + k + 384 = 384 * (i + 1) + k by omega]
          exact this.1 k hk
        · show os_A o' 10 (384 * i + 192 + k) = _
          rw [hm, if_pos (by omega), show 384 * i + 192 + k + 384 = 384 * (i + 1) + 192 + k by omega]
          exact this.2 k hk
      obtain ⟨o2, e2, hr2, hx2⟩ := rc_keepB (N := N) (o := o') (n := 5) (U := fun i => U (i + 1)) (c := c) (T := T) (H := H) hN (by decide) h29' hU5 (by rw [hx.2.2 7 (by decide)]; exact hA) (by rw [hx.2.2 8 (by decide)]; exact hB)
      refine ⟨_, ⟨o2, rfl, hr2, hx.sy.tr hx2⟩, fun r => ?_⟩
      show ff_X13_keeps_c100 N r o' c (Int32.ofInt ((1920 : Nat) : Int)) = _
      unfold ff_X13_keeps_c100
      rw [h29', if_pos (by decide), e2]
  obtain ⟨v, ⟨o', rfl, hm⟩, e⟩ := key
  exact ⟨o', e, hm⟩
theorem rc_keeps (hN : 100000 < N) {n : Nat} {U : Nat → (Int → Int → Int) × (Int → Int → Int)} (h : rp o S T2 H2) (hA : a16 (os_A o 7) H) (hB : a16 (os_A o 8) T) (hU : hr_R o n U) (b1 : ∀ k, k < 192 → ib (H2 ((k % 16 : Nat) : Int) ((k / 16 : Nat) : Int)) ∧ ib (H ((k % 16 : Nat) : Int) ((k / 16 : Nat) : Int)) ∧ ib (T2 ((k % 16 : Nat) : Int) ((k / 16 : Nat) : Int)) ∧ ib (T ((k % 16 : Nat) : Int) ((k / 16 : Nat) : Int))) : ∃ o', ff_X13_keeps N o = some (Int32.ofInt (q_16 H2 H 192), o') ∧ (q_16 H2 H 192 + q_16 T2 T 192 = 0 → o' = o) ∧ (q_16 H2 H 192 + q_16 T2 T 192 ≠ 0 → hr_R o' (hp_n n) (hp_U n U (T, H))) ∧ sy (fun i => i = 29) (fun j => j = 10) o o' := by
  obtain ⟨r3, r4⟩ := rp_a h
  obtain ⟨u1, u2, u3⟩ := hU
  unfold ff_X13_keeps
  have key : ∃ v, (∃ o', v = some (Int32.ofInt (q_16 H2 H 192), o') ∧ (q_16 H2 H 192 + q_16 T2 T 192 = 0 → o' = o) ∧ (q_16 H2 H 192 + q_16 T2 T 192 ≠ 0 → hr_R o' (hp_n n) (hp_U n U (T, H))) ∧ sy (fun i => i = 29) (fun j => j = 10) o o') ∧ ff_X13_keeps_l6 N N (o, Int32.ofInt 0, Int32.ofInt 0, Int32.ofInt ((0 : Nat) : Int)) = v := by
    unfold ff_X13_keeps_l6
    refine lo_cnt (N := N) (fun k s => s = (o, Int32.ofInt (q_16 H2 H k), Int32.ofInt (q_16 T2 T k), Int32.ofInt (k : Int))) (fun v => ∃ o', v = some (Int32.ofInt (q_16 H2 H 192), o') ∧ (q_16 H2 H 192 + q_16 T2 T 192 = 0 → o' = o) ∧ (q_16 H2 H 192 + q_16 T2 T 192 ≠ 0 → hr_R o' (hp_n n) (hp_U n U (T, H))) ∧ sy (fun i => i = 29) (fun j => j = 10) o o') 192 ?_ ?_ (by omega) rfl
    · rintro k s hk rfl
      refine ⟨_, rfl, fun r => ?_⟩
      obtain ⟨c1, c2, c3, c4⟩ := b1 k hk
      show ff_X13_keeps_c6 N r o (Int32.ofInt (q_16 H2 H k)) (Int32.ofInt (q_16 T2 T k)) (Int32.ofInt (k : Int)) = r (o, Int32.ofInt (q_16 H2 H k + (bif decide (H2 ((k % 16 : Nat) : Int) ((k / 16 : Nat) : Int) ≠ H ((k % 16 : Nat) : Int) ((k / 16 : Nat) : Int)) then 1 else 0)), Int32.ofInt (q_16 T2 T k + (bif decide (T2 ((k % 16 : Nat) : Int) ((k / 16 : Nat) : Int) ≠ T ((k % 16 : Nat) : Int) ((k / 16 : Nat) : Int)) then 1 else 0)), Int32.ofInt ((k + 1 : Nat) : Int))
      have e3 := r3 k hk
      have e4 := r4 k hk
      have e7 := hA k hk
      have e8 := hB k hk
      unfold ff_X13_keeps_c6 ff_X13_keeps_b34 ff_X13_keeps_b60
      have hin : os_in (Int32.ofInt (k : Int)) 192 := ia_in (by omega) (by omega) (by omega)
      simp only [if_pos hin]
      rw [show (192 : Int32) = Int32.ofInt 192 from rfl, ii_le (by omega) (by omega), if_neg (by omega), ia_nat (by omega) (by omega), Int.toNat_natCast, e3, e4, e7, e8]
      generalize H2 ((k % 16 : Nat) : Int) ((k / 16 : Nat) : Int) = h2 at *
      generalize H ((k % 16 : Nat) : Int) ((k / 16 : Nat) : Int) = h1 at *
      generalize T2 ((k % 16 : Nat) : Int) ((k / 16 : Nat) : Int) = t2 at *
      generalize T ((k % 16 : Nat) : Int) ((k / 16 : Nat) : Int) = t1 at *
      rw [ii_eq c1 c2]
      have ec : ∀ z : Int, (if Int32.ofInt t2 = Int32.ofInt t1 then (ff_X13_truth N 0).bind fun u_20 => r (o, Int32.ofInt z, Int32.ofInt (q_16 T2 T k) + u_20, Int32.ofInt (k : Int) + 1) else (ff_X13_truth N 1).bind fun u_20 => r (o, Int32.ofInt z, Int32.ofInt (q_16 T2 T k) + u_20, Int32.ofInt (k : Int) + 1)) = r (o, Int32.ofInt z, Int32.ofInt (q_16 T2 T k + (bif decide (t2 ≠ t1) then 1 else 0)), Int32.ofInt ((k + 1 : Nat) : Int)) := by
        intro z
        rw [ii_eq c3 c4]
        by_cases c : t2 = t1
        · rw [if_pos c, decide_eq_false (fun z => z c), rc_t0, Option.bind_some, ia_add, ii_1, ia_s]; rfl
        · rw [if_neg c, decide_eq_true c, show ff_X13_truth N 1 = some (Int32.ofInt 1) from rfl, Option.bind_some, ia_add, ii_1, ia_s]; rfl
      by_cases c : h2 = h1
      · rw [if_pos c, decide_eq_false (fun z => z c), rc_t0, Option.bind_some, ia_add]
        exact ec _
      · rw [if_neg c, decide_eq_true c, show ff_X13_truth N 1 = some (Int32.ofInt 1) from rfl, Option.bind_some, ia_add]
        exact ec _
    · rintro s rfl
      have hb1 := q_16b (G := H2) (H := H) 192
      have hb2 := q_16b (G := T2) (H := T) 192
      by_cases z : q_16 H2 H 192 + q_16 T2 T 192 = 0
      · refine ⟨_, ⟨o, rfl, fun _ => rfl, fun c => absurd z c, sy.rf⟩, fun r => ?_⟩
        show ff_X13_keeps_c6 N r o (Int32.ofInt (q_16 H2 H 192)) (Int32.ofInt (q_16 T2 T 192)) (Int32.ofInt ((192 : Nat) : Int)) = _
        unfold ff_X13_keeps_c6
        rw [if_pos (by decide), ia_add, if_pos (by rw [z]; rfl), show q_16 H2 H 192 = 0 by omega]
        rfl
      · have hz : ¬ (Int32.ofInt (q_16 H2 H 192 + q_16 T2 T 192) = 0) := by rw [i0_eq (by omega)]; exact z
        by_cases c6 : n = 6
        · obtain ⟨o2, e2, hr2, hx2⟩ := rc_keepS (N := N) (o := ss_I o 29 (Int32.ofInt 5)) (U := U) (c := Int32.ofInt (q_16 H2 H 192)) (T := T) (H := H) hN rfl (fun i hi => u3 i (by omega)) hA hB
          refine ⟨_, ⟨o2, rfl, fun c => absurd c z, fun _ => ?_, (show sy (fun i => i = 29) (fun j => j = 10) o (ss_I o 29 (Int32.ofInt 5)) from sy_I rfl).tr hx2⟩, fun r => ?_⟩
          · unfold hp_n hp_U
            rw [if_pos c6, if_pos c6]
            exact hr2
          · show ff_X13_keeps_c6 N r o (Int32.ofInt (q_16 H2 H 192)) (Int32.ofInt (q_16 T2 T 192)) (Int32.ofInt ((192 : Nat) : Int)) = _
            unfold ff_X13_keeps_c6
            rw [if_pos (by decide), ia_add, if_neg hz, u2, c6, if_pos (by decide)]
            exact e2
        · obtain ⟨o2, e2, hr2, hx2⟩ := rc_keepB (N := N) (o := o) (n := n) (U := U) (c := Int32.ofInt (q_16 H2 H 192)) (T := T) (H := H) hN (by omega) u2 u3 hA hB
          refine ⟨_, ⟨o2, rfl, fun c => absurd c z, fun _ => ?_, hx2⟩, fun r => ?_⟩
          · unfold hp_n hp_U
            rw [if_neg c6, if_neg c6]
            exact hr2
          · show ff_X13_keeps_c6 N r o (Int32.ofInt (q_16 H2 H 192)) (Int32.ofInt (q_16 T2 T 192)) (Int32.ofInt ((192 : Nat) : Int)) = _
            unfold ff_X13_keeps_c6
            rw [if_pos (by decide), ia_add, if_neg hz, u2, ii_6, ii_eq (by omega) (by omega), if_neg (by omega)]
            exact e2
  obtain ⟨v, ⟨o', rfl, hm⟩, e⟩ := key
  exact ⟨o', e, hm⟩
end Undo
