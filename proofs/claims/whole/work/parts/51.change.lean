/-! LAYER 2. A change, with its trace in both histories -/
section Change
variable {N : Nat} {o o' oh m m1 m2 : os_T} {P : Nat → os_T} {S : Nat → Nat} {T H T2 H2 : Int → Int → Int} {n : Nat} {U : Nat → (Int → Int → Int) × (Int → Int → Int)}
/-- the class's panel and history, and the reference's -/
def jr (o oh : os_T) (P : Nat → os_T) (m : os_T) (S : Nat → Nat) (T H : Int → Int → Int) (n : Nat) (U : Nat → (Int → Int → Int) × (Int → Int → Int)) : Prop :=
  cp o S T H ∧ hc_R oh P S n U ∧ rp m S T H ∧ hr_R m n U ∧ tv S T ∧ hv S H ∧ ov S T H ∧ ∀ i, i < n → ov S (U i).1 (U i).2
theorem jr.sy {K J : Nat → Prop} {m' : os_T} (h : jr o oh P m S T H n U) (hx : sy K J m m') (h1 : ¬ J 1) (h3 : ¬ J 3) (h4 : ¬ J 4) (h10 : ¬ J 10) (h29 : ¬ K 29) : jr o oh P m' S T H n U :=
  ⟨h.1, h.2.1, h.2.2.1.sy hx h1 h3 h4, h.2.2.2.1.sy hx h29 h10, h.2.2.2.2⟩
theorem rc_start (hN : 1000 < N) (h : jr o oh P m S T H n U) (v : Int32) : ∃ m1, ff_X13_laysAside N (ss_I m 0 v) = some m1 ∧ rp m1 S T H ∧ a16 (os_A m1 7) H ∧ a16 (os_A m1 8) T ∧ hr_R m1 n U ∧ sy (fun i => i = 0) (fun j => j = 7 ∨ j = 8) m m1 ∧ os_I m1 0 = v := by
  have hy : sy (fun i => i = 0) (fun j => j = 7 ∨ j = 8) m (ss_I m 0 v) := sy_I rfl
  have hr := h.2.2.1.sy hy (by decide) (by decide) (by decide)
  obtain ⟨m1, e, h7, h8, hx⟩ := rc_aside (N := N) hN hr
  have hy2 : sy (fun i => i = 0) (fun j => j = 7 ∨ j = 8) m m1 := hy.tr hx.sy
  exact ⟨m1, e, hr.sx hx (by decide) (by decide) (by decide), h7, h8, h.2.2.2.1.sy hy2 (by decide) (by decide), hy2, hx.1 0⟩
theorem ov_16 (hS : sv S) (hT : tv S T) (hH : hv S H) (ho : ov S T H) : ∀ k, k < 192 → ib (H ((k % 16 : Nat) : Int) ((k / 16 : Nat) : Int)) ∧ ib (T ((k % 16 : Nat) : Int) ((k / 16 : Nat) : Int)) := fun k hk => by
  have hs := sv_a hS
  by_cases c : ic S ((k % 16 : Nat) : Int) ((k / 16 : Nat) : Int)
  · have h1 := hT _ _ c
    have h2 := hH _ _ c
    omega
  · have h1 := ho ((k % 16 : Nat) : Int) ((k / 16 : Nat) : Int) (by omega) (by omega) (by omega) (by omega) c
    omega
theorem ch_all (hN : 100000 < N) (hS : sv S) (hj : jr o oh P m S T H n U) (ho : cp o' S T2 H2) (hT2 : tv S T2) (hH2 : hv S H2) (hout : ∀ x y, ¬ ic S x y → T2 x y = T x y ∧ H2 x y = H x y) (hA : a16 (os_A m1 7) H) (hB : a16 (os_A m1 8) T) (hU : hr_R m1 n U) (hm2 : rp m2 S T2 H2) {J : Nat → Prop} (hx : sx J m1 m2) (j7 : ¬ J 7) (j8 : ¬ J 8) (j10 : ¬ J 10) : ∃ (P' : Nat → os_T) (oh' m3 : os_T) (n2 : Nat) (U2 : Nat → (Int → Int → Int) × (Int → Int → Int)), ff_X3_open N oh (P 0) (P 1) (P 2) (P 3) (P 4) (P 5) (P 6) o = some (P' 0, P' 1, P' 2, P' 3, P' 4, P' 5, P' 6) ∧ ff_X3_close N oh (P' 0) (P' 1) (P' 2) (P' 3) (P' 4) (P' 5) (P' 6) o' = some oh' ∧ ff_X13_keeps N m2 = some (Int32.ofInt (q_df S H H2), m3) ∧ jr o' oh' P' m3 S T2 H2 n2 U2 ∧ sy (fun i => i = 29) (fun j => j = 10) m2 m3 := by
  obtain ⟨j1, j2, j3, j4, j5, j6, jo, jU⟩ := hj
  have hov2 : ov S T2 H2 := fun x y a b c d e => by
    have := hout x y e
    rw [this.1, this.2]; exact jo x y a b c d e
  have b1 := ov_16 hS j5 j6 jo
  have b2 := ov_16 hS hT2 hH2 hov2
  have hA2 : a16 (os_A m2 7) H := by rw [hx.2.2 7 j7]; exact hA
  have hB2 : a16 (os_A m2 8) T := by rw [hx.2.2 8 j8]; exact hB
  have hU2 : hr_R m2 n U := hU.sy hx.sy (K := fun _ => False) (fun z => z) j10
  obtain ⟨P', eo, hO⟩ := pc_open (N := N) hS j2 j1
  obtain ⟨m3, ek, k1, k2, ky⟩ := rc_keeps (N := N) hN hm2 hA2 hB2 hU2 (fun k hk => ⟨(b2 k hk).1, (b1 k hk).1, (b2 k hk).2, (b1 k hk).2⟩)
  rw [q_16df hS (fun x y _ _ _ _ c => (hout x y c).2)] at ek
  have hm3 := hm2.sy ky (by decide) (by decide) (by decide)
  by_cases same : ∀ x y, ic S x y → H2 x y = H x y ∧ T2 x y = T x y
  · obtain ⟨oh', ec, c1, _⟩ := pc_closeB (N := N) (o := o') (b := true) hS hO j5 j6 (fun q hq => pc_likeT (by omega) hS ho hq same)
    have hall : ∀ x y, H2 x y = H x y ∧ T2 x y = T x y := fun x y => by
      by_cases c : ic S x y
      · exact same x y c
      · exact (hout x y c).symm
    have hz : q_16 H2 H 192 + q_16 T2 T 192 = 0 := by
      rw [q_16n (fun k _ => (hall _ _).1), q_16n (fun k _ => (hall _ _).2)]; rfl
    have e3 := k1 hz
    subst e3
    exact ⟨P', oh', _, n, U, eo, ec, ek, ⟨ho, c1 rfl, hm3, hU2, hT2, hH2, hov2, jU⟩, ky⟩
  · have hex : ∃ x y, ic S x y ∧ ¬ (H2 x y = H x y ∧ T2 x y = T x y) := by
      refine Classical.byContradiction fun z => same fun x y c => ?_
      exact Classical.byContradiction fun z2 => z ⟨x, y, c, z2⟩
    obtain ⟨oh', ec, _, c2⟩ := pc_closeB (N := N) (o := o') (b := false) hS hO j5 j6 (fun q hq => pc_likeF (by omega) hS ho hq (hH2.wv hS) (j6.wv hS) hT2.wv j5.wv hex)
    have hz : q_16 H2 H 192 + q_16 T2 T 192 ≠ 0 := fun z => by
      have q1 := q_16b (G := H2) (H := H) 192
      have q2 := q_16b (G := T2) (H := T) 192
      have z1 := q_16z (show q_16 H2 H 192 = 0 by omega)
      have z2 := q_16z (show q_16 T2 T 192 = 0 by omega)
      obtain ⟨x, y, c, hn⟩ := hex
      have hr := ic_r hS c
      have hxy : 0 ≤ x ∧ x < 16 ∧ 0 ≤ y ∧ y < 12 := by unfold ic at c; omega
      have a1 := z1 (16 * y + x).toNat (by omega)
      have a2 := z2 (16 * y + x).toNat (by omega)
      have e1 : (((16 * y + x).toNat % 16 : Nat) : Int) = x := by omega
      have e2 : (((16 * y + x).toNat / 16 : Nat) : Int) = y := by omega
      rw [e1, e2] at a1 a2
      exact hn ⟨a1, a2⟩
    refine ⟨P', oh', m3, hp_n n, hp_U n U (T, H), eo, ec, ek, ⟨ho, c2 rfl, hm3, k2 hz, hT2, hH2, hov2, fun i hi => ?_⟩, ky⟩
    unfold hp_n at hi
    unfold hp_U
    by_cases e6 : n = 6
    · rw [if_pos e6] at hi ⊢
      show ov S (if i = 5 then (T, H) else U (i + 1)).1 (if i = 5 then (T, H) else U (i + 1)).2
      by_cases ei : i = 5
      · rw [if_pos ei]; exact jo
      · rw [if_neg ei]; exact jU _ (by omega)
    · rw [if_neg e6] at hi ⊢
      show ov S (if i = n then (T, H) else U i).1 (if i = n then (T, H) else U i).2
      by_cases ei : i = n
      · rw [if_pos ei]; exact jo
      · rw [if_neg ei]; exact jU _ (by omega)
/-- what a change leaves alone in the reference -/
def fr (m m' : os_T) : Prop := sy (fun i => i = 0 ∨ i = 29) (fun j => j = 3 ∨ j = 4 ∨ j = 6 ∨ j = 7 ∨ j = 8 ∨ j = 9 ∨ j = 10 ∨ j = 11) m m'
theorem fr_of {J : Nat → Prop} {m3 : os_T} (h1 : sy (fun i => i = 0) (fun j => j = 7 ∨ j = 8) m m1) (h2 : sx J m1 m2) (hJ : ∀ j, J j → j = 3 ∨ j = 4 ∨ j = 6 ∨ j = 9 ∨ j = 11) (h3 : sy (fun i => i = 29) (fun j => j = 10) m2 m3) : fr m m3 := by
  unfold fr
  refine ((h1.mono (fun i e => Or.inl e) (fun j e => ?_)).tr (h2.sy.mono (K := fun _ => False) (fun i e => e.elim) (fun j e => ?_))).tr (h3.mono (fun i e => Or.inr e) (fun j e => ?_))
  · rcases e with e | e <;> simp [e]
  · rcases hJ j e with e | e | e | e | e <;> simp [e]
  · simp [e]
theorem fr_I {v : Int32} : fr m (ss_I m 0 v) := sy_I (Or.inl rfl)
end Change
