/-! LAYER 2. Two loops side by side; a text begins and ends -/
theorem lo_pair {S1 S2 α β : Type} {step1 : (S1 → Option α) → S1 → Option α} {step2 : (S2 → Option β) → S2 → Option β} (I : Nat → S1 → S2 → Prop) (E : Option α → Option β → Prop) (n : Nat) (hn : ∀ k s1 s2, I k s1 s2 → k ≤ n) (h : ∀ k s1 s2, I k s1 s2 → (∃ s1' s2', I (k + 1) s1' s2' ∧ (∀ r, step1 r s1 = r s1') ∧ ∀ r, step2 r s2 = r s2') ∨ (∃ v1 v2, E v1 v2 ∧ (∀ r, step1 r s1 = v1) ∧ ∀ r, step2 r s2 = v2)) {N : Nat} (hN : n < N) {s1 : S1} {s2 : S2} (h0 : I 0 s1 s2) : E (os_loop step1 N s1) (os_loop step2 N s2) := by
  have aux : ∀ j k, n - k = j → ∀ N s1 s2, j < N → I k s1 s2 → E (os_loop step1 N s1) (os_loop step2 N s2) := by
    intro j
    induction j with
    | zero =>
      intro k hk N s1 s2 hN hI
      obtain ⟨N', rfl⟩ : ∃ N', N = N' + 1 := ⟨N - 1, by omega⟩
      rcases h k s1 s2 hI with ⟨s1', s2', hI', e1, e2⟩ | ⟨v1, v2, hE, e1, e2⟩
      · have := hn _ _ _ hI'
        have := hn _ _ _ hI
        omega
      · rw [lo_1, lo_1, e1, e2]; exact hE
    | succ j ih =>
      intro k hk N s1 s2 hN hI
      obtain ⟨N', rfl⟩ : ∃ N', N = N' + 1 := ⟨N - 1, by omega⟩
      rcases h k s1 s2 hI with ⟨s1', s2', hI', e1, e2⟩ | ⟨v1, v2, hE, e1, e2⟩
      · rw [lo_1, lo_1, e1, e2]
        exact ih (k + 1) (by omega) N' s1' s2' (by omega) hI'
      · rw [lo_1, lo_1, e1, e2]; exact hE
  exact aux (n - 0) 0 rfl N s1 s2 (by omega) h0
section Text
variable {N L : Nat} {X : tx} {t m x : os_T} {p : Nat} {B : Nat → Int}
theorem tb.ty (h : tb t m L B) : ty t L B := ⟨h.1, h.2.1, fun i hi => ⟨(h.2.2.2 i hi).1, (h.2.2.2 i hi).2.1⟩⟩
theorem tj_begin (hN : 1000 < N) (h : tb t m L B) : ∃ (X : tx) (t' m' : os_T), ff_X10_begin N t = some t' ∧ ff_X13_beginsText N m = some m' ∧ tj X t' m' 0 ∧ X.2.2.2.2.2 ≤ 900 ∧ os_I m' 2 = 0 ∧ sq (fun i => 2 ≤ i ∧ i ≤ 9) kn m m' := by
  obtain ⟨t', st, sz, ky, C, e1, h1, h2, h3, h4, h5⟩ := pc_begin (N := N) hN h.ty
  have q : sq (fun i => 2 ≤ i ∧ i ≤ 9) kn m (ss_I (ss_I (ss_I (ss_I (ss_I m 2 (0 : Int32)) 3 (os_I m 2)) 4 (0 : Int32)) 8 (0 : Int32)) 9 (-1 : Int32)) := ((((show sq (fun i => 2 ≤ i ∧ i ≤ 9) kn m (ss_I m 2 (0 : Int32)) from sq_I (by decide)).tr (sq_I (by decide))).tr (sq_I (by decide))).tr (sq_I (by decide))).tr (sq_I (by decide))
  have hm : my (ss_I (ss_I (ss_I (ss_I (ss_I m 2 (0 : Int32)) 3 (os_I m 2)) 4 (0 : Int32)) 8 (0 : Int32)) 9 (-1 : Int32)) L B := ⟨h.1, h.2.2.1, fun i hi => ⟨(h.2.2.2 i hi).1, (h.2.2.2 i hi).2.2⟩⟩
  obtain ⟨m', e2, f2, y2⟩ := rc_goOn (N := N) (p := 0) hN hm h3 (by omega) rfl
  have hC := h3.2.2.2
  have hL := h.1
  refine ⟨(L, B, st, sz, ky, C), t', m', e1, ?_, ⟨h1, h2, h3, Nat.zero_le _, h4, h5, hm.sq y2 (by decide) (by decide), f2, ?_, ?_⟩, by show C ≤ 900; omega, ?_, q.tr (y2.mono (fun i hi => by omega) (fun j hj => hj))⟩
  · unfold ff_X13_beginsText
    rw [e2, Option.bind_some]
  · rw [y2.1 8 (by decide)]; rfl
  · rw [y2.1 9 (by decide)]; rfl
  · rw [y2.1 2 (by decide)]; rfl
/-- what is told about the latest text -/
def er (x m : os_T) : Prop := os_I x 13 = os_I m 10 ∧ os_I x 14 = os_I m 11
theorem tj_end (h : tj X t m p) (h2 : os_I m 2 = 0) : ∃ x' t' m', ff_X12_endText N x t = some (x', t') ∧ ff_X13_endsText N m = some (1, m') ∧ er x' m' ∧ tb t' m' 0 B ∧ os_I m' 0 = 0 ∧ sy (fun i => i = 13 ∨ i = 14) (fun _ => False) x x' ∧ sy (fun i => i = 0 ∨ i = 10 ∨ i = 11) (fun _ => False) m m' := by
  have h10 := h.2.2.2.2.2.1
  have h8 := h.2.2.2.2.2.2.2.2.1
  have h9 := h.2.2.2.2.2.2.2.2.2
  refine ⟨ss_I (ss_I x 13 (os_I t 10)) 14 (-1 : Int32), ss_I t 4 (0 : Int32), ss_I (ss_I (ss_I m 10 (os_I m 8)) 11 (os_I m 9)) 0 0, ?_, ?_, ⟨?_, ?_⟩, ⟨by decide, rfl, h2, fun i hi => by omega⟩, rfl, (show sy (fun i => i = 13 ∨ i = 14) (fun _ => False) x (ss_I x 13 (os_I t 10)) from sy_I (Or.inl rfl)).tr (sy_I (Or.inr rfl)), ((show sy (fun i => i = 0 ∨ i = 10 ∨ i = 11) (fun _ => False) m (ss_I m 10 (os_I m 8)) from sy_I (Or.inr (Or.inl rfl))).tr (sy_I (Or.inr (Or.inr rfl)))).tr (sy_I (Or.inl rfl))⟩
  · unfold ff_X12_endText ff_X12_endText_b33
    rw [if_pos h10]
  · unfold ff_X13_endsText ff_X13_endsText_b29
    rw [if_pos h8]
    rfl
  · show os_I t 10 = os_I m 8
    rw [h10, h8]
  · show (-1 : Int32) = os_I m 9
    rw [h9]
theorem te_end (h : te t m) (h2 : os_I m 2 = 0) : ∃ x' t' m', ff_X12_endText N x t = some (x', t') ∧ ff_X13_endsText N m = some (0, m') ∧ er x' m' ∧ tb t' m' 0 B ∧ os_I m' 0 = 1 ∧ sy (fun i => i = 13 ∨ i = 14) (fun _ => False) x x' ∧ sy (fun i => i = 0 ∨ i = 10 ∨ i = 11) (fun _ => False) m m' := by
  have h8 := te_8 h
  obtain ⟨c, c1, c2, c3, c4, c5⟩ := h
  refine ⟨ss_I (ss_I x 13 (os_I t 10)) 14 (os_I t 8), ss_I t 4 (0 : Int32), ss_I (ss_I (ss_I m 10 (os_I m 8)) 11 (os_I m 9)) 0 1, ?_, ?_, ⟨?_, ?_⟩, ⟨by decide, rfl, h2, fun i hi => by omega⟩, rfl, (show sy (fun i => i = 13 ∨ i = 14) (fun _ => False) x (ss_I x 13 (os_I t 10)) from sy_I (Or.inl rfl)).tr (sy_I (Or.inr rfl)), ((show sy (fun i => i = 0 ∨ i = 10 ∨ i = 11) (fun _ => False) m (ss_I m 10 (os_I m 8)) from sy_I (Or.inr (Or.inl rfl))).tr (sy_I (Or.inr (Or.inr rfl)))).tr (sy_I (Or.inl rfl))⟩
  · unfold ff_X12_endText ff_X12_endText_b33
    rw [if_neg (by rw [c3, ← c4]; exact h8)]
  · unfold ff_X13_endsText ff_X13_endsText_b29
    rw [if_neg h8]
    rfl
  · show os_I t 10 = os_I m 8
    rw [c3, c4]
  · exact c5
end Text
/-! What a relief's text has told so far -/
def sS (S : Nat → Nat) (i v : Nat) : Nat → Nat := fun j => if j = i then v else S j
def rd (y d m : os_T) (S : Nat → Nat) (T : Int → Int → Int) (r : Nat) : Prop :=
  sv S ∧ r ≤ S 1 ∧ (∀ i, i < 7 → os_I d i = Int32.ofInt (S i : Int)) ∧ (∀ i, i < 7 → os_A m 2 i = Int32.ofInt (S i : Int)) ∧ a16 (os_A d 0) T ∧ a16 (os_A m 5) T ∧ (∀ a b : Int, 0 ≤ a → a < 16 → 0 ≤ b → b < 12 → (0 ≤ T a b ∧ T a b ≤ 255) ∧ (¬ (a < S 0 ∧ b < r) → T a b = 255)) ∧ (∀ k, 2 ≤ k → k ≤ 5 → os_I y k = os_I m (16 + k) ∧ os_z (os_I m (16 + k))) ∧ os_I y 6 = Int32.ofInt (r : Int) ∧ os_I m 22 = Int32.ofInt (r : Int) ∧ os_I y 7 = os_I m 23
section RD
variable {N : Nat} {y d m : os_T} {S : Nat → Nat} {T : Int → Int → Int} {r : Nat}
theorem rd.sq {m' : os_T} {K J : Nat → Prop} (h : rd y d m S T r) (hx : sq K J m m') (h2 : ¬ J 2) (h5 : ¬ J 5) (hK : ∀ i, 18 ≤ i → i ≤ 23 → ¬ K i) : rd y d m' S T r := by
  obtain ⟨a1, a2, a3, a4, a5, a6, a7, a8, a9, a10, a11⟩ := h
  refine ⟨a1, a2, a3, ?_, a5, ?_, a7, ?_, a9, ?_, ?_⟩
  · rw [hx.2 2 h2]; exact a4
  · rw [hx.2 5 h5]; exact a6
  · intro k k1 k2
    rw [hx.1 (16 + k) (hK _ (by omega) (by omega))]; exact a8 k k1 k2
  · rw [hx.1 22 (hK _ (by omega) (by omega))]; exact a10
  · rw [hx.1 23 (hK _ (by omega) (by omega))]; exact a11
theorem rd_flag {k : Nat} (h : rd y d m S T r) (k1 : 2 ≤ k) (k2 : k ≤ 5) : rd (ss_I y k 1) d (ss_I m (16 + k) 1) S T r := by
  obtain ⟨a1, a2, a3, a4, a5, a6, a7, a8, a9, a10, a11⟩ := h
  refine ⟨a1, a2, a3, a4, a5, a6, a7, ?_, ?_, ?_, ?_⟩
  · intro j j1 j2
    by_cases c : j = k
    · subst c
      refine ⟨?_, ?_⟩
      · show os_u y.1 j 1 j = os_u m.1 (16 + j) 1 (16 + j)
        rw [os_u_eq, os_u_eq]
      · show os_z (os_u m.1 (16 + j) 1 (16 + j))
        rw [os_u_eq]; exact Or.inr rfl
    · have e1 : os_I (ss_I y k 1) j = os_I y j := os_u_ne c
      have e2 : os_I (ss_I m (16 + k) 1) (16 + j) = os_I m (16 + j) := os_u_ne (by omega)
      rw [e1, e2]; exact a8 j j1 j2
  · have e1 : os_I (ss_I y k 1) 6 = os_I y 6 := os_u_ne (by omega)
    rw [e1]; exact a9
  · have e1 : os_I (ss_I m (16 + k) 1) 22 = os_I m 22 := os_u_ne (by omega)
    rw [e1]; exact a10
  · have e1 : os_I (ss_I y k 1) 7 = os_I y 7 := os_u_ne (by omega)
    have e2 : os_I (ss_I m (16 + k) 1) 23 = os_I m 23 := os_u_ne (by omega)
    rw [e1, e2]; exact a11
theorem rd_set {i : Nat} {v : Int} (h : rd y d m S T r) (hi : i < 7) (hv : 0 ≤ v ∧ v ≤ 1000) (h1 : sv (sS S i v.toNat)) (h2 : r = 0 ∨ 2 ≤ i) : rd y (ss_I d i (Int32.ofInt v)) (ss_A m 2 (upd (os_A m 2) i (Int32.ofInt v))) (sS S i v.toNat) T r := by
  obtain ⟨a1, a2, a3, a4, a5, a6, a7, a8, a9, a10, a11⟩ := h
  have hs : ∀ j, (sS S i v.toNat) j = if j = i then v.toNat else S j := fun j => rfl
  refine ⟨h1, ?_, ?_, ?_, a5, a6, ?_, a8, a9, a10, a11⟩
  · rw [hs]; split <;> omega
  · intro j hj
    rw [hs]
    by_cases c : j = i
    · subst c
      have e1 : os_I (ss_I d j (Int32.ofInt v)) j = Int32.ofInt v := os_u_eq
      rw [if_pos rfl, e1, Int.toNat_of_nonneg hv.1]
    · have e1 : os_I (ss_I d i (Int32.ofInt v)) j = os_I d j := os_u_ne c
      rw [if_neg c, e1]; exact a3 j hj
  · intro j hj
    rw [hs]
    show upd (os_A m 2) i (Int32.ofInt v) j = _
    by_cases c : j = i
    · subst c
      rw [if_pos rfl, up_eq, Int.toNat_of_nonneg hv.1]
    · rw [if_neg c, up_ne c]; exact a4 j hj
  · intro a b b1 b2 b3 b4
    refine ⟨(a7 a b b1 b2 b3 b4).1, fun z => (a7 a b b1 b2 b3 b4).2 fun z2 => z ?_⟩
    rcases h2 with h2 | h2
    · omega
    · rw [hs, if_neg (by omega)]; exact z2
end RD
