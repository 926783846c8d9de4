/-! LAYER 2. The class plans a script -/
def pq (s : os_T) (L : List Nat) : Prop := bw s 2 6 ((L.take 60).map fun (n : Nat) => (n : Int))
def ps (s s' : os_T) : Prop := sy (fun i => i = 6) (fun j => j = 2) s s' ∧ s'.2.2.2 = s.2.2.2
section Plan
variable {N : Nat} {s m : os_T}
theorem ps.rf : ps s s := ⟨sy.rf, rfl⟩
theorem ps.tr {s1 s2 : os_T} (h : ps s s1) (h2 : ps s1 s2) : ps s s2 := ⟨h.1.tr h2.1, h2.2.trans h.2⟩
theorem ps_R {s1 : os_T} (h : ps s s1) : os_R s1 0 = os_R s 0 := by show s1.2.2.2.2 0 = _; rw [h.2]
theorem ps_agr {s1 : os_T} {a b c d : Nat} (h : ps s s1) : agr s m s1 m a b c d := ⟨fun j _ _ => ⟨by rw [ps_R h], by rw [h.1.2.2 1 (by decide)]⟩, fun j _ _ => by rw [h.1.2.2 0 (by decide)], fun _ _ _ => rfl, fun _ _ _ => rfl⟩
theorem pq_len {L : List Nat} (h : pq s L) : os_I s 6 = Int32.ofInt ((min 60 L.length : Nat) : Int) := by
  have := h.1
  rw [List.length_map, List.length_take] at this
  exact this
theorem pq_full {L X : List Nat} (h : pq s L) (hL : 60 ≤ L.length) : pq s (L ++ X) := by
  unfold pq
  rw [List.take_append, show 60 - L.length = 0 by omega, List.take_zero, List.append_nil]
  exact h
theorem pq_add {L : List Nat} {i : Nat} (h : pq s L) : ∃ s', pq s' (L ++ [i]) ∧ ps s s' ∧ ∀ {α : Type} (K : os_T → Option α), (if (os_I s 6) < 0 then K s else (if (60 : Int32) ≤ (os_I s 6) then K s else (if os_in (os_I s 6) 60 then K (ss_I (ss_A s 2 (upd (os_A s 2) (Int32.toNatClampNeg (os_I s 6)) (Int32.ofInt (i : Int)))) 6 ((os_I s 6) + (1 : Int32))) else none))) = K s' := by
  have hl := pq_len h
  rw [hl]
  simp only [i0_lt (a := ((min 60 L.length : Nat) : Int)) (by omega)]
  by_cases c : 60 ≤ L.length
  · refine ⟨s, pq_full h c, ps.rf, fun K => ?_⟩
    rw [if_neg (by omega), ii_60, ii_le (by omega) (by omega), if_pos (by omega)]
  · have em : min 60 L.length = L.length := by omega
    refine ⟨ss_I (ss_A s 2 (upd (os_A s 2) L.length (Int32.ofInt (i : Int)))) 6 (Int32.ofInt (((L.length : Nat) : Int) + 1)), ?_, ⟨(show sy (fun i => i = 6) (fun j => j = 2) s (ss_A s 2 (upd (os_A s 2) L.length (Int32.ofInt (i : Int)))) from sy_A rfl).tr (sy_I rfl), rfl⟩, fun K => ?_⟩
    · have e1 : ((L ++ [i]).take 60).map (fun (n : Nat) => (n : Int)) = (L.take 60).map (fun (n : Nat) => (n : Int)) ++ [(i : Int)] := by
        rw [List.take_of_length_le (by rw [List.length_append]; show L.length + 1 ≤ 60; omega), List.take_of_length_le (by omega), List.map_append]
        rfl
      have el : ((L.take 60).map (fun (n : Nat) => (n : Int))).length = L.length := by rw [List.length_map, List.length_take, em]
      unfold pq
      rw [e1]
      refine bw_add h ?_ ?_
      · rw [el]; rfl
      · rw [el]; rfl
    · rw [em, if_neg (by omega), ii_60, ii_le (by omega) (by omega), if_neg (by omega), if_pos (ia_in (by omega) (by omega) (by omega)), ia_nat (by omega) (by omega), Int.toNat_natCast, ii_1, ia_add]
theorem oo_s {β : Type} {c : Nat} {a : Option β} {g : Nat → Option β} : os_opt (some c) a g = g c := rfl
theorem sk_0 {to e : Nat} (hto : to ≤ 30) (he : e ≤ to) : ∀ j x F, x + j = e → os_loop (fun k6 s1 => ff_X8_planCommands_v0_c6 N k6 s1.1 s1.2.1 s1.2.2.1 s1.2.2.2.1 s1.2.2.2.2) (F + j) (s, Int32.ofInt (to : Int), Int32.ofInt ((2 : Nat) : Int), Int32.ofInt (e : Int), Int32.ofInt (x : Int)) = os_loop (fun k6 s1 => ff_X8_planCommands_v0_c6 N k6 s1.1 s1.2.1 s1.2.2.1 s1.2.2.2.1 s1.2.2.2.2) F (s, Int32.ofInt (to : Int), Int32.ofInt ((2 : Nat) : Int), Int32.ofInt (e : Int), Int32.ofInt (e : Int)) := by
  intro j
  induction j with
  | zero => intro x F h; have : x = e := by omega
            subst this; rfl
  | succ j ih =>
    intro x F h
    rw [← ih (x + 1) F (by omega), ← Nat.add_assoc, lo_1]
    show ff_X8_planCommands_v0_c6 N _ s (Int32.ofInt (to : Int)) (Int32.ofInt ((2 : Nat) : Int)) (Int32.ofInt (e : Int)) (Int32.ofInt (x : Int)) = _
    rw [ff_X8_planCommands_v0_c6, ii_le (by omega) (by omega), if_neg (by omega), ix_in (by omega), Option.bind_some, if_neg (show ¬ ((1 : Int32) = 0) by decide), ii_le (by omega) (by omega), if_neg (by omega), ff_X8_planCommands_v0_b99, ii_1, ia_add]
    rfl
theorem pl_0 {to : Nat} (hN : 1000 < N) (hto : to ≤ 30) (l : P0) : ∀ (i k : Nat) (s : os_T) (PL : List Nat) (F nx : Nat), nx ≤ i → i + c_0 l = to → c_0 l < F → l_0 s m i k l → pq s PL → ∃ s', os_loop (fun k6 s1 => ff_X8_planCommands_v0_c6 N k6 s1.1 s1.2.1 s1.2.2.1 s1.2.2.2.1 s1.2.2.2.2) F (s, Int32.ofInt (to : Int), Int32.ofInt ((2 : Nat) : Int), Int32.ofInt (nx : Int), Int32.ofInt (i : Int)) = some (0, s') ∧ pq s' (PL ++ e_0 i l) ∧ ps s s' := by
  induction l with
  | nil =>
    intro i k s PL F nx hnx hi hF hl hp
    obtain ⟨F, rfl⟩ : ∃ F', F = F' + 1 := ⟨F - 1, by omega⟩
    have hi : i + 0 = to := hi
    refine ⟨s, ?_, ?_, ps.rf⟩
    · rw [lo_1]
      show ff_X8_planCommands_v0_c6 N _ s (Int32.ofInt (to : Int)) (Int32.ofInt ((2 : Nat) : Int)) (Int32.ofInt (nx : Int)) (Int32.ofInt (i : Int)) = _
      rw [ff_X8_planCommands_v0_c6, ii_le (by omega) (by omega), if_pos (by omega)]
    · show pq s (PL ++ [])
      rw [List.append_nil]; exact hp
  | cons a l ih =>
    intro i k s PL F nx hnx hi hF hl hp
    obtain ⟨F, rfl⟩ : ∃ F', F = F' + 1 := ⟨F - 1, by omega⟩
    cases a with
    | none =>
      have hc : c_0 (none :: l) = 1 + c_0 l := rfl
      rw [hc] at hi hF
      obtain ⟨h1, h2⟩ := hl
      obtain ⟨c, V, g1, g2, -, -, g5⟩ := h1
      obtain ⟨s1, p1, p2, p3⟩ := pq_add (i := i) hp
      obtain ⟨s2, q1, q2, q3⟩ := ih (i + 1) (k + 1) s1 (PL ++ [i]) F (i + 1) (Nat.le_refl _) (by omega) (by omega) (l0_agr l _ _ h2 (ps_agr p2)) p1
      refine ⟨s2, ?_, ?_, p2.tr q3⟩
      · rw [← q1, lo_1]
        show ff_X8_planCommands_v0_c6 N _ s (Int32.ofInt (to : Int)) (Int32.ofInt ((2 : Nat) : Int)) (Int32.ofInt (nx : Int)) (Int32.ofInt (i : Int)) = _
        have hin : os_in (Int32.ofInt (i : Int)) 30 := ia_in (by omega) (by omega) (by omega)
        have hna : Int32.toNatClampNeg (Int32.ofInt (i : Int)) = i := by rw [ia_nat (by omega) (by omega), Int.toNat_natCast]
        rw [ff_X8_planCommands_v0_c6, ii_le (by omega) (by omega), if_neg (by omega), ix_in (by omega), Option.bind_some, if_neg (show ¬ ((1 : Int32) = 0) by decide), ii_le (by omega) (by omega), if_pos (by omega), if_pos hin, if_pos hin, hna, g2, oo_s, if_pos (by omega), if_neg (by omega), g5]
        refine (p3 (fun o => ff_X8_planCommands_v0_b99 N _ o (Int32.ofInt (to : Int)) (Int32.ofInt ((2 : Nat) : Int)) (Int32.ofInt ((i + 1 : Nat) : Int)) (Int32.ofInt (i : Int)))).trans ?_
        rw [ff_X8_planCommands_v0_b99, ii_1, ia_add]
        rfl
      · show pq s2 (PL ++ (i :: e_0 (i + 1) l))
        rw [List.append_assoc] at q2
        exact q2
    | some a =>
      exact a.2.elim
theorem pc_0 (hN : 1000 < N) {i k : Nat} {l : P0} {PL : List Nat} (hi : i + c_0 l ≤ 30) (hl : l_0 s m i k l) (hp : pq s PL) : ∃ s', ff_X8_planCommands_v0 N s (Int32.ofInt (i : Int)) (Int32.ofInt ((i + c_0 l : Nat) : Int)) (Int32.ofInt ((2 : Nat) : Int)) = some (0, s') ∧ pq s' (PL ++ e_0 i l) ∧ ps s s' :=
  pl_0 hN hi l i k s PL N i (Nat.le_refl _) rfl (by omega) hl hp
theorem pr_1 (hN : 1000 < N) {i k t e : Nat} {b : P0} {PL : List Nat} (hr : rpt s m i k t e) (he : e = i + 1 + c_0 b) (he30 : e ≤ 30) (hb : l_0 s m (i + 1) (k + 1) b) (hp : pq s PL) : ∃ s', ff_X8_planRepeat_v1 N s (Int32.ofInt (i : Int)) (Int32.ofInt ((1 : Nat) : Int)) = some (0, s') ∧ pq s' (PL ++ rept t (e_0 (i + 1) b)) ∧ ps s s' := by
  obtain ⟨r1, r2, r3, r4, r5, r6, r7⟩ := hr
  have key : ∀ (r n : Nat) (s1 : os_T) (PL : List Nat) (F : Nat), n + r = t → r < F → ps s s1 → pq s1 PL → ∃ s', os_loop (fun k23 s1 => ff_X8_planRepeat_v1_c23 N k23 s1.1 s1.2.1 s1.2.2.1 s1.2.2.2.1 s1.2.2.2.2) F (s1, Int32.ofInt (i : Int), Int32.ofInt ((1 : Nat) : Int), Int32.ofInt (t : Int), Int32.ofInt (n : Int)) = some (0, s') ∧ pq s' (PL ++ rept r (e_0 (i + 1) b)) ∧ ps s s' := by
    intro r
    induction r with
    | zero =>
      intro n s1 PL F hn hF hs hp
      obtain ⟨F, rfl⟩ : ∃ F', F = F' + 1 := ⟨F - 1, by omega⟩
      refine ⟨s1, ?_, ?_, hs⟩
      · rw [lo_1]
        show ff_X8_planRepeat_v1_c23 N _ s1 (Int32.ofInt (i : Int)) (Int32.ofInt ((1 : Nat) : Int)) (Int32.ofInt (t : Int)) (Int32.ofInt (n : Int)) = _
        rw [ff_X8_planRepeat_v1_c23, ii_le (by omega) (by omega), if_pos (by omega)]
      · show pq s1 (PL ++ [])
        rw [List.append_nil]; exact hp
    | succ r ih =>
      intro n s1 PL F hn hF hs hp
      obtain ⟨F, rfl⟩ : ∃ F', F = F' + 1 := ⟨F - 1, by omega⟩
      have hl := pq_len hp
      by_cases c : 60 ≤ PL.length
      · refine ⟨s1, ?_, pq_full hp c, hs⟩
        rw [lo_1]
        show ff_X8_planRepeat_v1_c23 N _ s1 (Int32.ofInt (i : Int)) (Int32.ofInt ((1 : Nat) : Int)) (Int32.ofInt (t : Int)) (Int32.ofInt (n : Int)) = _
        rw [ff_X8_planRepeat_v1_c23, ii_le (by omega) (by omega), if_neg (by omega), hl, ii_60, ii_le (by omega) (by omega), if_pos (by omega)]
      · obtain ⟨s2, q1, q2, q3⟩ := pc_0 (N := N) (i := i + 1) (k := k + 1) (l := b) hN (by omega) (l0_agr b _ _ hb (ps_agr hs)) hp
        obtain ⟨s3, y1, y2, y3⟩ := ih (n + 1) s2 (PL ++ e_0 (i + 1) b) F (by omega) (by omega) (hs.tr q3) q2
        refine ⟨s3, ?_, ?_, y3⟩
        · rw [← y1, lo_1]
          show ff_X8_planRepeat_v1_c23 N _ s1 (Int32.ofInt (i : Int)) (Int32.ofInt ((1 : Nat) : Int)) (Int32.ofInt (t : Int)) (Int32.ofInt (n : Int)) = _
          have hin : os_in (Int32.ofInt (i : Int)) 30 := ia_in (by omega) (by omega) (by omega)
          have hna : Int32.toNatClampNeg (Int32.ofInt (i : Int)) = i := by rw [ia_nat (by omega) (by omega), Int.toNat_natCast]
          have g1 : os_A s1 1 i = Int32.ofInt ((i + 1 + c_0 b : Nat) : Int) := by rw [hs.1.2.2 1 (by decide), r7, he]
          rw [ff_X8_planRepeat_v1_c23, ii_le (by omega) (by omega), if_neg (by omega), hl, ii_60, ii_le (by omega) (by omega), if_neg (by omega), if_pos hin, hna, g1, show Int32.ofInt (i : Int) + (1 : Int32) = Int32.ofInt ((i + 1 : Nat) : Int) by rw [ii_1, ia_add]; rfl, show Int32.ofInt ((1 : Nat) : Int) + (1 : Int32) = Int32.ofInt ((1 + 1 : Nat) : Int) from rfl, q1, Option.bind_some, if_pos rfl, show Int32.ofInt (n : Int) + 1 = Int32.ofInt ((n + 1 : Nat) : Int) by rw [ii_1, ia_add]; rfl]
        · show pq s3 (PL ++ (e_0 (i + 1) b ++ rept r (e_0 (i + 1) b)))
          rw [List.append_assoc] at y2
          exact y2
  obtain ⟨s', k1, k2, k3⟩ := key t 0 s PL N (by omega) (by omega) ps.rf hp
  refine ⟨s', ?_, k2, k3⟩
  unfold ff_X8_planRepeat_v1
  have n0 : ff_X8_numberOf N s (Int32.ofInt (i : Int)) (0 : Int32) = some (os_A s 0 (5 * i)) := nb_r (a := 0) (by omega) (by decide)
  rw [ix_in (by omega), Option.bind_some, if_neg (show ¬ ((1 : Int32) = 0) by decide), if_pos (show Int32.ofInt ((1 : Nat) : Int) < (2 : Int32) by decide), n0, Option.bind_some, r5]
  exact k1
theorem sk_1 {to e : Nat} (hto : to ≤ 30) (he : e ≤ to) : ∀ j x F, x + j = e → os_loop (fun k6 s1 => ff_X8_planCommands_v1_c6 N k6 s1.1 s1.2.1 s1.2.2.1 s1.2.2.2.1 s1.2.2.2.2) (F + j) (s, Int32.ofInt (to : Int), Int32.ofInt ((1 : Nat) : Int), Int32.ofInt (e : Int), Int32.ofInt (x : Int)) = os_loop (fun k6 s1 => ff_X8_planCommands_v1_c6 N k6 s1.1 s1.2.1 s1.2.2.1 s1.2.2.2.1 s1.2.2.2.2) F (s, Int32.ofInt (to : Int), Int32.ofInt ((1 : Nat) : Int), Int32.ofInt (e : Int), Int32.ofInt (e : Int)) := by
  intro j
  induction j with
  | zero => intro x F h; have : x = e := by omega
            subst this; rfl
  | succ j ih =>
    intro x F h
    rw [← ih (x + 1) F (by omega), ← Nat.add_assoc, lo_1]
    show ff_X8_planCommands_v1_c6 N _ s (Int32.ofInt (to : Int)) (Int32.ofInt ((1 : Nat) : Int)) (Int32.ofInt (e : Int)) (Int32.ofInt (x : Int)) = _
    rw [ff_X8_planCommands_v1_c6, ii_le (by omega) (by omega), if_neg (by omega), ix_in (by omega), Option.bind_some, if_neg (show ¬ ((1 : Int32) = 0) by decide), ii_le (by omega) (by omega), if_neg (by omega), ff_X8_planCommands_v1_b99, ii_1, ia_add]
    rfl
theorem pl_1 {to : Nat} (hN : 1000 < N) (hto : to ≤ 30) (l : P1) : ∀ (i k : Nat) (s : os_T) (PL : List Nat) (F nx : Nat), nx ≤ i → i + c_1 l = to → c_1 l < F → l_1 s m i k l → pq s PL → ∃ s', os_loop (fun k6 s1 => ff_X8_planCommands_v1_c6 N k6 s1.1 s1.2.1 s1.2.2.1 s1.2.2.2.1 s1.2.2.2.2) F (s, Int32.ofInt (to : Int), Int32.ofInt ((1 : Nat) : Int), Int32.ofInt (nx : Int), Int32.ofInt (i : Int)) = some (0, s') ∧ pq s' (PL ++ e_1 i l) ∧ ps s s' := by
  induction l with
  | nil =>
    intro i k s PL F nx hnx hi hF hl hp
    obtain ⟨F, rfl⟩ : ∃ F', F = F' + 1 := ⟨F - 1, by omega⟩
    have hi : i + 0 = to := hi
    refine ⟨s, ?_, ?_, ps.rf⟩
    · rw [lo_1]
      show ff_X8_planCommands_v1_c6 N _ s (Int32.ofInt (to : Int)) (Int32.ofInt ((1 : Nat) : Int)) (Int32.ofInt (nx : Int)) (Int32.ofInt (i : Int)) = _
      rw [ff_X8_planCommands_v1_c6, ii_le (by omega) (by omega), if_pos (by omega)]
    · show pq s (PL ++ [])
      rw [List.append_nil]; exact hp
  | cons a l ih =>
    intro i k s PL F nx hnx hi hF hl hp
    obtain ⟨F, rfl⟩ : ∃ F', F = F' + 1 := ⟨F - 1, by omega⟩
    cases a with
    | none =>
      have hc : c_1 (none :: l) = 1 + c_1 l := rfl
      rw [hc] at hi hF
      obtain ⟨h1, h2⟩ := hl
      obtain ⟨c, V, g1, g2, -, -, g5⟩ := h1
      obtain ⟨s1, p1, p2, p3⟩ := pq_add (i := i) hp
      obtain ⟨s2, q1, q2, q3⟩ := ih (i + 1) (k + 1) s1 (PL ++ [i]) F (i + 1) (Nat.le_refl _) (by omega) (by omega) (l1_agr l _ _ h2 (ps_agr p2)) p1
      refine ⟨s2, ?_, ?_, p2.tr q3⟩
      · rw [← q1, lo_1]
        show ff_X8_planCommands_v1_c6 N _ s (Int32.ofInt (to : Int)) (Int32.ofInt ((1 : Nat) : Int)) (Int32.ofInt (nx : Int)) (Int32.ofInt (i : Int)) = _
        have hin : os_in (Int32.ofInt (i : Int)) 30 := ia_in (by omega) (by omega) (by omega)
        have hna : Int32.toNatClampNeg (Int32.ofInt (i : Int)) = i := by rw [ia_nat (by omega) (by omega), Int.toNat_natCast]
        rw [ff_X8_planCommands_v1_c6, ii_le (by omega) (by omega), if_neg (by omega), ix_in (by omega), Option.bind_some, if_neg (show ¬ ((1 : Int32) = 0) by decide), ii_le (by omega) (by omega), if_pos (by omega), if_pos hin, if_pos hin, hna, g2, oo_s, if_pos (by omega), if_neg (by omega), g5]
        refine (p3 (fun o => ff_X8_planCommands_v1_b99 N _ o (Int32.ofInt (to : Int)) (Int32.ofInt ((1 : Nat) : Int)) (Int32.ofInt ((i + 1 : Nat) : Int)) (Int32.ofInt (i : Int)))).trans ?_
        rw [ff_X8_planCommands_v1_b99, ii_1, ia_add]
        rfl
      · show pq s2 (PL ++ (i :: e_1 (i + 1) l))
        rw [List.append_assoc] at q2
        exact q2
    | some a =>
      have hc : c_1 (some a :: l) = 1 + c_0 a.2 + c_1 l := rfl
      rw [hc] at hi hF
      obtain ⟨h1, h2, h3, h4⟩ := hl
      obtain ⟨s1, p1, p2, p3⟩ := pr_1 (N := N) hN h1 rfl (by omega) h2 hp
      obtain ⟨F, rfl⟩ : ∃ F', F = F' + c_0 a.2 := ⟨F - c_0 a.2, by omega⟩
      obtain ⟨s2, q1, q2, q3⟩ := ih (i + 1 + c_0 a.2) (k + 2 + r_0 a.2) s1 (PL ++ rept a.1 (e_0 (i + 1) a.2)) F (i + 1 + c_0 a.2) (Nat.le_refl _) (by omega) (by omega) (l1_agr l _ _ h4 (ps_agr p3)) p2
      refine ⟨s2, ?_, ?_, p3.tr q3⟩
      · rw [← q1, ← sk_1 (s := s1) hto (by omega) (c_0 a.2) (i + 1) F rfl, lo_1]
        show ff_X8_planCommands_v1_c6 N _ s (Int32.ofInt (to : Int)) (Int32.ofInt ((1 : Nat) : Int)) (Int32.ofInt (nx : Int)) (Int32.ofInt (i : Int)) = _
        have hin : os_in (Int32.ofInt (i : Int)) 30 := ia_in (by omega) (by omega) (by omega)
        have hna : Int32.toNatClampNeg (Int32.ofInt (i : Int)) = i := by rw [ia_nat (by omega) (by omega), Int.toNat_natCast]
        rw [ff_X8_planCommands_v1_c6, ii_le (by omega) (by omega), if_neg (by omega), ix_in (by omega), Option.bind_some, if_neg (show ¬ ((1 : Int32) = 0) by decide), ii_le (by omega) (by omega), if_pos (by omega), if_pos hin, if_pos hin, hna, h1.1, oo_s, if_pos (by omega), if_pos rfl, p1, Option.bind_some, if_pos rfl, h1.2.2.2.2.2.2, ff_X8_planCommands_v1_b99, ii_1, ia_add]
        rfl
      · show pq s2 (PL ++ (rept a.1 (e_0 (i + 1) a.2) ++ e_1 (i + 1 + c_0 a.2) l))
        rw [List.append_assoc] at q2
        exact q2
theorem pc_1 (hN : 1000 < N) {i k : Nat} {l : P1} {PL : List Nat} (hi : i + c_1 l ≤ 30) (hl : l_1 s m i k l) (hp : pq s PL) : ∃ s', ff_X8_planCommands_v1 N s (Int32.ofInt (i : Int)) (Int32.ofInt ((i + c_1 l : Nat) : Int)) (Int32.ofInt ((1 : Nat) : Int)) = some (0, s') ∧ pq s' (PL ++ e_1 i l) ∧ ps s s' :=
  pl_1 hN hi l i k s PL N i (Nat.le_refl _) rfl (by omega) hl hp
theorem pr_2 (hN : 1000 < N) {i k t e : Nat} {b : P1} {PL : List Nat} (hr : rpt s m i k t e) (he : e = i + 1 + c_1 b) (he30 : e ≤ 30) (hb : l_1 s m (i + 1) (k + 1) b) (hp : pq s PL) : ∃ s', ff_X8_planRepeat_v2 N s (Int32.ofInt (i : Int)) (Int32.ofInt ((0 : Nat) : Int)) = some (0, s') ∧ pq s' (PL ++ rept t (e_1 (i + 1) b)) ∧ ps s s' := by
  obtain ⟨r1, r2, r3, r4, r5, r6, r7⟩ := hr
  have key : ∀ (r n : Nat) (s1 : os_T) (PL : List Nat) (F : Nat), n + r = t → r < F → ps s s1 → pq s1 PL → ∃ s', os_loop (fun k23 s1 => ff_X8_planRepeat_v2_c23 N k23 s1.1 s1.2.1 s1.2.2.1 s1.2.2.2.1 s1.2.2.2.2) F (s1, Int32.ofInt (i : Int), Int32.ofInt ((0 : Nat) : Int), Int32.ofInt (t : Int), Int32.ofInt (n : Int)) = some (0, s') ∧ pq s' (PL ++ rept r (e_1 (i + 1) b)) ∧ ps s s' := by
    intro r
    induction r with
    | zero =>
      intro n s1 PL F hn hF hs hp
      obtain ⟨F, rfl⟩ : ∃ F', F = F' + 1 := ⟨F - 1, by omega⟩
      refine ⟨s1, ?_, ?_, hs⟩
      · rw [lo_1]
        show ff_X8_planRepeat_v2_c23 N _ s1 (Int32.ofInt (i : Int)) (Int32.ofInt ((0 : Nat) : Int)) (Int32.ofInt (t : Int)) (Int32.ofInt (n : Int)) = _
        rw [ff_X8_planRepeat_v2_c23, ii_le (by omega) (by omega), if_pos (by omega)]
      · show pq s1 (PL ++ [])
        rw [List.append_nil]; exact hp
    | succ r ih =>
      intro n s1 PL F hn hF hs hp
      obtain ⟨F, rfl⟩ : ∃ F', F = F' + 1 := ⟨F - 1, by omega⟩
      have hl := pq_len hp
      by_cases c : 60 ≤ PL.length
      · refine ⟨s1, ?_, pq_full hp c, hs⟩
        rw [lo_1]
        show ff_X8_planRepeat_v2_c23 N _ s1 (Int32.ofInt (i : Int)) (Int32.ofInt ((0 : Nat) : Int)) (Int32.ofInt (t : Int)) (Int32.ofInt (n : Int)) = _
        rw [ff_X8_planRepeat_v2_c23, ii_le (by omega) (by omega), if_neg (by omega), hl, ii_60, ii_le (by omega) (by omega), if_pos (by omega)]
      · obtain ⟨s2, q1, q2, q3⟩ := pc_1 (N := N) (i := i + 1) (k := k + 1) (l := b) hN (by omega) (l1_agr b _ _ hb (ps_agr hs)) hp
        obtain ⟨s3, y1, y2, y3⟩ := ih (n + 1) s2 (PL ++ e_1 (i + 1) b) F (by omega) (by omega) (hs.tr q3) q2
        refine ⟨s3, ?_, ?_, y3⟩
        · rw [← y1, lo_1]
          show ff_X8_planRepeat_v2_c23 N _ s1 (Int32.ofInt (i : Int)) (Int32.ofInt ((0 : Nat) : Int)) (Int32.ofInt (t : Int)) (Int32.ofInt (n : Int)) = _
          have hin : os_in (Int32.ofInt (i : Int)) 30 := ia_in (by omega) (by omega) (by omega)
          have hna : Int32.toNatClampNeg (Int32.ofInt (i : Int)) = i := by rw [ia_nat (by omega) (by omega), Int.toNat_natCast]
          have g1 : os_A s1 1 i = Int32.ofInt ((i + 1 + c_1 b : Nat) : Int) := by rw [hs.1.2.2 1 (by decide), r7, he]
          rw [ff_X8_planRepeat_v2_c23, ii_le (by omega) (by omega), if_neg (by omega), hl, ii_60, ii_le (by omega) (by omega), if_neg (by omega), if_pos hin, hna, g1, show Int32.ofInt (i : Int) + (1 : Int32) = Int32.ofInt ((i + 1 : Nat) : Int) by rw [ii_1, ia_add]; rfl, show Int32.ofInt ((0 : Nat) : Int) + (1 : Int32) = Int32.ofInt ((0 + 1 : Nat) : Int) from rfl, q1, Option.bind_some, if_pos rfl, show Int32.ofInt (n : Int) + 1 = Int32.ofInt ((n + 1 : Nat) : Int) by rw [ii_1, ia_add]; rfl]
        · show pq s3 (PL ++ (e_1 (i + 1) b ++ rept r (e_1 (i + 1) b)))
          rw [List.append_assoc] at y2
          exact y2
  obtain ⟨s', k1, k2, k3⟩ := key t 0 s PL N (by omega) (by omega) ps.rf hp
  refine ⟨s', ?_, k2, k3⟩
  unfold ff_X8_planRepeat_v2
  have n0 : ff_X8_numberOf N s (Int32.ofInt (i : Int)) (0 : Int32) = some (os_A s 0 (5 * i)) := nb_r (a := 0) (by omega) (by decide)
  rw [ix_in (by omega), Option.bind_some, if_neg (show ¬ ((1 : Int32) = 0) by decide), if_pos (show Int32.ofInt ((0 : Nat) : Int) < (2 : Int32) by decide), n0, Option.bind_some, r5]
  exact k1
theorem sk_2 {to e : Nat} (hto : to ≤ 30) (he : e ≤ to) : ∀ j x F, x + j = e → os_loop (fun k6 s1 => ff_X8_planCommands_v2_c6 N k6 s1.1 s1.2.1 s1.2.2.1 s1.2.2.2.1 s1.2.2.2.2) (F + j) (s, Int32.ofInt (to : Int), Int32.ofInt ((0 : Nat) : Int), Int32.ofInt (e : Int), Int32.ofInt (x : Int)) = os_loop (fun k6 s1 => ff_X8_planCommands_v2_c6 N k6 s1.1 s1.2.1 s1.2.2.1 s1.2.2.2.1 s1.2.2.2.2) F (s, Int32.ofInt (to : Int), Int32.ofInt ((0 : Nat) : Int), Int32.ofInt (e : Int), Int32.ofInt (e : Int)) := by
  intro j
  induction j with
  | zero => intro x F h; have : x = e := by omega
            subst this; rfl
  | succ j ih =>
    intro x F h
    rw [← ih (x + 1) F (by omega), ← Nat.add_assoc, lo_1]
    show ff_X8_planCommands_v2_c6 N _ s (Int32.ofInt (to : Int)) (Int32.ofInt ((0 : Nat) : Int)) (Int32.ofInt (e : Int)) (Int32.ofInt (x : Int)) = _
    rw [ff_X8_planCommands_v2_c6, ii_le (by omega) (by omega), if_neg (by omega), ix_in (by omega), Option.bind_some, if_neg (show ¬ ((1 : Int32) = 0) by decide), ii_le (by omega) (by omega), if_neg (by omega), ff_X8_planCommands_v2_b99, ii_1, ia_add]
    rfl
theorem pl_2 {to : Nat} (hN : 1000 < N) (hto : to ≤ 30) (l : P2) : ∀ (i k : Nat) (s : os_T) (PL : List Nat) (F nx : Nat), nx ≤ i → i + c_2 l = to → c_2 l < F → l_2 s m i k l → pq s PL → ∃ s', os_loop (fun k6 s1 => ff_X8_planCommands_v2_c6 N k6 s1.1 s1.2.1 s1.2.2.1 s1.2.2.2.1 s1.2.2.2.2) F (s, Int32.ofInt (to : Int), Int32.ofInt ((0 : Nat) : Int), Int32.ofInt (nx : Int), Int32.ofInt (i : Int)) = some (0, s') ∧ pq s' (PL ++ e_2 i l) ∧ ps s s' := by
  induction l with
  | nil =>
    intro i k s PL F nx hnx hi hF hl hp
    obtain ⟨F, rfl⟩ : ∃ F', F = F' + 1 := ⟨F - 1, by omega⟩
    have hi : i + 0 = to := hi
    refine ⟨s, ?_, ?_, ps.rf⟩
    · rw [lo_1]
      show ff_X8_planCommands_v2_c6 N _ s (Int32.ofInt (to : Int)) (Int32.ofInt ((0 : Nat) : Int)) (Int32.ofInt (nx : Int)) (Int32.ofInt (i : Int)) = _
      rw [ff_X8_planCommands_v2_c6, ii_le (by omega) (by omega), if_pos (by omega)]
    · show pq s (PL ++ [])
      rw [List.append_nil]; exact hp
  | cons a l ih =>
    intro i k s PL F nx hnx hi hF hl hp
    obtain ⟨F, rfl⟩ : ∃ F', F = F' + 1 := ⟨F - 1, by omega⟩
    cases a with
    | none =>
      have hc : c_2 (none :: l) = 1 + c_2 l := rfl
      rw [hc] at hi hF
      obtain ⟨h1, h2⟩ := hl
      obtain ⟨c, V, g1, g2, -, -, g5⟩ := h1
      obtain ⟨s1, p1, p2, p3⟩ := pq_add (i := i) hp
      obtain ⟨s2, q1, q2, q3⟩ := ih (i + 1) (k + 1) s1 (PL ++ [i]) F (i + 1) (Nat.le_refl _) (by omega) (by omega) (l2_agr l _ _ h2 (ps_agr p2)) p1
      refine ⟨s2, ?_, ?_, p2.tr q3⟩
      · rw [← q1, lo_1]
        show ff_X8_planCommands_v2_c6 N _ s (Int32.ofInt (to : Int)) (Int32.ofInt ((0 : Nat) : Int)) (Int32.ofInt (nx : Int)) (Int32.ofInt (i : Int)) = _
        have hin : os_in (Int32.ofInt (i : Int)) 30 := ia_in (by omega) (by omega) (by omega)
        have hna : Int32.toNatClampNeg (Int32.ofInt (i : Int)) = i := by rw [ia_nat (by omega) (by omega), Int.toNat_natCast]
        rw [ff_X8_planCommands_v2_c6, ii_le (by omega) (by omega), if_neg (by omega), ix_in (by omega), Option.bind_some, if_neg (show ¬ ((1 : Int32) = 0) by decide), ii_le (by omega) (by omega), if_pos (by omega), if_pos hin, if_pos hin, hna, g2, oo_s, if_pos (by omega), if_neg (by omega), g5]
        refine (p3 (fun o => ff_X8_planCommands_v2_b99 N _ o (Int32.ofInt (to : Int)) (Int32.ofInt ((0 : Nat) : Int)) (Int32.ofInt ((i + 1 : Nat) : Int)) (Int32.ofInt (i : Int)))).trans ?_
        rw [ff_X8_planCommands_v2_b99, ii_1, ia_add]
        rfl
      · show pq s2 (PL ++ (i :: e_2 (i + 1) l))
        rw [List.append_assoc] at q2
        exact q2
    | some a =>
      have hc : c_2 (some a :: l) = 1 + c_1 a.2 + c_2 l := rfl
      rw [hc] at hi hF
      obtain ⟨h1, h2, h3, h4⟩ := hl
      obtain ⟨s1, p1, p2, p3⟩ := pr_2 (N := N) hN h1 rfl (by omega) h2 hp
      obtain ⟨F, rfl⟩ : ∃ F', F = F' + c_1 a.2 := ⟨F - c_1 a.2, by omega⟩
      obtain ⟨s2, q1, q2, q3⟩ := ih (i + 1 + c_1 a.2) (k + 2 + r_1 a.2) s1 (PL ++ rept a.1 (e_1 (i + 1) a.2)) F (i + 1 + c_1 a.2) (Nat.le_refl _) (by omega) (by omega) (l2_agr l _ _ h4 (ps_agr p3)) p2
      refine ⟨s2, ?_, ?_, p3.tr q3⟩
      · rw [← q1, ← sk_2 (s := s1) hto (by omega) (c_1 a.2) (i + 1) F rfl, lo_1]
        show ff_X8_planCommands_v2_c6 N _ s (Int32.ofInt (to : Int)) (Int32.ofInt ((0 : Nat) : Int)) (Int32.ofInt (nx : Int)) (Int32.ofInt (i : Int)) = _
        have hin : os_in (Int32.ofInt (i : Int)) 30 := ia_in (by omega) (by omega) (by omega)
        have hna : Int32.toNatClampNeg (Int32.ofInt (i : Int)) = i := by rw [ia_nat (by omega) (by omega), Int.toNat_natCast]
        rw [ff_X8_planCommands_v2_c6, ii_le (by omega) (by omega), if_neg (by omega), ix_in (by omega), Option.bind_some, if_neg (show ¬ ((1 : Int32) = 0) by decide), ii_le (by omega) (by omega), if_pos (by omega), if_pos hin, if_pos hin, hna, h1.1, oo_s, if_pos (by omega), if_pos rfl, p1, Option.bind_some, if_pos rfl, h1.2.2.2.2.2.2, ff_X8_planCommands_v2_b99, ii_1, ia_add]
        rfl
      · show pq s2 (PL ++ (rept a.1 (e_1 (i + 1) a.2) ++ e_2 (i + 1 + c_1 a.2) l))
        rw [List.append_assoc] at q2
        exact q2
theorem pc_2 (hN : 1000 < N) {i k : Nat} {l : P2} {PL : List Nat} (hi : i + c_2 l ≤ 30) (hl : l_2 s m i k l) (hp : pq s PL) : ∃ s', ff_X8_planCommands_v2 N s (Int32.ofInt (i : Int)) (Int32.ofInt ((i + c_2 l : Nat) : Int)) (Int32.ofInt ((0 : Nat) : Int)) = some (0, s') ∧ pq s' (PL ++ e_2 i l) ∧ ps s s' :=
  pl_2 hN hi l i k s PL N i (Nat.le_refl _) rfl (by omega) hl hp
end Plan
