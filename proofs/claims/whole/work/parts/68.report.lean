/-! LAYER 2. Reports -/
def em (h : Int) (x : Nat) : List Int := (if x = 0 then [] else [32]) ++ ((if 10 ≤ h then [48 + h / 10] else []) ++ [48 + h % 10])
def rl (H : Int → Int → Int) (y : Int) : Nat → List Int
  | 0 => []
  | x + 1 => rl H y x ++ em (H x y) x
def al (S : Nat → Nat) (H : Int → Int → Int) : Nat → List Int
  | 0 => []
  | k + 1 => al S H k ++ (rl H ((S 1 : Int) - 1 - k) (S 0) ++ [10])
theorem em_len (h : Int) (x : Nat) : (em h x).length ≤ 3 ∧ (x = 0 → (em h x).length ≤ 2) := by
  unfold em
  by_cases c : x = 0 <;> by_cases d : 10 ≤ h <;> simp [c, d]
theorem rl_len (H : Int → Int → Int) (y : Int) : ∀ x, (rl H y x).length ≤ 3 * x ∧ (1 ≤ x → (rl H y x).length + 1 ≤ 3 * x) := by
  intro x
  induction x with
  | zero => exact ⟨Nat.le_refl _, fun h => by omega⟩
  | succ x ih =>
    have h1 := em_len (H x y) x
    have e : (rl H y (x + 1)).length = (rl H y x).length + (em (H x y) x).length := by
      show (rl H y x ++ em (H x y) x).length = _
      rw [List.length_append]
    by_cases c : x = 0
    · have := h1.2 c
      omega
    · have := ih.2 (by omega)
      omega
theorem al_len {S : Nat → Nat} (hS : sv S) (H : Int → Int → Int) : ∀ k, (al S H k).length ≤ 48 * k := by
  have hs := sv_a hS
  intro k
  induction k with
  | zero => exact Nat.le_refl _
  | succ k ih =>
    have h1 := (rl_len H ((S 1 : Int) - 1 - k) (S 0)).2 (by omega)
    have e : (al S H (k + 1)).length = (al S H k).length + ((rl H ((S 1 : Int) - 1 - k) (S 0)).length + 1) := by
      show (al S H k ++ (rl H ((S 1 : Int) - 1 - k) (S 0) ++ [10])).length = _
      rw [List.length_append, List.length_append]; rfl
    omega
/-- an array that holds a list, its length in a field -/
def bw (o : os_T) (a i : Nat) (L : List Int) : Prop := os_I o i = Int32.ofInt (L.length : Int) ∧ ∀ (j : Nat) (h : j < L.length), os_A o a j = Int32.ofInt L[j]
theorem bw_add {o o' : os_T} {a i : Nat} {L : List Int} {v : Int} (h : bw o a i L) (h1 : os_I o' i = Int32.ofInt ((L.length : Int) + 1)) (h2 : os_A o' a = upd (os_A o a) L.length (Int32.ofInt v)) : bw o' a i (L ++ [v]) := by
  refine ⟨?_, fun j hj => ?_⟩
  · rw [h1, List.length_append]; rfl
  · rw [List.length_append] at hj
    have hj : j < L.length + 1 := hj
    rw [h2]
    by_cases c : j = L.length
    · subst c
      rw [up_eq, List.getElem_append_right (Nat.le_refl _)]
      simp
    · rw [up_ne c, h.2 j (by omega), List.getElem_append_left]
theorem nar_b {v : Int} (h0 : 0 ≤ v) (h1 : v ≤ 127) : vp_nar .byte ((Int32.toInt8 (Int32.ofInt v)).toInt32) = Int32.ofInt v := by
  have h : ∀ n : Nat, n < 128 → vp_nar .byte ((Int32.toInt8 (Int32.ofInt (n : Int))).toInt32) = Int32.ofInt (n : Int) := by decide +kernel
  have := h v.toNat (by omega)
  rwa [Int.toNat_of_nonneg h0] at this
section Report
variable {N : Nat} {x m o : os_T} {S : Nat → Nat} {T H : Int → Int → Int}
abbrev k12 : Nat → Prop := fun i => i = 12
abbrev k1 : Nat → Prop := fun j => j = 1
abbrev k43 : Nat → Prop := fun i => i = 43
abbrev k19 : Nat → Prop := fun j => j = 19
theorem pc_wb {L : List Int} {v : Int} (h : bw x 1 12 L) (hL : L.length < 576) (h0 : 0 ≤ v) (h1 : v ≤ 127) : ∃ x', ff_X12_writeByte N x (Int32.ofInt v) = some x' ∧ bw x' 1 12 (L ++ [v]) ∧ sy k12 k1 x x' := by
  refine ⟨ss_I (ss_A x 1 (upd (os_A x 1) L.length (Int32.ofInt v))) 12 (Int32.ofInt ((L.length : Int) + 1)), ?_, bw_add h rfl rfl, (show sy k12 k1 x (ss_A x 1 (upd (os_A x 1) L.length (Int32.ofInt v))) from sy_A rfl).tr (sy_I rfl)⟩
  unfold ff_X12_writeByte
  rw [h.1, ii_576, ii_le (by omega) (by omega), if_neg (by omega), if_pos (ia_in (by omega) (by omega) (by omega)), ia_nat (by omega) (by omega), nar_b h0 h1, ii_1, ia_add, Int.toNat_natCast]
theorem pc_wn {L : List Int} {v : Int} (h : bw x 1 12 L) (hL : L.length < 575) (h0 : 0 ≤ v) (h1 : v ≤ 99) : ∃ x', ff_X12_writeNumber N x (Int32.ofInt v) = some x' ∧ bw x' 1 12 (L ++ ((if 10 ≤ v then [48 + v / 10] else []) ++ [48 + v % 10])) ∧ sy k12 k1 x x' := by
  have e9 : (48 : Int32) + (Int32.ofInt v - Int32.ofInt v / (10 : Int32) * (10 : Int32)) = Int32.ofInt (48 + v % 10) := by
    rw [ii_48, ii_10, ia_div h0 (by omega) (by omega) (by omega), ia_mul, ia_sub, ia_emod, ia_add]
  have e8 : (48 : Int32) + Int32.ofInt v / (10 : Int32) = Int32.ofInt (48 + v / 10) := by
    rw [ii_48, ii_10, ia_div h0 (by omega) (by omega) (by omega), ia_add]
  unfold ff_X12_writeNumber
  rw [e8, ii_10, ii_lt (by omega) (by omega)]
  by_cases c : v < 10
  · obtain ⟨x1, e1, b1, y1⟩ := pc_wb (N := N) (v := 48 + v % 10) h (by omega) (by omega) (by omega)
    rw [if_pos c, if_neg (show ¬ 10 ≤ v by omega), List.nil_append]
    unfold ff_X12_writeNumber_b17
    rw [e9, e1, Option.bind_some]
    exact ⟨x1, rfl, b1, y1⟩
  · obtain ⟨x1, e1, b1, y1⟩ := pc_wb (N := N) (v := 48 + v / 10) h (by omega) (by omega) (by omega)
    obtain ⟨x2, e2, b2, y2⟩ := pc_wb (N := N) (v := 48 + v % 10) b1 (by rw [List.length_append]; show L.length + 1 < 576; omega) (by omega) (by omega)
    rw [if_neg c, if_pos (show 10 ≤ v by omega), e1, Option.bind_some]
    unfold ff_X12_writeNumber_b17
    rw [e9, e2, Option.bind_some]
    rw [List.append_assoc] at b2
    exact ⟨x2, rfl, b2, y1.tr y2⟩
theorem rc_tell {L : List Int} {v : Int} (h : bw m 19 43 L) (hL : L.length < 700) : ∃ m', ff_X13_tell N m (Int32.ofInt v) = some m' ∧ bw m' 19 43 (L ++ [v]) ∧ sy k43 k19 m m' := by
  refine ⟨ss_I (ss_A m 19 (upd (os_A m 19) L.length (Int32.ofInt v))) 43 (Int32.ofInt ((L.length : Int) + 1)), ?_, bw_add h rfl rfl, (show sy k43 k19 m (ss_A m 19 (upd (os_A m 19) L.length (Int32.ofInt v))) from sy_A rfl).tr (sy_I rfl)⟩
  unfold ff_X13_tell
  rw [h.1, if_pos (ia_in (by omega) (by omega) (by omega)), ia_nat (by omega) (by omega), ii_1, ia_add, Int.toNat_natCast]
theorem al_bd {y a : Nat} (hS : sv S) (hx : a ≤ S 0) (hy : y < S 1) : (al S H y ++ rl H ((S 1 : Int) - 1 - y) a).length ≤ 576 - 3 * (S 0 - a) - 1 ∨ (a = 0 ∧ (al S H y ++ rl H ((S 1 : Int) - 1 - y) a).length ≤ 576 - 3 * S 0) := by
  have hs := sv_a hS
  have h1 := al_len hS H y
  have h2 := rl_len H ((S 1 : Int) - 1 - y) a
  rw [List.length_append]
  by_cases c : a = 0
  · right
    subst c
    have : (rl H ((S 1 : Int) - 1 - y) 0).length = 0 := rfl
    omega
  · left
    have := h2.2 (by omega)
    omega
theorem pc_report (hN : 1000 < N) (hS : sv S) (ho : cp o S T H) (hH : hv S H) : ∃ x', ff_X12_report N x o = some (Int32.ofInt ((al S H (S 1)).length : Int), x') ∧ bw x' 1 12 (al S H (S 1)) ∧ sy k12 k1 x x' := by
  have hs := sv_a hS
  have key := lo_gridI (N := N) (step1 := fun k15 s1 => ff_X12_report_c15 N o k15 s1.1 s1.2) (step2 := fun k15 k21 s1 => ff_X12_report_c21 N o k15 k21 s1.1 s1.2.1 s1.2.2)
    (fun y s => s.2 = Int32.ofInt ((S 1 : Int) - 1 - y) ∧ bw s.1 1 12 (al S H y) ∧ sy k12 k1 x s.1)
    (fun y a s => s.2.1 = Int32.ofInt ((S 1 : Int) - 1 - y) ∧ s.2.2 = Int32.ofInt (a : Int) ∧ bw s.1 1 12 (al S H y ++ rl H ((S 1 : Int) - 1 - y) a) ∧ sy k12 k1 x s.1)
    (fun v => ∃ x', v = some (Int32.ofInt ((al S H (S 1)).length : Int), x') ∧ bw x' 1 12 (al S H (S 1)) ∧ sy k12 k1 x x')
    (S 0) (S 1) ?_ ?_ ?_ ?_ (by omega) (by omega) (s := (ss_I x 12 (0 : Int32), os_I o 1 - (1 : Int32))) ?_
  · obtain ⟨v, ⟨x', rfl, hb, hy⟩, e⟩ := key
    exact ⟨x', e, hb, hy⟩
  · intro y s hy hI
    obtain ⟨o1, a1⟩ := s
    obtain ⟨e1, b1, y1⟩ := hI
    have e1 : a1 = _ := e1
    subst e1
    refine ⟨(o1, Int32.ofInt ((S 1 : Int) - 1 - y), (0 : Int32)), ⟨rfl, rfl, ?_, y1⟩, fun r => ?_⟩
    · show bw o1 1 12 (al S H y ++ [])
      rw [List.append_nil]; exact b1
    · show ff_X12_report_c15 N o r o1 (Int32.ofInt ((S 1 : Int) - 1 - y)) = _
      unfold ff_X12_report_c15
      simp only [i0_lt (a := (S 1 : Int) - 1 - y) (by omega)]
      rw [if_neg (by omega)]
      rfl
  · intro a y s ha hy hI
    obtain ⟨o1, a1, a2⟩ := s
    obtain ⟨e1, e2, b1, y1⟩ := hI
    have e1 : a1 = _ := e1
    have e2 : a2 = _ := e2
    subst e1
    subst e2
    have bd := al_bd (H := H) (y := y) (a := a) hS (by omega) hy
    have hc : ic S (a : Int) ((S 1 : Int) - 1 - y) := by unfold ic; omega
    have hh := hH _ _ hc
    by_cases c : a = 0
    · subst c
      obtain ⟨o2, w2, b2, y2⟩ := pc_wn (N := N) (v := H ((0 : Nat) : Int) ((S 1 : Int) - 1 - y)) b1 (by omega) (by omega) (by omega)
      refine ⟨(o2, Int32.ofInt ((S 1 : Int) - 1 - y), Int32.ofInt ((0 + 1 : Nat) : Int)), ⟨rfl, rfl, ?_, y1.tr y2⟩, fun k r => ?_⟩
      · show bw o2 1 12 (al S H y ++ (rl H ((S 1 : Int) - 1 - y) 0 ++ em (H ((0 : Nat) : Int) ((S 1 : Int) - 1 - y)) 0))
        rw [← List.append_assoc]
        exact b2
      · show ff_X12_report_c21 N o k r o1 (Int32.ofInt ((S 1 : Int) - 1 - y)) (Int32.ofInt ((0 : Nat) : Int)) = _
        unfold ff_X12_report_c21 ff_X12_report_b42
        rw [ho.1 0 (by decide), ii_le (by omega) (by omega), if_neg (by omega), if_pos (by decide), pc_heightAt hS ho (by omega) (by omega), if_pos hc, Option.bind_some, w2, Option.bind_some]
        rfl
    · obtain ⟨o2, w2, b2, y2⟩ := pc_wb (N := N) (v := 32) b1 (by omega) (by omega) (by omega)
      obtain ⟨o3, w3, b3, y3⟩ := pc_wn (N := N) (v := H (a : Int) ((S 1 : Int) - 1 - y)) b2 (by rw [List.length_append]; show _ + 1 < 575; omega) (by omega) (by omega)
      refine ⟨(o3, Int32.ofInt ((S 1 : Int) - 1 - y), Int32.ofInt ((a + 1 : Nat) : Int)), ⟨rfl, rfl, ?_, (y1.tr y2).tr y3⟩, fun k r => ?_⟩
      · show bw o3 1 12 (al S H y ++ (rl H ((S 1 : Int) - 1 - y) a ++ em (H (a : Int) ((S 1 : Int) - 1 - y)) a))
        rw [← List.append_assoc]
        unfold em
        rw [if_neg c, ← List.append_assoc]
        exact b3
      · show ff_X12_report_c21 N o k r o1 (Int32.ofInt ((S 1 : Int) - 1 - y)) (Int32.ofInt (a : Int)) = _
        unfold ff_X12_report_c21 ff_X12_report_b42
        simp only [i0_le (a := (a : Int)) (by omega)]
        rw [ho.1 0 (by decide), ii_le (by omega) (by omega), if_neg (by omega), if_neg (by omega), ii_32, w2, Option.bind_some, pc_heightAt hS ho (by omega) (by omega), if_pos hc, Option.bind_some, w3, Option.bind_some, ii_1, ia_add]
        rfl
  · intro y s hy hI
    obtain ⟨o1, a1, a2⟩ := s
    obtain ⟨e1, e2, b1, y1⟩ := hI
    have e1 : a1 = _ := e1
    have e2 : a2 = _ := e2
    subst e1
    subst e2
    have bd := al_bd (H := H) (y := y) (a := S 0) hS (by omega) hy
    obtain ⟨o2, w2, b2, y2⟩ := pc_wb (N := N) (v := 10) b1 (by omega) (by omega) (by omega)
    refine ⟨(o2, Int32.ofInt ((S 1 : Int) - 1 - (y + 1 : Nat))), ⟨rfl, ?_, y1.tr y2⟩, fun k r => ?_⟩
    · show bw o2 1 12 (al S H y ++ (rl H ((S 1 : Int) - 1 - y) (S 0) ++ [10]))
      rw [← List.append_assoc]
      exact b2
    · show ff_X12_report_c21 N o k r o1 (Int32.ofInt ((S 1 : Int) - 1 - y)) (Int32.ofInt (S 0 : Int)) = _
      unfold ff_X12_report_c21
      rw [ho.1 0 (by decide), ii_le (by omega) (by omega), if_pos (by omega), ii_10, w2, Option.bind_some, ii_m1, ia_add]
      congr 3
      omega
  · intro s hI
    obtain ⟨o1, a1⟩ := s
    obtain ⟨e1, b1, y1⟩ := hI
    have e1 : a1 = _ := e1
    subst e1
    refine ⟨_, ⟨o1, rfl, b1, y1⟩, fun r => ?_⟩
    show ff_X12_report_c15 N o r o1 (Int32.ofInt ((S 1 : Int) - 1 - (S 1 : Nat))) = _
    unfold ff_X12_report_c15
    simp only [i0_lt (a := (S 1 : Int) - 1 - (S 1 : Nat)) (by omega)]
    rw [if_pos (by omega), b1.1]
  · refine ⟨?_, ⟨rfl, fun j h => by cases h⟩, sy_I rfl⟩
    show os_I o 1 - (1 : Int32) = _
    rw [ho.1 1 (by decide), ii_1, ia_sub]
    congr 1
    omega
theorem rc_report (hN : 1000 < N) (hS : sv S) (hm : rp m S T H) (hH : hv S H) : ∃ m', ff_X13_report N m = some (Int32.ofInt ((al S H (S 1)).length : Int), m') ∧ bw m' 19 43 (al S H (S 1)) ∧ os_I m' 44 = 1 ∧ os_I m' 0 = 0 ∧ sy (fun i => i = 0 ∨ i = 43 ∨ i = 44) k19 m m' := by
  have hs := sv_a hS
  have key := lo_gridI (N := N) (step1 := fun k24 s1 => ff_X13_report_c24 N k24 s1.1 s1.2) (step2 := fun k24 k30 s1 => ff_X13_report_c30 N k24 k30 s1.1 s1.2.1 s1.2.2)
    (fun y s => s.2 = Int32.ofInt ((S 1 : Int) - 1 - y) ∧ bw s.1 19 43 (al S H y) ∧ sy k43 k19 (ss_I (ss_I (ss_I m 0 0) 43 0) 44 1) s.1)
    (fun y a s => s.2.1 = Int32.ofInt ((S 1 : Int) - 1 - y) ∧ s.2.2 = Int32.ofInt (a : Int) ∧ bw s.1 19 43 (al S H y ++ rl H ((S 1 : Int) - 1 - y) a) ∧ sy k43 k19 (ss_I (ss_I (ss_I m 0 0) 43 0) 44 1) s.1)
    (fun v => ∃ m', v = some (Int32.ofInt ((al S H (S 1)).length : Int), m') ∧ bw m' 19 43 (al S H (S 1)) ∧ sy k43 k19 (ss_I (ss_I (ss_I m 0 0) 43 0) 44 1) m')
    (S 0) (S 1) ?_ ?_ ?_ ?_ (by omega) (by omega) (s := (ss_I (ss_I (ss_I m 0 (0 : Int32)) 43 (0 : Int32)) 44 (1 : Int32), (os_A m 1) (Int32.toNatClampNeg (1 : Int32)) - (1 : Int32))) ?_
  · obtain ⟨v, ⟨m', rfl, hb, hy⟩, e⟩ := key
    refine ⟨m', ?_, hb, hy.1 44 (by decide), hy.1 0 (by decide), ?_⟩
    · unfold ff_X13_report
      rw [if_pos nw_1]
      exact e
    · have q1 : sy (fun i => i = 0 ∨ i = 43 ∨ i = 44) k19 m (ss_I (ss_I (ss_I m 0 0) 43 0) 44 1) := ((sy_I (Or.inl rfl)).tr (sy_I (Or.inr (Or.inl rfl)))).tr (sy_I (Or.inr (Or.inr rfl)))
      exact q1.tr (hy.mono (fun i e => Or.inr (Or.inl e)) (fun j e => e))
  · intro y s hy hI
    obtain ⟨o1, a1⟩ := s
    obtain ⟨e1, b1, y1⟩ := hI
    have e1 : a1 = _ := e1
    subst e1
    refine ⟨(o1, Int32.ofInt ((S 1 : Int) - 1 - y), (0 : Int32)), ⟨rfl, rfl, ?_, y1⟩, fun r => ?_⟩
    · show bw o1 19 43 (al S H y ++ [])
      rw [List.append_nil]; exact b1
    · show ff_X13_report_c24 N r o1 (Int32.ofInt ((S 1 : Int) - 1 - y)) = _
      unfold ff_X13_report_c24
      simp only [i0_lt (a := (S 1 : Int) - 1 - y) (by omega)]
      rw [if_neg (by omega)]
      rfl
  · intro a y s ha hy hI
    obtain ⟨o1, a1, a2⟩ := s
    obtain ⟨e1, e2, b1, y1⟩ := hI
    have e1 : a1 = _ := e1
    have e2 : a2 = _ := e2
    subst e1
    subst e2
    have ho : rp o1 S T H := (show rp (ss_I (ss_I (ss_I m 0 0) 43 0) 44 1) S T H from ⟨hm.1, hm.2.1, hm.2.2⟩).sy y1 (by decide) (by decide) (by decide)
    have bd := al_bd (H := H) (y := y) (a := a) hS (by omega) hy
    have hc : ic S (a : Int) ((S 1 : Int) - 1 - y) := by unfold ic; omega
    have hh := hH _ _ hc
    have e9 : ∀ v : Int, 0 ≤ v → v ≤ 99 → (48 : Int32) + (Int32.ofInt v - Int32.ofInt v / (10 : Int32) * (10 : Int32)) = Int32.ofInt (48 + v % 10) := fun v h0 h1 => by
      rw [ii_48, ii_10, ia_div h0 (by omega) (by omega) (by omega), ia_mul, ia_sub, ia_emod, ia_add]
    have e8 : ∀ v : Int, 0 ≤ v → v ≤ 99 → (48 : Int32) + Int32.ofInt v / (10 : Int32) = Int32.ofInt (48 + v / 10) := fun v h0 h1 => by
      rw [ii_48, ii_10, ia_div h0 (by omega) (by omega) (by omega), ia_add]
    have tail : ∀ (o2 : os_T) (L : List Int), bw o2 19 43 L → L.length < 690 → ∃ o3, (∀ k r, ff_X13_report_b62 N k r o2 (Int32.ofInt ((S 1 : Int) - 1 - y)) (Int32.ofInt (a : Int)) (Int32.ofInt (H (a : Int) ((S 1 : Int) - 1 - y))) = r (o3, Int32.ofInt ((S 1 : Int) - 1 - y), Int32.ofInt ((a + 1 : Nat) : Int))) ∧ bw o3 19 43 (L ++ ((if 10 ≤ H (a : Int) ((S 1 : Int) - 1 - y) then [48 + H (a : Int) ((S 1 : Int) - 1 - y) / 10] else []) ++ [48 + H (a : Int) ((S 1 : Int) - 1 - y) % 10])) ∧ sy k43 k19 o2 o3 := by
      intro o2 L hb hL
      unfold ff_X13_report_b62 ff_X13_report_b79
      rw [ii_9]
      simp only [ii_le (a := H (a : Int) ((S 1 : Int) - 1 - y)) (b := 9) (by omega) (by omega), e9 _ (by omega : 0 ≤ H (a : Int) ((S 1 : Int) - 1 - y)) (by omega), e8 _ (by omega : 0 ≤ H (a : Int) ((S 1 : Int) - 1 - y)) (by omega)]
      by_cases c : H (a : Int) ((S 1 : Int) - 1 - y) ≤ 9
      · obtain ⟨o3, w3, b3, y3⟩ := rc_tell (N := N) (v := 48 + H (a : Int) ((S 1 : Int) - 1 - y) % 10) hb (by omega)
        refine ⟨o3, fun k r => ?_, ?_, y3⟩
        · rw [if_pos c, w3, Option.bind_some, ii_1, ia_add]
          rfl
        · rw [if_neg (by omega), List.nil_append]
          exact b3
      · obtain ⟨o3, w3, b3, y3⟩ := rc_tell (N := N) (v := 48 + H (a : Int) ((S 1 : Int) - 1 - y) / 10) hb (by omega)
        obtain ⟨o4, w4, b4, y4⟩ := rc_tell (N := N) (v := 48 + H (a : Int) ((S 1 : Int) - 1 - y) % 10) b3 (by rw [List.length_append]; show L.length + 1 < 700; omega)
        refine ⟨o4, fun k r => ?_, ?_, y3.tr y4⟩
        · rw [if_neg c, w3, Option.bind_some, w4, Option.bind_some, ii_1, ia_add]
          rfl
        · rw [if_pos (by omega), ← List.append_assoc]
          exact b4
    have hix : os_A o1 4 (Int32.toNatClampNeg ((16 : Int32) * Int32.ofInt ((S 1 : Int) - 1 - y) + Int32.ofInt (a : Int))) = Int32.ofInt (H (a : Int) ((S 1 : Int) - 1 - y)) := by rw [rp_na hS hc, rp_h ho hS hc]
    by_cases c : a = 0
    · obtain ⟨o2, w2, b2, y2⟩ := tail o1 _ b1 (by omega)
      refine ⟨(o2, Int32.ofInt ((S 1 : Int) - 1 - y), Int32.ofInt ((a + 1 : Nat) : Int)), ⟨rfl, rfl, ?_, y1.tr y2⟩, fun k r => ?_⟩
      · show bw o2 19 43 (al S H y ++ (rl H ((S 1 : Int) - 1 - y) a ++ em (H (a : Int) ((S 1 : Int) - 1 - y)) a))
        rw [← List.append_assoc]
        unfold em
        rw [if_pos c, List.nil_append]
        exact b2
      · show ff_X13_report_c30 N k r o1 (Int32.ofInt ((S 1 : Int) - 1 - y)) (Int32.ofInt (a : Int)) = _
        unfold ff_X13_report_c30
        rw [rs_0 ho, hix]
        simp only [i0_le (a := (a : Int)) (by omega)]
        rw [if_pos nw_0, ii_le (by omega) (by omega), if_neg (by omega), if_pos (rp_in hS hc), if_pos (by omega), w2]
    · obtain ⟨o2, w2, b2, y2⟩ := rc_tell (N := N) (v := 32) b1 (by omega)
      obtain ⟨o3, w3, b3, y3⟩ := tail o2 _ b2 (by rw [List.length_append]; show _ + 1 < 690; omega)
      refine ⟨(o3, Int32.ofInt ((S 1 : Int) - 1 - y), Int32.ofInt ((a + 1 : Nat) : Int)), ⟨rfl, rfl, ?_, (y1.tr y2).tr y3⟩, fun k r => ?_⟩
      · show bw o3 19 43 (al S H y ++ (rl H ((S 1 : Int) - 1 - y) a ++ em (H (a : Int) ((S 1 : Int) - 1 - y)) a))
        rw [← List.append_assoc]
        unfold em
        rw [if_neg c, ← List.append_assoc]
        exact b3
      · show ff_X13_report_c30 N k r o1 (Int32.ofInt ((S 1 : Int) - 1 - y)) (Int32.ofInt (a : Int)) = _
        unfold ff_X13_report_c30
        rw [rs_0 ho, hix]
        simp only [i0_le (a := (a : Int)) (by omega)]
        rw [if_pos nw_0, ii_le (by omega) (by omega), if_neg (by omega), if_pos (rp_in hS hc), if_neg (by omega), ii_32, w2, Option.bind_some, w3]
  · intro y s hy hI
    obtain ⟨o1, a1, a2⟩ := s
    obtain ⟨e1, e2, b1, y1⟩ := hI
    have e1 : a1 = _ := e1
    have e2 : a2 = _ := e2
    subst e1
    subst e2
    have ho : rp o1 S T H := (show rp (ss_I (ss_I (ss_I m 0 0) 43 0) 44 1) S T H from ⟨hm.1, hm.2.1, hm.2.2⟩).sy y1 (by decide) (by decide) (by decide)
    have bd := al_bd (H := H) (y := y) (a := S 0) hS (by omega) hy
    obtain ⟨o2, w2, b2, y2⟩ := rc_tell (N := N) (v := 10) b1 (by omega)
    refine ⟨(o2, Int32.ofInt ((S 1 : Int) - 1 - (y + 1 : Nat))), ⟨rfl, ?_, y1.tr y2⟩, fun k r => ?_⟩
    · show bw o2 19 43 (al S H y ++ (rl H ((S 1 : Int) - 1 - y) (S 0) ++ [10]))
      rw [← List.append_assoc]
      exact b2
    · show ff_X13_report_c30 N k r o1 (Int32.ofInt ((S 1 : Int) - 1 - y)) (Int32.ofInt (S 0 : Int)) = _
      unfold ff_X13_report_c30
      rw [rs_0 ho, if_pos nw_0, ii_le (by omega) (by omega), if_pos (by omega), ii_10, w2, Option.bind_some, ii_m1, ia_add]
      congr 3
      omega
  · intro s hI
    obtain ⟨o1, a1⟩ := s
    obtain ⟨e1, b1, y1⟩ := hI
    have e1 : a1 = _ := e1
    subst e1
    refine ⟨_, ⟨o1, rfl, b1, y1⟩, fun r => ?_⟩
    show ff_X13_report_c24 N r o1 (Int32.ofInt ((S 1 : Int) - 1 - (S 1 : Nat))) = _
    unfold ff_X13_report_c24
    simp only [i0_lt (a := (S 1 : Int) - 1 - (S 1 : Nat)) (by omega)]
    rw [if_pos (by omega), b1.1]
  · refine ⟨?_, ⟨rfl, fun j h => by cases h⟩, sy.rf⟩
    show (os_A m 1) (Int32.toNatClampNeg (1 : Int32)) - (1 : Int32) = _
    rw [rs_1 hm, ii_1, ia_sub]
    congr 1
    omega
/-- the last report on both sides -/
def rt (x m : os_T) : Prop := ∃ L : List Int, L.length ≤ 576 ∧ bw x 1 12 L ∧ ((os_I m 44 = 0 ∧ L = []) ∨ (os_I m 44 = 1 ∧ bw m 19 43 L))
theorem rt.sy {x' m' : os_T} {K J K2 J2 : Nat → Prop} (h : rt x m) (hx : sy K J x x') (h12 : ¬ K 12) (h1 : ¬ J 1) (hm : sy K2 J2 m m') (h43 : ¬ K2 43) (h44 : ¬ K2 44) (h19 : ¬ J2 19) : rt x' m' := by
  obtain ⟨L, hL, b1, b2⟩ := h
  refine ⟨L, hL, ⟨by rw [hx.1 12 h12]; exact b1.1, by rw [hx.2.2 1 h1]; exact b1.2⟩, ?_⟩
  rw [hm.1 44 h44]
  rcases b2 with b2 | ⟨z, b2⟩
  · exact Or.inl b2
  · exact Or.inr ⟨z, ⟨by rw [hm.1 43 h43]; exact b2.1, by rw [hm.2.2 19 h19]; exact b2.2⟩⟩
theorem jq_reportByte {a : Int} (h : rt x m) (ha : ib a) : ∃ k c m2, ff_X12_reportByte N x (Int32.ofInt a) = some (k, c) ∧ ff_X13_reportByte N m (Int32.ofInt a) = some (c, m2) ∧ sy (fun i => i = 0) (fun _ => False) m m2 ∧ ((k = 0 ∧ os_I m2 0 = 0) ∨ (k = 3 ∧ os_I m2 0 = 1)) := by
  obtain ⟨L, hL, b1, b2⟩ := h
  unfold ff_X12_reportByte ff_X12_reportByte_b12 ff_X13_reportByte ff_X13_reportByte_b28 ff_X13_reportByte_b29
  simp only [i0_lt ha]
  rw [b1.1, ii_lt ha (by omega)]
  rcases b2 with ⟨z, rfl⟩ | ⟨z, b2⟩
  · rw [z, if_pos rfl]
    refine ⟨3, 0, ss_I m 0 1, ?_, rfl, sy_I rfl, Or.inr ⟨rfl, rfl⟩⟩
    by_cases c : a < 0
    · rw [if_pos c]
    · rw [if_neg c, if_neg (show ¬ (a < (([] : List Int).length : Int)) by show ¬ (a < ((0 : Nat) : Int)); omega)]
  · rw [z, if_neg (show ¬ ((1 : Int32) = 0) by decide), b2.1, ii_1, ia_sub, ia_j ha.1 ha.2, ia_j (by omega) (by omega), ij_0, rc_isIn ha (by omega) (by omega), Option.bind_some, oz_ite]
    by_cases c : 0 ≤ a ∧ a < L.length
    · have hn : a.toNat < L.length := by omega
      refine ⟨0, Int32.ofInt L[a.toNat], ss_I m 0 0, ?_, ?_, sy_I rfl, Or.inl ⟨rfl, rfl⟩⟩
      · rw [if_neg (by omega), if_pos (by omega), if_pos (ia_in (by omega) (by omega) (by omega)), ia_nat ha.1 ha.2, b1.2 _ hn]
      · rw [if_pos (by omega)]
        show (ff_X13_goes N m (oz true)).bind _ = _
        rw [rc_goes, Option.bind_some]
        refine (oz_bt (b := true) rfl).trans ?_
        rw [if_pos (ia_in (by omega) (by omega) (by omega)), ia_nat ha.1 ha.2]
        exact congrArg (fun q => some (q, ss_I m 0 0)) (b2.2 _ hn)
    · refine ⟨3, 0, ss_I m 0 1, ?_, ?_, sy_I rfl, Or.inr ⟨rfl, rfl⟩⟩
      · by_cases c1 : a < 0
        · rw [if_pos c1]
        · rw [if_neg c1, if_neg (by omega)]
      · rw [if_neg (by omega)]
        rfl
theorem jr_report {oh : os_T} {P : Nat → os_T} {n : Nat} {U : Nat → (Int → Int → Int) × (Int → Int → Int)} (hN : 100000 < N) (hS : sv S) (hj : jr o oh P m S T H n U) : ∃ c x2 m2, ff_X12_report N x o = some (c, x2) ∧ ff_X13_report N m = some (c, m2) ∧ jr o oh P m2 S T H n U ∧ rt x2 m2 ∧ sy k12 k1 x x2 ∧ sy (fun i => i = 0 ∨ i = 43 ∨ i = 44) k19 m m2 ∧ os_I m2 0 = 0 := by
  have hs := sv_a hS
  obtain ⟨x2, e1, b1, y1⟩ := pc_report (N := N) (x := x) (by omega) hS hj.1 hj.2.2.2.2.2.1
  obtain ⟨m2, e2, b2, z44, z0, y2⟩ := rc_report (N := N) (by omega) hS hj.2.2.1 hj.2.2.2.2.2.1
  have := al_len hS H (S 1)
  exact ⟨_, x2, m2, e1, e2, hj.sy y2 (by decide) (by decide) (by decide) (by decide) (by decide), ⟨_, by omega, b1, Or.inr ⟨z44, b2⟩⟩, y1, y2, z0⟩
end Report
