/-! LAYER 2. A whole text is read -/
/-- what ends the statement number s -/
def en (s : Nat) : List Nat := if s % 4 = 2 then [32, 59, 10] else [59]
def txt : Nat → List (List Nat) → List Nat
  | _, [] => []
  | k, b :: bs => b ++ (en (k + 1) ++ txt (k + 1) bs)
theorem txt_app (bs cs : List (List Nat)) (k : Nat) : txt k (bs ++ cs) = txt k bs ++ txt (k + bs.length) cs := by
  induction bs generalizing k with
  | nil => rfl
  | cons b bs ih =>
    show b ++ (en (k + 1) ++ txt (k + 1) (bs ++ cs)) = b ++ (en (k + 1) ++ txt (k + 1) bs) ++ txt (k + (bs.length + 1)) cs
    rw [ih, List.append_assoc, List.append_assoc, show k + 1 + bs.length = k + (bs.length + 1) by omega]
theorem txt_snoc (bs : List (List Nat)) (b : List Nat) (k : Nat) : txt k (bs ++ [b]) = txt k bs ++ (b ++ en (k + bs.length + 1)) := by
  rw [txt_app]
  show _ ++ (b ++ (en (k + bs.length + 1) ++ [])) = _
  rw [List.append_nil]
section Reads
variable {N : Nat} {t y d : os_T} {R bl : List Nat} {S : Nat → Nat} {T : Int → Int → Int} {f2 f3 f4 f5 : Int} {r c k : Nat}
theorem en_no2 {s : Nat} {X : List Nat} : no2 (en s ++ X) := by
  unfold en
  split
  · exact Or.inr (show kd ((32 : Nat) : Int) ≠ 2 by decide)
  · exact Or.inr (show kd ((59 : Nat) : Int) ≠ 2 by decide)
theorem kdl_nil : kdl 4 [] := fun i hi => absurd hi (Nat.not_lt_zero i)
/-- one statement and its end -/
theorem rd_step (h : stR N y t d (en (k + 1) ++ R) f2 f3 f4 f5 r k S T) (hk : k < 900) : ∃ y' t' d' bl, (∀ n, os_loop (fun k46 s1 => ff_X7_readDraft_c46 N k46 s1.1 s1.2.1 s1.2.2.1 s1.2.2.2) (n + 1) (y, t, d, Int32.ofInt (k : Int)) = os_loop (fun k46 s1 => ff_X7_readDraft_c46 N k46 s1.1 s1.2.1 s1.2.2.1 s1.2.2.2) n (y', t', d', Int32.ofInt ((k + 1 : Nat) : Int))) ∧ yr y' f2 f3 f4 f5 r (k + 1) ∧ dr d' S T ∧ kdl 4 bl ∧ cu t' (bl ++ R) := by
  obtain ⟨h0, y1, t1, d1, e1, hy, hd, ht⟩ := h
  have key : ∃ t2 bl, ff_X10_takeSign N t1 (59 : Int32) = some (1, t2) ∧ kdl 4 bl ∧ cu t2 (bl ++ R) := by
    unfold en at ht
    split at ht
    · obtain ⟨t2, e2, h2⟩ := cu_sign (N := N) (bl := [32]) (R' := [10] ++ R) ht rfl k32
      refine ⟨t2, [10], e2, fun i hi => ?_, h2⟩
      have : i = 0 := by simpa using hi
      subst this
      decide
    · obtain ⟨t2, e2, h2⟩ := cu_sign (N := N) (bl := []) (R' := R) ht rfl kdl_nil
      exact ⟨t2, [], e2, kdl_nil, h2⟩
  obtain ⟨t2, bl, e2, hb, h2⟩ := key
  refine ⟨ss_I y1 7 (os_I y1 7 + 1), t2, d1, bl, fun n => ?_, ⟨hy.1, hy.2.1, hy.2.2.1, hy.2.2.2.1, hy.2.2.2.2.1, ?_⟩, hd, hb, h2⟩
  · show ff_X7_readDraft_c46 N _ y t d (Int32.ofInt (k : Int)) = _
    unfold ff_X7_readDraft_c46
    rw [ii_900, ii_le (by omega) (by omega), if_neg (by omega), h0, Option.bind_some, if_pos rfl, e1, Option.bind_some, if_pos rfl, if_neg (show ¬ ((1 : Int32) = 0) by decide)]
    simp only []
    rw [e2, Option.bind_some, if_neg (show ¬ ((1 : Int32) = 0) by decide), ii_1, ia_s]
  · show os_I y1 7 + 1 = _
    rw [hy.2.2.2.2.2, ii_1, ia_s]
/-- what is known in the midst of a text -/
def mid (N : Nat) (n0 : Nat) (y0 t0 d0 : os_T) (k : Nat) (R : List Nat) (f2 f3 f4 f5 : Int) (r : Nat) (S : Nat → Nat) (T : Int → Int → Int) : Prop := ∃ y t d bl, (∀ n, os_loop (fun k46 s1 => ff_X7_readDraft_c46 N k46 s1.1 s1.2.1 s1.2.2.1 s1.2.2.2) (n0 + k + n) (y0, t0, d0, (0 : Int32)) = os_loop (fun k46 s1 => ff_X7_readDraft_c46 N k46 s1.1 s1.2.1 s1.2.2.1 s1.2.2.2) (n0 + n) (y, t, d, Int32.ofInt (k : Int))) ∧ yr y f2 f3 f4 f5 r k ∧ dr d S T ∧ kdl 4 bl ∧ cu t (bl ++ R)
theorem mid_s {y0 t0 d0 : os_T} {n0 : Nat} {g2 g3 g4 g5 : Int} {r2 : Nat} {S2 : Nat → Nat} {T2 : Int → Int → Int} {b : List Nat} (h : mid N n0 y0 t0 d0 k (b ++ (en (k + 1) ++ R)) f2 f3 f4 f5 r S T) (hk : k < 900) (hs : ∀ y t d bl, yr y f2 f3 f4 f5 r k → dr d S T → kdl 4 bl → cu t (bl ++ (b ++ (en (k + 1) ++ R))) → stR N y t d (en (k + 1) ++ R) g2 g3 g4 g5 r2 k S2 T2) : mid N n0 y0 t0 d0 (k + 1) R g2 g3 g4 g5 r2 S2 T2 := by
  obtain ⟨y, t, d, bl, e, hy, hd, hb, ht⟩ := h
  obtain ⟨y', t', d', bl', e', hy', hd', hb', ht'⟩ := rd_step (hs y t d bl hy hd hb ht) hk
  refine ⟨y', t', d', bl', fun n => ?_, hy', hd', hb', ht'⟩
  have := e (n + 1)
  rw [show n0 + k + (n + 1) = n0 + (k + 1) + n by omega] at this
  rw [this, show n0 + (n + 1) = n0 + n + 1 from rfl]
  exact e' (n0 + n)
/-- rows, one after another -/
def q_rows (T : Int → Int → Int) (w : Nat) : Nat → List (List Nat) → Int → Int → Int
  | _, [] => T
  | r, ws :: rs => q_rows (q_row T r ws w) w (r + 1) rs
theorem mid_rows (hN : 1000 < N) (hS : sv S) {y0 t0 d0 : os_T} {n0 : Nat} {cs : List (List Nat)} : ∀ (rs : List (List Nat)) (k r : Nat) (T : Int → Int → Int), (∀ ws ∈ rs, ws.length = S 0 ∧ ∀ w ∈ ws, w ≤ 255) → r + rs.length ≤ S 1 → k + rs.length < 900 → mid N n0 y0 t0 d0 k (txt k (rs.map bRow ++ cs)) f2 f3 f4 f5 r S T → mid N n0 y0 t0 d0 (k + rs.length) (txt (k + rs.length) cs) f2 f3 f4 f5 (r + rs.length) S (q_rows T (S 0) r rs) := by
  intro rs
  induction rs with
  | nil => intro k r T _ _ _ h; exact h
  | cons ws rs ih =>
    intro k r T hw hr hk h
    have hl : (ws :: rs).length = rs.length + 1 := rfl
    rw [hl] at hr hk ⊢
    obtain ⟨w1, w2⟩ := hw ws (List.mem_cons_self ..)
    have h1 : mid N n0 y0 t0 d0 (k + 1) (txt (k + 1) (rs.map bRow ++ cs)) f2 f3 f4 f5 (r + 1) S (q_row T r ws (S 0)) :=
      mid_s (b := bRow ws) (R := txt (k + 1) (rs.map bRow ++ cs)) h (by omega) fun y t d bl hy hd hb ht => st_row hN hS hy hd w1 w2 (by omega) en_no2 hb ht
    have := ih (k + 1) (r + 1) (q_row T r ws (S 0)) (fun a ha => hw a (List.mem_cons_of_mem _ ha)) (by omega) (by omega) h1
    rw [show k + 1 + rs.length = k + (rs.length + 1) by omega, show r + 1 + rs.length = r + (rs.length + 1) by omega] at this
    exact this
/-- the plan of a text: what its statements say -/
abbrev Plan : Type := Option (Nat × Nat) × Option Nat × List (List Nat) × Option (Nat × Nat × Nat) × Option Nat
def pB (P : Option (Nat × Nat)) : List (List Nat) := match P with | none => [] | some a => [bPan a.1 a.2]
def wB (P : Option Nat) : List (List Nat) := match P with | none => [] | some a => [bWal a]
def eB (P : Option (Nat × Nat × Nat)) : List (List Nat) := match P with | none => [] | some a => [bSte a.1 a.2.1 a.2.2]
def lB (P : Option Nat) : List (List Nat) := match P with | none => [] | some a => [bSlo a]
def pS (S : Nat → Nat) (P : Option (Nat × Nat)) : Nat → Nat := match P with | none => S | some a => sS (sS S 0 a.1) 1 a.2
def wS (S : Nat → Nat) (P : Option Nat) : Nat → Nat := match P with | none => S | some a => sS S 5 a
def eS (S : Nat → Nat) (P : Option (Nat × Nat × Nat)) : Nat → Nat := match P with | none => S | some a => sS (sS (sS S 2 a.1) 3 a.2.1) 4 a.2.2
def lS (S : Nat → Nat) (P : Option Nat) : Nat → Nat := match P with | none => S | some a => sS S 6 a
def pn_b (P : Plan) : List (List Nat) := pB P.1 ++ (wB P.2.1 ++ (P.2.2.1.map bRow ++ (eB P.2.2.2.1 ++ lB P.2.2.2.2)))
def pn_1 (P : Plan) : Nat → Nat := wS (pS s_0 P.1) P.2.1
def pn_S (P : Plan) : Nat → Nat := lS (eS (pn_1 P) P.2.2.2.1) P.2.2.2.2
def pn_T (P : Plan) : Int → Int → Int := q_rows (fun _ _ => 255) (pn_1 P 0) 0 P.2.2.1
def pn_ok (P : Plan) : Prop := (∀ a, P.1 = some a → (1 ≤ a.1 ∧ a.1 ≤ 16) ∧ 1 ≤ a.2 ∧ a.2 ≤ 12) ∧ (∀ a, P.2.1 = some a → 1 ≤ a ∧ a ≤ 4) ∧ (∀ ws ∈ P.2.2.1, ws.length = pn_1 P 0 ∧ ∀ w ∈ ws, w ≤ 255) ∧ P.2.2.1.length ≤ pn_1 P 1 ∧ (∀ a, P.2.2.2.1 = some a → (1 ≤ a.1 ∧ a.1 ≤ 20) ∧ (10 ≤ a.2.1 ∧ a.2.1 ≤ 99) ∧ a.2.2 ≤ a.1) ∧ (∀ a, P.2.2.2.2 = some a → a ≤ 9)
theorem sv_s0 : sv s_0 := s_0v
theorem sv_pS {P : Option (Nat × Nat)} (hS : sv S) (h : ∀ a, P = some a → (1 ≤ a.1 ∧ a.1 ≤ 16) ∧ 1 ≤ a.2 ∧ a.2 ≤ 12) : sv (pS S P) := by
  cases P with
  | none => exact hS
  | some a =>
    have := h a rfl
    have hs := sv_a hS
    unfold sv pS sS
    simp
    omega
theorem sv_wS {P : Option Nat} (hS : sv S) (h : ∀ a, P = some a → 1 ≤ a ∧ a ≤ 4) : sv (wS S P) := by
  cases P with
  | none => exact hS
  | some a =>
    have := h a rfl
    have hs := sv_a hS
    unfold sv wS sS
    simp
    omega
theorem sv_eS {P : Option (Nat × Nat × Nat)} (hS : sv S) (h : ∀ a, P = some a → (1 ≤ a.1 ∧ a.1 ≤ 20) ∧ (10 ≤ a.2.1 ∧ a.2.1 ≤ 99) ∧ a.2.2 ≤ a.1) : sv (eS S P) := by
  cases P with
  | none => exact hS
  | some a =>
    have := h a rfl
    have hs := sv_a hS
    unfold sv eS sS
    simp
    omega
theorem sv_lS {P : Option Nat} (hS : sv S) (h : ∀ a, P = some a → a ≤ 9) : sv (lS S P) := by
  cases P with
  | none => exact hS
  | some a =>
    have := h a rfl
    have hs := sv_a hS
    unfold sv lS sS
    simp
    omega
theorem pn_s1 {P : Plan} (h : pn_ok P) : sv (pn_1 P) := sv_wS (sv_pS s_0v h.1) h.2.1
theorem pn_sS {P : Plan} (h : pn_ok P) : sv (pn_S P) := sv_lS (sv_eS (pn_s1 h) h.2.2.2.2.1) h.2.2.2.2.2
theorem q_rows_tv {w : Nat} : ∀ (rs : List (List Nat)) (r : Nat) (T : Int → Int → Int), (∀ ws ∈ rs, ∀ v ∈ ws, v ≤ 255) → (∀ x y, 0 ≤ T x y ∧ T x y ≤ 255) → ∀ x y, 0 ≤ q_rows T w r rs x y ∧ q_rows T w r rs x y ≤ 255 := by
  intro rs
  induction rs with
  | nil => intro r T _ h; exact h
  | cons ws rs ih =>
    intro r T hw h
    refine ih (r + 1) _ (fun a ha => hw a (List.mem_cons_of_mem _ ha)) fun x y => ?_
    unfold q_row
    split
    · refine ⟨Int.natCast_nonneg _, ?_⟩
      by_cases c : x.toNat < ws.length
      · rw [List.getD_eq_getElem?_getD, List.getElem?_eq_getElem c, Option.getD_some]
        have := hw ws (List.mem_cons_self ..) _ (List.getElem_mem c)
        omega
      · rw [List.getD_eq_getElem?_getD, List.getElem?_eq_none (by omega), Option.getD_none]
        decide
    · exact h x y
end Reads
