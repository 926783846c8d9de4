/-! LAYER 2. A text by a plan is read as the plan says -/
section Drafts
variable {N : Nat} {t y d : os_T} {R bl : List Nat} {S : Nat → Nat} {T : Int → Int → Int} {f2 f3 f4 f5 : Int} {r c k : Nat} {y0 t0 d0 : os_T} {n0 : Nat}
theorem md_pan (hN : 1000 < N) {P : Option (Nat × Nat)} (hP : ∀ a, P = some a → (1 ≤ a.1 ∧ a.1 ≤ 16) ∧ 1 ≤ a.2 ∧ a.2 ≤ 12) (hk : k < 800) {cs : List (List Nat)} (h : mid N n0 y0 t0 d0 k (txt k (pB P ++ cs)) 0 f3 f4 f5 0 S T) : ∃ f2, mid N n0 y0 t0 d0 (k + (pB P).length) (txt (k + (pB P).length) cs) f2 f3 f4 f5 0 (pS S P) T := by
  cases P with
  | none => exact ⟨0, h⟩
  | some a =>
    have ha := hP a rfl
    exact ⟨1, mid_s (b := bPan a.1 a.2) (R := txt (k + 1) cs) h (by omega) fun y t d bl hy hd hb ht => st_panel hN hy hd ha.1 ha.2 en_no2 hb ht⟩
theorem md_wal (hN : 1000 < N) {P : Option Nat} (hP : ∀ a, P = some a → 1 ≤ a ∧ a ≤ 4) (hk : k < 800) {cs : List (List Nat)} (h : mid N n0 y0 t0 d0 k (txt k (wB P ++ cs)) f2 f3 0 f5 r S T) : ∃ f4, mid N n0 y0 t0 d0 (k + (wB P).length) (txt (k + (wB P).length) cs) f2 f3 f4 f5 r (wS S P) T := by
  cases P with
  | none => exact ⟨0, h⟩
  | some a =>
    have ha := hP a rfl
    exact ⟨1, mid_s (b := bWal a) (R := txt (k + 1) cs) h (by omega) fun y t d bl hy hd hb ht => st_wall hN hy hd ha en_no2 hb ht⟩
theorem md_ste (hN : 1000 < N) {P : Option (Nat × Nat × Nat)} (hP : ∀ a, P = some a → (1 ≤ a.1 ∧ a.1 ≤ 20) ∧ (10 ≤ a.2.1 ∧ a.2.1 ≤ 99) ∧ a.2.2 ≤ a.1) (hk : k < 800) {cs : List (List Nat)} (h : mid N n0 y0 t0 d0 k (txt k (eB P ++ cs)) f2 0 f4 f5 r S T) : ∃ f3, mid N n0 y0 t0 d0 (k + (eB P).length) (txt (k + (eB P).length) cs) f2 f3 f4 f5 r (eS S P) T := by
  cases P with
  | none => exact ⟨0, h⟩
  | some a =>
    have ha := hP a rfl
    exact ⟨1, mid_s (b := bSte a.1 a.2.1 a.2.2) (R := txt (k + 1) cs) h (by omega) fun y t d bl hy hd hb ht => st_steps hN hy hd ha.1 ha.2.1 ha.2.2 en_no2 hb ht⟩
theorem md_slo (hN : 1000 < N) {P : Option Nat} (hP : ∀ a, P = some a → a ≤ 9) (hk : k < 800) {cs : List (List Nat)} (h : mid N n0 y0 t0 d0 k (txt k (lB P ++ cs)) f2 f3 f4 0 r S T) : ∃ f5, mid N n0 y0 t0 d0 (k + (lB P).length) (txt (k + (lB P).length) cs) f2 f3 f4 f5 r (lS S P) T := by
  cases P with
  | none => exact ⟨0, h⟩
  | some a =>
    have ha := hP a rfl
    exact ⟨1, mid_s (b := bSlo a) (R := txt (k + 1) cs) h (by omega) fun y t d bl hy hd hb ht => st_slope hN hy hd ha en_no2 hb ht⟩
theorem pB_l (P : Option (Nat × Nat)) : (pB P).length ≤ 1 := by cases P <;> simp [pB]
theorem wB_l (P : Option Nat) : (wB P).length ≤ 1 := by cases P <;> simp [wB]
theorem eB_l (P : Option (Nat × Nat × Nat)) : (eB P).length ≤ 1 := by cases P <;> simp [eB]
theorem lB_l (P : Option Nat) : (lB P).length ≤ 1 := by cases P <;> simp [lB]
theorem pn_len {P : Plan} : (pn_b P).length = (pB P.1).length + (wB P.2.1).length + P.2.2.1.length + (eB P.2.2.2.1).length + (lB P.2.2.2.2).length := by
  unfold pn_b
  rw [List.length_append, List.length_append, List.length_append, List.length_append, List.length_map]
  omega
theorem pn_tv {P : Plan} (h : pn_ok P) : tv (pn_S P) (pn_T P) := fun x y _ => q_rows_tv P.2.2.1 0 _ (fun ws hw => (h.2.2.1 ws hw).2) (fun _ _ => ⟨(by decide : (0 : Int) ≤ 255), (by decide : (255 : Int) ≤ 255)⟩) x y
theorem rd_draft (hN : 100000 < N) {P : Plan} (hP : pn_ok P) (hA : ∀ x ∈ txt 0 (pn_b P), ub_ok x) (ht : ty t (txt 0 (pn_b P)).length (cB (txt 0 (pn_b P)))) : ∃ y' t' d', ff_X7_readDraft N y t d = some (0, 1, y', t', d') ∧ os_I y' 7 = Int32.ofInt ((pn_b P).length : Int) ∧ os_I t' 10 = 0 ∧ cp d' (pn_S P) (pn_T P) (q_rd (pn_S P) (pn_T P)) := by
  have hs1 := pn_s1 hP
  have hsS := pn_sS hP
  have hs := sv_a hs1
  obtain ⟨h1, h2, h3, h4, h5, h6⟩ := id hP
  obtain ⟨d1, ed, hd1, hd2⟩ := pc_clear (N := N) (d := d)
  obtain ⟨t1, et, ht1⟩ := cu_begin (N := N) (by omega) hA ht
  have m0 : mid N 1 (ss_I (ss_I (ss_I (ss_I (ss_I (ss_I y 2 (0 : Int32)) 3 (0 : Int32)) 4 (0 : Int32)) 5 (0 : Int32)) 6 (0 : Int32)) 7 (0 : Int32)) t1 d1 0 (txt 0 (pn_b P)) 0 0 0 0 0 s_0 (fun _ _ => 255) := ⟨_, t1, d1, [], fun n => rfl, ⟨rfl, rfl, rfl, rfl, rfl, rfl⟩, ⟨hd1, hd2⟩, kdl_nil, ht1⟩
  have l1 := pB_l P.1
  have l2 := wB_l P.2.1
  have l3 := eB_l P.2.2.2.1
  have l4 := lB_l P.2.2.2.2
  obtain ⟨f2, m1⟩ := md_pan (by omega) h1 (by omega) m0
  obtain ⟨f4, m2⟩ := md_wal (by omega) h2 (by omega) m1
  have m3 := mid_rows (by omega) hs1 P.2.2.1 _ 0 _ h3 (by omega) (by omega) m2
  obtain ⟨f3, m4⟩ := md_ste (by omega) h5 (by omega) m3
  have m4' := m4
  rw [show lB P.2.2.2.2 = lB P.2.2.2.2 ++ [] from (List.append_nil _).symm] at m4'
  obtain ⟨f5, m5⟩ := md_slo (by omega) h6 (by omega) m4'
  have hlen := pn_len (P := P)
  rw [show 0 + (pB P.1).length + (wB P.2.1).length + P.2.2.1.length + (eB P.2.2.2.1).length + (lB P.2.2.2.2).length = (pn_b P).length by omega] at m5
  obtain ⟨y', t', d', bl, e, hy, hd, hb, hc⟩ := m5
  have hc : cu t' (bl ++ []) := hc
  rw [List.append_nil] at hc
  obtain ⟨e1, e10⟩ := cu_end (N := N) hc hb
  obtain ⟨d2, ed2, hcp⟩ := pc_develop (N := N) (d := d') (by omega) hsS hd.1 hd.2 (pn_tv hP)
  refine ⟨y', t', d2, ?_, hy.2.2.2.2.2, e10, hcp⟩
  unfold ff_X7_readDraft
  rw [ed, Option.bind_some, et, Option.bind_some]
  unfold ff_X7_readDraft_l46
  have en := e (N - 1 - (pn_b P).length)
  rw [show 1 + (pn_b P).length + (N - 1 - (pn_b P).length) = N by omega] at en
  rw [en, show 1 + (N - 1 - (pn_b P).length) = (N - 1 - (pn_b P).length) + 1 by omega]
  show ff_X7_readDraft_c46 N _ y' t' d' (Int32.ofInt ((pn_b P).length : Int)) = _
  unfold ff_X7_readDraft_c46 ff_X7_readDraft_b100
  rw [ii_900, ii_le (by omega) (by omega), if_neg (by omega), e1, Option.bind_some, if_neg (show ¬ ((1 : Int32) = 0) by decide), ed2, Option.bind_some]
/-- the class's readText -/
theorem rd_text (hN : 100000 < N) {P : Plan} (hP : pn_ok P) (hA : ∀ x ∈ txt 0 (pn_b P), ub_ok x) (ht : ty t (txt 0 (pn_b P)).length (cB (txt 0 (pn_b P)))) {ot o os oh rt : os_T} {Q : Nat → os_T} : ∃ ot' o' os' oh' t' rt', ff_X12_readText N ot o os os_zero t rt = some (0, Int32.ofInt ((pn_b P).length : Int), ot', o', os', oh', t', rt') ∧ jc o' oh' Q (pn_S P) (pn_T P) (q_rd (pn_S P) (pn_T P)) := by
  obtain ⟨y', t', d', e, e7, e10, hcp⟩ := rd_draft (N := N) (y := rt) (d := os) hN hP hA ht
  have hS := pn_sS hP
  have hT := pn_tv hP
  obtain ⟨o', eo, ho⟩ := pc_copy (N := N) (p := o) hS hcp
  have h0 : hc_R os_zero Q (pn_S P) 0 (fun _ => (fun _ _ => 0, fun _ _ => 0)) := ⟨Nat.zero_le _, fun i hi => absurd hi (Nat.not_lt_zero i), 0, by decide, rfl, rfl, fun i hi => absurd hi (Nat.not_lt_zero i)⟩
  obtain ⟨oh', eh, hh⟩ := pc_forget (N := N) (S' := pn_S P) (U' := fun _ => (fun _ _ => 0, fun _ _ => 0)) h0
  refine ⟨ss_I (ss_I ot 13 (os_I t' 10)) 14 (-1), o', d', oh', ss_I t' 4 0, y', ?_, ho, hT, q_vf_hv (q_fol_hv hS hT), 0, _, hh⟩
  unfold ff_X12_readText ff_X12_endText ff_X12_endText_b33
  rw [e, Option.bind_some, if_pos rfl, if_pos e10, Option.bind_some, if_neg (show ¬ ((1 : Int32) = 0) by decide)]
  simp only []
  rw [eo, Option.bind_some, eh, Option.bind_some, e7]
end Drafts
