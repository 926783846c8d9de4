/-! LAYER 2. The picture grown; it is fed and read; the law holds -/
section GLaw
variable {zz : Nat → Nat → Nat} {N : Nat} {o h t b v : os_T} {S : Nat → Nat} {T G : Int → Int → Int} {L : List Nat} {k a : Nat}
theorem grown_all (hN : 1000 < N) (hzz : zz 4 1 ≤ 2147483647) : ∃ (P : Plan) (o q p s w : os_T), ff_X13_grown zz N = some (o, q, p, s, w) ∧ pn_ok P ∧ wz (pn_S P) ∧ wh o (pn_S P) ∧ wm q (pn_S P) (pn_T P) ∧ wm p (pn_S P) (q_rd (pn_S P) (pn_T P)) ∧ os_I o 7 = Int32.ofInt ((pn_b P).length : Int) ∧ us s w (txt 0 (pn_b P)) ∧ (txt 0 (pn_b P)).length ≤ 320 := by
  obtain ⟨pan, o1, b1, v1, p1, q1, e1, k1, g1, u1, n1⟩ := g_pan (N := N) hN hzz
  have lp := pB_l pan
  have kp : ∀ a, pan = some a → (1 ≤ a.1 ∧ a.1 ≤ 16) ∧ 1 ≤ a.2 ∧ a.2 ≤ 12 := fun a z => by have := k1 a z; omega
  obtain ⟨wal, o2, b2, v2, e2, k2, g2, u2, n2⟩ := g_wal (N := N) (p := p1) (q := q1) hN hzz g1 (by omega) u1 n1
  have lw := wB_l wal
  have hS1 : sv (wS (pS s_0 pan) wal) := sv_wS (sv_pS s_0v kp) k2
  have hz1 : wz (wS (pS s_0 pan) wal) := by
    have : ∀ X : Nat → Nat, wz X → wz (wS X wal) := fun X hX => by
      cases wal with
      | none => exact hX
      | some c => exact hX
    refine this _ ?_
    cases pan with
    | none => exact ⟨by decide, by decide⟩
    | some c =>
      have := k1 c rfl
      exact ⟨this.1.2, this.2.2⟩
  obtain ⟨rs, ste, o3, h3, t3, b3, v3, e3, k3, k3', k3e, g3, hm, tm, u3, n3⟩ := g_rows (N := N) (p := p1) (q := q1) hN hzz hS1 hz1 g2 (by omega) u2 n2
  have le := eB_l ste
  obtain ⟨slo, o4, b4, v4, e4, k4, g4, u4⟩ := g_slo (N := N) (p := h3) (q := t3) hN hzz g3 (by omega) (by unfold wz at hz1; omega) u3 (by omega)
  have ll := lB_l slo
  have hP : pn_ok (pan, wal, rs, ste, slo) := ⟨kp, k2, k3, k3', k3e, k4⟩
  have hS := pn_sS hP
  have hT := pn_tv hP
  have et : txt 0 (pn_b (pan, wal, rs, ste, slo)) = txt 0 (pB pan) ++ txt (pB pan).length (wB wal) ++ txt ((pB pan).length + (wB wal).length) (rs.map bRow ++ eB ste) ++ txt ((pB pan).length + (wB wal).length + rs.length + (eB ste).length) (lB slo) := by
    show txt 0 (pB pan ++ (wB wal ++ (rs.map bRow ++ (eB ste ++ lB slo)))) = _
    rw [txt_app, txt_app, ← List.append_assoc (rs.map bRow), txt_app, List.length_append, List.length_map, Nat.zero_add]
    simp only [List.append_assoc, Nat.add_assoc]
  have hsz : ∀ i, i < 2 → lS (eS (wS (pS s_0 pan) wal) ste) slo i = wS (pS s_0 pan) wal i := fun i hi => by
    have a1 : ∀ X : Nat → Nat, eS X ste i = X i := fun X => by
      cases ste with
      | none => rfl
      | some c =>
        show sS (sS (sS X 2 c.1) 3 c.2.1) 4 c.2.2 i = X i
        unfold sS
        rw [if_neg (by omega), if_neg (by omega), if_neg (by omega)]
    have a2 : ∀ X : Nat → Nat, lS X slo i = X i := fun X => by
      cases slo with
      | none => rfl
      | some c =>
        show sS X 6 c i = X i
        unfold sS
        rw [if_neg (by omega)]
    rw [a2, a1]
  have hz : wz (pn_S (pan, wal, rs, ste, slo)) := ⟨by show lS (eS (wS (pS s_0 pan) wal) ste) slo 0 ≤ 8; rw [hsz 0 (by decide)]; exact hz1.1, by show lS (eS (wS (pS s_0 pan) wal) ste) slo 1 ≤ 6; rw [hsz 1 (by decide)]; exact hz1.2⟩
  -- matrices do not see steps and slope
  have tr : ∀ (m : os_T) (F : Int → Int → Int), wm m (wS (pS s_0 pan) wal) F → wm m (pn_S (pan, wal, rs, ste, slo)) F := fun m F hmm => by
    have z0 : pn_S (pan, wal, rs, ste, slo) 0 = wS (pS s_0 pan) wal 0 := hsz 0 (by decide)
    have z1 : pn_S (pan, wal, rs, ste, slo) 1 = wS (pS s_0 pan) wal 1 := hsz 1 (by decide)
    refine ⟨by rw [z0, z1]; exact hmm.1, fun x y c => hmm.2 x y ?_⟩
    unfold ic at c ⊢
    rw [z0, z1] at c
    exact c
  obtain ⟨s, w, es, hs⟩ := ub_str (N := N) u4
  obtain ⟨p', ep, hp'⟩ := wc_relights (N := N) hN hS g4.1 (tr _ _ tm) hT (tr _ _ hm)
  refine ⟨(pan, wal, rs, ste, slo), o4, t3, p', s, w, ?_, hP, hz, g4.1, tr _ _ tm, hp', ?_, by rw [et]; exact hs, ?_⟩
  · rw [e1, e2, e3, e4]
    unfold ff_X13_grown_b405
    rw [es, Option.bind_some]
    have ep' : ff_X13_relights N o4 t3 h3 = some p' := ep
    rw [ep', Option.bind_some]
  · rw [g4.2.1, pn_len]
  · have ls : (txt ((pB pan).length + (wB wal).length + rs.length + (eB ste).length) (lB slo)).length ≤ 20 := by
      cases slo with
      | none => show ([] : List Nat).length ≤ 20; simp
      | some c =>
        have hc := k4 c rfl
        show (bSlo c ++ (en _ ++ [])).length ≤ 20
        have h1 := en_len ((pB pan).length + (wB wal).length + rs.length + (eB ste).length + 1)
        have h2 := dg_1 (n := c) (by omega)
        have h3 := (lw_all 3 (by decide)).2.2.1
        unfold bSlo
        simp only [List.length_append, List.length_nil, List.length_singleton, h2]
        omega
    rw [et, List.length_append]
    omega
end GLaw
