/-! LAYER 2. The rows of the picture that grows; the picture itself -/
section GRows
variable {zz : Nat → Nat → Nat} {N : Nat} {o h t b v : os_T} {S : Nat → Nat} {T G : Int → Int → Int} {L : List Nat} {k a : Nat}
theorem bRo_app (ws us : List Nat) : bRo (ws ++ us) = bRo ws ++ bRo us := by
  induction ws with
  | nil => rfl
  | cons w ws ih =>
    show [32] ++ (dg w ++ bRo (ws ++ us)) = [32] ++ (dg w ++ bRo ws) ++ bRo us
    rw [ih, List.append_assoc, List.append_assoc]
theorem bRo_snoc (ws : List Nat) (w : Nat) : bRo (ws ++ [w]) = bRo ws ++ ([32] ++ dg w) := by
  rw [bRo_app]
  show _ ++ ([32] ++ (dg w ++ [])) = _
  rw [List.append_nil]
theorem q_row_n {ws : List Nat} {w y x : Nat} (hx : ws.length = x) : hu (q_row G y ws x) x y (w : Int) = q_row G y (ws ++ [w]) (x + 1) := by
  funext c d
  unfold hu q_row
  by_cases e : c = x ∧ d = y
  · rw [if_pos e, if_pos ⟨e.2, by omega, by omega⟩, e.1, Int.toNat_natCast, getD_app2 (by omega), hx, Nat.sub_self]; rfl
  · rw [if_neg e]
    by_cases e2 : d = y ∧ 0 ≤ c ∧ c < x
    · rw [if_pos e2, if_pos ⟨e2.1, e2.2.1, by omega⟩, getD_app1 (by omega)]
    · rw [if_neg e2, if_neg (fun z => e2 ⟨z.1, z.2.1, by
        have : c ≠ x := fun q => e ⟨q, z.1⟩
        omega⟩)]
theorem q_row_0 {y : Nat} : q_row G y [] 0 = G := by
  funext c d
  unfold q_row
  exact if_neg (by omega)
theorem q_rows_snoc (w : Nat) (ws : List Nat) : ∀ (rs : List (List Nat)) (r : Nat) (T : Int → Int → Int), q_rows T w r (rs ++ [ws]) = q_row (q_rows T w r rs) (r + rs.length) ws w := by
  intro rs
  induction rs with
  | nil => intro r T; rfl
  | cons u rs ih =>
    intro r T
    show q_rows (q_row T r u w) w (r + 1) (rs ++ [ws]) = q_row (q_rows (q_row T r u w) w (r + 1) rs) (r + (rs.length + 1)) ws w
    rw [ih, show r + 1 + rs.length = r + (rs.length + 1) by omega]
theorem q_rows_out {w : Nat} {c d : Int} : ∀ (rs : List (List Nat)) (r : Nat) (T : Int → Int → Int), (r : Int) + rs.length ≤ d → q_rows T w r rs c d = T c d := by
  intro rs
  induction rs with
  | nil => intro r T _; rfl
  | cons u rs ih =>
    intro r T h
    have hl : (u :: rs).length = rs.length + 1 := rfl
    rw [hl] at h
    show q_rows (q_row T r u w) w (r + 1) rs c d = T c d
    rw [ih (r + 1) _ (by omega)]
    unfold q_row
    exact if_neg (by omega)
/-- the cells of one row; with text where the row is written -/
theorem g_cells (hN : 1000 < N) (hzz : zz 4 1 ≤ 2147483647) (hS : sv S) (hz : wz S) {rows y : Nat} (hy : y < S 1) (hrows : rows ≤ S 1) (hg : gx o k a S) (ha : a ≤ 1000) (hk : k ≤ 100) (ht : wm t S G) (hb : ub b v L) (hL : L.length ≤ 252) : ∃ (ws : List Nat) (o' t' b' v' : os_T), (∀ K, ff_X13_grown_l195 zz N K 10 (o, h, t, b, v, Int32.ofInt (rows : Int), Int32.ofInt (y : Int), (0 : Int32)) = K (o', h, t', b', v', Int32.ofInt (rows : Int), Int32.ofInt ((y + 1 : Nat) : Int))) ∧ ws.length = S 0 ∧ (∀ w ∈ ws, w ≤ 255) ∧ (¬ y < rows → ∀ w ∈ ws, w = 255) ∧ gx o' (if y < rows then k + 1 else k) (a + 8) S ∧ wm t' S (q_row G y ws (S 0)) ∧ ub b' v' (if y < rows then L ++ bRo ws ++ en (k + 1) else L) ∧ (bRo ws).length ≤ 32 := by
  have hs := sv_a hS
  obtain ⟨z0, z1⟩ := id hz
  have key := lo_cntP (K := (os_T × os_T × os_T × os_T × os_T × Int32 × Int32) → Option (os_T × os_T × os_T × os_T × os_T)) (step := fun K k195 s1 => ff_X13_grown_c195 zz N K k195 s1.1 s1.2.1 s1.2.2.1 s1.2.2.2.1 s1.2.2.2.2.1 s1.2.2.2.2.2.1 s1.2.2.2.2.2.2.1 s1.2.2.2.2.2.2.2) (N := 10) (fun K (s : (os_T × os_T × os_T × os_T)) => K (s.1, h, s.2.1, s.2.2.1, s.2.2.2, Int32.ofInt (rows : Int), Int32.ofInt ((y + 1 : Nat) : Int))) (fun (x : Nat) s => ∃ (ws : List Nat) (o' t' b' v' : os_T), s = (o', h, t', b', v', Int32.ofInt (rows : Int), Int32.ofInt (y : Int), Int32.ofInt (x : Int)) ∧ ws.length = x ∧ (∀ w ∈ ws, w ≤ 255) ∧ (¬ y < rows → ∀ w ∈ ws, w = 255) ∧ gx o' k (a + x) S ∧ wm t' S (q_row G y ws x) ∧ ub b' v' (if y < rows then L ++ bRo ws else L) ∧ (bRo ws).length ≤ 4 * x) (fun s => ∃ ws : List Nat, ws.length = S 0 ∧ (∀ w ∈ ws, w ≤ 255) ∧ (¬ y < rows → ∀ w ∈ ws, w = 255) ∧ gx s.1 (if y < rows then k + 1 else k) (a + 8) S ∧ wm s.2.1 S (q_row G y ws (S 0)) ∧ ub s.2.2.1 s.2.2.2 (if y < rows then L ++ bRo ws ++ en (k + 1) else L) ∧ (bRo ws).length ≤ 32) (S 0) ?_ ?_ (by omega) (s := (o, h, t, b, v, Int32.ofInt (rows : Int), Int32.ofInt (y : Int), (0 : Int32))) ⟨[], o, t, b, v, rfl, rfl, fun w hw => (by cases hw), fun _ w hw => (by cases hw), hg, by rw [q_row_0]; exact ht, by
    show ub b v (if y < rows then L ++ [] else L)
    rw [List.append_nil]
    split <;> exact hb, Nat.le_refl _⟩
  · obtain ⟨⟨o', t', b', v'⟩, ⟨ws, p1, p2, p3, p4, p5, p6, p7⟩, e⟩ := key
    exact ⟨ws, o', t', b', v', e, p1, p2, p3, p4, p5, p6, p7⟩
  · rintro x s hx ⟨ws, o', t', b', v', rfl, p1, p2, p3, p4, p5, p6, p7⟩
    have hc : ic S (x : Int) (y : Int) := ic_n hx hy
    obtain ⟨k1, k2, k3, k4⟩ := wg hS p5 hc
    have rle : (Int32.ofInt (rows : Int) ≤ Int32.ofInt (y : Int)) = (rows ≤ y) := by rw [ia_le (by omega) (by omega) (by omega) (by omega)]; exact propext (by omega)
    by_cases cr : y < rows
    · rw [if_pos cr] at p6
      obtain ⟨w, o2, e2, hg2, hw⟩ := gx_next (N := N) (n := 256) hzz p4 (by omega) (by omega) (by omega)
      have e2 : ff_X13_next zz N o' (256 : Int32) = some (Int32.ofInt (w : Int), o2) := e2
      have hll : (L ++ bRo ws).length ≤ 252 + 32 := by rw [List.length_append]; omega
      obtain ⟨b2, v2, f2, hb2⟩ := ub_sp (N := N) p6 (by omega)
      have h2 := wm_hu hS p5 hc (v := (w : Int))
      obtain ⟨m1, m2, m3, m4⟩ := wg hS h2 hc
      rw [hu_at] at m4
      obtain ⟨b3, v3, f3, hb3⟩ := ub_num (N := N) (n := w) hN hb2 (by omega) (by rw [List.length_append]; simp; omega)
      have d3 := (dg_ok (n := w) (by omega)).2.2
      refine ⟨_, ⟨ws ++ [w], o2, _, b3, v3, rfl, by rw [List.length_append, p1]; rfl, fun u hu => ?_, fun z => absurd cr z, hg2, by rw [← q_row_n p1]; exact h2, ?_, ?_⟩, fun K r => ?_⟩
      · rcases List.mem_append.mp hu with z | z
        · exact p2 u z
        · have : u = w := by simpa using z
          omega
      · rw [if_pos cr, bRo_snoc]
        rw [List.append_assoc, List.append_assoc] at hb3
        exact hb3
      · rw [bRo_snoc, List.length_append, List.length_append]
        simp only [List.length_singleton]
        omega
      · show ff_X13_grown_c195 zz N K r o' h t' b' v' (Int32.ofInt (rows : Int)) (Int32.ofInt (y : Int)) (Int32.ofInt (x : Int)) = _
        unfold ff_X13_grown_c195 ff_X13_grown_b232 ff_X13_grown_b259
        simp only [rle]
        simp only [ww_w hS p4.1 hx, k1, k2, k3, m1, m2, m3, m4, e2, f2, f3, Option.bind_some, if_true, if_false]
        rw [if_neg (by omega), if_neg (by omega), ii_1, ia_s]
    · rw [if_neg cr] at p6
      have h2 := wm_hu hS p5 hc (v := ((255 : Nat) : Int))
      refine ⟨_, ⟨ws ++ [255], o', _, b', v', rfl, by rw [List.length_append, p1]; rfl, fun u hu => ?_, fun z u hu => ?_, gx_up p4 (by omega), by rw [← q_row_n p1]; exact h2, by rw [if_neg cr]; exact p6, ?_⟩, fun K r => ?_⟩
      · rcases List.mem_append.mp hu with z | z
        · exact p2 u z
        · have : u = 255 := by simpa using z
          omega
      · rcases List.mem_append.mp hu with z2 | z2
        · exact p3 z u z2
        · simpa using z2
      · have d3 := (dg_ok (n := 255) (by omega)).2.2
        rw [bRo_snoc, List.length_append, List.length_append]
        simp only [List.length_singleton]
        omega
      · show ff_X13_grown_c195 zz N K r o' h t' b' v' (Int32.ofInt (rows : Int)) (Int32.ofInt (y : Int)) (Int32.ofInt (x : Int)) = _
        unfold ff_X13_grown_c195 ff_X13_grown_b232 ff_X13_grown_b259
        simp only [rle]
        simp only [ww_w hS p4.1 hx, k1, k2, k3, if_true, if_false]
        rw [if_pos (by omega), if_pos (by omega), ii_1, ia_s]
        rfl
  · rintro s ⟨ws, o', t', b', v', rfl, p1, p2, p3, p4, p5, p6, p7⟩
    have rle : (Int32.ofInt (rows : Int) ≤ Int32.ofInt (y : Int)) = (rows ≤ y) := by rw [ia_le (by omega) (by omega) (by omega) (by omega)]; exact propext (by omega)
    by_cases cr : y < rows
    · rw [if_pos cr] at p6
      obtain ⟨o2, b2, v2, f2, hg2, hb2⟩ := gx_end (N := N) p4 (by omega) p6 (by rw [List.length_append]; omega)
      refine ⟨(o2, t', b2, v2), ⟨ws, p1, p2, p3, by rw [if_pos cr]; exact gx_up hg2 (by omega), p5, by rw [if_pos cr]; exact hb2, by omega⟩, fun K r => ?_⟩
      show ff_X13_grown_c195 zz N K r o' h t' b' v' (Int32.ofInt (rows : Int)) (Int32.ofInt (y : Int)) (Int32.ofInt (S 0 : Int)) = _
      unfold ff_X13_grown_c195 ff_X13_grown_b276
      simp only [rle]
      simp only [ww_W p4.1, if_true]
      rw [if_neg (by omega), f2, Option.bind_some, ii_1, ia_s]
    · rw [if_neg cr] at p6
      refine ⟨(o', t', b', v'), ⟨ws, p1, p2, p3, by rw [if_neg cr]; exact gx_up p4 (by omega), p5, by rw [if_neg cr]; exact p6, by omega⟩, fun K r => ?_⟩
      show ff_X13_grown_c195 zz N K r o' h t' b' v' (Int32.ofInt (rows : Int)) (Int32.ofInt (y : Int)) (Int32.ofInt (S 0 : Int)) = _
      unfold ff_X13_grown_c195 ff_X13_grown_b276
      simp only [rle]
      simp only [ww_W p4.1, if_true]
      rw [if_pos (by omega), ii_1, ia_s]
/-- the steps' statement, behind the rows -/
theorem g_ste (hN : 1000 < N) (hzz : zz 4 1 ≤ 2147483647) (hS : sv S) (hg : gx o k a S) (ha : a ≤ 1000) (hk : k ≤ 100) (hb : ub b v L) (hL : L.length ≤ 260) {K : _ → Option (os_T × os_T × os_T × os_T × os_T)} {x3 : Int32} : ∃ (ste : Option (Nat × Nat × Nat)) (o' b' v' : os_T), ff_X13_grown_c170 zz N K o h t b v x3 (Int32.ofInt (S 1 : Int)) = ff_X13_grown_b374 zz N o' h t b' v' ∧ (∀ a, ste = some a → (1 ≤ a.1 ∧ a.1 ≤ 20) ∧ (10 ≤ a.2.1 ∧ a.2.1 ≤ 99) ∧ a.2.2 ≤ a.1) ∧ gx o' (k + (eB ste).length) (a + 4) (eS S ste) ∧ ub b' v' (L ++ txt k (eB ste)) ∧ (L ++ txt k (eB ste)).length ≤ L.length + 30 := by
  have hs := sv_a hS
  obtain ⟨-, -, -, -, ll14, ll15, ll16, -⟩ := lens
  obtain ⟨r, o1, e1, hg1, hr⟩ := gx_next (N := N) (n := 2) hzz hg (by omega) (by omega) (by omega)
  have e1 : ff_X13_next zz N o (2 : Int32) = some (Int32.ofInt (r : Int), o1) := e1
  unfold ff_X13_grown_c170
  simp only [ww_R hg.1, if_true]
  rw [e1, Option.bind_some]
  simp only [i0_eq (show ib (r : Int) by omega)]
  by_cases c : (r : Int) = 0
  · rw [if_pos c]
    obtain ⟨A, o2, e2, hg2, hA⟩ := gx_next (N := N) (n := 20) hzz hg1 (by omega) (by omega) (by omega)
    have e2 : ff_X13_next zz N o1 (20 : Int32) = some (Int32.ofInt (A : Int), o2) := e2
    have hg2' := gx_set (i := 2) (n := 1 + A) hg2 (by decide)
    obtain ⟨B, o3, e3, hg3, hB⟩ := gx_next (N := N) (n := 60) hzz hg2' (by omega) (by omega) (by omega)
    have e3 : ff_X13_next zz N (ss_I o2 2 (Int32.ofInt ((1 + A : Nat) : Int))) (60 : Int32) = some (Int32.ofInt (B : Int), o3) := e3
    have hg3' := gx_set (i := 3) (n := 40 + B) hg3 (by decide)
    have e40 : (40 : Int32) + Int32.ofInt (B : Int) = Int32.ofInt ((40 + B : Nat) : Int) := by rw [show (40 : Int32) = Int32.ofInt 40 from rfl, ia_add]; rfl
    have i2 : os_I o3 2 = Int32.ofInt ((1 + A : Nat) : Int) := hg3.1 2 (by decide)
    have emin : (if os_I o3 2 + (1 : Int32) < (4 : Int32) then os_I o3 2 + (1 : Int32) else (4 : Int32)) = Int32.ofInt ((min 4 (2 + A) : Nat) : Int) := by
      rw [i2, ii_1, ia_s, show (4 : Int32) = Int32.ofInt 4 from rfl, ii_lt (by omega) (by omega)]
      by_cases c4 : ((1 + A + 1 : Nat) : Int) < 4
      · rw [if_pos c4]; congr 1; omega
      · rw [if_neg c4]; congr 1; omega
    obtain ⟨E, o4, e4, hg4, hE⟩ := gx_next (N := N) (n := ((min 4 (2 + A) : Nat) : Int)) hzz hg3' (by omega) (by omega) (by omega)
    have i42 : os_I o4 2 = Int32.ofInt ((1 + A : Nat) : Int) := hg4.1 2 (by decide)
    have i43 : os_I o4 3 = Int32.ofInt ((40 + B : Nat) : Int) := hg4.1 3 (by decide)
    have hg4' := gx_set (i := 4) (n := E) hg4 (by decide)
    have dA := dg_2 (n := 1 + A) (by omega)
    have dB := dg_2 (n := 40 + B) (by omega)
    have dE := dg_1 (n := E) (by omega)
    obtain ⟨b1, v1, f1, hb1⟩ := ub_lit (N := N) hb (k := 14) (by decide) (by decide) (by omega)
    obtain ⟨b2, v2, f2, hb2⟩ := ub_num (N := N) (n := 1 + A) hN hb1 (by omega) (by rw [List.length_append, ll14]; omega)
    obtain ⟨b3, v3, f3, hb3⟩ := ub_lit (N := N) hb2 (k := 15) (by decide) (by decide) (by rw [List.length_append, List.length_append, ll14]; omega)
    obtain ⟨b4, v4, f4, hb4⟩ := ub_num (N := N) (n := 40 + B) hN hb3 (by omega) (by rw [List.length_append, List.length_append, List.length_append, ll14, ll15]; omega)
    obtain ⟨b5, v5, f5, hb5⟩ := ub_lit (N := N) hb4 (k := 16) (by decide) (by decide) (by rw [List.length_append, List.length_append, List.length_append, List.length_append, ll14, ll15]; omega)
    obtain ⟨b6, v6, f6, hb6⟩ := ub_num (N := N) (n := E) hN hb5 (by omega) (by rw [List.length_append, List.length_append, List.length_append, List.length_append, List.length_append, ll14, ll15, ll16]; omega)
    obtain ⟨o5, b7, v7, f7, hg7, hb7⟩ := gx_end (N := N) hg4' (by omega) hb6 (by rw [List.length_append, List.length_append, List.length_append, List.length_append, List.length_append, List.length_append, ll14, ll15, ll16]; omega)
    have et : L ++ txt k (eB (some (1 + A, 40 + B, E))) = L ++ lt_b 14 ++ dg (1 + A) ++ lt_b 15 ++ dg (40 + B) ++ lt_b 16 ++ dg E ++ en (k + 1) := by
      show L ++ (bSte (1 + A) (40 + B) E ++ (en (k + 1) ++ [])) = _
      unfold bSte
      rw [l14, l15, l16]
      simp only [List.append_assoc, List.append_nil]
    refine ⟨some (1 + A, 40 + B, E), o5, b7, v7, ?_, fun a z => ?_, gx_up hg7 (by omega), by rw [et]; exact hb7, ?_⟩
    · rw [e2, Option.bind_some, ia_1]
      simp only []
      rw [e3, Option.bind_some]
      simp only []
      rw [e40, emin, e4, Option.bind_some, f1, Option.bind_some]
      simp only []
      rw [i42, f2, Option.bind_some]
      simp only []
      rw [f3, Option.bind_some]
      simp only []
      rw [i43, f4, Option.bind_some]
      simp only []
      rw [f5, Option.bind_some]
      simp only []
      rw [f6, Option.bind_some]
      simp only []
      rw [f7, Option.bind_some]
    · cases z
      exact ⟨⟨by show 1 ≤ 1 + A; omega, by show 1 + A ≤ 20; omega⟩, ⟨by show 10 ≤ 40 + B; omega, by show 40 + B ≤ 99; omega⟩, by show E ≤ 1 + A; omega⟩
    · have := en_len (k + 1)
      rw [et]
      simp only [List.length_append, ll14, ll15, ll16, dE]
      omega
  · rw [if_neg c]
    refine ⟨none, o1, b, v, rfl, fun a z => (by cases z), gx_up hg1 (by omega), ?_, ?_⟩
    · show ub b v (L ++ [])
      rw [List.append_nil]; exact hb
    · show (L ++ []).length ≤ _
      rw [List.append_nil]; omega
theorem map_snoc {rs : List (List Nat)} {ws : List Nat} : (rs ++ [ws]).map bRow = rs.map bRow ++ [bRow ws] := by rw [List.map_append]; rfl
/-- all rows -/
theorem g_rows (hN : 1000 < N) (hzz : zz 4 1 ≤ 2147483647) (hS : sv S) (hz : wz S) (hg : gx o k 5 S) (hk : k ≤ 10) (hb : ub b v L) (hL : L.length ≤ 21) {p q : os_T} : ∃ (rs : List (List Nat)) (ste : Option (Nat × Nat × Nat)) (o' h' t' b' v' : os_T), ff_X13_grown_b109 zz N o p q b v = ff_X13_grown_b374 zz N o' h' t' b' v' ∧ (∀ ws ∈ rs, ws.length = S 0 ∧ ∀ w ∈ ws, w ≤ 255) ∧ rs.length ≤ S 1 ∧ (∀ a, ste = some a → (1 ≤ a.1 ∧ a.1 ≤ 20) ∧ (10 ≤ a.2.1 ∧ a.2.1 ≤ 99) ∧ a.2.2 ≤ a.1) ∧ gx o' (k + rs.length + (eB ste).length) 100 (eS S ste) ∧ wm h' S (fun _ _ => 0) ∧ wm t' S (q_rows (fun _ _ => 255) (S 0) 0 rs) ∧ ub b' v' (L ++ txt k (rs.map bRow ++ eB ste)) ∧ (L ++ txt k (rs.map bRow ++ eB ste)).length ≤ 290 := by
  have hs := sv_a hS
  obtain ⟨z0, z1⟩ := id hz
  obtain ⟨-, -, -, ll13, -⟩ := lens
  have g : ((¬ os_I o 1 < 0 ∧ ¬ os_I o 0 < 0) ∧ Int32.toNatClampNeg (os_I o 1) ≤ 8 ∧ Int32.toNatClampNeg (os_I o 0) ≤ 8) = True := by
    rw [hg.1 1 (by decide), hg.1 0 (by decide), i0_lt (by omega), i0_lt (by omega), ia_nat (by omega) (by omega), ia_nat (by omega) (by omega)]
    exact eq_true (by omega)
  have hM : wm (ss_I (ss_I (ss_I os_zero 0 (os_I o 1)) 1 (os_I o 0)) 2 (os_I o 1)) S (fun _ _ => 0) := ⟨⟨hg.1 1 (by decide), hg.1 0 (by decide), hg.1 1 (by decide)⟩, fun x y c => rfl⟩
  generalize hMe : ss_I (ss_I (ss_I os_zero 0 (os_I o 1)) 1 (os_I o 0)) 2 (os_I o 1) = M at hM
  -- how many rows are written
  have nr : ∃ (rows : Nat) (o2 : os_T), rows ≤ S 1 ∧ gx o2 k 7 S ∧ ((ff_X13_next zz N o (3 : Int32)).bind fun u_55 => (if u_55.1 = 0 then ((ff_X13_next zz N u_55.2 ((os_I u_55.2 1) + (1 : Int32))).bind fun u_58 => ff_X13_grown_b166 zz N u_58.2 M M b v u_58.1) else ff_X13_grown_b166 zz N u_55.2 M M b v (os_I u_55.2 1))) = ff_X13_grown_b166 zz N o2 M M b v (Int32.ofInt (rows : Int)) := by
    obtain ⟨r, o1, e1, hg1, hr⟩ := gx_next (N := N) (n := 3) hzz hg (by omega) (by omega) (by omega)
    have e1 : ff_X13_next zz N o (3 : Int32) = some (Int32.ofInt (r : Int), o1) := e1
    rw [e1, Option.bind_some]
    simp only [i0_eq (show ib (r : Int) by omega)]
    by_cases c : (r : Int) = 0
    · rw [if_pos c]
      obtain ⟨w, o2, e2, hg2, hw⟩ := gx_next (N := N) (n := ((S 1 + 1 : Nat) : Int)) hzz hg1 (by omega) (by omega) (by omega)
      refine ⟨w, o2, by omega, hg2, ?_⟩
      rw [hg1.1 1 (by decide), ii_1, ia_s, e2, Option.bind_some]
    · rw [if_neg c]
      refine ⟨S 1, o1, Nat.le_refl _, gx_up hg1 (by omega), ?_⟩
      rw [hg1.1 1 (by decide)]
  obtain ⟨rows, o2, hrows, hg2, enr⟩ := nr
  have key : ∃ v', (∃ (rs : List (List Nat)) (ste : Option (Nat × Nat × Nat)) (o' h' t' b' v2 : os_T), v' = ff_X13_grown_b374 zz N o' h' t' b' v2 ∧ (∀ ws ∈ rs, ws.length = S 0 ∧ ∀ w ∈ ws, w ≤ 255) ∧ rs.length ≤ S 1 ∧ (∀ a, ste = some a → (1 ≤ a.1 ∧ a.1 ≤ 20) ∧ (10 ≤ a.2.1 ∧ a.2.1 ≤ 99) ∧ a.2.2 ≤ a.1) ∧ gx o' (k + rs.length + (eB ste).length) 100 (eS S ste) ∧ wm h' S (fun _ _ => 0) ∧ wm t' S (q_rows (fun _ _ => 255) (S 0) 0 rs) ∧ ub b' v2 (L ++ txt k (rs.map bRow ++ eB ste)) ∧ (L ++ txt k (rs.map bRow ++ eB ste)).length ≤ 290) ∧ ff_X13_grown_l170 zz N 8 (o2, M, M, b, v, Int32.ofInt (rows : Int), Int32.ofInt ((0 : Nat) : Int)) = v' := by
    unfold ff_X13_grown_l170
    refine lo_cnt (N := 8) (step := fun k170 s1 => ff_X13_grown_c170 zz N k170 s1.1 s1.2.1 s1.2.2.1 s1.2.2.2.1 s1.2.2.2.2.1 s1.2.2.2.2.2.1 s1.2.2.2.2.2.2) (fun (y : Nat) s => ∃ (rs : List (List Nat)) (o' t' b' v' : os_T) (G : Int → Int → Int), s = (o', M, t', b', v', Int32.ofInt (rows : Int), Int32.ofInt (y : Int)) ∧ rs.length = min y rows ∧ (∀ ws ∈ rs, ws.length = S 0 ∧ ∀ w ∈ ws, w ≤ 255) ∧ gx o' (k + rs.length) (7 + 8 * y) S ∧ wm t' S G ∧ (∀ c d, ic S c d → d < y → G c d = q_rows (fun _ _ => 255) (S 0) 0 rs c d) ∧ ub b' v' (L ++ txt k (rs.map bRow)) ∧ (L ++ txt k (rs.map bRow)).length ≤ 21 + 38 * y) (fun v' => ∃ (rs : List (List Nat)) (ste : Option (Nat × Nat × Nat)) (o' h' t' b' v2 : os_T), v' = ff_X13_grown_b374 zz N o' h' t' b' v2 ∧ (∀ ws ∈ rs, ws.length = S 0 ∧ ∀ w ∈ ws, w ≤ 255) ∧ rs.length ≤ S 1 ∧ (∀ a, ste = some a → (1 ≤ a.1 ∧ a.1 ≤ 20) ∧ (10 ≤ a.2.1 ∧ a.2.1 ≤ 99) ∧ a.2.2 ≤ a.1) ∧ gx o' (k + rs.length + (eB ste).length) 100 (eS S ste) ∧ wm h' S (fun _ _ => 0) ∧ wm t' S (q_rows (fun _ _ => 255) (S 0) 0 rs) ∧ ub b' v2 (L ++ txt k (rs.map bRow ++ eB ste)) ∧ (L ++ txt k (rs.map bRow ++ eB ste)).length ≤ 290) (S 1) ?_ ?_ (by omega) ⟨[], o2, M, b, v, fun _ _ => 0, rfl, by simp, fun ws hw => (by cases hw), hg2, hM, fun c d e z => by unfold ic at e; omega, by show ub b v (L ++ []); rw [List.append_nil]; exact hb, by show (L ++ []).length ≤ _; rw [List.append_nil]; omega⟩
    · rintro y s hy ⟨rs, o', t', b', v', G, rfl, p1, p2, p3, p4, p5, p6, p7⟩
      have rle : (Int32.ofInt (rows : Int) ≤ Int32.ofInt (y : Int)) = (rows ≤ y) := by rw [ia_le (by omega) (by omega) (by omega) (by omega)]; exact propext (by omega)
      by_cases cr : y < rows
      · obtain ⟨b1, v1, f1, hb1⟩ := ub_lit (N := N) p6 (k := 13) (by decide) (by decide) (by omega)
        obtain ⟨ws, o3, t3, b3, v3, e, c1, c2, c3, c4, c5, c6, c7⟩ := g_cells (N := N) (h := M) (rows := rows) hN hzz hS hz hy hrows p3 (by omega) (by omega) p4 hb1 (by rw [List.length_append, ll13]; omega)
        rw [if_pos cr] at c4 c6
        have et : L ++ txt k ((rs ++ [ws]).map bRow) = L ++ txt k (rs.map bRow) ++ lt_b 13 ++ bRo ws ++ en (k + rs.length + 1) := by
          rw [map_snoc, txt_snoc, List.length_map]
          unfold bRow
          rw [l13]
          simp only [List.append_assoc]
        refine ⟨_, ⟨rs ++ [ws], o3, t3, b3, v3, q_row G y ws (S 0), rfl, by rw [List.length_append, p1]; simp; omega, fun u hu => ?_, by rw [List.length_append]; exact gx_up c4 (by omega), c5, fun c d hc hd => ?_, by rw [et]; exact c6, ?_⟩, fun K => ?_⟩
        · rcases List.mem_append.mp hu with z | z
          · exact p2 u z
          · have : u = ws := by simpa using z
            subst this
            exact ⟨c1, c2⟩
        · rw [q_rows_snoc, Nat.zero_add, p1, show min y rows = y by omega]
          unfold q_row
          by_cases ed : d = y ∧ 0 ≤ c ∧ c < (S 0 : Nat)
          · rw [if_pos ed, if_pos ed]
          · rw [if_neg ed, if_neg ed]
            exact p5 c d hc (by unfold ic at hc; omega)
        · have := en_len (k + rs.length + 1)
          rw [et]
          simp only [List.length_append, ll13] at p7 ⊢
          omega
        · show ff_X13_grown_c170 zz N K o' M t' b' v' (Int32.ofInt (rows : Int)) (Int32.ofInt (y : Int)) = _
          unfold ff_X13_grown_c170 ff_X13_grown_b192
          simp only [rle]
          simp only [ww_r hS p3.1 hy, if_false]
          rw [if_neg (by omega), f1, Option.bind_some]
          exact e K
      · obtain ⟨ws, o3, t3, b3, v3, e, c1, c2, c3, c4, c5, c6, c7⟩ := g_cells (N := N) (h := M) (rows := rows) hN hzz hS hz hy hrows p3 (by omega) (by omega) p4 p6 (by omega)
        rw [if_neg cr] at c4 c6
        refine ⟨_, ⟨rs, o3, t3, b3, v3, q_row G y ws (S 0), rfl, by omega, p2, gx_up c4 (by omega), c5, fun c d hc hd => ?_, c6, by omega⟩, fun K => ?_⟩
        · unfold q_row
          by_cases ed : d = y ∧ 0 ≤ c ∧ c < (S 0 : Nat)
          · rw [if_pos ed, q_rows_out rs 0 _ (by omega)]
            have hl : c.toNat < ws.length := by omega
            rw [List.getD_eq_getElem?_getD, List.getElem?_eq_getElem hl, Option.getD_some, c3 cr _ (List.getElem_mem hl)]
            rfl
          · rw [if_neg ed]
            exact p5 c d hc (by unfold ic at hc; omega)
        · show ff_X13_grown_c170 zz N K o' M t' b' v' (Int32.ofInt (rows : Int)) (Int32.ofInt (y : Int)) = _
          unfold ff_X13_grown_c170 ff_X13_grown_b192
          simp only [rle]
          simp only [ww_r hS p3.1 hy, if_false]
          rw [if_pos (by omega)]
          exact e K
    · rintro s ⟨rs, o', t', b', v', G, rfl, p1, p2, p3, p4, p5, p6, p7⟩
      obtain ⟨ste, o3, b3, v3, ee⟩ := g_ste (N := N) (h := M) (t := t') (x3 := Int32.ofInt (rows : Int)) hN hzz hS p3 (by omega) (by omega) p6 (by omega) (K := fun _ => none)
      have et : L ++ txt k (rs.map bRow ++ eB ste) = L ++ txt k (rs.map bRow) ++ txt (k + rs.length) (eB ste) := by rw [txt_app, List.length_map, List.append_assoc]
      refine ⟨ff_X13_grown_b374 zz N o3 M t' b3 v3, ⟨rs, ste, o3, M, t', b3, v3, rfl, p2, by omega, ee.2.1, gx_up ee.2.2.1 (by omega), hM, p4.cg fun c d hc => p5 c d hc hc.2.2.2, by rw [et]; exact ee.2.2.2.1, by rw [et]; have := ee.2.2.2.2; omega⟩, fun K => ?_⟩
      refine Eq.trans ?_ ee.1
      show ff_X13_grown_c170 zz N K o' M t' b' v' (Int32.ofInt (rows : Int)) (Int32.ofInt (S 1 : Int)) = _
      unfold ff_X13_grown_c170
      simp only [ww_R p3.1, if_true]
  obtain ⟨v', ⟨rs, ste, o', h', t', b', v2, rfl, r1, r2, r3, r4, r5, r6, r7, r8⟩, e⟩ := key
  refine ⟨rs, ste, o', h', t', b', v2, ?_, r1, r2, r3, r4, r5, r6, r7, r8⟩
  unfold ff_X13_grown_b109
  simp only [g, if_true]
  rw [hMe, enr]
  unfold ff_X13_grown_b166
  exact e
end GRows
