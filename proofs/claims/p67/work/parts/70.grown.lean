/-! LAYER 2. A picture grown from numbers, and its text -/
section Grown
variable {zz : Nat → Nat → Nat} {N : Nat} {o h t b v : os_T} {S : Nat → Nat} {T G : Int → Int → Int} {L : List Nat} {k a : Nat}
def gx (o : os_T) (k a : Nat) (S : Nat → Nat) : Prop := wh o S ∧ os_I o 7 = Int32.ofInt (k : Int) ∧ ∃ c : Nat, os_I o 12 = Int32.ofInt (c : Int) ∧ c ≤ a
theorem gx_next (hzz : zz 4 1 ≤ 2147483647) (h : gx o k a S) (ha : a ≤ 10000) {n : Int} (h2 : 1 ≤ n) (h3 : n ≤ 2147483647) : ∃ (r : Nat) (o' : os_T), ff_X13_next zz N o (Int32.ofInt n) = some (Int32.ofInt (r : Int), o') ∧ gx o' k (a + 1) S ∧ (r : Int) < n := by
  obtain ⟨h0, h7, c, h12, hc⟩ := h
  obtain ⟨r, e, r0, r1⟩ := lp_pick (N := N) (k := ((c + 1 : Nat) : Int)) (n := n) hzz (by omega) (by omega) h2 h3
  refine ⟨r.toNat, ss_I o 12 (Int32.ofInt ((c + 1 : Nat) : Int)), ?_, ⟨fun i hi => ?_, h7, c + 1, rfl, by omega⟩, by omega⟩
  · unfold ff_X13_next
    rw [h12, ii_1, ia_s, e, Option.bind_some, Int.toNat_of_nonneg r0]
  · show os_u (os_I o) 12 _ i = _
    rw [os_u_ne (by omega)]; exact h0 i hi
theorem gx_set (h : gx o k a S) {i n : Nat} (hi : i < 7) : gx (ss_I o i (Int32.ofInt (n : Int))) k a (sS S i n) := by
  obtain ⟨h0, h7, c, h12, hc⟩ := h
  refine ⟨fun j hj => ?_, ?_, c, ?_, hc⟩
  · show os_u (os_I o) i _ j = _
    unfold sS
    by_cases e : j = i
    · subst e; rw [os_u_eq, if_pos rfl]
    · rw [os_u_ne e, if_neg e]; exact h0 j hj
  · show os_u (os_I o) i _ 7 = _
    rw [os_u_ne (by omega)]; exact h7
  · show os_u (os_I o) i _ 12 = _
    rw [os_u_ne (by omega)]; exact h12
theorem gx_end (h : gx o k a S) (hk : k ≤ 10000) (hb : ub b v L) (hL : L.length + 7 ≤ 574) : ∃ o' b' v', ff_X13_end N o b v = some (o', b', v') ∧ gx o' (k + 1) a S ∧ ub b' v' (L ++ en (k + 1)) := by
  obtain ⟨h0, h7, c, h12, hc⟩ := h
  have hg : gx (ss_I o 7 (Int32.ofInt ((k + 1 : Nat) : Int))) (k + 1) a S := by
    refine ⟨fun j hj => ?_, rfl, c, h12, hc⟩
    show os_u (os_I o) 7 _ j = _
    rw [os_u_ne (by omega)]; exact h0 j hj
  have em : Int32.ofInt ((k + 1 : Nat) : Int) - Int32.ofInt ((k + 1 : Nat) : Int) / (4 : Int32) * (4 : Int32) = Int32.ofInt (((k + 1) % 4 : Nat) : Int) := by
    rw [show (4 : Int32) = Int32.ofInt 4 from rfl, ia_mod (by omega) (by omega) (by omega) (by omega)]
    rfl
  unfold ff_X13_end ff_X13_end_b28
  rw [h7, ii_1, ia_s, em, ii_2, ii_eq (by omega) (by omega)]
  unfold en
  by_cases c2 : (k + 1) % 4 = 2
  · obtain ⟨b', v', e, h'⟩ := ub_lit (N := N) hb (k := 10) (by decide) (by decide) hL
    rw [if_pos (by omega), if_pos c2, e]
    exact ⟨_, b', v', rfl, hg, h'⟩
  · obtain ⟨b', v', e, h'⟩ := ub_lit (N := N) hb (k := 11) (by decide) (by decide) hL
    rw [if_neg (by omega), if_neg c2, e]
    exact ⟨_, b', v', rfl, hg, h'⟩
theorem en_len (s : Nat) : (en s).length ≤ 3 := by unfold en; split <;> simp
theorem l8 : lt_b 8 = lw_b 0 ++ [32] := by decide +kernel
theorem l9 : lt_b 9 = [32] := by decide +kernel
theorem l12 : lt_b 12 = lw_b 2 ++ [32] := by decide +kernel
theorem l13 : lt_b 13 = lw_b 4 := by decide +kernel
theorem l14 : lt_b 14 = lw_b 1 ++ [32] := by decide +kernel
theorem l15 : lt_b 15 = [32] ++ (lw_b 5 ++ [32]) := by decide +kernel
theorem l16 : lt_b 16 = [32] ++ (lw_b 6 ++ [32]) := by decide +kernel
theorem l17 : lt_b 17 = lw_b 3 ++ [32] := by decide +kernel
theorem lens : (lt_b 8).length = 6 ∧ (lt_b 9).length = 1 ∧ (lt_b 12).length = 5 ∧ (lt_b 13).length = 3 ∧ (lt_b 14).length = 6 ∧ (lt_b 15).length = 7 ∧ (lt_b 16).length = 6 ∧ (lt_b 17).length = 6 := by decide +kernel
theorem dg_2 {n : Nat} (h : n < 100) : (dg n).length ≤ 2 := by
  unfold dg
  split
  · simp
  · simp [h]
theorem dg_1 {n : Nat} (h : n < 10) : (dg n).length = 1 := by unfold dg; rw [if_pos h]; rfl
theorem ia_1 (r : Nat) : (1 : Int32) + Int32.ofInt (r : Int) = Int32.ofInt ((1 + r : Nat) : Int) := by rw [ii_1, ia_add]; rfl
/-- the panel's statement -/
theorem g_pan (hN : 1000 < N) (hzz : zz 4 1 ≤ 2147483647) : ∃ (pan : Option (Nat × Nat)) (o b v p q : os_T), ff_X13_grown zz N = ff_X13_grown_b76 zz N o p q b v ∧ (∀ a, pan = some a → (1 ≤ a.1 ∧ a.1 ≤ 8) ∧ 1 ≤ a.2 ∧ a.2 ≤ 6) ∧ gx o (pB pan).length 3 (pS s_0 pan) ∧ ub b v (txt 0 (pB pan)) ∧ (txt 0 (pB pan)).length ≤ 12 := by
  obtain ⟨ll8, ll9, -⟩ := lens
  obtain ⟨b0, v0, eb, hb0⟩ := ub_init (N := N)
  have hg0 : gx (ss_I (ss_I (ss_I (ss_I (ss_I (ss_I (ss_I os_zero 0 (4 : Int32)) 1 (4 : Int32)) 2 (8 : Int32)) 3 (80 : Int32)) 4 (1 : Int32)) 5 (2 : Int32)) 6 (1 : Int32)) 0 0 s_0 := by
    refine ⟨fun i hi => ?_, rfl, 0, rfl, Nat.le_refl _⟩
    have hk : i = 0 ∨ i = 1 ∨ i = 2 ∨ i = 3 ∨ i = 4 ∨ i = 5 ∨ i = 6 := by omega
    rcases hk with rfl | rfl | rfl | rfl | rfl | rfl | rfl <;> rfl
  generalize eo : ss_I (ss_I (ss_I (ss_I (ss_I (ss_I (ss_I os_zero 0 (4 : Int32)) 1 (4 : Int32)) 2 (8 : Int32)) 3 (80 : Int32)) 4 (1 : Int32)) 5 (2 : Int32)) 6 (1 : Int32) = o0 at hg0
  obtain ⟨r, o1, e1, hg1, hr⟩ := gx_next (N := N) (n := 4) hzz hg0 (by omega) (by omega) (by omega)
  have e1 : ff_X13_next zz N o0 (4 : Int32) = some (Int32.ofInt (r : Int), o1) := e1
  have en0 : ∀ p q : os_T, ff_X13_init N = some (o0, p, q) → ff_X13_grown zz N = (if Int32.ofInt (r : Int) ≤ 0 then ff_X13_grown_b76 zz N o1 q p b0 v0 else ((ff_J4_append_15ec4 N b0 v0 8).bind fun u_16 => ((ff_X13_next zz N o1 (8 : Int32)).bind fun u_19 => ((ff_J4_append_bf812 N u_16.1 u_16.2 ((1 : Int32) + u_19.1)).bind fun u_21 => ((ff_J4_append_15ec4 N u_21.1 u_21.2 9).bind fun u_24 => ((ff_X13_next zz N (ss_I u_19.2 0 ((1 : Int32) + u_19.1)) (6 : Int32)).bind fun u_27 => ((ff_J4_append_bf812 N u_24.1 u_24.2 ((1 : Int32) + u_27.1)).bind fun u_29 => ((ff_X13_end N (ss_I u_27.2 1 ((1 : Int32) + u_27.1)) u_29.1 u_29.2).bind fun u_32 => ff_X13_grown_b76 zz N u_32.1 q p u_32.2.1 u_32.2.2)))))))) := fun p q ei => by
    unfold ff_X13_grown
    rw [ei, Option.bind_some, eb, Option.bind_some]
    simp only []
    rw [e1, Option.bind_some]
  obtain ⟨p, q, ei⟩ : ∃ p q, ff_X13_init N = some (o0, p, q) := ⟨_, _, by unfold ff_X13_init; rw [eo]⟩
  rw [en0 p q ei]
  simp only [i0_le (show ib (r : Int) by omega)]
  by_cases c : (r : Int) ≤ 0
  · rw [if_pos c]
    exact ⟨none, o1, b0, v0, q, p, rfl, fun a z => (by cases z), ⟨hg1.1, hg1.2.1, by obtain ⟨c, x1, x2⟩ := hg1.2.2; exact ⟨c, x1, by omega⟩⟩, hb0, by decide⟩
  · rw [if_neg c]
    obtain ⟨b1, v1, f1, hb1⟩ := ub_lit (N := N) hb0 (k := 8) (by decide) (by decide) (by decide)
    obtain ⟨w, o2, e2, hg2, hw⟩ := gx_next (N := N) (n := 8) hzz hg1 (by omega) (by omega) (by omega)
    have e2 : ff_X13_next zz N o1 (8 : Int32) = some (Int32.ofInt (w : Int), o2) := e2
    have d1 := dg_1 (n := 1 + w) (by omega)
    obtain ⟨b2, v2, f2, hb2⟩ := ub_num (N := N) (n := 1 + w) hN hb1 (by omega) (by simp [ll8])
    obtain ⟨b3, v3, f3, hb3⟩ := ub_lit (N := N) hb2 (k := 9) (by decide) (by decide) (by simp [ll8, d1])
    have hg2' := gx_set (i := 0) (n := 1 + w) hg2 (by decide)
    obtain ⟨g, o3, e3, hg3, hgg⟩ := gx_next (N := N) (n := 6) hzz hg2' (by omega) (by omega) (by omega)
    have e3 : ff_X13_next zz N (ss_I o2 0 (Int32.ofInt ((1 + w : Nat) : Int))) (6 : Int32) = some (Int32.ofInt (g : Int), o3) := e3
    have d2 := dg_1 (n := 1 + g) (by omega)
    obtain ⟨b4, v4, f4, hb4⟩ := ub_num (N := N) (n := 1 + g) hN hb3 (by omega) (by simp [ll8, ll9, d1])
    have hg3' := gx_set (i := 1) (n := 1 + g) hg3 (by decide)
    obtain ⟨o4, b5, v5, f5, hg5, hb5⟩ := gx_end (N := N) hg3' (by omega) hb4 (by simp [ll8, ll9, d1, d2])
    have et : txt 0 (pB (some (1 + w, 1 + g))) = [] ++ lt_b 8 ++ dg (1 + w) ++ lt_b 9 ++ dg (1 + g) ++ en (0 + 1) := by
      show bPan (1 + w) (1 + g) ++ (en (0 + 1) ++ []) = _
      unfold bPan
      rw [l8, l9]
      simp only [List.append_assoc, List.nil_append, List.append_nil]
    refine ⟨some (1 + w, 1 + g), o4, b5, v5, q, p, ?_, fun a z => ?_, hg5, by rw [et]; exact hb5, ?_⟩
    · rw [f1, Option.bind_some, e2, Option.bind_some, ia_1]
      simp only []
      rw [f2, Option.bind_some]
      simp only []
      rw [f3, Option.bind_some, e3, Option.bind_some, ia_1]
      simp only []
      rw [f4, Option.bind_some]
      simp only []
      rw [f5, Option.bind_some]
    · cases z
      exact ⟨⟨by show 1 ≤ 1 + w; omega, by show 1 + w ≤ 8; omega⟩, by show 1 ≤ 1 + g; omega, by show 1 + g ≤ 6; omega⟩
    · have := en_len (0 + 1)
      rw [et]
      simp only [List.length_append, List.length_nil, ll8, ll9, d1, d2]
      omega
theorem gx_up {a' : Nat} (h : gx o k a S) (ha : a ≤ a') : gx o k a' S := ⟨h.1, h.2.1, by obtain ⟨c, x1, x2⟩ := h.2.2; exact ⟨c, x1, by omega⟩⟩
/-- the walls' statement -/
theorem g_wal (hN : 1000 < N) (hzz : zz 4 1 ≤ 2147483647) (hg : gx o k 3 S) (hk : k ≤ 100) (hb : ub b v L) (hL : L.length ≤ 12) {p q : os_T} : ∃ (wal : Option Nat) (o' b' v' : os_T), ff_X13_grown_b76 zz N o p q b v = ff_X13_grown_b109 zz N o' p q b' v' ∧ (∀ a, wal = some a → 1 ≤ a ∧ a ≤ 4) ∧ gx o' (k + (wB wal).length) 5 (wS S wal) ∧ ub b' v' (L ++ txt k (wB wal)) ∧ (L ++ txt k (wB wal)).length ≤ 21 := by
  obtain ⟨-, -, ll12, -⟩ := lens
  obtain ⟨r, o1, e1, hg1, hr⟩ := gx_next (N := N) (n := 2) hzz hg (by omega) (by omega) (by omega)
  have e1 : ff_X13_next zz N o (2 : Int32) = some (Int32.ofInt (r : Int), o1) := e1
  unfold ff_X13_grown_b76
  rw [e1, Option.bind_some]
  simp only [i0_eq (show ib (r : Int) by omega)]
  by_cases c : (r : Int) = 0
  · rw [if_pos c]
    obtain ⟨b1, v1, f1, hb1⟩ := ub_lit (N := N) hb (k := 12) (by decide) (by decide) (by omega)
    obtain ⟨w, o2, e2, hg2, hw⟩ := gx_next (N := N) (n := 4) hzz hg1 (by omega) (by omega) (by omega)
    have e2 : ff_X13_next zz N o1 (4 : Int32) = some (Int32.ofInt (w : Int), o2) := e2
    have d1 := dg_1 (n := 1 + w) (by omega)
    obtain ⟨b2, v2, f2, hb2⟩ := ub_num (N := N) (n := 1 + w) hN hb1 (by omega) (by rw [List.length_append, ll12]; omega)
    have hg2' := gx_set (i := 5) (n := 1 + w) hg2 (by decide)
    obtain ⟨o3, b3, v3, f3, hg3, hb3⟩ := gx_end (N := N) hg2' (by omega) hb2 (by rw [List.length_append, List.length_append, ll12, d1]; omega)
    have et : L ++ txt k (wB (some (1 + w))) = L ++ lt_b 12 ++ dg (1 + w) ++ en (k + 1) := by
      show L ++ (bWal (1 + w) ++ (en (k + 1) ++ [])) = _
      unfold bWal
      rw [l12]
      simp only [List.append_assoc, List.append_nil]
    refine ⟨some (1 + w), o3, b3, v3, ?_, fun a z => ?_, hg3, by rw [et]; exact hb3, ?_⟩
    · rw [f1, Option.bind_some, e2, Option.bind_some, ia_1]
      simp only []
      rw [f2, Option.bind_some]
      simp only []
      rw [f3, Option.bind_some]
    · cases z
      omega
    · have := en_len (k + 1)
      rw [et]
      simp only [List.length_append, ll12, d1]
      omega
  · rw [if_neg c]
    refine ⟨none, o1, b, v, rfl, fun a z => (by cases z), gx_up hg1 (by omega), ?_, ?_⟩
    · show ub b v (L ++ [])
      rw [List.append_nil]; exact hb
    · show (L ++ []).length ≤ 21
      rw [List.append_nil]; omega
/-- the slope's statement -/
theorem g_slo (hN : 1000 < N) (hzz : zz 4 1 ≤ 2147483647) (hg : gx o k a S) (ha : a ≤ 1000) (hk : k ≤ 100) (hb : ub b v L) (hL : L.length ≤ 300) {p q : os_T} : ∃ (slo : Option Nat) (o' b' v' : os_T), ff_X13_grown_b374 zz N o p q b v = ff_X13_grown_b405 zz N o' p q b' v' ∧ (∀ a, slo = some a → a ≤ 9) ∧ gx o' (k + (lB slo).length) (a + 2) (lS S slo) ∧ ub b' v' (L ++ txt k (lB slo)) := by
  obtain ⟨-, -, -, -, -, -, -, ll17⟩ := lens
  obtain ⟨r, o1, e1, hg1, hr⟩ := gx_next (N := N) (n := 2) hzz hg (by omega) (by omega) (by omega)
  have e1 : ff_X13_next zz N o (2 : Int32) = some (Int32.ofInt (r : Int), o1) := e1
  unfold ff_X13_grown_b374
  rw [e1, Option.bind_some]
  simp only [i0_eq (show ib (r : Int) by omega)]
  by_cases c : (r : Int) = 0
  · rw [if_pos c]
    obtain ⟨b1, v1, f1, hb1⟩ := ub_lit (N := N) hb (k := 17) (by decide) (by decide) (by omega)
    obtain ⟨w, o2, e2, hg2, hw⟩ := gx_next (N := N) (n := 5) hzz hg1 (by omega) (by omega) (by omega)
    have e2 : ff_X13_next zz N o1 (5 : Int32) = some (Int32.ofInt (w : Int), o2) := e2
    have d1 := dg_1 (n := w) (by omega)
    obtain ⟨b2, v2, f2, hb2⟩ := ub_num (N := N) (n := w) hN hb1 (by omega) (by rw [List.length_append, ll17]; omega)
    have hg2' := gx_set (i := 6) (n := w) hg2 (by decide)
    obtain ⟨o3, b3, v3, f3, hg3, hb3⟩ := gx_end (N := N) hg2' (by omega) hb2 (by rw [List.length_append, List.length_append, ll17, d1]; omega)
    have et : L ++ txt k (lB (some w)) = L ++ lt_b 17 ++ dg w ++ en (k + 1) := by
      show L ++ (bSlo w ++ (en (k + 1) ++ [])) = _
      unfold bSlo
      rw [l17]
      simp only [List.append_assoc, List.append_nil]
    refine ⟨some w, o3, b3, v3, ?_, fun a z => ?_, gx_up hg3 (by omega), by rw [et]; exact hb3⟩
    · rw [f1, Option.bind_some, e2, Option.bind_some]
      simp only []
      rw [f2, Option.bind_some]
      simp only []
      rw [f3, Option.bind_some]
    · cases z
      omega
  · rw [if_neg c]
    refine ⟨none, o1, b, v, rfl, fun a z => (by cases z), gx_up hg1 (by omega), ?_⟩
    show ub b v (L ++ [])
    rw [List.append_nil]; exact hb
end Grown
