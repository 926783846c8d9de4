/-! Arrays.fill(int[], int) -/
def os_fill (n : Nat) (v : Int32) (f : Nat → Int32) : Nat → Int32 := fun j => if j < n then v else f j
theorem os_fill_0 (v : Int32) (f : Nat → Int32) : os_fill 0 v f = f := by
  funext j
  simp [os_fill]
theorem os_fill_s (i : Nat) (v : Int32) (f : Nat → Int32) : upd (os_fill i v f) i v = os_fill (i + 1) v f := by
  funext j
  simp only [os_fill, upd]
  by_cases h : j = i
  · subst h; simp
  · rw [if_neg h]
    by_cases h2 : j < i
    · rw [if_pos h2, if_pos (by omega)]
    · rw [if_neg h2, if_neg (by omega)]
set_option maxHeartbeats 4000000 in
set_option maxRecDepth 100000 in
theorem mm_fill (l : Launch) (D : va_G) (kA : Nat → ClassId) (a n : Nat) (f : Nat → Int32) (v : Int32) (hn : n < 2 ^ 31) : mc_C l D kA yJ7_fill_53178 wsJ7_fill_53178 ({ frames := 0, cells := 0, slots := 0, locals := 0 } : Room) [.ref a, .int v] [(a, .inl (kA 0, n, .inl f))] none [(a, .inl (kA 0, n, .inl (os_fill n v f)))] := by
  refine mc_of (cc := cJ7_fill_53178) (maxL := 4) (ret := none) (by decide) rfl (Nat.le_of_ble_eq_true rfl) ?_
  intro p e s m below meth c A B hD hP hS ls hl
  obtain ⟨hx, hb, hr, hlk, hml, hown, hts, hK, hA, hnm⟩ := B
  have hl : lv_has ls 4 [(0, .ref a), (1, .int v)] := hl
  refine lv_iconst (v := 0) hx hb dJ7_fill_53178_0 (by decide) ?_
  refine lv_istore_n (lv' := [(2, .int 0), (0, .ref a), (1, .int v)]) hx hb dJ7_fill_53178_1 rfl hl (by decide) rfl (fun ls hl => ?_)
  refine lv_aload_n hx hb dJ7_fill_53178_2 rfl (lv_at hl 1 rfl) ?_
  refine va_alen (v := nI n) hx hb hK hP 0 0 rfl rfl rfl dJ7_fill_53178_3 ?_
  refine lv_istore_n (lv' := [(3, .int (nI n)), (2, .int 0), (0, .ref a), (1, .int v)]) hx hb dJ7_fill_53178_4 rfl hl (by decide) rfl (fun ls hl => ?_)
  have core : ∀ (k i : Nat), i + k = n → ∀ (H : Heap) (locs : List Loc) (ls : Array Slot), va_P D vwCl [(a, .inl (kA 0, n, .inl (os_fill i v f)))] H → va_D A [(a, .inl (kA 0, n, .inl (os_fill i v f)))] → va_S A s.heap H locs → lv_has ls 4 [(3, .int (nI n)), (2, .int (nI i)), (0, .ref a), (1, .int v)] →
      W p l e ({ frames := 0, cells := 0, slots := 0, locals := 0 } : Room) s m [Value.ref a, .int v].toArray below meth c H locs 0 0 (MQ below (mc_Q D kA A none [(a, .inl (kA 0, n, .inl (os_fill n v f)))]) [Value.ref a, .int v].toArray s 0 0 A) (F0 m 5 ls []) := by
    intro k
    induction k with
    | zero =>
      intro i hi H locs ls hP hD hS hl
      have hin : i = n := by omega
      subst hin
      refine lv_iload_n hx hb dJ7_fill_53178_5 rfl (lv_at hl 1 rfl) ?_
      refine lv_iload_n hx hb dJ7_fill_53178_6 rfl (lv_at hl 0 rfl) ?_
      refine lv_icmp_ge (tgt := 20) hx hb dJ7_fill_53178_7 (by decide) (fun _ => ?_) (fun h => absurd (nI_le (Nat.le_refl i) hn) h)
      exact mc_retv hx hb hr hlk hP hK hD hS dJ7_fill_53178_20
    | succ k ih =>
      intro i hi H locs ls hP hD hS hl
      have hlt : i < n := by omega
      refine lv_iload_n hx hb dJ7_fill_53178_5 rfl (lv_at hl 1 rfl) ?_
      refine lv_iload_n hx hb dJ7_fill_53178_6 rfl (lv_at hl 0 rfl) ?_
      refine lv_icmp_ge (tgt := 20) hx hb dJ7_fill_53178_7 (by decide) (fun h => absurd h (nI_ge hlt hn)) (fun _ => ?_)
      refine lv_aload_n hx hb dJ7_fill_53178_10 rfl (lv_at hl 2 rfl) ?_
      refine lv_iload_n hx hb dJ7_fill_53178_11 rfl (lv_at hl 1 rfl) ?_
      refine lv_iload_n hx hb dJ7_fill_53178_12 rfl (lv_at hl 3 rfl) ?_
      refine va_iast hx hb hK hP hD hS 0 0 rfl rfl (vp_in_nI hlt hn) dJ7_fill_53178_13 (fun H locs hP hD hS => ?_)
      have e : upd (os_fill i v f) (nI i).toNatClampNeg v = os_fill (i + 1) v f := by rw [nI_clamp (by omega), os_fill_s]
      have hP : va_P D vwCl [(a, .inl (kA 0, n, .inl (os_fill (i + 1) v f)))] H := by rw [← e]; exact hP
      have hD : va_D A [(a, .inl (kA 0, n, .inl (os_fill (i + 1) v f)))] := by rw [← e]; exact hD
      refine lv_iinc (v := nI (i + 1)) (lv' := [(2, .int (nI (i + 1))), (3, .int (nI n)), (0, .ref a), (1, .int v)]) hx hb dJ7_fill_53178_14 hl (k := 1) rfl (by rw [nI_succ]; rfl) (by decide) rfl (fun ls hl => ?_)
      refine lv_goto (tgt := 5) hx hb dJ7_fill_53178_17 (by decide) ?_
      exact ih (i + 1) (by omega) _ _ _ hP hD hS (lv_sub hl [1, 0, 2, 3] rfl)
  refine core n 0 (by omega) _ _ _ ?_ ?_ hS (lv_sub hl [0, 1, 2, 3] rfl)
  · rw [os_fill_0]; exact hP
  · rw [os_fill_0]; exact hD
