def ff_J0_coder_7d493 (N : Nat) (a0 : Nat) : Option (Nat × Int32) :=
  (if (1 : Int32) = 0 then some (0, (1 : Int32)) else (if a0 < 18 then some (0, (0 : Int32)) else none))
set_option maxHeartbeats 4000000 in
set_option maxRecDepth 100000 in
theorem mm_J0_coder_7d493 (l : Launch) (hst : l.stackTraces = false) (zz : Nat → Nat → Nat) (D : va_G) (kA : Nat → ClassId) (N : Nat) (a0 : Nat) (out : (Nat × Int32)) (hf : ff_J0_coder_7d493 N a0 = some out) : mx_C l zz D kA yJ0_coder_7d493 wsJ0_coder_7d493 ({ frames := 0, cells := 0, slots := 0, locals := 0 } : Room) [.ref (zz 0 a0)] [] out.1 (some (.int out.2)) [] := by
  refine mx_of (cc := cJ0_coder_7d493) (maxL := 1) (ret := (some .byte)) (by decide) rfl (Nat.le_of_ble_eq_true rfl) ?_
  intro p e s m below meth c A B hx0 hZ hD hP hS ls hl
  obtain ⟨hx, hb, hr, hlk, hml, hown, hts, hK, hA, hnm⟩ := B
  have hown : s.vm.findClass RJ0 = some m.cls := hown
  have hl : lv_has ls 1 [(0, .ref (zz 0 a0))] := hl
  unfold ff_J0_coder_7d493 at hf
  refine va_gets hx hb hZ.2.2.1.1 hS hown (hts (Cond.fieldLink RJ0 38 "java/lang/String" "COMPACT_STRINGS" "Z") (List.mem_of_getElem? (i := 1) rfl)) (fun _ h9 => h9) dJ0_coder_7d493_0 ?_
  refine lv_if_eq (tgt := 13) hx hb dJ0_coder_7d493_3 (by decide) (fun hc_1 => ?_) (fun hc_1 => ?_)
  · rw [if_pos hc_1] at hf
    refine lv_iconst (v := 1) hx hb dJ0_coder_7d493_13 (by decide) ?_
    rw [← Option.some.inj hf]
    exact mx_retz (v := 1) (Nat.le_of_ble_eq_true rfl) (Nat.le_of_ble_eq_true rfl) hx hb hr rfl hlk hP hK hD hS dJ0_coder_7d493_14
  · rw [if_neg hc_1] at hf
    refine lv_aload_n hx hb dJ0_coder_7d493_6 rfl (lv_at hl 0 rfl) ?_
    obtain ⟨hk_2, hf⟩ := os_if hf
    refine vk_getf hx hb ((hZ.2.2.2.1.1 _ hk_2).2.1) hS hown (hts (Cond.fieldLink RJ0 15 "java/lang/String" "coder" "B") (List.mem_of_getElem? (i := 2) rfl)) (fun _ h9 => h9) dJ0_coder_7d493_7 ?_
    refine lv_goto (tgt := 14) hx hb dJ0_coder_7d493_10 (by decide) ?_
    rw [← Option.some.inj hf]
    exact mx_retz (v := 0) (Nat.le_of_ble_eq_true rfl) (Nat.le_of_ble_eq_true rfl) hx hb hr rfl hlk hP hK hD hS dJ0_coder_7d493_14
def ff_J0_length_8abf5 (N : Nat) (a0 : Nat) : Option (Nat × Int32) :=
  (if a0 < 18 then (if a0 < 18 then (if a0 < 18 then ((ff_J0_coder_7d493 N a0).bind fun u_3 => (if u_3.1 = 0 then some (0, (Int32.ofNat (st_len.getD a0 0)) >>> (u_3.2 &&& 31)) else some (u_3.1, (0 : Int32)))) else none) else none) else none)
set_option maxHeartbeats 4000000 in
set_option maxRecDepth 100000 in
theorem mm_J0_length_8abf5 (l : Launch) (hst : l.stackTraces = false) (zz : Nat → Nat → Nat) (D : va_G) (kA : Nat → ClassId) (N : Nat) (a0 : Nat) (out : (Nat × Int32)) (hf : ff_J0_length_8abf5 N a0 = some out) : mx_C l zz D kA yJ0_length_8abf5 wsJ0_length_8abf5 ({ frames := 1, cells := 0, slots := 0, locals := 20 } : Room) [.ref (zz 0 a0)] [] out.1 (some (.int out.2)) [] := by
  refine mx_of (cc := cJ0_length_8abf5) (maxL := 1) (ret := (some .int)) (by decide) rfl (Nat.le_of_ble_eq_true rfl) ?_
  intro p e s m below meth c A B hx0 hZ hD hP hS ls hl
  obtain ⟨hx, hb, hr, hlk, hml, hown, hts, hK, hA, hnm⟩ := B
  have hown : s.vm.findClass RJ0 = some m.cls := hown
  have hl : lv_has ls 1 [(0, .ref (zz 0 a0))] := hl
  unfold ff_J0_length_8abf5 at hf
  refine lv_aload_n hx hb dJ0_length_8abf5_0 rfl (lv_at hl 0 rfl) ?_
  obtain ⟨hk_1, hf⟩ := os_if hf
  refine vk_getf hx hb ((hZ.2.2.2.1.1 _ hk_1).2.2.1) hS hown (hts (Cond.fieldLink RJ0 9 "java/lang/String" "value" "[B") (List.mem_of_getElem? (i := 1) rfl)) (fun _ h9 => h9) dJ0_length_8abf5_1 ?_
  obtain ⟨hk_2, hf⟩ := os_if hf
  refine va_tlen hx hb (hZ.2.2.2.1.1 _ hk_2).2.2.2 hS rfl dJ0_length_8abf5_4 ?_
  refine lv_aload_n hx hb dJ0_length_8abf5_5 rfl (lv_at hl 0 rfl) ?_
  obtain ⟨hk_5, hf⟩ := os_if hf
  obtain ⟨u_3, he_4, hf⟩ := os_bd hf
  refine mx_callR ⟨hx, hb, hml, hown, hts⟩ (mm_J0_coder_7d493 l hst zz D kA N a0 u_3 he_4) (cwV 0 hts gJ0_length_8abf5_J0_coder_7d493 rfl rfl rfl (by decide +kernel) ⟨Nat.le_of_ble_eq_true rfl, Nat.le_of_ble_eq_true rfl⟩) (vs_recv hZ.2.2.2.1 hk_5 hS) (wc := []) rfl hl.1 (As := []) (rest := [.int (Int32.ofNat (st_len.getD a0 0))]) rfl (Nat.le_of_ble_eq_true rfl) dJ0_length_8abf5_6 ⟨Nat.le_of_ble_eq_true rfl, Nat.le_of_ble_eq_true rfl⟩ hK hP hD hS hA hZ [] [] [] rfl (by decide) rfl (by decide) (by decide) rfl (by decide) (wr := []) (w2 := []) (fun hx9 H locs q9 ce hP hD hS h91 h92 h93 => ?_) (fun hx9 H locs hP hD hS => ?_)
  · rw [if_neg hx9] at hf
    rw [← Option.some.inj hf]
    exact mx_out hx9 hx0 hlk hP hK hD hS h91 h92 h93 (Nat.le_of_ble_eq_true rfl) (Nat.le_of_ble_eq_true rfl)
  · rw [if_pos hx9] at hf
    refine W.widen (k := 0) (n := 0) (Nat.le_of_ble_eq_true rfl) (Nat.le_of_ble_eq_true rfl) ?_
    have hP : va_P D vwCl [] H := hP
    refine lv_ishr hx hb dJ0_length_8abf5_9 ?_
    rw [← Option.some.inj hf]
    exact mx_reti (Nat.le_of_ble_eq_true rfl) (Nat.le_of_ble_eq_true rfl) hx hb hr hlk hP hK hD hS dJ0_length_8abf5_10
def ff_J0_isLatin1_aae02 (N : Nat) (a0 : Nat) : Option (Nat × Int32) :=
  (if (1 : Int32) = 0 then some (0, (0 : Int32)) else (if a0 < 18 then (if (0 : Int32) = 0 then some (0, (1 : Int32)) else some (0, (0 : Int32))) else none))
set_option maxHeartbeats 4000000 in
set_option maxRecDepth 100000 in
theorem mm_J0_isLatin1_aae02 (l : Launch) (hst : l.stackTraces = false) (zz : Nat → Nat → Nat) (D : va_G) (kA : Nat → ClassId) (N : Nat) (a0 : Nat) (out : (Nat × Int32)) (hf : ff_J0_isLatin1_aae02 N a0 = some out) : mx_C l zz D kA yJ0_isLatin1_aae02 wsJ0_isLatin1_aae02 ({ frames := 0, cells := 0, slots := 0, locals := 0 } : Room) [.ref (zz 0 a0)] [] out.1 (some (.int out.2)) [] := by
  refine mx_of (cc := cJ0_isLatin1_aae02) (maxL := 1) (ret := (some .boolean)) (by decide) rfl (Nat.le_of_ble_eq_true rfl) ?_
  intro p e s m below meth c A B hx0 hZ hD hP hS ls hl
  obtain ⟨hx, hb, hr, hlk, hml, hown, hts, hK, hA, hnm⟩ := B
  have hown : s.vm.findClass RJ0 = some m.cls := hown
  have hl : lv_has ls 1 [(0, .ref (zz 0 a0))] := hl
  unfold ff_J0_isLatin1_aae02 at hf
  refine va_gets hx hb hZ.2.2.1.1 hS hown (hts (Cond.fieldLink RJ0 38 "java/lang/String" "COMPACT_STRINGS" "Z") (List.mem_of_getElem? (i := 1) rfl)) (fun _ h9 => h9) dJ0_isLatin1_aae02_0 ?_
  refine lv_if_eq (tgt := 17) hx hb dJ0_isLatin1_aae02_3 (by decide) (fun hc_1 => ?_) (fun hc_1 => ?_)
  · rw [if_pos hc_1] at hf
    refine lv_iconst (v := 0) hx hb dJ0_isLatin1_aae02_17 (by decide) ?_
    rw [← Option.some.inj hf]
    exact mx_retz (v := 0) (Nat.le_of_ble_eq_true rfl) (Nat.le_of_ble_eq_true rfl) hx hb hr rfl hlk hP hK hD hS dJ0_isLatin1_aae02_18
  · rw [if_neg hc_1] at hf
    refine lv_aload_n hx hb dJ0_isLatin1_aae02_6 rfl (lv_at hl 0 rfl) ?_
    obtain ⟨hk_2, hf⟩ := os_if hf
    refine vk_getf hx hb ((hZ.2.2.2.1.1 _ hk_2).2.1) hS hown (hts (Cond.fieldLink RJ0 15 "java/lang/String" "coder" "B") (List.mem_of_getElem? (i := 2) rfl)) (fun _ h9 => h9) dJ0_isLatin1_aae02_7 ?_
    refine lv_if_ne (tgt := 17) hx hb dJ0_isLatin1_aae02_10 (by decide) (fun hc_3 => ?_) (fun hc_3 => ?_)
    · rw [if_neg hc_3] at hf
      refine lv_iconst (v := 0) hx hb dJ0_isLatin1_aae02_17 (by decide) ?_
      rw [← Option.some.inj hf]
      exact mx_retz (v := 0) (Nat.le_of_ble_eq_true rfl) (Nat.le_of_ble_eq_true rfl) hx hb hr rfl hlk hP hK hD hS dJ0_isLatin1_aae02_18
    · rw [if_pos hc_3] at hf
      refine lv_iconst (v := 1) hx hb dJ0_isLatin1_aae02_13 (by decide) ?_
      refine lv_goto (tgt := 18) hx hb dJ0_isLatin1_aae02_14 (by decide) ?_
      rw [← Option.some.inj hf]
      exact mx_retz (v := 1) (Nat.le_of_ble_eq_true rfl) (Nat.le_of_ble_eq_true rfl) hx hb hr rfl hlk hP hK hD hS dJ0_isLatin1_aae02_18
def ff_J1_charAt_3b067 (N : Nat) (a0 : Nat) (a1 : Int32) : Option (Nat × Int32) :=
  (if a0 < 18 then (if ¬ a1 < 0 ∧ a1 < (Int32.ofNat (st_len.getD a0 0)) then (if a0 < 18 then (if os_in a1 (st_len.getD a0 0) then (if os_c (((Int32.toUInt32 (((st_byt.getD a0 []).getD (Int32.toNatClampNeg a1) 0) &&& (255 : Int32))) % 65536).toInt32) then some (0, ((Int32.toUInt32 (((st_byt.getD a0 []).getD (Int32.toNatClampNeg a1) 0) &&& (255 : Int32))) % 65536).toInt32) else none) else none) else none) else none) else none)
set_option maxHeartbeats 4000000 in
set_option maxRecDepth 100000 in
theorem mm_J1_charAt_3b067 (l : Launch) (hst : l.stackTraces = false) (zz : Nat → Nat → Nat) (D : va_G) (kA : Nat → ClassId) (N : Nat) (a0 : Nat) (a1 : Int32) (out : (Nat × Int32)) (hf : ff_J1_charAt_3b067 N a0 a1 = some out) : mx_C l zz D kA yJ1_charAt_3b067 wsJ1_charAt_3b067 ({ frames := 2, cells := 0, slots := 0, locals := 43 } : Room) [.ref (zz 1 a0), .int a1] [] out.1 (some (.int out.2)) [] := by
  refine mx_of (cc := cJ1_charAt_3b067) (maxL := 2) (ret := (some .char)) (by decide) rfl (Nat.le_of_ble_eq_true rfl) ?_
  intro p e s m below meth c A B hx0 hZ hD hP hS ls hl
  obtain ⟨hx, hb, hr, hlk, hml, hown, hts, hK, hA, hnm⟩ := B
  have hown : s.vm.findClass RJ1 = some m.cls := hown
  have hl : lv_has ls 2 [(0, .ref (zz 1 a0)), (1, .int a1)] := hl
  unfold ff_J1_charAt_3b067 at hf
  refine lv_iload_n hx hb dJ1_charAt_3b067_0 rfl (lv_at hl 1 rfl) ?_
  refine lv_aload_n hx hb dJ1_charAt_3b067_1 rfl (lv_at hl 0 rfl) ?_
  obtain ⟨hk_1, hf⟩ := os_if hf
  refine va_tlen hx hb (hZ.2.2.2.1.1 _ hk_1).2.2.2 hS rfl dJ1_charAt_3b067_2 ?_
  obtain ⟨hx_2, hf⟩ := os_if hf
  refine mx_callS ⟨hx, hb, hml, hown, hts⟩ (mm_J0_checkIndex_df160 l hst zz D kA a1 (Int32.ofNat (st_len.getD a0 0)) hx_2.1 hx_2.2) (va_cwS 2 hts gJ1_charAt_3b067_J0_checkIndex_df160 rfl rfl rfl (by decide +kernel) ⟨Nat.le_of_ble_eq_true rfl, Nat.le_of_ble_eq_true rfl⟩) rfl hl.1 (As := [.int a1, .int (Int32.ofNat (st_len.getD a0 0))]) (rest := []) rfl (Nat.le_of_ble_eq_true rfl) dJ1_charAt_3b067_3 ⟨Nat.le_of_ble_eq_true rfl, Nat.le_of_ble_eq_true rfl⟩ hK hP hD hS hA hZ [] [] [] rfl (by decide) rfl (by decide) (by decide) rfl (by decide) (wr := []) (w2 := []) (fun h9 => (h9 rfl).elim) (fun _ H locs hP hD hS => ?_)
  refine lv_aload_n hx hb dJ1_charAt_3b067_6 rfl (lv_at hl 0 rfl) ?_
  refine lv_iload_n hx hb dJ1_charAt_3b067_7 rfl (lv_at hl 1 rfl) ?_
  obtain ⟨hi_3_k, hf⟩ := os_if hf
  obtain ⟨hi_3, hf⟩ := os_if hf
  refine va_tb hx hb (hZ.2.2.2.1.1 _ hi_3_k).2.2.2 hS hi_3 rfl dJ1_charAt_3b067_8 ?_
  refine lv_sipush (v := 255) hx hb dJ1_charAt_3b067_9 (by decide) ?_
  refine lv_iand hx hb dJ1_charAt_3b067_12 ?_
  refine lv_i2c hx hb dJ1_charAt_3b067_13 rfl ?_
  obtain ⟨hz_4, hf⟩ := os_if hf
  rw [← Option.some.inj hf]
  exact mx_retz (Nat.le_of_ble_eq_true rfl) (Nat.le_of_ble_eq_true rfl) hx hb hr (os_c_n hz_4) hlk hP hK hD hS dJ1_charAt_3b067_14
def ff_J0_charAt_5068e (N : Nat) (a0 : Nat) (a1 : Int32) : Option (Nat × Int32) :=
  (if a0 < 18 then ((ff_J0_isLatin1_aae02 N a0).bind fun u_1 => (if u_1.1 = 0 then (if u_1.2 = 0 then (if a0 < 18 then none else none) else (if a0 < 18 then ((ff_J1_charAt_3b067 N a0 a1).bind fun u_7 => (if u_7.1 = 0 then (if os_c u_7.2 then some (0, u_7.2) else none) else some (u_7.1, (0 : Int32)))) else none)) else some (u_1.1, (0 : Int32)))) else none)
set_option maxHeartbeats 4000000 in
set_option maxRecDepth 100000 in
theorem mm_J0_charAt_5068e (l : Launch) (hst : l.stackTraces = false) (zz : Nat → Nat → Nat) (D : va_G) (kA : Nat → ClassId) (N : Nat) (a0 : Nat) (a1 : Int32) (out : (Nat × Int32)) (hf : ff_J0_charAt_5068e N a0 a1 = some out) : mx_C l zz D kA yJ0_charAt_5068e wsJ0_charAt_5068e ({ frames := 3, cells := 0, slots := 0, locals := 64 } : Room) [.ref (zz 0 a0), .int a1] [] out.1 (some (.int out.2)) [] := by
  refine mx_of (cc := cJ0_charAt_5068e) (maxL := 2) (ret := (some .char)) (by decide) rfl (Nat.le_of_ble_eq_true rfl) ?_
  intro p e s m below meth c A B hx0 hZ hD hP hS ls hl
  obtain ⟨hx, hb, hr, hlk, hml, hown, hts, hK, hA, hnm⟩ := B
  have hown : s.vm.findClass RJ0 = some m.cls := hown
  have hl : lv_has ls 2 [(0, .ref (zz 0 a0)), (1, .int a1)] := hl
  unfold ff_J0_charAt_5068e at hf
  refine lv_aload_n hx hb dJ0_charAt_5068e_0 rfl (lv_at hl 0 rfl) ?_
  obtain ⟨hk_3, hf⟩ := os_if hf
  obtain ⟨u_1, he_2, hf⟩ := os_bd hf
  refine mx_callR ⟨hx, hb, hml, hown, hts⟩ (mm_J0_isLatin1_aae02 l hst zz D kA N a0 u_1 he_2) (cwV 0 hts gJ0_charAt_5068e_J0_isLatin1_aae02 rfl rfl rfl (by decide +kernel) ⟨Nat.le_of_ble_eq_true rfl, Nat.le_of_ble_eq_true rfl⟩) (vs_recv hZ.2.2.2.1 hk_3 hS) (wc := []) rfl hl.1 (As := []) (rest := []) rfl (Nat.le_of_ble_eq_true rfl) dJ0_charAt_5068e_1 ⟨Nat.le_of_ble_eq_true rfl, Nat.le_of_ble_eq_true rfl⟩ hK hP hD hS hA hZ [] [] [] rfl (by decide) rfl (by decide) (by decide) rfl (by decide) (wr := []) (w2 := []) (fun hx9 H locs q9 ce hP hD hS h91 h92 h93 => ?_) (fun hx9 H locs hP hD hS => ?_)
  · rw [if_neg hx9] at hf
    rw [← Option.some.inj hf]
    exact mx_out hx9 hx0 hlk hP hK hD hS h91 h92 h93 (Nat.le_of_ble_eq_true rfl) (Nat.le_of_ble_eq_true rfl)
  · rw [if_pos hx9] at hf
    refine W.widen (k := 0) (n := 0) (Nat.le_of_ble_eq_true rfl) (Nat.le_of_ble_eq_true rfl) ?_
    have hP : va_P D vwCl [] H := hP
    refine lv_if_eq (tgt := 16) hx hb dJ0_charAt_5068e_4 (by decide) (fun hc_4 => ?_) (fun hc_4 => ?_)
    · rw [if_pos hc_4] at hf
      refine lv_aload_n hx hb dJ0_charAt_5068e_16 rfl (lv_at hl 0 rfl) ?_
      obtain ⟨hk_5, hf⟩ := os_if hf
      refine vk_getf hx hb ((hZ.2.2.2.1.1 _ hk_5).2.2.1) hS hown (hts (Cond.fieldLink RJ0 9 "java/lang/String" "value" "[B") (List.mem_of_getElem? (i := 1) rfl)) (fun _ h9 => h9) dJ0_charAt_5068e_17 ?_
      refine lv_iload_n hx hb dJ0_charAt_5068e_20 rfl (lv_at hl 1 rfl) ?_
      cases hf
    · rw [if_neg hc_4] at hf
      refine lv_aload_n hx hb dJ0_charAt_5068e_7 rfl (lv_at hl 0 rfl) ?_
      obtain ⟨hk_6, hf⟩ := os_if hf
      refine vk_getf hx hb ((hZ.2.2.2.1.1 _ hk_6).2.2.1) hS hown (hts (Cond.fieldLink RJ0 9 "java/lang/String" "value" "[B") (List.mem_of_getElem? (i := 1) rfl)) (fun _ h9 => h9) dJ0_charAt_5068e_8 ?_
      refine lv_iload_n hx hb dJ0_charAt_5068e_11 rfl (lv_at hl 1 rfl) ?_
      obtain ⟨u_7, he_8, hf⟩ := os_bd hf
      refine mx_callS ⟨hx, hb, hml, hown, hts⟩ (mm_J1_charAt_3b067 l hst zz D kA N a0 a1 u_7 he_8) (va_cwS 2 hts gJ0_charAt_5068e_J1_charAt_3b067 rfl rfl rfl (by decide +kernel) ⟨Nat.le_of_ble_eq_true rfl, Nat.le_of_ble_eq_true rfl⟩) (wc := []) rfl hl.1 (As := [.ref (zz 1 a0), .int a1]) (rest := []) rfl (Nat.le_of_ble_eq_true rfl) dJ0_charAt_5068e_12 ⟨Nat.le_of_ble_eq_true rfl, Nat.le_of_ble_eq_true rfl⟩ hK hP hD hS hA hZ [] [] [] rfl (by decide) rfl (by decide) (by decide) rfl (by decide) (wr := []) (w2 := []) (fun hx9 H locs q9 ce hP hD hS h91 h92 h93 => ?_) (fun hx9 H locs hP hD hS => ?_)
      · rw [if_neg hx9] at hf
        rw [← Option.some.inj hf]
        exact mx_out hx9 hx0 hlk hP hK hD hS h91 h92 h93 (Nat.le_of_ble_eq_true rfl) (Nat.le_of_ble_eq_true rfl)
      · rw [if_pos hx9] at hf
        refine W.widen (k := 0) (n := 0) (Nat.le_of_ble_eq_true rfl) (Nat.le_of_ble_eq_true rfl) ?_
        have hP : va_P D vwCl [] H := hP
        obtain ⟨hz_9, hf⟩ := os_if hf
        rw [← Option.some.inj hf]
        exact mx_retz (Nat.le_of_ble_eq_true rfl) (Nat.le_of_ble_eq_true rfl) hx hb hr (os_c_n hz_9) hlk hP hK hD hS dJ0_charAt_5068e_15
