/-! LAYER 2. A text that grows: the builder of strings -/
theorem sh_0 (v : Int32) : v >>> ((0 : Int32) &&& 31) = v := by
  apply Int32.toBitVec_inj.mp
  show v.toBitVec.sshiftRight 0 = _
  simp
theorem sz_0 (v : Int32) : v <<< ((0 : Int32) &&& 31) = v := by
  apply Int32.toBitVec_inj.mp
  show v.toBitVec <<< 0 = _
  simp
theorem ia_on (n : Nat) : Int32.ofNat n = Int32.ofInt (n : Int) := Int32.ofInt_eq_ofNat.symm
/-- a byte of plain text -/
abbrev ub_ok (x : Nat) : Prop := 1 ≤ x ∧ x < 128
theorem fit_b : ∀ n : Fin 128, fits .byte (.int (Int32.ofInt (n.val : Int))) = true := by decide +kernel
theorem fit_n {n : Nat} (h : n < 128) : fits .byte (.int (Int32.ofInt (n : Int))) = true := fit_b ⟨n, h⟩
theorem nar_f : ∀ n : Fin 128, vp_nar .byte (Int32.ofInt (n.val : Int)) = Int32.ofInt (n.val : Int) := by decide +kernel
theorem nar_n {n : Nat} (h : n < 128) : vp_nar .byte (Int32.ofInt (n : Int)) = Int32.ofInt (n : Int) := nar_f ⟨n, h⟩
def ub_cap (c : Nat) : Prop := c = 16 ∨ c = 34 ∨ c = 70 ∨ c = 142 ∨ c = 286 ∨ c = 574
/-- a builder holds these bytes -/
def ub (b v : os_T) (L : List Nat) : Prop := os_I b 3 = Int32.ofInt (L.length : Int) ∧ (∃ c : Nat, os_I v 0 = Int32.ofInt (c : Int) ∧ ub_cap c ∧ L.length ≤ c) ∧ (∀ i, i < L.length → os_A v 0 i = Int32.ofInt (L.getD i 0 : Nat)) ∧ (∀ i, fits .byte (.int (os_A v 0 i)) = true) ∧ ∀ x ∈ L, ub_ok x
theorem ub_c {v : os_T} {c : Nat} (h : os_I v 0 = Int32.ofInt (c : Int)) (hc : c ≤ 100000) : ci_n v = c := by
  show Int32.toNatClampNeg (os_I v 0) = c
  rw [h, ia_nat (by omega) (by omega)]; exact Int.toNat_natCast _
theorem getD_app1 {L M : List Nat} {i : Nat} (h : i < L.length) : (L ++ M).getD i 0 = L.getD i 0 := by
  rw [List.getD_eq_getElem?_getD, List.getD_eq_getElem?_getD, List.getElem?_append_left h]
theorem getD_app2 {L M : List Nat} {i : Nat} (h : L.length ≤ i) : (L ++ M).getD i 0 = M.getD (i - L.length) 0 := by
  rw [List.getD_eq_getElem?_getD, List.getD_eq_getElem?_getD, List.getElem?_append_right h]
theorem getD_ok {L : List Nat} (h : ∀ x ∈ L, ub_ok x) {i : Nat} (hi : i < L.length) : ub_ok (L.getD i 0) := by
  rw [List.getD_eq_getElem?_getD, List.getElem?_eq_getElem hi, Option.getD_some]
  exact h _ (List.getElem_mem hi)
section Build
variable {N : Nat} {b v : os_T} {L : List Nat}
theorem ub_init : ∃ b v, ff_J4_init_da8c8 N = some (b, v) ∧ ub b v [] := by
  refine ⟨os_zero, ss_I os_zero 0 16, ?_, rfl, ⟨16, rfl, Or.inl rfl, by decide⟩, fun i h => absurd h (Nat.not_lt_zero i), fun i => ?_, fun x h => by cases h⟩
  · unfold ff_J4_init_da8c8 ff_J5_init_d00df
    rw [if_pos (by decide), Option.bind_some]
  · exact fit_n (n := 0) (by decide)
theorem ub_ensure (h : ub b v L) {n : Nat} (hn : n ≤ 16) (hL : L.length + n ≤ 574) : ∃ (v' : os_T) (c : Nat), ff_J5_ensureCapacityInternal_d00df N b v (Int32.ofInt ((L.length + n : Nat) : Int)) = some (b, v') ∧ ub b v' L ∧ os_I v' 0 = Int32.ofInt (c : Int) ∧ ub_cap c ∧ L.length + n ≤ c := by
  obtain ⟨h1, ⟨c, h2, hc, h3⟩, h4, h5, h6⟩ := h
  have hc2 : c ≤ 574 := by unfold ub_cap at hc; omega
  have ec := ub_c h2 (by omega)
  unfold ff_J5_ensureCapacityInternal_d00df
  rw [ec, sh_0, ia_on, ia_sub]
  simp only [i0_le (show ib (((L.length + n : Nat) : Int) - (c : Int)) by omega)]
  by_cases cc : ((L.length + n : Nat) : Int) - (c : Int) ≤ 0
  · rw [if_pos cc]
    exact ⟨v, c, rfl, ⟨h1, ⟨c, h2, hc, h3⟩, h4, h5, h6⟩, h2, hc, by omega⟩
  · rw [if_neg cc]
    have hcap : ub_cap (c + (c + 2)) := by unfold ub_cap at hc ⊢; omega
    have enc : ff_J5_newCapacity_0f7a4 N b v (Int32.ofInt ((L.length + n : Nat) : Int)) = some (Int32.ofInt ((c + (c + 2) : Nat) : Int)) := by
      unfold ff_J5_newCapacity_0f7a4 ff_J8_newLength_cabcc
      have em : (if Int32.ofInt (((L.length + n : Nat) : Int) - (c : Int)) < Int32.ofInt ((c : Int) + 2) then Int32.ofInt ((c : Int) + 2) else Int32.ofInt (((L.length + n : Nat) : Int) - (c : Int))) = Int32.ofInt ((c : Int) + 2) := by
        have : ((L.length + n : Nat) : Int) - (c : Int) < (c : Int) + 2 := by unfold ub_cap at hc; omega
        rw [ii_lt (by omega) (by omega), if_pos this]
      rw [ec, sz_0, sz_0, ia_on, ia_sub, ii_2, ia_add, em, ia_add]
      simp only [i0_le (show ib ((c : Int) + ((c : Int) + 2)) by omega)]
      rw [if_neg (by omega), show (2147483639 : Int32) = Int32.ofInt 2147483639 from rfl, ii_lt (by omega) (by omega), if_neg (by omega), Option.bind_some, show (2147483647 : Int32) = Int32.ofInt 2147483647 from rfl, ii_eq (by omega) (by omega), if_neg (by omega), sh_0]
      congr 1
    rw [enc, Option.bind_some, sz_0]
    have emin : (if Int32.ofInt ((c + (c + 2) : Nat) : Int) < Int32.ofNat (ci_n v) then Int32.ofInt ((c + (c + 2) : Nat) : Int) else Int32.ofNat (ci_n v)) = Int32.ofInt (c : Int) := by
      rw [ec, ia_on, ii_lt (by omega) (by omega), if_neg (by omega)]
    have ecop : ff_J7_copyOf_9075b N v (Int32.ofInt ((c + (c + 2) : Nat) : Int)) = some (ss_A (ss_I os_zero 0 (Int32.ofInt ((c + (c + 2) : Nat) : Int))) 0 (va_cpy (os_A v 0) (os_A (ss_I os_zero 0 (Int32.ofInt ((c + (c + 2) : Nat) : Int))) 0) 0 0 c)) := by
      unfold ff_J7_copyOf_9075b
      rw [emin, ec, ia_on, ii_eq (by omega) (by omega), if_neg (by omega)]
      have en : Int32.toNatClampNeg (Int32.ofInt (c : Int)) = c := by rw [ia_nat (by omega) (by omega)]; exact Int.toNat_natCast _
      have en2 : Int32.toNatClampNeg (Int32.ofInt ((c + (c + 2) : Nat) : Int)) = c + (c + 2) := by rw [ia_nat (by omega) (by omega)]; exact Int.toNat_natCast _
      have en3 : ci_n (ss_I os_zero 0 (Int32.ofInt ((c + (c + 2) : Nat) : Int))) = c + (c + 2) := en2
      have e0 : Int32.toNatClampNeg (0 : Int32) = 0 := rfl
      rw [en, en2, en3, e0]
      rw [if_pos ⟨by rw [i0_lt (by omega)]; omega, by unfold ub_cap at hcap; omega⟩, if_pos ⟨⟨⟨by decide, by decide⟩, by rw [i0_lt (by omega)]; omega⟩, ⟨by omega, by omega⟩, fun i _ => h5 _⟩]
    rw [ecop, Option.bind_some]
    refine ⟨_, c + (c + 2), rfl, ⟨h1, ⟨c + (c + 2), rfl, hcap, by omega⟩, fun i hi => ?_, fun i => ?_, h6⟩, rfl, hcap, by unfold ub_cap at hc; omega⟩
    · show va_cpy (os_A v 0) (os_A (ss_I os_zero 0 (Int32.ofInt ((c + (c + 2) : Nat) : Int))) 0) 0 0 c i = _
      unfold va_cpy
      rw [if_pos (by omega), show 0 + (i - 0) = i by omega]
      exact h4 i hi
    · show fits .byte (.int (va_cpy (os_A v 0) (os_A (ss_I os_zero 0 (Int32.ofInt ((c + (c + 2) : Nat) : Int))) 0) 0 0 c i)) = true
      unfold va_cpy
      split
      · exact h5 _
      · exact fit_n (n := 0) (by decide)
/-- a literal's bytes -/
def lt_b (k : Nat) : List Nat := ((st_byt.getD k []).map (fun x => Int32.toNatClampNeg x))
theorem lt_all : ∀ k, k < 18 → (8 ≤ k → (st_len.getD k 0 = (lt_b k).length ∧ (lt_b k).length ≤ 7 ∧ (∀ i, i < (lt_b k).length → (st_byt.getD k []).getD i 0 = Int32.ofInt ((lt_b k).getD i 0 : Nat)) ∧ ∀ x ∈ lt_b k, ub_ok x)) := by decide +kernel
theorem ub_lit (h : ub b v L) {k : Nat} (k0 : 8 ≤ k) (k1 : k < 18) (hL : L.length + 7 ≤ 574) : ∃ b' v', ff_J4_append_15ec4 N b v k = some (b', v') ∧ ub b' v' (L ++ lt_b k) := by
  obtain ⟨l1, l2, l3, l4⟩ := lt_all k k1 k0
  obtain ⟨v', c, ee, h', hc, hcap, hle⟩ := ub_ensure (N := N) h (n := (lt_b k).length) (by omega) (by omega)
  obtain ⟨h1, -, h4, h5, h6⟩ := h'
  have hc2 : c ≤ 574 := by unfold ub_cap at hcap; omega
  have ec := ub_c hc (by omega)
  have el : ff_J0_length_8abf5 N k = some (0, Int32.ofInt ((lt_b k).length : Int)) := by
    unfold ff_J0_length_8abf5 ff_J0_coder_7d493
    rw [if_pos k1, if_pos k1, if_pos k1, if_neg (by decide), if_pos k1, Option.bind_some, if_pos rfl, sh_0, l1, ia_on]
  have ei : ff_J5_inflateIfNeededFor_a7421 N b k = some () := by
    unfold ff_J5_inflateIfNeededFor_a7421 ff_J0_coder_7d493
    rw [if_pos k1, if_neg (by decide), if_pos k1, Option.bind_some, if_pos rfl, if_pos rfl]
  have eg : ff_J0_getBytes_840e7 N v' k (Int32.ofInt (L.length : Int)) (0 : Int32) = some (ss_A v' 0 (va_cpy (fun j => (st_byt.getD k []).getD j 0) (os_A v' 0) 0 L.length (lt_b k).length)) := by
    unfold ff_J0_getBytes_840e7 ff_J0_coder_7d493
    rw [if_pos k1, if_neg (by decide), if_pos k1, Option.bind_some, if_pos rfl, if_pos rfl, if_pos k1, if_pos k1, if_pos k1, if_pos k1, sz_0, l1, ia_on]
    have e0 : Int32.toNatClampNeg (0 : Int32) = 0 := rfl
    have e1 : Int32.toNatClampNeg (Int32.ofInt (L.length : Int)) = L.length := by rw [ia_nat (by omega) (by omega)]; exact Int.toNat_natCast _
    have e2 : Int32.toNatClampNeg (Int32.ofInt ((lt_b k).length : Int)) = (lt_b k).length := by rw [ia_nat (by omega) (by omega)]; exact Int.toNat_natCast _
    have hf : ∀ i, i < (lt_b k).length → fits .byte (.int ((fun j => (st_byt.getD k []).getD j 0) (0 + i))) = true := fun i hi => by
      show fits .byte (.int ((st_byt.getD k []).getD (0 + i) 0)) = true
      rw [Nat.zero_add, l3 i hi]
      exact fit_n (getD_ok l4 hi).2
    rw [e0, e1, e2, ec, if_pos ⟨⟨⟨by decide, by rw [i0_lt (by omega)]; omega⟩, by rw [i0_lt (by omega)]; omega⟩, ⟨by omega, by omega⟩, hf⟩]
  refine ⟨ss_I b 3 (Int32.ofInt ((L.length + (lt_b k).length : Nat) : Int)), ss_A v' 0 (va_cpy (fun j => (st_byt.getD k []).getD j 0) (os_A v' 0) 0 L.length (lt_b k).length), ?_, ?_, ⟨c, hc, hcap, ?_⟩, fun i hi => ?_, fun i => ?_, fun x hx => ?_⟩
  · unfold ff_J4_append_15ec4 ff_J5_append_cf1ce ff_J5_putStringAt_47b60
    rw [if_pos k1, el, Option.bind_some, if_pos rfl, h.1]
    simp only [ia_add]
    rw [show (L.length : Int) + ((lt_b k).length : Int) = ((L.length + (lt_b k).length : Nat) : Int) from rfl, ee, Option.bind_some]
    simp only [ei, Option.bind_some]
    rw [if_pos k1, h.1, eg]
    simp only [Option.bind_some]
    rw [ia_add]
    rfl
  · show Int32.ofInt _ = _
    rw [List.length_append]
  · rw [List.length_append]; exact hle
  · show va_cpy (fun j => (st_byt.getD k []).getD j 0) (os_A v' 0) 0 L.length (lt_b k).length i = _
    rw [List.length_append] at hi
    unfold va_cpy
    by_cases ci : i < L.length
    · rw [if_neg (by omega), getD_app1 ci]; exact h4 i ci
    · rw [if_pos (by omega), getD_app2 (by omega), Nat.zero_add]
      exact l3 _ (by omega)
  · show fits .byte (.int (va_cpy (fun j => (st_byt.getD k []).getD j 0) (os_A v' 0) 0 L.length (lt_b k).length i)) = true
    unfold va_cpy
    split
    · rename_i ci
      show fits .byte (.int ((st_byt.getD k []).getD (0 + (i - L.length)) 0)) = true
      rw [Nat.zero_add, l3 (i - L.length) (by omega)]
      exact fit_n (getD_ok l4 (by omega)).2
    · exact h5 i
  · rcases List.mem_append.mp hx with z | z
    · exact h6 x z
    · exact l4 x z
theorem ub_put (h1 : os_I b 3 = Int32.ofInt (L.length : Int)) (h4 : ∀ i, i < L.length → os_A v 0 i = Int32.ofInt (L.getD i 0 : Nat)) {x i : Nat} {f : Nat → Int32} (hf : ∀ i, i < L.length → f i = Int32.ofInt (L.getD i 0 : Nat)) (hx : f L.length = Int32.ofInt (x : Int)) (hi : i < (L ++ [x]).length) : f i = Int32.ofInt ((L ++ [x]).getD i 0 : Nat) := by
  rw [List.length_append] at hi
  by_cases c : i < L.length
  · rw [getD_app1 c]; exact hf i c
  · have : i = L.length := by simp at hi; omega
    subst this
    rw [getD_app2 (Nat.le_refl _), Nat.sub_self]
    exact hx
theorem ub_sp (h : ub b v L) (hL : L.length + 1 ≤ 574) : ∃ b' v', ff_J4_append_cf468 N b v (32 : Int32) = some (b', v') ∧ ub b' v' (L ++ [32]) := by
  obtain ⟨v', c, ee, h', hc, hcap, hle⟩ := ub_ensure (N := N) h (n := 1) (by omega) hL
  obtain ⟨h1, -, h4, h5, h6⟩ := h'
  have hc2 : c ≤ 574 := by unfold ub_cap at hcap; omega
  have ec := ub_c hc (by omega)
  have e1 : Int32.toNatClampNeg (Int32.ofInt (L.length : Int)) = L.length := by rw [ia_nat (by omega) (by omega)]; exact Int.toNat_natCast _
  refine ⟨ss_I b 3 (Int32.ofInt ((L.length + 1 : Nat) : Int)), ss_A v' 0 (upd (os_A v' 0) L.length (Int32.ofInt 32)), ?_, ?_, ⟨c, hc, hcap, ?_⟩, fun i hi => ?_, fun i => ?_, fun x hx => ?_⟩
  · unfold ff_J4_append_cf468 ff_J5_append_3fe6f
    rw [h.1, ii_1, ia_s, ee, Option.bind_some]
    simp only [ff_J5_isLatin1_aae02, Option.bind_some]
    rw [if_neg (by decide)]
    unfold ff_J1_canEncode_fc78d
    rw [if_neg (by decide), Option.bind_some, if_neg (by decide), h.1, ec, if_pos (ia_in (by omega) (by omega) (by omega)), e1, ia_s]
    rfl
  · show Int32.ofInt _ = _
    rw [List.length_append]; rfl
  · rw [List.length_append]; exact hle
  · refine ub_put (v := v') h1 h4 (fun i hi => ?_) ?_ hi
    · show upd (os_A v' 0) L.length (Int32.ofInt 32) i = _
      unfold upd
      rw [if_neg (by omega)]; exact h4 i hi
    · show upd (os_A v' 0) L.length (Int32.ofInt 32) L.length = _
      unfold upd
      rw [if_pos rfl]; rfl
  · show fits .byte (.int (upd (os_A v' 0) L.length (Int32.ofInt 32) i)) = true
    unfold upd
    split
    · exact fit_n (n := 32) (by decide)
    · exact h5 i
  · rcases List.mem_append.mp hx with z | z
    · exact h6 x z
    · simp at z; omega
end Build
