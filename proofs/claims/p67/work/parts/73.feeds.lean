/-! LAYER 2. The text is fed -/
theorem fw_or {a b : Nat} (ha : a < 8388608) (hb : b < 256) : (Int32.ofInt (a : Int) <<< ((8 : Int32) &&& 31)) ||| Int32.ofInt (b : Int) = Int32.ofInt ((256 * a + b : Nat) : Int) := by
  apply Int32.toBitVec_inj.mp
  have e1 : (Int32.ofInt (a : Int)).toBitVec = BitVec.ofNat 32 a := by rw [Int32.ofInt_eq_ofNat]; rfl
  have e2 : (Int32.ofInt (b : Int)).toBitVec = BitVec.ofNat 32 b := by rw [Int32.ofInt_eq_ofNat]; rfl
  have e3 : (Int32.ofInt ((256 * a + b : Nat) : Int)).toBitVec = BitVec.ofNat 32 (256 * a + b) := by rw [Int32.ofInt_eq_ofNat]; rfl
  rw [e3]
  show ((Int32.ofInt (a : Int)).toBitVec <<< 8) ||| (Int32.ofInt (b : Int)).toBitVec = _
  rw [e1, e2]
  apply BitVec.eq_of_toNat_eq
  rw [BitVec.toNat_or, BitVec.toNat_shiftLeft, BitVec.toNat_ofNat, BitVec.toNat_ofNat, BitVec.toNat_ofNat, Nat.mod_eq_of_lt (by omega : a < 2 ^ 32), Nat.mod_eq_of_lt (by omega : b < 2 ^ 32), Nat.mod_eq_of_lt (by omega : 256 * a + b < 2 ^ 32), Nat.shiftLeft_eq, Nat.mod_eq_of_lt (by omega : a * 2 ^ 8 < 2 ^ 32), Nat.mul_comm a]
  exact (Nat.two_pow_add_eq_or_of_lt (i := 8) (by omega) a).symm
theorem fw_sh {W : Nat} (h : W < 2147483648) (k : Nat) (hk : k < 32) : ((BitVec.ofNat 32 W) >>> k) = BitVec.ofNat 32 (W / 2 ^ k) := by
  apply BitVec.eq_of_toNat_eq
  have : W / 2 ^ k ≤ W := Nat.div_le_self _ _
  rw [BitVec.toNat_ushiftRight, BitVec.toNat_ofNat, BitVec.toNat_ofNat, Nat.mod_eq_of_lt (by omega : W < 2 ^ 32), Nat.shiftRight_eq_div_pow, Nat.mod_eq_of_lt (by omega : W / 2 ^ k < 2 ^ 32)]
theorem fw_bv (n : Nat) : (Int32.ofInt (n : Int)).toBitVec = BitVec.ofNat 32 n := by rw [Int32.ofInt_eq_ofNat]; rfl
theorem fw_24 {W : Nat} (h : W < 2147483648) : ((Int32.toUInt32 (Int32.ofInt (W : Int))) >>> ((Int32.toUInt32 (24 : Int32)) &&& Int32.toUInt32 31)).toInt32 = Int32.ofInt ((W / 16777216 : Nat) : Int) := by
  apply Int32.toBitVec_inj.mp
  rw [fw_bv]
  show (Int32.ofInt (W : Int)).toBitVec >>> 24 = _
  rw [fw_bv, fw_sh h 24 (by decide)]
theorem fw_16 {W : Nat} (h : W < 2147483648) : ((Int32.toUInt32 (Int32.ofInt (W : Int))) >>> ((Int32.toUInt32 (16 : Int32)) &&& Int32.toUInt32 31)).toInt32 = Int32.ofInt ((W / 65536 : Nat) : Int) := by
  apply Int32.toBitVec_inj.mp
  rw [fw_bv]
  show (Int32.ofInt (W : Int)).toBitVec >>> 16 = _
  rw [fw_bv, fw_sh h 16 (by decide)]
theorem fw_8 {W : Nat} (h : W < 2147483648) : ((Int32.toUInt32 (Int32.ofInt (W : Int))) >>> ((Int32.toUInt32 (8 : Int32)) &&& Int32.toUInt32 31)).toInt32 = Int32.ofInt ((W / 256 : Nat) : Int) := by
  apply Int32.toBitVec_inj.mp
  rw [fw_bv]
  show (Int32.ofInt (W : Int)).toBitVec >>> 8 = _
  rw [fw_bv, fw_sh h 8 (by decide)]
theorem fw_low {W : Nat} (h : W < 2147483648) (hb : W % 256 < 128) : (Int32.ofInt (W : Int)).toInt8.toInt32 = Int32.ofInt (bc ((W % 256 : Nat) : Int)) := by
  obtain ⟨b, b0, b1, e1, e2⟩ := fb_low (Int32.ofInt (W : Int))
  have hv : (Int32.ofInt (W : Int)).toInt = W := ia_v (by omega) (by omega)
  have e3 : (Int32.ofInt (W : Int)).toInt8.toInt32.toInt = ((W % 256 : Nat) : Int) := by
    rw [Int8.toInt_toInt32, Int32.toInt_toInt8, hv]
    simp only [Int.bmod_def]
    split <;> omega
  have : bc ((W % 256 : Nat) : Int) = ((W % 256 : Nat) : Int) := by unfold bc; rw [if_pos (by omega)]
  rw [this, ← e3, Int32.ofInt_toInt]
section Feeds
variable {N : Nat} {ot t s w v : os_T} {L : List Nat} {n : Nat} {ch : Nat → Nat}
/-- the text with blanks behind -/
def fch (L : List Nat) (i : Nat) : Nat := if i < L.length then L.getD i 0 else 32
theorem fch_b (h : ∀ x ∈ L, ub_ok x) (i : Nat) : fch L i < 128 := by
  unfold fch
  split
  · rename_i c; exact (getD_ok h c).2
  · decide
def tf (t : os_T) (n : Nat) (ch : Nat → Nat) : Prop := os_I t 4 = Int32.ofInt (n : Int) ∧ ∀ i, i < n → os_A t 0 i = Int32.ofInt (ch i : Int)
theorem tf_byte (h : tf t n ch) (hn : n < 900) (hc : ch n < 128) {w : Int32} (hw : w.toInt8.toInt32 = Int32.ofInt (bc (ch n : Int))) : ∃ t', ff_X10_appendByte N t w = some t' ∧ tf t' (n + 1) ch := by
  have hb : bc (ch n : Int) = (ch n : Int) := by unfold bc; rw [if_pos (by omega)]
  refine ⟨tS t n (ch n : Int), tb_byte (w2 := w) h.1 hn hw, rfl, fun i hi => ?_⟩
  show upd (os_A t 0) n (Int32.ofInt (bc (ch n : Int))) i = _
  by_cases c : i = n
  · subst c; rw [up_eq, hb]
  · rw [up_ne c]; exact h.2 i (by omega)
def pv (c : Nat → Nat) : Nat → Nat
  | 0 => 0
  | n + 1 => 256 * pv c n + c n
theorem tf_word (h : tf t n ch) (hn : n + 4 ≤ 900) (hc : ∀ i, ch i < 128) : ∃ t', ff_X10_append N t (Int32.ofInt ((pv (fun i => ch (n + i)) 4 : Nat) : Int)) = some t' ∧ tf t' (n + 4) ch := by
  have c0 := hc n
  have c1 := hc (n + 1)
  have c2 := hc (n + 2)
  have c3 := hc (n + 3)
  have eW : pv (fun i => ch (n + i)) 4 = 256 * (256 * (256 * (256 * 0 + ch n) + ch (n + 1)) + ch (n + 2)) + ch (n + 3) := rfl
  generalize hW : pv (fun i => ch (n + i)) 4 = W at eW
  have hlt : W < 2147483648 := by omega
  obtain ⟨t1, e1, h1⟩ := tf_byte (N := N) (w := Int32.ofInt ((W / 16777216 : Nat) : Int)) h (by omega) c0 (by rw [fw_low (by omega) (by omega)]; congr 2; omega)
  obtain ⟨t2, e2, h2⟩ := tf_byte (N := N) (w := Int32.ofInt ((W / 65536 : Nat) : Int)) h1 (by omega) c1 (by rw [fw_low (by omega) (by omega)]; congr 2; omega)
  have h2 : tf t2 (n + 2) ch := h2
  obtain ⟨t3, e3, h3⟩ := tf_byte (N := N) (w := Int32.ofInt ((W / 256 : Nat) : Int)) h2 (by omega) c2 (by rw [fw_low (by omega) (by omega)]; congr 2; omega)
  have h3 : tf t3 (n + 3) ch := h3
  obtain ⟨t4, e4, h4⟩ := tf_byte (N := N) (w := Int32.ofInt (W : Int)) h3 (by omega) c3 (by rw [fw_low (by omega) (by omega)]; congr 2; omega)
  refine ⟨t4, ?_, h4⟩
  unfold ff_X10_append
  rw [fw_24 hlt, fw_16 hlt, fw_8 hlt, e1, Option.bind_some, e2, Option.bind_some, e3, Option.bind_some, e4, Option.bind_some]
theorem tf_feed (h : tf t n ch) (hn : n + 20 ≤ 900) (hc : ∀ i, ch i < 128) : ∃ t', ff_X12_feed N ot t (Int32.ofInt ((pv (fun i => ch (n + i)) 4 : Nat) : Int)) (Int32.ofInt ((pv (fun i => ch (n + 4 + i)) 4 : Nat) : Int)) (Int32.ofInt ((pv (fun i => ch (n + 8 + i)) 4 : Nat) : Int)) (Int32.ofInt ((pv (fun i => ch (n + 12 + i)) 4 : Nat) : Int)) (Int32.ofInt ((pv (fun i => ch (n + 16 + i)) 4 : Nat) : Int)) = some (0, Int32.ofInt ((n + 20 : Nat) : Int), t') ∧ tf t' (n + 20) ch := by
  obtain ⟨t1, e1, h1⟩ := tf_word (N := N) h (by omega) hc
  obtain ⟨t2, e2, h2⟩ := tf_word (N := N) h1 (by omega) hc
  obtain ⟨t3, e3, h3⟩ := tf_word (N := N) h2 (by omega) hc
  obtain ⟨t4, e4, h4⟩ := tf_word (N := N) h3 (by omega) hc
  obtain ⟨t5, e5, h5⟩ := tf_word (N := N) h4 (by omega) hc
  refine ⟨t5, ?_, h5⟩
  unfold ff_X12_feed ff_X10_hasRoomFor
  rw [h.1, show (20 : Int32) = Int32.ofInt 20 from rfl, ia_add, ii_900, ii_lt (by omega) (by omega), if_neg (by omega), Option.bind_some, if_neg (show ¬ ((1 : Int32) = 0) by decide), e1, Option.bind_some, e2, Option.bind_some, e3, Option.bind_some, e4, Option.bind_some, e5, Option.bind_some, h5.1]
theorem us_len (h : us s w L) : ff_J0_length_8abf5_d N s w = some (Int32.ofInt (L.length : Int)) := by
  unfold ff_J0_length_8abf5_d ff_J0_coder_7d493_d
  rw [Option.bind_some, sh_0, h.1, ia_on]
theorem us_char (h : us s w L) {i : Nat} (hi : i < L.length) (hL : L.length ≤ 1000) : ff_J0_charAt_5068e_d N s w (Int32.ofInt (i : Int)) = some (Int32.ofInt ((L.getD i 0 : Nat) : Int)) := by
  have ho := getD_ok h.2.2 hi
  obtain ⟨c1, c2⟩ := ch_ok ⟨L.getD i 0, ho.2⟩
  have e1 : Int32.toNatClampNeg (Int32.ofInt (i : Int)) = i := by rw [ia_nat (by omega) (by omega)]; exact Int.toNat_natCast _
  unfold ff_J0_charAt_5068e_d ff_J0_isLatin1_aae02_d ff_J1_charAt_3b067_d
  rw [Option.bind_some, if_neg (show ¬ ((1 : Int32) = 0) by decide), h.1, ia_on, if_pos ⟨by rw [i0_lt (by omega)]; omega, by rw [ia_lt (by omega) (by omega) (by omega) (by omega)]; omega⟩, if_pos (ia_in (by omega) (by omega) (by omega)), e1, h.2.1 i hi, c1, if_pos c2, Option.bind_some, if_pos c2]
/-- twenty bytes in five words -/
def fv (v : os_T) (ch : Nat → Nat) (n i : Nat) : Prop := ∀ q, q < 5 → os_A v 0 q = Int32.ofInt ((pv (fun j => ch (n + 4 * q + j)) (min 4 (i - 4 * q)) : Nat) : Int)
theorem pv_b {c : Nat → Nat} (hc : ∀ i, c i < 128) : ∀ n, n ≤ 3 → pv c n < 8388608 := by
  intro n hn
  have c0 := hc 0
  have c1 := hc 1
  have c2 := hc 2
  obtain rfl | rfl | rfl | rfl : n = 0 ∨ n = 1 ∨ n = 2 ∨ n = 3 := by omega
  · exact (by decide : (0 : Nat) < 8388608)
  · show 256 * 0 + c 0 < _; omega
  · show 256 * (256 * 0 + c 0) + c 1 < _; omega
  · show 256 * (256 * (256 * 0 + c 0) + c 1) + c 2 < _; omega
theorem fv_s {i : Nat} (h : fv v ch n i) (hc : ∀ i, ch i < 128) (hi : i < 20) {c : Int32} (hcc : c = Int32.ofInt (ch (n + i) : Int)) : fv (ss_A v 0 (upd (os_A v 0) (i / 4) ((os_A v 0 (i / 4) <<< ((8 : Int32) &&& 31)) ||| c))) ch n (i + 1) := by
  intro q hq
  show upd (os_A v 0) (i / 4) ((os_A v 0 (i / 4) <<< ((8 : Int32) &&& 31)) ||| c) q = _
  by_cases e : q = i / 4
  · subst e
    have hv := h (i / 4) (by omega)
    rw [up_eq, hv, hcc]
    rw [fw_or (pv_b (fun j => hc _) _ (by omega)) (by have := hc (n + i); omega)]
    rw [show min 4 (i + 1 - 4 * (i / 4)) = min 4 (i - 4 * (i / 4)) + 1 by omega]
    show Int32.ofInt _ = Int32.ofInt ((256 * pv (fun j => ch (n + 4 * (i / 4) + j)) (min 4 (i - 4 * (i / 4))) + ch (n + 4 * (i / 4) + min 4 (i - 4 * (i / 4))) : Nat) : Int)
    rw [show n + 4 * (i / 4) + min 4 (i - 4 * (i / 4)) = n + i by omega]
  · rw [up_ne e, h q hq, show min 4 (i + 1 - 4 * q) = min 4 (i - 4 * q) by omega]
/-- all chunks -/
theorem feeds_all (hN : 1000 < N) (h : us s w L) (hL : L.length ≤ 700) : ∃ t', ff_L_feeds N ot os_zero s w = some (1, ot, t') ∧ ty t' L.length (cB L) := by
  have hc := fch_b h.2.2
  have el := us_len (N := N) h
  have key : ∃ r, (∃ t', r = some ((1 : Int32), ot, t') ∧ ty t' L.length (cB L)) ∧ ff_L_feeds_l4 N s w 60 (ot, os_zero, Int32.ofInt ((20 * 0 : Nat) : Int), Int32.ofInt ((20 * 0 : Nat) : Int)) = r := by
    unfold ff_L_feeds_l4
    refine lo_cnt (N := 60) (step := fun k4 s1 => ff_L_feeds_c4 N s w k4 s1.1 s1.2.1 s1.2.2.1 s1.2.2.2) (fun j st => ∃ t', st = (ot, t', Int32.ofInt ((20 * j : Nat) : Int), Int32.ofInt ((20 * j : Nat) : Int)) ∧ tf t' (20 * j) (fch L)) (fun r => ∃ t', r = some ((1 : Int32), ot, t') ∧ ty t' L.length (cB L)) ((L.length + 19) / 20) ?_ ?_ (by omega) ⟨os_zero, rfl, rfl, fun i hi => absurd hi (by omega)⟩
    · rintro j st hj ⟨t', rfl, ht⟩
      -- the words of one chunk
      have inner : ∃ t2, tf t2 (20 * (j + 1)) (fch L) ∧ ∀ K : (os_T × os_T × Int32 × Int32) → Option (Int32 × os_T × os_T), ff_L_feeds_l20 N s w K N (ot, t', os_zero, Int32.ofInt ((20 * j : Nat) : Int), Int32.ofInt ((0 : Nat) : Int)) = K (ot, t2, Int32.ofInt ((20 * (j + 1) : Nat) : Int), Int32.ofInt ((20 * (j + 1) : Nat) : Int)) := by
        unfold ff_L_feeds_l20
        refine lo_cntP (K := (os_T × os_T × Int32 × Int32) → Option (Int32 × os_T × os_T)) (step := fun K k20 s1 => ff_L_feeds_c20 N s w K k20 s1.1 s1.2.1 s1.2.2.1 s1.2.2.2.1 s1.2.2.2.2) (fun K t2 => K (ot, t2, Int32.ofInt ((20 * (j + 1) : Nat) : Int), Int32.ofInt ((20 * (j + 1) : Nat) : Int))) (fun i st => ∃ v, st = (ot, t', v, Int32.ofInt ((20 * j : Nat) : Int), Int32.ofInt (i : Int)) ∧ fv v (fch L) (20 * j) i) (fun t2 => tf t2 (20 * (j + 1)) (fch L)) 20 ?_ ?_ (by omega) ⟨os_zero, rfl, fun q hq => by rw [Nat.zero_sub, Nat.min_zero]; rfl⟩
        · rintro i st hi ⟨v, rfl, hv⟩
          have e4 : Int32.ofInt (i : Int) / (4 : Int32) = Int32.ofInt ((i / 4 : Nat) : Int) := ia_divN (b := 4) (by omega) (by omega) (by omega)
          have en : Int32.toNatClampNeg (Int32.ofInt ((i / 4 : Nat) : Int)) = i / 4 := by rw [ia_nat (by omega) (by omega)]; exact Int.toNat_natCast _
          have hin : os_in (Int32.ofInt ((i / 4 : Nat) : Int)) 5 := ia_in (by omega) (by omega) (by omega)
          refine ⟨_, ⟨_, rfl, fv_s (c := Int32.ofInt (fch L (20 * j + i) : Int)) hv hc hi rfl⟩, fun K r => ?_⟩
          show ff_L_feeds_c20 N s w K r ot t' v (Int32.ofInt ((20 * j : Nat) : Int)) (Int32.ofInt (i : Int)) = _
          unfold ff_L_feeds_c20 ff_L_feeds_b67
          rw [show (20 : Int32) = Int32.ofInt 20 from rfl, ii_le (by omega) (by omega), if_neg (by omega), e4, if_pos hin, el, Option.bind_some, ia_add, show ((20 * j : Nat) : Int) + (i : Int) = ((20 * j + i : Nat) : Int) from rfl, ii_le (by omega) (by omega), ii_1, ia_s]
          by_cases cl : ((L.length : Nat) : Int) ≤ ((20 * j + i : Nat) : Int)
          · rw [if_pos cl, if_pos hin, en]
            have e32 : fch L (20 * j + i) = 32 := by unfold fch; rw [if_neg (by omega)]
            rw [e32]
            rfl
          · rw [if_neg cl, us_char h (by omega) (by omega), Option.bind_some]
            have ec : fch L (20 * j + i) = L.getD (20 * j + i) 0 := by unfold fch; rw [if_pos (by omega)]
            rw [ec, if_pos hin, en]
        · rintro st ⟨v, rfl, hv⟩
          obtain ⟨t2, e2, h2⟩ := tf_feed (N := N) (ot := ot) ht (by omega) hc
          refine ⟨t2, h2, fun K r => ?_⟩
          show ff_L_feeds_c20 N s w K r ot t' v (Int32.ofInt ((20 * j : Nat) : Int)) (Int32.ofInt ((20 : Nat) : Int)) = _
          unfold ff_L_feeds_c20
          have v0 := hv 0 (by decide)
          have v1 := hv 1 (by decide)
          have v2 := hv 2 (by decide)
          have v3 := hv 3 (by decide)
          have v4 := hv 4 (by decide)
          have w0 : os_A v 0 (Int32.toNatClampNeg (0 : Int32)) = Int32.ofInt ((pv (fun i => fch L (20 * j + i)) 4 : Nat) : Int) := v0
          have w1 : os_A v 0 (Int32.toNatClampNeg (1 : Int32)) = Int32.ofInt ((pv (fun i => fch L (20 * j + 4 + i)) 4 : Nat) : Int) := v1
          have w2 : os_A v 0 (Int32.toNatClampNeg (2 : Int32)) = Int32.ofInt ((pv (fun i => fch L (20 * j + 8 + i)) 4 : Nat) : Int) := v2
          have w3 : os_A v 0 (Int32.toNatClampNeg (3 : Int32)) = Int32.ofInt ((pv (fun i => fch L (20 * j + 12 + i)) 4 : Nat) : Int) := v3
          have w4 : os_A v 0 (Int32.toNatClampNeg (4 : Int32)) = Int32.ofInt ((pv (fun i => fch L (20 * j + 16 + i)) 4 : Nat) : Int) := v4
          rw [if_pos (show (20 : Int32) ≤ Int32.ofInt ((20 : Nat) : Int) by decide), if_pos (by decide), if_pos (by decide), if_pos (by decide), if_pos (by decide), if_pos (by decide), w0, w1, w2, w3, w4, e2, Option.bind_some, if_pos rfl]
          simp only []
          rw [show Int32.ofInt ((20 * j : Nat) : Int) + 20 = Int32.ofInt ((20 * j + 20 : Nat) : Int) from ia_add _ 20]
          rfl
      obtain ⟨t2, h2, e2⟩ := inner
      refine ⟨_, ⟨t2, rfl, h2⟩, fun r => ?_⟩
      show ff_L_feeds_c4 N s w r ot t' (Int32.ofInt ((20 * j : Nat) : Int)) (Int32.ofInt ((20 * j : Nat) : Int)) = _
      unfold ff_L_feeds_c4
      rw [el, Option.bind_some, ii_le (by omega) (by omega), if_neg (by omega)]
      exact e2 r
    · rintro st ⟨t', rfl, ht⟩
      have hm : L.length ≤ 20 * ((L.length + 19) / 20) ∧ 20 * ((L.length + 19) / 20) ≤ L.length + 19 := by omega
      generalize (L.length + 19) / 20 = m at ht hm
      have hty : ∀ t2 : os_T, os_I t2 4 = Int32.ofInt (L.length : Int) → os_A t2 0 = os_A t' 0 → ty t2 L.length (cB L) := fun t2 x4 xA => by
        refine ⟨by omega, x4, fun i hi => ?_⟩
        have hg := getD_ok h.2.2 hi
        refine ⟨⟨Int.natCast_nonneg _, by show ((L.getD i 0 : Nat) : Int) ≤ 255; omega⟩, ?_⟩
        rw [xA, ht.2 i (by omega)]
        unfold fch cB bc
        rw [if_pos hi, if_pos (by omega)]
      by_cases c0 : L.length = 0
      · refine ⟨_, ⟨t', rfl, hty t' ?_ rfl⟩, fun r => ?_⟩
        · rw [ht.1, c0]
          congr 1
          omega
        · show ff_L_feeds_c4 N s w r ot t' (Int32.ofInt ((20 * m : Nat) : Int)) (Int32.ofInt ((20 * m : Nat) : Int)) = _
          unfold ff_L_feeds_c4 ff_L_feeds_b136 ff_J0_isEmpty_aae02_d
          rw [el, Option.bind_some, ii_le (by omega) (by omega), if_pos (by omega), h.1, c0, if_pos (by decide), Option.bind_some, if_neg (show ¬ ((1 : Int32) = 0) by decide)]
      · refine ⟨_, ⟨ss_I t' 4 (Int32.ofInt (L.length : Int)), rfl, hty _ rfl rfl⟩, fun r => ?_⟩
        show ff_L_feeds_c4 N s w r ot t' (Int32.ofInt ((20 * m : Nat) : Int)) (Int32.ofInt ((20 * m : Nat) : Int)) = _
        have etr : ff_X12_truncate N ot t' (Int32.ofInt (L.length : Int)) = some (0, Int32.ofInt (L.length : Int), ss_I t' 4 (Int32.ofInt (L.length : Int))) := by
          unfold ff_X12_truncate
          simp only [i0_lt (show ib (L.length : Int) by omega)]
          rw [if_neg (by omega), ht.1, ii_le (by omega) (by omega), if_pos (by omega)]
        unfold ff_L_feeds_c4 ff_L_feeds_b136 ff_J0_isEmpty_aae02_d
        have ene : ¬ (Int32.ofNat L.length = 0) := by rw [ia_on, i0_eq (by omega)]; omega
        rw [el, Option.bind_some, ii_le (by omega) (by omega), if_pos (by omega), h.1, if_neg ene, Option.bind_some, if_pos rfl, Option.bind_some, ii_lt (by omega) (by omega), if_neg (by omega), Option.bind_some, etr, Option.bind_some, if_pos rfl, Option.bind_some, if_pos rfl]
  obtain ⟨r, ⟨t', rfl, ht⟩, e⟩ := key
  exact ⟨t', e, ht⟩
end Feeds
