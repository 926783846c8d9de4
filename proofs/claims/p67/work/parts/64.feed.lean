/-! LAYER 2. The buffer -/
theorem fb_bv (x : BitVec 32) (k : Nat) (hk : k ≤ 24) : (x >>> k) &&& 255#32 = (x.sshiftRight k) &&& 255#32 := by
  apply BitVec.eq_of_getLsbD_eq
  intro i hi
  have e : (255#32).getLsbD i = decide (i < 8) := by
    have h : ∀ i : Fin 32, (255#32).getLsbD i.val = decide (i.val < 8) := by decide
    exact h ⟨i, hi⟩
  rw [BitVec.getLsbD_and, BitVec.getLsbD_and, e, BitVec.getLsbD_sshiftRight, BitVec.getLsbD_ushiftRight]
  by_cases c : i < 8
  · rw [if_pos (by omega)]
    have h9 : ¬ 32 ≤ i := by omega
    simp [h9]
  · simp [c]
theorem fb_sh24 (v : Int32) : ((Int32.toUInt32 v) >>> ((Int32.toUInt32 (24 : Int32)) &&& Int32.toUInt32 31)).toInt32 &&& 255 = (v >>> ((24:Int32) &&& 31)) &&& 255 := by
  apply Int32.toBitVec_inj.mp
  exact fb_bv v.toBitVec 24 (by decide)
theorem fb_sh16 (v : Int32) : ((Int32.toUInt32 v) >>> ((Int32.toUInt32 (16 : Int32)) &&& Int32.toUInt32 31)).toInt32 &&& 255 = (v >>> ((16:Int32) &&& 31)) &&& 255 := by
  apply Int32.toBitVec_inj.mp
  exact fb_bv v.toBitVec 16 (by decide)
theorem fb_sh8 (v : Int32) : ((Int32.toUInt32 v) >>> ((Int32.toUInt32 (8 : Int32)) &&& Int32.toUInt32 31)).toInt32 &&& 255 = (v >>> ((8:Int32) &&& 31)) &&& 255 := by
  apply Int32.toBitVec_inj.mp
  exact fb_bv v.toBitVec 8 (by decide)
theorem fb_sh0 (v : Int32) : (v >>> ((0:Int32) &&& 31)) = v := by
  apply Int32.toBitVec_inj.mp
  show v.toBitVec.sshiftRight 0 = _
  simp
theorem fb_low (w : Int32) : ∃ b : Int, 0 ≤ b ∧ b ≤ 255 ∧ w &&& 255 = Int32.ofInt b ∧ w.toInt8.toInt32 = Int32.ofInt (if b < 128 then b else b - 256) := by
  have e1 : (w &&& 255).toInt = w.toInt % 256 := by
    show (w.toBitVec &&& 255#32).toInt = w.toBitVec.toInt % 256
    rw [BitVec.toInt_and, BitVec.toInt_eq_toNat_bmod]
    have : w.toBitVec.toNat &&& (255#32).toNat = w.toBitVec.toNat % 256 := Nat.and_two_pow_sub_one_eq_mod w.toBitVec.toNat 8
    rw [this]
    have h1 := w.toBitVec.isLt
    simp only [Int.bmod_def]
    split <;> split <;> omega
  refine ⟨w.toInt % 256, by omega, by omega, ?_, ?_⟩
  · rw [← e1, Int32.ofInt_toInt]
  · have e2 : w.toInt8.toInt32.toInt = (if w.toInt % 256 < 128 then w.toInt % 256 else w.toInt % 256 - 256) := by
      rw [Int8.toInt_toInt32, Int32.toInt_toInt8]
      simp only [Int.bmod_def]
      split <;> split <;> omega
    rw [← e2, Int32.ofInt_toInt]
def bc (b : Int) : Int := if b < 128 then b else b - 256
theorem fb_nar {w : Int32} {c : Int} (h : w.toInt8.toInt32 = Int32.ofInt c) : vp_nar .byte (w.toInt8.toInt32) = Int32.ofInt c := by
  show (w.toInt8.toInt32).toInt8.toInt32 = _
  rw [show (w.toInt8.toInt32).toInt8 = w.toInt8 by simp, h]
abbrev tS (t : os_T) (L : Nat) (b : Int) : os_T := ss_I (ss_A t 0 (upd (os_A t 0) L (Int32.ofInt (bc b)))) 4 (Int32.ofInt ((L + 1 : Nat) : Int))
section Buffer
variable {N L : Nat} {t : os_T} {B : Nat → Int}
abbrev k4 : Nat → Prop := fun i => i = 4
abbrev k0 : Nat → Prop := fun j => j = 0
theorem tS_y {b : Int} : sy k4 k0 t (tS t L b) := (show sy k4 k0 t (ss_A t 0 (upd (os_A t 0) L (Int32.ofInt (bc b)))) from sy_A rfl).tr (sy_I rfl)
theorem tb_byte {w w2 : Int32} {b : Int} (h4 : os_I t 4 = Int32.ofInt (L : Int)) (hL : L < 900) (hb : w.toInt8.toInt32 = Int32.ofInt (bc b)) : ff_X10_appendByte N t w = some (tS t L b) := by
  unfold ff_X10_appendByte
  rw [h4]
  simp only [i0_lt (a := (L : Int)) (by omega)]
  rw [if_neg (by omega), ii_900, ii_le (by omega) (by omega), if_neg (by omega), if_pos (ia_in (by omega) (by omega) (by omega)), ia_nat (by omega) (by omega), fb_nar hb, ii_1, ia_add]
  rfl
theorem lo_1 {S α : Type} {step : (S → Option α) → S → Option α} {n : Nat} {s : S} : os_loop step (n + 1) s = step (os_loop step n) s := rfl
end Buffer
