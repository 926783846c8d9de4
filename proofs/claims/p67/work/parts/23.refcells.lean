/-! LAYER 2. How the reference holds a relief -/
def rp (o : os_T) (S : Nat → Nat) (T H : Int → Int → Int) : Prop :=
  (∀ i : Nat, i < 7 → os_A o 1 i = Int32.ofInt (S i)) ∧ (∀ x y : Int, 0 ≤ x → x < 16 → 0 ≤ y → y < 12 → os_A o 3 (16 * y + x).toNat = Int32.ofInt (T x y)) ∧ (∀ x y : Int, 0 ≤ x → x < 16 → 0 ≤ y → y < 12 → os_A o 4 (16 * y + x).toNat = Int32.ofInt (H x y))
/-- outside of the panel -/
def ov (S : Nat → Nat) (T H : Int → Int → Int) : Prop := ∀ x y : Int, 0 ≤ x → x < 16 → 0 ≤ y → y < 12 → ¬ ic S x y → T x y = 255 ∧ H x y = 0
theorem nw_0 : os_in (0 : Int32) 7 := by decide
theorem nw_1 : os_in (1 : Int32) 7 := by decide
theorem nw_2 : os_in (2 : Int32) 7 := by decide
theorem nw_3 : os_in (3 : Int32) 7 := by decide
theorem nw_4 : os_in (4 : Int32) 7 := by decide
theorem nw_5 : os_in (5 : Int32) 7 := by decide
theorem nw_6 : os_in (6 : Int32) 7 := by decide
theorem ij_0 : (0 : Int64) = Int64.ofInt 0 := rfl
theorem ij_1 : (1 : Int64) = Int64.ofInt 1 := rfl
theorem ij_2 : (2 : Int64) = Int64.ofInt 2 := rfl
theorem ij_3 : (3 : Int64) = Int64.ofInt 3 := rfl
theorem ij_6 : (6 : Int64) = Int64.ofInt 6 := rfl
theorem ij_20 : (20 : Int64) = Int64.ofInt 20 := rfl
theorem ij_255 : (255 : Int64) = Int64.ofInt 255 := rfl
theorem ij_m255 : (-255 : Int64) = Int64.ofInt (-255) := rfl
section RefCells
variable {N : Nat} {o : os_T} {S : Nat → Nat} {T H : Int → Int → Int}
theorem rs_0 (h : rp o S T H) : os_A o 1 (Int32.toNatClampNeg (0 : Int32)) = Int32.ofInt (S 0) := h.1 0 (by decide)
theorem rs_1 (h : rp o S T H) : os_A o 1 (Int32.toNatClampNeg (1 : Int32)) = Int32.ofInt (S 1) := h.1 1 (by decide)
theorem rs_2 (h : rp o S T H) : os_A o 1 (Int32.toNatClampNeg (2 : Int32)) = Int32.ofInt (S 2) := h.1 2 (by decide)
theorem rs_3 (h : rp o S T H) : os_A o 1 (Int32.toNatClampNeg (3 : Int32)) = Int32.ofInt (S 3) := h.1 3 (by decide)
theorem rs_4 (h : rp o S T H) : os_A o 1 (Int32.toNatClampNeg (4 : Int32)) = Int32.ofInt (S 4) := h.1 4 (by decide)
theorem rs_5 (h : rp o S T H) : os_A o 1 (Int32.toNatClampNeg (5 : Int32)) = Int32.ofInt (S 5) := h.1 5 (by decide)
theorem rs_6 (h : rp o S T H) : os_A o 1 (Int32.toNatClampNeg (6 : Int32)) = Int32.ofInt (S 6) := h.1 6 (by decide)
theorem rp_h (h : rp o S T H) (hS : sv S) {x y : Int} (c : ic S x y) : os_A o 4 (16 * y + x).toNat = Int32.ofInt (H x y) := by
  have := ic_r hS c
  exact h.2.2 x y (by omega) (by omega) (by omega) (by omega)
theorem rp_t (h : rp o S T H) (hS : sv S) {x y : Int} (c : ic S x y) : os_A o 3 (16 * y + x).toNat = Int32.ofInt (T x y) := by
  have := ic_r hS c
  exact h.2.1 x y (by omega) (by omega) (by omega) (by omega)
theorem rp_ix {x y : Int} : (16 : Int32) * Int32.ofInt y + Int32.ofInt x = Int32.ofInt (16 * y + x) := by
  rw [ii_16, ia_mul, ia_add]
theorem rp_in {x y : Int} (hS : sv S) (h : ic S x y) : os_in ((16 : Int32) * Int32.ofInt y + Int32.ofInt x) 192 := by
  have := ic_r hS h
  rw [rp_ix]
  exact ia_in (by omega) (by omega) (by omega)
theorem rp_na {x y : Int} (hS : sv S) (h : ic S x y) : Int32.toNatClampNeg ((16 : Int32) * Int32.ofInt y + Int32.ofInt x) = (16 * y + x).toNat := by
  have := ic_r hS h
  rw [rp_ix, ia_nat (by omega) (by omega)]
theorem rp_inj {x y a b : Int} (h1 : 0 ≤ x) (h2 : x < 16) (h3 : 0 ≤ a) (h4 : a < 16) (h5 : 0 ≤ y) (h6 : 0 ≤ b) (e : (16 * b + a).toNat = (16 * y + x).toNat) : a = x ∧ b = y := by omega
theorem rp_hu (h : rp o S T H) {x y v : Int} (h1 : 0 ≤ x) (h2 : x < 16) (h3 : 0 ≤ y) : rp (ss_A o 4 (upd (os_A o 4) (16 * y + x).toNat (Int32.ofInt v))) S T (hu H x y v) := by
  refine ⟨h.1, h.2.1, fun a b c1 c2 c3 c4 => ?_⟩
  show upd (os_A o 4) (16 * y + x).toNat (Int32.ofInt v) (16 * b + a).toNat = _
  unfold upd hu
  by_cases e : a = x ∧ b = y
  · rw [if_pos e, e.1, e.2, if_pos rfl]
  · rw [if_neg e, if_neg (fun z => e (rp_inj h1 h2 c1 c2 h3 c3 z)), h.2.2 a b c1 c2 c3 c4]
theorem rp_tu (h : rp o S T H) {x y v : Int} (h1 : 0 ≤ x) (h2 : x < 16) (h3 : 0 ≤ y) : rp (ss_A o 3 (upd (os_A o 3) (16 * y + x).toNat (Int32.ofInt v))) S (hu T x y v) H := by
  refine ⟨h.1, fun a b c1 c2 c3 c4 => ?_, h.2.2⟩
  show upd (os_A o 3) (16 * y + x).toNat (Int32.ofInt v) (16 * b + a).toNat = _
  unfold upd hu
  by_cases e : a = x ∧ b = y
  · rw [if_pos e, e.1, e.2, if_pos rfl]
  · rw [if_neg e, if_neg (fun z => e (rp_inj h1 h2 c1 c2 h3 c3 z)), h.2.1 a b c1 c2 c3 c4]
theorem hu_ov {x y v : Int} (h : ov S T H) (c : ic S x y) : ov S T (hu H x y v) := fun a b h1 h2 h3 h4 h5 => by
  have := h a b h1 h2 h3 h4 h5
  refine ⟨this.1, ?_⟩
  rw [hu_ne (fun z => h5 (by rw [z.1, z.2]; exact c))]
  exact this.2
theorem hu_ovT {x y v : Int} (h : ov S T H) (c : ic S x y) : ov S (hu T x y v) H := fun a b h1 h2 h3 h4 h5 => by
  have := h a b h1 h2 h3 h4 h5
  refine ⟨?_, this.2⟩
  rw [hu_ne (fun z => h5 (by rw [z.1, z.2]; exact c))]
  exact this.1
theorem sv_wh (hS : sv S) : S 0 * S 1 ≤ 192 := by
  have := sv_a hS
  exact Nat.le_trans (Nat.mul_le_mul (show S 0 ≤ 16 by omega) (show S 1 ≤ 12 by omega)) (by decide)
theorem ia_divN {a b : Nat} (h1 : a ≤ 2147483647) (h2 : 0 < b) (h3 : b ≤ 2147483647) : Int32.ofInt (a : Int) / Int32.ofInt (b : Int) = Int32.ofInt ((a / b : Nat) : Int) := by
  rw [ia_div (by omega) (by omega) (by omega) (by omega), Int.natCast_ediv]
theorem ia_modN {a b : Nat} (h1 : a ≤ 2147483647) (h2 : 0 < b) (h3 : b ≤ 2147483647) : Int32.ofInt (a : Int) - Int32.ofInt (a : Int) / Int32.ofInt (b : Int) * Int32.ofInt (b : Int) = Int32.ofInt ((a % b : Nat) : Int) := by
  rw [ia_divN h1 h2 h3, ia_mul, ia_sub, Int.natCast_ediv, ia_emod, Int.natCast_emod]
theorem ic_k (hS : sv S) {k : Nat} (hk : k < S 0 * S 1) : ic S ((k % S 0 : Nat) : Int) ((k / S 0 : Nat) : Int) := by
  have := sv_a hS
  have h1 : k % S 0 < S 0 := Nat.mod_lt _ (by omega)
  have h2 : k / S 0 < S 1 := Nat.div_lt_of_lt_mul hk
  exact ⟨Int.natCast_nonneg _, Int.ofNat_lt.mpr h1, Int.natCast_nonneg _, Int.ofNat_lt.mpr h2⟩
/-- a cell's place, and back -/
theorem ia_c16 {x y : Int} (h1 : 0 ≤ x) (h2 : x < 16) (h3 : 0 ≤ y) (h4 : y < 12) : Int32.ofInt (16 * y + x) - Int32.ofInt (16 * y + x) / (16 : Int32) * (16 : Int32) = Int32.ofInt x ∧ Int32.ofInt (16 * y + x) / (16 : Int32) = Int32.ofInt y := by
  have e : Int32.ofInt (16 * y + x) / (16 : Int32) = Int32.ofInt y := by
    rw [ii_16, ia_div (by omega) (by omega) (by omega) (by omega)]
    congr 1
    omega
  refine ⟨?_, e⟩
  rw [e, ii_16, ia_mul, ia_sub]
  congr 1
  omega
theorem fl_fo {g : Nat} (j : Nat) : fo (fun _ a => FP.fmul a (fl_f g)) j FP.fconst1 = fl_l g j := by
  induction j with
  | zero => rfl
  | succ j ih => rw [fo_s, ih]; rfl
end RefCells
