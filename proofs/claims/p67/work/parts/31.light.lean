/-! LAYER 2. What is asked of the light of the whole panel -/
theorem fi_one : fz f_1 = (FP.Core.one32 : Int) := by decide +kernel
theorem fi_v {n : Nat} (hn : n ≤ 1000) : fz (FP.i2f (Int32.ofInt (n : Int))) = n * fz f_1 := by
  have e : (Int32.ofInt (n : Int)).toInt = n := ia_v (by omega) (by omega)
  have h1 := FP.Core.i2f_int (a := Int32.ofInt (n : Int)) (by rw [e]; omega)
  rw [e] at h1
  rw [fi_one]
  exact FP.Core.FInt_zval h1
theorem fi_F {n : Nat} : fF (FP.i2f (Int32.ofInt (n : Int))) := FP.Core.i2f_fin _
theorem fF_of {r V : UInt32} (hn : FP.Core.val32 r ≠ .nan) (hV : fF V) (h0 : 0 ≤ fz r) (h1 : fz r ≤ fz V) : fF r := by
  have hb := hV.zval_lt
  have hb2 : fz V ≤ (FP.Core.zmag FP.Core.b32 (FP.Core.val32 V) : Int) := by
    unfold fz FP.Core.zval
    cases FP.Core.sgn (FP.Core.val32 V) <;> simp [FP.Core.signed] <;> omega
  cases hr : FP.Core.val32 r with
  | nan => exact absurd hr hn
  | fin s c q => exact ⟨s, c, q, hr⟩
  | inf s =>
    exfalso
    unfold fz FP.Core.zval at h0 h1
    rw [hr] at h0 h1
    have hz : FP.Core.zmag FP.Core.b32 (.inf s) = FP.Core.b32.tails * 2 ^ (FP.Core.b32.exps - 2) := rfl
    rw [hz] at h0 h1
    have hpos : 0 < FP.Core.b32.tails * 2 ^ (FP.Core.b32.exps - 2) := Nat.mul_pos (by decide) (Nat.two_pow_pos _)
    unfold fz FP.Core.zval at hb2
    generalize FP.Core.b32.tails * 2 ^ (FP.Core.b32.exps - 2) = top at *
    cases s
    · have h1' : (top : Int) ≤ FP.Core.signed (FP.Core.sgn (FP.Core.val32 V)) (FP.Core.zmag FP.Core.b32 (FP.Core.val32 V)) := h1
      omega
    · have h0' : 0 ≤ -(top : Int) := h0
      omega
/-- a sum of n + 1 numbers between 0 and 1 -/
theorem fi_add {a b : UInt32} {n : Nat} (hn : n + 1 ≤ 1000) (ha : fF a) (hb : fF b) (a0 : 0 ≤ fz a) (a1 : fz a ≤ n * fz f_1) (b0 : 0 ≤ fz b) (b1 : fz b ≤ fz f_1) : os_nn (FP.fadd a b) ∧ fF (FP.fadd a b) ∧ 0 ≤ fz (FP.fadd a b) ∧ fz (FP.fadd a b) ≤ (n + 1 : Nat) * fz f_1 := by
  have hv := fi_v hn
  have e : ((n + 1 : Nat) : Int) * fz f_1 = n * fz f_1 + fz f_1 := by rw [Int.natCast_add, Int.add_mul]; omega
  have up := fz_add_le (V := FP.i2f (Int32.ofInt ((n + 1 : Nat) : Int))) ha hb fi_F.ne_nan (by omega)
  have lo := fz_add_ge (V := FP.fconst0) ha hb fq_0.ne_nan (by rw [fz_0]; omega)
  rw [fz_0] at lo
  have hn : FP.Core.val32 (FP.fadd a b) ≠ .nan := (FP.Core.notNaN_iff32 _).mp (FP.Core.fadd_out ha.notNaN hb)
  exact ⟨fq_add ha hb, fF_of hn fi_F lo up, lo, by omega⟩
theorem gr_first {σ : Type} {w h : Nat} {g : Int → Int → σ → σ} {s s' : σ} (hw : 1 ≤ w) (hh : 1 ≤ h) (e : g 0 0 s = g 0 0 s') : gr w h g s = gr w h g s' := by
  unfold gr
  have hp : 1 ≤ w * h := Nat.mul_pos hw hh
  rw [show w * h = 1 + (w * h - 1) by omega, fo_add, fo_add]
  have e1 : ∀ a, fo (fg w g) 1 a = g 0 0 a := fun a => by
    show fg w g 0 a = _
    unfold fg
    rw [Nat.zero_mod, Nat.zero_div]; rfl
  rw [e1, e1, e]
theorem gr_from1 {σ : Type} {w h : Nat} {g : Int → Int → σ → σ} {s : σ} (hw : 1 ≤ w) (hh : 1 ≤ h) (e : g 0 0 s = s) : gr w h g s = fo (fun k => fg w g (1 + k)) (w * h - 1) s := by
  unfold gr
  have hp : 1 ≤ w * h := Nat.mul_pos hw hh
  rw [show w * h = 1 + (w * h - 1) by omega, fo_add, Nat.add_sub_cancel_left]
  have e1 : fo (fg w g) 1 s = s := by
    show fg w g 0 s = _
    unfold fg
    rw [Nat.zero_mod, Nat.zero_div]; exact e
  rw [e1]
theorem ic_00 {S : Nat → Nat} (hS : sv S) : ic S 0 0 := by
  have := sv_a hS
  omega
section Light
variable {N : Nat} {o : os_T} {S : Nat → Nat} {T H : Int → Int → Int}
def lq_sum (S : Nat → Nat) (T H : Int → Int → Int) : Int → Int → UInt32 → UInt32 := fun x y a => FP.fadd a (g_z S T H x y)
theorem lq_sumb (hS : sv S) (hH : hv S H) (hT : tv S T) : ∀ n : Nat, n ≤ 500 → fF (fo (fg (S 0) (lq_sum S T H)) n FP.fconst0) ∧ 0 ≤ fz (fo (fg (S 0) (lq_sum S T H)) n FP.fconst0) ∧ fz (fo (fg (S 0) (lq_sum S T H)) n FP.fconst0) ≤ n * fz f_1 := by
  intro n
  induction n with
  | zero => intro _; exact ⟨fq_0, by show 0 ≤ fz FP.fconst0; rw [fz_0]; omega, by show fz FP.fconst0 ≤ _; rw [fz_0]; omega⟩
  | succ n ih =>
    intro hn
    obtain ⟨i1, i2, i3⟩ := ih (by omega)
    obtain ⟨z1, z2, z3⟩ := g_zb (x := ((n % S 0 : Nat) : Int)) (y := ((n / S 0 : Nat) : Int)) hS hH hT
    have := fi_add (n := n) (by omega) i1 z1 i2 i3 z2 z3
    exact ⟨this.2.1, this.2.2.1, this.2.2.2⟩
theorem lq_sumn (hS : sv S) (hH : hv S H) (hT : tv S T) {n : Nat} (hn : n ≤ 499) {a : UInt32} (ha : a = fo (fg (S 0) (lq_sum S T H)) n FP.fconst0) (x y : Int) : os_nn (FP.fadd a (g_z S T H x y)) := by
  obtain ⟨i1, i2, i3⟩ := lq_sumb hS hH hT n (by omega)
  rw [← ha] at i1 i2 i3
  obtain ⟨z1, z2, z3⟩ := g_zb (x := x) (y := y) hS hH hT
  exact (fi_add (n := n) (by omega) i1 z1 i2 i3 z2 z3).1
def lq_mean (S : Nat → Nat) (T H : Int → Int → Int) : UInt32 := FP.fdiv (gr (S 0) (S 1) (lq_sum S T H) FP.fconst0) (FP.i2f (Int32.ofInt (S 0 * S 1 : Nat)))
theorem lq_meann (hS : sv S) (hH : hv S H) (hT : tv S T) : os_nn (lq_mean S T H) := by
  have hs := sv_a hS
  have hwh := sv_wh hS
  have hp : 1 ≤ S 0 * S 1 := Nat.mul_pos (show 0 < S 0 by omega) (show 0 < S 1 by omega)
  have h1 := (lq_sumb hS hH hT (S 0 * S 1) (by omega)).1
  refine fq_div h1 fi_F ?_
  intro z
  have hz := (FP.Core.zero_bits232 _).mp z
  exact FP.Core.i2f_ne_zero (v := Int32.ofInt (S 0 * S 1 : Nat)) (fun e => by
    rw [i0_eq (by omega)] at e
    omega) hz

def lq_wo (S : Nat → Nat) (T H : Int → Int → Int) : Int → Int → Int × UInt32 → Int × UInt32 := fun x y a => if fz a.2 < fz (g_z S T H x y) then (16 * y + x, g_z S T H x y) else a
theorem lq_wob (hS : sv S) (hH : hv S H) (hT : tv S T) {s : Int × UInt32} (hs : fF s.2) (n : Nat) : fF (fo (fg (S 0) (lq_wo S T H)) n s).2 := by
  refine fo_inv (fun _ (a : Int × UInt32) => fF a.2) hs ?_
  intro k hk a ha
  show fF (lq_wo S T H _ _ a).2
  unfold lq_wo
  split
  · exact (g_zb hS hH hT).1
  · exact ha
def lq_br (S : Nat → Nat) (H : Int → Int → Int) : Int → Int → Int × UInt32 → Int × UInt32 := fun x y a => if fz a.2 < fz (g_e S H x y) then (16 * y + x, g_e S H x y) else a
theorem lq_brb (hS : sv S) (hH : hv S H) {n : Nat} (hn : n ≤ S 0 * S 1) : (fun a : Int × UInt32 => 0 ≤ a.1 ∧ a.1 < 192 ∧ ic S (a.1 % 16) (a.1 / 16) ∧ a.2 = g_e S H (a.1 % 16) (a.1 / 16)) (fo (fg (S 0) (lq_br S H)) n (0, g_e S H 0 0)) := by
  refine fo_inv (fun _ (a : Int × UInt32) => 0 ≤ a.1 ∧ a.1 < 192 ∧ ic S (a.1 % 16) (a.1 / 16) ∧ a.2 = g_e S H (a.1 % 16) (a.1 / 16)) ⟨Int.le_refl _, (show (0 : Int) < 192 by decide), ic_00 hS, rfl⟩ ?_
  intro k hk a ha
  have hc := ic_k hS (show k < S 0 * S 1 by omega)
  have hr := ic_r hS hc
  show (fun a : Int × UInt32 => 0 ≤ a.1 ∧ a.1 < 192 ∧ ic S (a.1 % 16) (a.1 / 16) ∧ a.2 = g_e S H (a.1 % 16) (a.1 / 16)) (lq_br S H ((k % S 0 : Nat) : Int) ((k / S 0 : Nat) : Int) a)
  generalize ((k % S 0 : Nat) : Int) = x at *
  generalize ((k / S 0 : Nat) : Int) = y at *
  unfold lq_br
  split
  · have e1 : (16 * y + x) % 16 = x := by omega
    have e2 : (16 * y + x) / 16 = y := by omega
    show 0 ≤ 16 * y + x ∧ 16 * y + x < 192 ∧ ic S ((16 * y + x) % 16) ((16 * y + x) / 16) ∧ g_e S H x y = g_e S H ((16 * y + x) % 16) ((16 * y + x) / 16)
    rw [e1, e2]
    exact ⟨by omega, by omega, hc, rfl⟩
  · exact ha
def lq_sp (S : Nat → Nat) (H : Int → Int → Int) : Int → Int → UInt32 × UInt32 → UInt32 × UInt32 := fun x y a => (if fz a.1 < fz (g_e S H x y) then g_e S H x y else a.1, if fz (g_e S H x y) < fz a.2 then g_e S H x y else a.2)
theorem lq_spb (hS : sv S) (hH : hv S H) {n : Nat} (hn : n ≤ S 0 * S 1) : (fun a : UInt32 × UInt32 => (fF a.1 ∧ fw_m 128 a.1) ∧ fF a.2 ∧ fw_m 128 a.2) (fo (fg (S 0) (lq_sp S H)) n (g_e S H 0 0, g_e S H 0 0)) := by
  have k1 : ∀ x y, ic S x y → fF (g_e S H x y) ∧ fw_m 128 (g_e S H x y) := fun x y c => ⟨g_eF hS hH c, fm_of (g_all hS hH c).2.2.2.2.2.2.2 (by decide) (by decide)⟩
  refine fo_inv (fun _ (a : UInt32 × UInt32) => (fF a.1 ∧ fw_m 128 a.1) ∧ fF a.2 ∧ fw_m 128 a.2) ⟨k1 0 0 (ic_00 hS), k1 0 0 (ic_00 hS)⟩ ?_
  intro k hk a ha
  have hc := ic_k hS (show k < S 0 * S 1 by omega)
  show (fF (if _ then _ else _) ∧ fw_m 128 (if _ then _ else _)) ∧ fF (if _ then _ else _) ∧ fw_m 128 (if _ then _ else _)
  refine ⟨?_, ?_⟩
  · split
    · exact k1 _ _ hc
    · exact ha.1
  · split
    · exact k1 _ _ hc
    · exact ha.2

end Light
