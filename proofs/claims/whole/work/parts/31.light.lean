/-! LAYER 2. What is asked of the light of the whole panel -/
theorem fi_one : fz f_1 = (FP.Core.one32 : Int) := by decide +kernel
theorem fi_v {n : Nat} (hn : n ≤ 1000) : fz (FP.i2f (Int32.ofInt (n : Int))) = n * fz f_1 := by
  have e : (Int32.ofInt (n : Int)).toInt = n := ia_v (by omega) (by omega)
  have h1 := FP.Core.i2f_int (a := Int32.ofInt (n : Int)) (by rw [e]; omega)
  rw [e] at h1
  rw [fi_one]
  exact FP.Core.FInt_zval h1
theorem fi_F {n : Nat} : fF (FP.i2f (Int32.ofInt (n : Int))) := FP.Core.i2f_fin _
theorem fF_of {r V : UInt32} (hn : FP.Core.val32 r ≠ .nan) (hV : fF V) (h0 : 0 ≤ fz r) (h1 : fz r ≤ fz V) : fF r := by
  have hb := hV.zval_lt
  have hb2 : fz V ≤ (FP.Core.zmag FP.Core.b32 (FP.Core.val32 V) : Int) := by
    unfold fz FP.Core.zval
    cases FP.Core.sgn (FP.Core.val32 V) <;> simp [FP.Core.signed] <;> omega
  cases hr : FP.Core.val32 r with
  | nan => exact absurd hr hn
  | fin s c q => exact ⟨s, c, q, hr⟩
  | inf s =>
    exfalso
    unfold fz FP.Core.zval at h0 h1
    rw [hr] at h0 h1
    have hz : FP.Core.zmag FP.Core.b32 (.inf s) = FP.Core.b32.tails * 2 ^ (FP.Core.b32.exps - 2) := rfl
    rw [hz] at h0 h1
    have hpos : 0 < FP.Core.b32.tails * 2 ^ (FP.Core.b32.exps - 2) := Nat.mul_pos (by decide) (Nat.two_pow_pos _)
    unfold fz FP.Core.zval at hb2
    generalize FP.Core.b32.tails * 2 ^ (FP.Core.b32.exps - 2) = top at *
    cases s
    · have h1' : (top : Int) ≤ FP.Core.signed (FP.Core.sgn (FP.Core.val32 V)) (FP.Core.zmag FP.Core.b32 (FP.Core.val32 V)) := h1
      omega
    · have h0' : 0 ≤ -(top : Int) := h0
      omega
/-- a sum of n + 1 numbers between 0 and 1 -/
theorem fi_add {a b : UInt32} {n : Nat} (hn : n + 1 ≤ 1000) (ha : fF a) (hb : fF b) (a0 : 0 ≤ fz a) (a1 : fz a ≤ n * fz f_1) (b0 : 0 ≤ fz b) (b1 : fz b ≤ fz f_1) : os_nn (FP.fadd a b) ∧ fF (FP.fadd a b) ∧ 0 ≤ fz (FP.fadd a b) ∧ fz (FP.fadd a b) ≤ (n + 1 : Nat) * fz f_1 := by
  have hv := fi_v hn
  have e : ((n + 1 : Nat) : Int) * fz f_1 = n * fz f_1 + fz f_1 := by rw [Int.natCast_add, Int.add_mul]; omega
  have up := fz_add_le (V := FP.i2f (Int32.ofInt ((n + 1 : Nat) : Int))) ha hb fi_F.ne_nan (by omega)
  have lo := fz_add_ge (V := FP.fconst0) ha hb fq_0.ne_nan (by rw [fz_0]; omega)
  rw [fz_0] at lo
  have hn : FP.Core.val32 (FP.fadd a b) ≠ .nan := (FP.Core.notNaN_iff32 _).mp (FP.Core.fadd_out ha.notNaN hb)
  exact ⟨fq_add ha hb, fF_of hn fi_F lo up, lo, by omega⟩
theorem gr_first {σ : Type} {w h : Nat} {g : Int → Int → σ → σ} {s s' : σ} (hw : 1 ≤ w) (hh : 1 ≤ h) (e : g 0 0 s = g 0 0 s') : gr w h g s = gr w h g s' := by
  unfold gr
  have hp : 1 ≤ w * h := Nat.mul_pos hw hh
  rw [show w * h = 1 + (w * h - 1) by omega, fo_add, fo_add]
  have e1 : ∀ a, fo (fg w g) 1 a = g 0 0 a := fun a => by
    show fg w g 0 a = _
    unfold fg
    rw [Nat.zero_mod, Nat.zero_div]; rfl
  rw [e1, e1, e]
theorem gr_from1 {σ : Type} {w h : Nat} {g : Int → Int → σ → σ} {s : σ} (hw : 1 ≤ w) (hh : 1 ≤ h) (e : g 0 0 s = s) : gr w h g s = fo (fun k => fg w g (1 + k)) (w * h - 1) s := by
  unfold gr
  have hp : 1 ≤ w * h := Nat.mul_pos hw hh
  rw [show w * h = 1 + (w * h - 1) by omega, fo_add, Nat.add_sub_cancel_left]
  have e1 : fo (fg w g) 1 s = s := by
    show fg w g 0 s = _
    unfold fg
    rw [Nat.zero_mod, Nat.zero_div]; exact e
  rw [e1]
theorem ic_00 {S : Nat → Nat} (hS : sv S) : ic S 0 0 := by
  have := sv_a hS
  omega
section Light
variable {N : Nat} {o : os_T} {S : Nat → Nat} {T H : Int → Int → Int}
def lq_sum (S : Nat → Nat) (T H : Int → Int → Int) : Int → Int → UInt32 → UInt32 := fun x y a => FP.fadd a (g_z S T H x y)
theorem lq_sumb (hS : sv S) (hH : hv S H) (hT : tv S T) : ∀ n : Nat, n ≤ 500 → fF (fo (fg (S 0) (lq_sum S T H)) n FP.fconst0) ∧ 0 ≤ fz (fo (fg (S 0) (lq_sum S T H)) n FP.fconst0) ∧ fz (fo (fg (S 0) (lq_sum S T H)) n FP.fconst0) ≤ n * fz f_1 := by
  intro n
  induction n with
  | zero => intro _; exact ⟨fq_0, by show 0 ≤ fz FP.fconst0; rw [fz_0]; omega, by show fz FP.fconst0 ≤ _; rw [fz_0]; omega⟩
  | succ n ih =>
    intro hn
    obtain ⟨i1, i2, i3⟩ := ih (by omega)
    obtain ⟨z1, z2, z3⟩ := g_zb (x := ((n % S 0 : Nat) : Int)) (y := ((n / S 0 : Nat) : Int)) hS hH hT
    have := fi_add (n := n) (by omega) i1 z1 i2 i3 z2 z3
    exact ⟨this.2.1, this.2.2.1, this.2.2.2⟩
theorem lq_sumn (hS : sv S) (hH : hv S H) (hT : tv S T) {n : Nat} (hn : n ≤ 499) {a : UInt32} (ha : a = fo (fg (S 0) (lq_sum S T H)) n FP.fconst0) (x y : Int) : os_nn (FP.fadd a (g_z S T H x y)) := by
  obtain ⟨i1, i2, i3⟩ := lq_sumb hS hH hT n (by omega)
  rw [← ha] at i1 i2 i3
  obtain ⟨z1, z2, z3⟩ := g_zb (x := x) (y := y) hS hH hT
  exact (fi_add (n := n) (by omega) i1 z1 i2 i3 z2 z3).1
def lq_mean (S : Nat → Nat) (T H : Int → Int → Int) : UInt32 := FP.fdiv (gr (S 0) (S 1) (lq_sum S T H) FP.fconst0) (FP.i2f (Int32.ofInt (S 0 * S 1 : Nat)))
theorem lq_meann (hS : sv S) (hH : hv S H) (hT : tv S T) : os_nn (lq_mean S T H) := by
  have hs := sv_a hS
  have hwh := sv_wh hS
  have hp : 1 ≤ S 0 * S 1 := Nat.mul_pos (show 0 < S 0 by omega) (show 0 < S 1 by omega)
  have h1 := (lq_sumb hS hH hT (S 0 * S 1) (by omega)).1
  refine fq_div h1 fi_F ?_
  intro z
  have hz := (FP.Core.zero_bits232 _).mp z
  exact FP.Core.i2f_ne_zero (v := Int32.ofInt (S 0 * S 1 : Nat)) (fun e => by
    rw [i0_eq (by omega)] at e
    omega) hz

theorem pc_mean (hN : 1000 < N) (hS : sv S) (h : cp o S T H) (hH : hv S H) (hT : tv S T) : ff_X2_meanMiss N o  = some (lq_mean S T H) := by
  have hs := sv_a hS
  unfold ff_X2_meanMiss ff_X2_meanMiss_l4
  refine lo_grid (N := N) (step2 := fun k2 r2 s1 => ff_X2_meanMiss_c14 N o k2 r2 s1.1 s1.2.1 s1.2.2) (fun (a : UInt32) (y : Nat) => (a, Int32.ofInt (y : Int))) (fun (a : UInt32) (y x : Nat) => (a, Int32.ofInt (y : Int), Int32.ofInt (x : Int))) (S 0) (S 1) (lq_sum S T H) (FP.fconst0) ?_ ?_ ?_ ?_ (by omega) (by omega)
  · intro a y r hy
    show ff_X2_meanMiss_c4 N o r a (Int32.ofInt (y : Int)) = _
    unfold ff_X2_meanMiss_c4
    rw [if_neg (pc_rN hS h (by omega))]
    rfl
  · intro a x y k r hx hy ha
    have hc : ic S (x : Int) (y : Int) := ic_n hx (by omega)
    have hr := ic_r hS hc
    show ff_X2_meanMiss_c14 N o k r a (Int32.ofInt (y : Int)) (Int32.ofInt (x : Int)) = _
    unfold ff_X2_meanMiss_c14
    rw [if_neg (pc_wN hS h hx)]
    have hlt := fg_lt hx hy
    have hwh := sv_wh hS
    rw [pc_size0 hS h hH hT (by omega) (by omega), Option.bind_some, if_pos (lq_sumn hS hH hT (by omega) ha _ _), ii_1, ia_s]
    rfl
  · intro a y k r hy ha
    show ff_X2_meanMiss_c14 N o k r a (Int32.ofInt (y : Int)) (Int32.ofInt (S 0 : Int)) = _
    unfold ff_X2_meanMiss_c14
    rw [if_pos (pc_wE h), ii_1, ia_add]
    rfl
  · intro r
    show ff_X2_meanMiss_c4 N o r _ (Int32.ofInt (S 1 : Int)) = _
    unfold ff_X2_meanMiss_c4
    rw [if_pos (pc_rE h)]
    have hwh := sv_wh hS
    have hp : 1 ≤ S 0 * S 1 := Nat.mul_pos (show 0 < S 0 by omega) (show 0 < S 1 by omega)
    rw [h.1 0 (by decide), h.1 1 (by decide), ia_mul, show (S 0 : Int) * (S 1 : Int) = ((S 0 * S 1 : Nat) : Int) from rfl]
    simp only [i0_le (show ib ((S 0 * S 1 : Nat) : Int) by omega)]
    rw [if_neg (by omega)]
    exact if_pos (lq_meann hS hH hT)

theorem rc_meanL (hN : 1000 < N) (hS : sv S) (h : rp o S T H) (hH : hv S H) (hT : tv S T) : ff_X13_meanError_l9 N N (o, FP.fconst0, Int32.ofInt 0) = some (lq_mean S T H, o) := by
  have hs := sv_a hS
  unfold ff_X13_meanError_l9
  refine lo_grid (N := N) (step2 := fun k2 r2 s1 => ff_X13_meanError_c21 N  k2 r2 s1.1 s1.2.1 s1.2.2.1 s1.2.2.2) (fun (a : UInt32) (y : Nat) => (o, a, Int32.ofInt (y : Int))) (fun (a : UInt32) (y x : Nat) => (o, a, Int32.ofInt (y : Int), Int32.ofInt (x : Int))) (S 0) (S 1) (lq_sum S T H) (FP.fconst0) ?_ ?_ ?_ ?_ (by omega) (by omega)
  · intro a y r hy
    show ff_X13_meanError_c9 N  r o a (Int32.ofInt (y : Int)) = _
    unfold ff_X13_meanError_c9
    rw [if_pos nw_1, rs_1 h, ii_le (by omega) (by omega), if_neg (by omega)]
    rfl
  · intro a x y k r hx hy ha
    have hc : ic S (x : Int) (y : Int) := ic_n hx (by omega)
    have hr := ic_r hS hc
    show ff_X13_meanError_c21 N  k r o a (Int32.ofInt (y : Int)) (Int32.ofInt (x : Int)) = _
    unfold ff_X13_meanError_c21
    rw [if_pos nw_0, rs_0 h, ii_le (by omega) (by omega), if_neg (by omega)]
    have hlt := fg_lt hx hy
    have hwh := sv_wh hS
    have hz : fq_a (g_m S T H x y) = g_z S T H x y := by unfold g_z; rw [if_pos hc]
    rw [rc_miss hN hS h hH hT hc, Option.bind_some, fq_apart (g_mfF hS hH hT hc), Option.bind_some, hz, if_pos (lq_sumn hS hH hT (by omega) ha _ _), ii_1, ia_s]
    rfl
  · intro a y k r hy ha
    show ff_X13_meanError_c21 N  k r o a (Int32.ofInt (y : Int)) (Int32.ofInt (S 0 : Int)) = _
    unfold ff_X13_meanError_c21
    rw [if_pos nw_0, rs_0 h, ii_le (by omega) (by omega), if_pos (by omega), ii_1, ia_add]
    rfl
  · intro r
    show ff_X13_meanError_c9 N  r o _ (Int32.ofInt (S 1 : Int)) = _
    unfold ff_X13_meanError_c9
    rw [if_pos nw_1, rs_1 h, ii_le (by omega) (by omega), if_pos (by omega)]
    rw [rc_cellMany h, Option.bind_some]
    exact if_pos (lq_meann hS hH hT)

def lq_wo (S : Nat → Nat) (T H : Int → Int → Int) : Int → Int → Int × UInt32 → Int × UInt32 := fun x y a => if fz a.2 < fz (g_z S T H x y) then (16 * y + x, g_z S T H x y) else a
theorem lq_wob (hS : sv S) (hH : hv S H) (hT : tv S T) {s : Int × UInt32} (hs : fF s.2) (n : Nat) : fF (fo (fg (S 0) (lq_wo S T H)) n s).2 := by
  refine fo_inv (fun _ (a : Int × UInt32) => fF a.2) hs ?_
  intro k hk a ha
  show fF (lq_wo S T H _ _ a).2
  unfold lq_wo
  split
  · exact (g_zb hS hH hT).1
  · exact ha
def lq_br (S : Nat → Nat) (H : Int → Int → Int) : Int → Int → Int × UInt32 → Int × UInt32 := fun x y a => if fz a.2 < fz (g_e S H x y) then (16 * y + x, g_e S H x y) else a
theorem lq_brb (hS : sv S) (hH : hv S H) {n : Nat} (hn : n ≤ S 0 * S 1) : (fun a : Int × UInt32 => 0 ≤ a.1 ∧ a.1 < 192 ∧ ic S (a.1 % 16) (a.1 / 16) ∧ a.2 = g_e S H (a.1 % 16) (a.1 / 16)) (fo (fg (S 0) (lq_br S H)) n (0, g_e S H 0 0)) := by
  refine fo_inv (fun _ (a : Int × UInt32) => 0 ≤ a.1 ∧ a.1 < 192 ∧ ic S (a.1 % 16) (a.1 / 16) ∧ a.2 = g_e S H (a.1 % 16) (a.1 / 16)) ⟨Int.le_refl _, (show (0 : Int) < 192 by decide), ic_00 hS, rfl⟩ ?_
  intro k hk a ha
  have hc := ic_k hS (show k < S 0 * S 1 by omega)
  have hr := ic_r hS hc
  show (fun a : Int × UInt32 => 0 ≤ a.1 ∧ a.1 < 192 ∧ ic S (a.1 % 16) (a.1 / 16) ∧ a.2 = g_e S H (a.1 % 16) (a.1 / 16)) (lq_br S H ((k % S 0 : Nat) : Int) ((k / S 0 : Nat) : Int) a)
  generalize ((k % S 0 : Nat) : Int) = x at *
  generalize ((k / S 0 : Nat) : Int) = y at *
  unfold lq_br
  split
  · have e1 : (16 * y + x) % 16 = x := by omega
    have e2 : (16 * y + x) / 16 = y := by omega
    show 0 ≤ 16 * y + x ∧ 16 * y + x < 192 ∧ ic S ((16 * y + x) % 16) ((16 * y + x) / 16) ∧ g_e S H x y = g_e S H ((16 * y + x) % 16) ((16 * y + x) / 16)
    rw [e1, e2]
    exact ⟨by omega, by omega, hc, rfl⟩
  · exact ha
def lq_sp (S : Nat → Nat) (H : Int → Int → Int) : Int → Int → UInt32 × UInt32 → UInt32 × UInt32 := fun x y a => (if fz a.1 < fz (g_e S H x y) then g_e S H x y else a.1, if fz (g_e S H x y) < fz a.2 then g_e S H x y else a.2)
theorem lq_spb (hS : sv S) (hH : hv S H) {n : Nat} (hn : n ≤ S 0 * S 1) : (fun a : UInt32 × UInt32 => (fF a.1 ∧ fw_m 128 a.1) ∧ fF a.2 ∧ fw_m 128 a.2) (fo (fg (S 0) (lq_sp S H)) n (g_e S H 0 0, g_e S H 0 0)) := by
  have k1 : ∀ x y, ic S x y → fF (g_e S H x y) ∧ fw_m 128 (g_e S H x y) := fun x y c => ⟨g_eF hS hH c, fm_of (g_all hS hH c).2.2.2.2.2.2.2 (by decide) (by decide)⟩
  refine fo_inv (fun _ (a : UInt32 × UInt32) => (fF a.1 ∧ fw_m 128 a.1) ∧ fF a.2 ∧ fw_m 128 a.2) ⟨k1 0 0 (ic_00 hS), k1 0 0 (ic_00 hS)⟩ ?_
  intro k hk a ha
  have hc := ic_k hS (show k < S 0 * S 1 by omega)
  show (fF (if _ then _ else _) ∧ fw_m 128 (if _ then _ else _)) ∧ fF (if _ then _ else _) ∧ fw_m 128 (if _ then _ else _)
  refine ⟨?_, ?_⟩
  · split
    · exact k1 _ _ hc
    · exact ha.1
  · split
    · exact k1 _ _ hc
    · exact ha.2

theorem pc_worstL (hN : 1000 < N) (hS : sv S) (h : cp o S T H) (hH : hv S H) (hT : tv S T) : ((ff_X2_worst_l11 N o N (Int32.ofInt 0, g_z S T H 0 0, Int32.ofInt 0))) = some (Int32.ofInt (gr (S 0) (S 1) (lq_wo S T H) (0, g_z S T H 0 0)).1) := by
  have hs := sv_a hS
  unfold ff_X2_worst_l11
  refine lo_grid (N := N) (step2 := fun k2 r2 s1 => ff_X2_worst_c22 N o k2 r2 s1.1 s1.2.1 s1.2.2.1 s1.2.2.2) (fun (a : Int × UInt32) (y : Nat) => (Int32.ofInt a.1, a.2, Int32.ofInt (y : Int))) (fun (a : Int × UInt32) (y x : Nat) => (Int32.ofInt a.1, a.2, Int32.ofInt (y : Int), Int32.ofInt (x : Int))) (S 0) (S 1) (lq_wo S T H) (((0 : Int), g_z S T H 0 0)) ?_ ?_ ?_ ?_ (by omega) (by omega)
  · intro a y r hy
    show ff_X2_worst_c11 N o r (Int32.ofInt a.1) a.2 (Int32.ofInt (y : Int)) = _
    unfold ff_X2_worst_c11
    rw [if_neg (pc_rN hS h (by omega))]
    rfl
  · intro a x y k r hx hy ha
    have hc : ic S (x : Int) (y : Int) := ic_n hx (by omega)
    have hr := ic_r hS hc
    show ff_X2_worst_c22 N o k r (Int32.ofInt a.1) a.2 (Int32.ofInt (y : Int)) (Int32.ofInt (x : Int)) = _
    unfold ff_X2_worst_c22
    rw [if_neg (pc_wN hS h hx)]
    have hF := lq_wob hS hH hT (s := (0, g_z S T H 0 0)) (g_zb hS hH hT).1 (S 0 * y + x)
    rw [← ha] at hF
    have hz := (g_zb (x := x) (y := y) hS hH hT).1
    rw [pc_size0 hS h hH hT (by omega) (by omega), Option.bind_some]
    simp only [cq_lel, ne_eq, fq_gt hz hF]
    unfold ff_X2_worst_b58
    rw [cp_ix, ii_1, ia_s]
    show _ = r (Int32.ofInt (lq_wo S T H x y a).1, (lq_wo S T H x y a).2, _, _)
    unfold lq_wo
    by_cases c : fz a.2 < fz (g_z S T H x y)
    · rw [if_neg (fun z => z c), if_pos c]
    · rw [if_pos c, if_neg c]
  · intro a y k r hy ha
    show ff_X2_worst_c22 N o k r (Int32.ofInt a.1) a.2 (Int32.ofInt (y : Int)) (Int32.ofInt (S 0 : Int)) = _
    unfold ff_X2_worst_c22
    rw [if_pos (pc_wE h), ii_1, ia_add]
    rfl
  · intro r
    show ff_X2_worst_c11 N o r _ _ (Int32.ofInt (S 1 : Int)) = _
    unfold ff_X2_worst_c11
    rw [if_pos (pc_rE h)]
    all_goals rfl

theorem pc_worst (hN : 1000 < N) (hS : sv S) (h : cp o S T H) (hH : hv S H) (hT : tv S T) : ff_X2_worst N o = some (Int32.ofInt (gr (S 0) (S 1) (lq_wo S T H) (0, g_z S T H 0 0)).1) := by
  unfold ff_X2_worst
  rw [ii_0, pc_size0 hS h hH hT (by omega) (by omega), Option.bind_some]
  exact pc_worstL hN hS h hH hT

theorem rc_worstL0 (hN : 1000 < N) (hS : sv S) (h : rp o S T H) (hH : hv S H) (hT : tv S T) : ff_X13_worstCell_l13 N N (o, Int32.ofInt 0, 3212836864, Int32.ofInt 0) = some (Int32.ofInt (gr (S 0) (S 1) (lq_wo S T H) (0, 3212836864)).1, o) := by
  have hs := sv_a hS
  unfold ff_X13_worstCell_l13
  refine lo_grid (N := N) (step2 := fun k2 r2 s1 => ff_X13_worstCell_c26 N  k2 r2 s1.1 s1.2.1 s1.2.2.1 s1.2.2.2.1 s1.2.2.2.2) (fun (a : Int × UInt32) (y : Nat) => (o, Int32.ofInt a.1, a.2, Int32.ofInt (y : Int))) (fun (a : Int × UInt32) (y x : Nat) => (o, Int32.ofInt a.1, a.2, Int32.ofInt (y : Int), Int32.ofInt (x : Int))) (S 0) (S 1) (lq_wo S T H) (((0 : Int), (3212836864 : UInt32))) ?_ ?_ ?_ ?_ (by omega) (by omega)
  · intro a y r hy
    show ff_X13_worstCell_c13 N  r o (Int32.ofInt a.1) a.2 (Int32.ofInt (y : Int)) = _
    unfold ff_X13_worstCell_c13
    rw [if_pos nw_1, rs_1 h, ii_le (by omega) (by omega), if_neg (by omega)]
    rfl
  · intro a x y k r hx hy ha
    have hc : ic S (x : Int) (y : Int) := ic_n hx (by omega)
    have hr := ic_r hS hc
    show ff_X13_worstCell_c26 N  k r o (Int32.ofInt a.1) a.2 (Int32.ofInt (y : Int)) (Int32.ofInt (x : Int)) = _
    unfold ff_X13_worstCell_c26
    rw [if_pos nw_0, rs_0 h, ii_le (by omega) (by omega), if_neg (by omega)]
    have hF := lq_wob hS hH hT (s := (0, (3212836864 : UInt32))) ((FP.Core.fin_bits32 _).mpr (by decide)) (S 0 * y + x)
    rw [← ha] at hF
    have hz0 : fq_a (g_m S T H x y) = g_z S T H x y := by unfold g_z; rw [if_pos hc]
    have hz := (g_zb (x := x) (y := y) hS hH hT).1
    rw [rc_miss hN hS h hH hT hc, Option.bind_some, fq_apart (g_mfF hS hH hT hc), Option.bind_some, hz0]
    simp only [cq_gtg, fq_gt hz hF, fq_none hz hF, or_false]
    unfold ff_X13_worstCell_b70
    rw [rp_ix, ii_1, ia_s]
    show _ = r (o, Int32.ofInt (lq_wo S T H x y a).1, (lq_wo S T H x y a).2, _, _)
    unfold lq_wo
    by_cases c : fz a.2 < fz (g_z S T H x y)
    · rw [if_pos c, if_pos c]
    · rw [if_neg c, if_neg c]
  · intro a y k r hy ha
    show ff_X13_worstCell_c26 N  k r o (Int32.ofInt a.1) a.2 (Int32.ofInt (y : Int)) (Int32.ofInt (S 0 : Int)) = _
    unfold ff_X13_worstCell_c26
    rw [if_pos nw_0, rs_0 h, ii_le (by omega) (by omega), if_pos (by omega), ii_1, ia_add]
    rfl
  · intro r
    show ff_X13_worstCell_c13 N  r o _ _ (Int32.ofInt (S 1 : Int)) = _
    unfold ff_X13_worstCell_c13
    rw [if_pos nw_1, rs_1 h, ii_le (by omega) (by omega), if_pos (by omega)]
    all_goals rfl

theorem rc_worstL (hN : 1000 < N) (hS : sv S) (h : rp o S T H) (hH : hv S H) (hT : tv S T) : ff_X13_worstCell_l13 N N (o, Int32.ofInt 0, 3212836864, Int32.ofInt 0) = some (Int32.ofInt (gr (S 0) (S 1) (lq_wo S T H) (0, g_z S T H 0 0)).1, o) := by
  have hs := sv_a hS
  have e := gr_first (g := lq_wo S T H) (w := S 0) (h := S 1) (s := (0, (3212836864 : UInt32))) (s' := (0, g_z S T H 0 0)) (by omega) (by omega) (by
    have hz := (g_zb (x := 0) (y := 0) hS hH hT).2.1
    have e1 : fz (3212836864 : UInt32) < 0 := by decide +kernel
    unfold lq_wo
    rw [if_pos (show fz (3212836864 : UInt32) < fz (g_z S T H 0 0) by omega), if_neg (show ¬ fz (g_z S T H 0 0) < fz (g_z S T H 0 0) by omega)]
    rfl)
  rw [rc_worstL0 hN hS h hH hT, e]

theorem pc_brightL (hN : 1000 < N) (hS : sv S) (h : cp o S T H) (hH : hv S H) (hT : tv S T) : ((ff_X2_lightest_l11 N o N (Int32.ofInt 0, g_e S H 0 0, Int32.ofInt 0))) = some (Int32.ofInt (gr (S 0) (S 1) (lq_br S H) (0, g_e S H 0 0)).1) := by
  have hs := sv_a hS
  unfold ff_X2_lightest_l11
  refine lo_grid (N := N) (step2 := fun k2 r2 s1 => ff_X2_lightest_c22 N o k2 r2 s1.1 s1.2.1 s1.2.2.1 s1.2.2.2) (fun (a : Int × UInt32) (y : Nat) => (Int32.ofInt a.1, a.2, Int32.ofInt (y : Int))) (fun (a : Int × UInt32) (y x : Nat) => (Int32.ofInt a.1, a.2, Int32.ofInt (y : Int), Int32.ofInt (x : Int))) (S 0) (S 1) (lq_br S H) (((0 : Int), g_e S H 0 0)) ?_ ?_ ?_ ?_ (by omega) (by omega)
  · intro a y r hy
    show ff_X2_lightest_c11 N o r (Int32.ofInt a.1) a.2 (Int32.ofInt (y : Int)) = _
    unfold ff_X2_lightest_c11
    rw [if_neg (pc_rN hS h (by omega))]
    rfl
  · intro a x y k r hx hy ha
    have hc : ic S (x : Int) (y : Int) := ic_n hx (by omega)
    have hr := ic_r hS hc
    show ff_X2_lightest_c22 N o k r (Int32.ofInt a.1) a.2 (Int32.ofInt (y : Int)) (Int32.ofInt (x : Int)) = _
    unfold ff_X2_lightest_c22
    rw [if_neg (pc_wN hS h hx)]
    have hb := lq_brb hS hH (Nat.le_of_lt (fg_lt hx hy))
    rw [← ha] at hb
    have hF : fF a.2 := by rw [hb.2.2.2]; exact g_eF hS hH hb.2.2.1
    have hz := g_eF hS hH hc
    rw [pc_glow hS h hH hc, Option.bind_some]
    simp only [cq_lel, ne_eq, fq_gt hz hF]
    unfold ff_X2_lightest_b58
    rw [cp_ix, ii_1, ia_s]
    show _ = r (Int32.ofInt (lq_br S H x y a).1, (lq_br S H x y a).2, _, _)
    unfold lq_br
    by_cases c : fz a.2 < fz (g_e S H x y)
    · rw [if_neg (fun z => z c), if_pos c]
    · rw [if_pos c, if_neg c]
  · intro a y k r hy ha
    show ff_X2_lightest_c22 N o k r (Int32.ofInt a.1) a.2 (Int32.ofInt (y : Int)) (Int32.ofInt (S 0 : Int)) = _
    unfold ff_X2_lightest_c22
    rw [if_pos (pc_wE h), ii_1, ia_add]
    rfl
  · intro r
    show ff_X2_lightest_c11 N o r _ _ (Int32.ofInt (S 1 : Int)) = _
    unfold ff_X2_lightest_c11
    rw [if_pos (pc_rE h)]
    all_goals rfl

theorem pc_bright (hN : 1000 < N) (hS : sv S) (h : cp o S T H) (hH : hv S H) (hT : tv S T) : ff_X2_lightest N o = some (Int32.ofInt (gr (S 0) (S 1) (lq_br S H) (0, g_e S H 0 0)).1) := by
  unfold ff_X2_lightest
  rw [ii_0, pc_glow hS h hH (ic_00 hS), Option.bind_some]
  exact pc_brightL hN hS h hH hT
theorem rc_bright (hN : 1000 < N) (hS : sv S) (h : rp o S T H) (hH : hv S H) (hT : tv S T) : ff_X13_brightestCell N o = some (Int32.ofInt (gr (S 0) (S 1) (lq_br S H) (0, g_e S H 0 0)).1) := by
  have hs := sv_a hS
  have hwh := sv_wh hS
  have hp : 1 ≤ S 0 * S 1 := Nat.mul_pos (show 0 < S 0 by omega) (show 0 < S 1 by omega)
  have e00 : lq_br S H 0 0 (0, g_e S H 0 0) = (0, g_e S H 0 0) := by unfold lq_br; rw [if_neg (by show ¬ fz (g_e S H 0 0) < fz (g_e S H 0 0); omega)]
  rw [gr_from1 (by omega) (by omega) e00]
  unfold ff_X13_brightestCell ff_X13_brightestCell_l4
  refine lo_fo (N := N) (fun (a : Int × UInt32) k => (Int32.ofInt a.1, Int32.ofInt ((1 + k : Nat) : Int))) (fun k => fg (S 0) (lq_br S H) (1 + k)) (0, g_e S H 0 0) (S 0 * S 1 - 1) ?_ ?_ (by omega)
  · intro k a hk ha r
    have hb := lq_brb hS hH (n := 1 + k) (by omega)
    rw [fo_add, show fo (fg (S 0) (lq_br S H)) 1 (0, g_e S H 0 0) = (0, g_e S H 0 0) from (by show fg (S 0) (lq_br S H) 0 _ = _; unfold fg; rw [Nat.zero_mod, Nat.zero_div]; exact e00), ← ha] at hb
    have hF : fF a.2 := by rw [hb.2.2.2]; exact g_eF hS hH hb.2.2.1
    have hc := ic_k hS (show 1 + k < S 0 * S 1 by omega)
    have hr := ic_r hS hc
    have hz := g_eF hS hH hc
    show ff_X13_brightestCell_c4 N o r (Int32.ofInt a.1) (Int32.ofInt ((1 + k : Nat) : Int)) = r (Int32.ofInt (lq_br S H (((1 + k) % S 0 : Nat) : Int) (((1 + k) / S 0 : Nat) : Int) a).1, Int32.ofInt ((1 + k + 1 : Nat) : Int))
    unfold ff_X13_brightestCell_c4
    rw [rc_cellMany h, Option.bind_some, ii_le (by omega) (by omega), if_neg (by omega), rc_cellAt hS h (by omega), Option.bind_some]
    generalize (((1 + k) % S 0 : Nat) : Int) = x at *
    generalize (((1 + k) / S 0 : Nat) : Int) = y at *
    obtain ⟨e1, e2⟩ := ia_c16 (x := x) (y := y) (by omega) (by omega) (by omega) (by omega)
    obtain ⟨e3, e4⟩ := ia_c16 (x := a.1 % 16) (y := a.1 / 16) (by omega) (by omega) (by omega) (by omega)
    rw [show 16 * (a.1 / 16) + a.1 % 16 = a.1 by omega] at e3 e4
    rw [e1, e2, rc_glow hN hS h hH hc, Option.bind_some, e3, e4, rc_glow hN hS h hH hb.2.2.1, Option.bind_some, ← hb.2.2.2]
    simp only [cq_lel, ne_eq, fq_gt hz hF]
    unfold ff_X13_brightestCell_b48 lq_br
    rw [ii_1, ia_s]
    by_cases c : fz a.2 < fz (g_e S H x y)
    · rw [if_neg (fun z => z c), if_pos c]
    · rw [if_pos c, if_neg c]
  · intro r
    show ff_X13_brightestCell_c4 N o r _ (Int32.ofInt ((1 + (S 0 * S 1 - 1) : Nat) : Int)) = _
    unfold ff_X13_brightestCell_c4
    rw [rc_cellMany h, Option.bind_some, ii_le (by omega) (by omega), if_pos (by omega)]

theorem pc_spanL (hN : 1000 < N) (hS : sv S) (h : cp o S T H) (hH : hv S H) (hT : tv S T) : ((ff_X2_span_l11 N o N (g_e S H 0 0, g_e S H 0 0, Int32.ofInt 0))) = some (FP.fsub (gr (S 0) (S 1) (lq_sp S H) (g_e S H 0 0, g_e S H 0 0)).1 (gr (S 0) (S 1) (lq_sp S H) (g_e S H 0 0, g_e S H 0 0)).2) := by
  have hs := sv_a hS
  unfold ff_X2_span_l11
  refine lo_grid (N := N) (step2 := fun k2 r2 s1 => ff_X2_span_c22 N o k2 r2 s1.1 s1.2.1 s1.2.2.1 s1.2.2.2) (fun (a : UInt32 × UInt32) (y : Nat) => (a.1, a.2, Int32.ofInt (y : Int))) (fun (a : UInt32 × UInt32) (y x : Nat) => (a.1, a.2, Int32.ofInt (y : Int), Int32.ofInt (x : Int))) (S 0) (S 1) (lq_sp S H) ((g_e S H 0 0, g_e S H 0 0)) ?_ ?_ ?_ ?_ (by omega) (by omega)
  · intro a y r hy
    show ff_X2_span_c11 N o r a.1 a.2 (Int32.ofInt (y : Int)) = _
    unfold ff_X2_span_c11
    rw [if_neg (pc_rN hS h (by omega))]
    rfl
  · intro a x y k r hx hy ha
    have hc : ic S (x : Int) (y : Int) := ic_n hx (by omega)
    have hr := ic_r hS hc
    show ff_X2_span_c22 N o k r a.1 a.2 (Int32.ofInt (y : Int)) (Int32.ofInt (x : Int)) = _
    unfold ff_X2_span_c22
    rw [if_neg (pc_wN hS h hx)]
    have hb := lq_spb hS hH (Nat.le_of_lt (fg_lt hx hy))
    rw [← ha] at hb
    have hz := g_eF hS hH hc
    rw [pc_glow hS h hH hc, Option.bind_some]
    unfold ff_X2_span_b53 ff_X2_span_b67
    simp only [cq_lel, cq_geg, ne_eq, fq_gt hz hb.1.1, fq_lt hz hb.2.1]
    rw [ii_1, ia_s]
    show _ = r (if fz a.1 < fz (g_e S H x y) then g_e S H x y else a.1, if fz (g_e S H x y) < fz a.2 then g_e S H x y else a.2, _, _)
    by_cases c : fz a.1 < fz (g_e S H x y) <;> by_cases c2 : fz (g_e S H x y) < fz a.2 <;> simp only [c, c2, not_true, not_false_iff, if_true, if_false]
  · intro a y k r hy ha
    show ff_X2_span_c22 N o k r a.1 a.2 (Int32.ofInt (y : Int)) (Int32.ofInt (S 0 : Int)) = _
    unfold ff_X2_span_c22
    rw [if_pos (pc_wE h), ii_1, ia_add]
    rfl
  · intro r
    show ff_X2_span_c11 N o r _ _ (Int32.ofInt (S 1 : Int)) = _
    unfold ff_X2_span_c11
    rw [if_pos (pc_rE h)]
    have hb := lq_spb hS hH (Nat.le_refl (S 0 * S 1))
    exact if_pos (fq_sub hb.1.1 hb.2.1)

theorem pc_span (hN : 1000 < N) (hS : sv S) (h : cp o S T H) (hH : hv S H) (hT : tv S T) : ff_X2_span N o = some (FP.fsub (gr (S 0) (S 1) (lq_sp S H) (g_e S H 0 0, g_e S H 0 0)).1 (gr (S 0) (S 1) (lq_sp S H) (g_e S H 0 0, g_e S H 0 0)).2) := by
  unfold ff_X2_span
  rw [ii_0, pc_glow hS h hH (ic_00 hS), Option.bind_some]
  exact pc_spanL hN hS h hH hT
theorem rc_spanL (hN : 1000 < N) (hS : sv S) (h : rp o S T H) (hH : hv S H) (hT : tv S T) : ff_X13_contrast_l16 N N (o, g_e S H 0 0, g_e S H 0 0, Int32.ofInt 1) = some (FP.fsub (gr (S 0) (S 1) (lq_sp S H) (g_e S H 0 0, g_e S H 0 0)).1 (gr (S 0) (S 1) (lq_sp S H) (g_e S H 0 0, g_e S H 0 0)).2, o) := by
  have hs := sv_a hS
  have hwh := sv_wh hS
  have hp : 1 ≤ S 0 * S 1 := Nat.mul_pos (show 0 < S 0 by omega) (show 0 < S 1 by omega)
  have e00 : lq_sp S H 0 0 (g_e S H 0 0, g_e S H 0 0) = (g_e S H 0 0, g_e S H 0 0) := by unfold lq_sp; rw [if_neg (by show ¬ fz (g_e S H 0 0) < fz (g_e S H 0 0); omega)]
  have hlast := lq_spb hS hH (Nat.le_refl (S 0 * S 1))
  rw [show fo (fg (S 0) (lq_sp S H)) (S 0 * S 1) (g_e S H 0 0, g_e S H 0 0) = gr (S 0) (S 1) (lq_sp S H) (g_e S H 0 0, g_e S H 0 0) from rfl] at hlast
  rw [gr_from1 (by omega) (by omega) e00] at hlast ⊢
  unfold ff_X13_contrast_l16
  refine lo_fo (N := N) (fun (a : UInt32 × UInt32) k => (o, a.1, a.2, Int32.ofInt ((1 + k : Nat) : Int))) (fun k => fg (S 0) (lq_sp S H) (1 + k)) (g_e S H 0 0, g_e S H 0 0) (S 0 * S 1 - 1) ?_ ?_ (by omega)
  · intro k a hk ha r
    have hb := lq_spb hS hH (n := 1 + k) (by omega)
    rw [fo_add, show fo (fg (S 0) (lq_sp S H)) 1 (g_e S H 0 0, g_e S H 0 0) = (g_e S H 0 0, g_e S H 0 0) from (by show fg (S 0) (lq_sp S H) 0 _ = _; unfold fg; rw [Nat.zero_mod, Nat.zero_div]; exact e00), ← ha] at hb
    have hc := ic_k hS (show 1 + k < S 0 * S 1 by omega)
    have hr := ic_r hS hc
    have hz := g_eF hS hH hc
    show ff_X13_contrast_c16 N r o a.1 a.2 (Int32.ofInt ((1 + k : Nat) : Int)) = r (o, (lq_sp S H (((1 + k) % S 0 : Nat) : Int) (((1 + k) / S 0 : Nat) : Int) a).1, (lq_sp S H (((1 + k) % S 0 : Nat) : Int) (((1 + k) / S 0 : Nat) : Int) a).2, Int32.ofInt ((1 + k + 1 : Nat) : Int))
    unfold ff_X13_contrast_c16
    rw [rc_cellMany h, Option.bind_some, ii_le (by omega) (by omega), if_neg (by omega), rc_cellAt hS h (by omega), Option.bind_some]
    generalize (((1 + k) % S 0 : Nat) : Int) = x at *
    generalize (((1 + k) / S 0 : Nat) : Int) = y at *
    obtain ⟨e1, e2⟩ := ia_c16 (x := x) (y := y) (by omega) (by omega) (by omega) (by omega)
    rw [e1, e2, rc_glow hN hS h hH hc, Option.bind_some]
    unfold ff_X13_contrast_b60 ff_X13_contrast_b74 lq_sp
    simp only [cq_lel, cq_geg, ne_eq, fq_gt hz hb.1.1, fq_lt hz hb.2.1]
    rw [ii_1, ia_s]
    by_cases c : fz a.1 < fz (g_e S H x y) <;> by_cases c2 : fz (g_e S H x y) < fz a.2 <;> simp only [c, c2, not_true, not_false_iff, if_true, if_false]
  · intro r
    show ff_X13_contrast_c16 N r o _ _ (Int32.ofInt ((1 + (S 0 * S 1 - 1) : Nat) : Int)) = _
    unfold ff_X13_contrast_c16
    rw [rc_cellMany h, Option.bind_some, ii_le (by omega) (by omega), if_pos (by omega)]
    exact if_pos (fq_sub hlast.1.1 hlast.2.1)

end Light
