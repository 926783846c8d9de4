/-! LAYER 2. The law's picture: polish -/
def zpr (a b : Int32) : Nat → Int32 := upd (upd (os_A os_zero 0) (Int32.toNatClampNeg (0 : Int32)) a) (Int32.toNatClampNeg (1 : Int32)) b
def zp0 : os_T := ss_I (ss_I os_zero 0 (5 : Int32)) 1 (2 : Int32)
def zpS (o : os_T) (k a b : Int32) : os_T := ss_I (ss_A o (Int32.toNatClampNeg k) (zpr a b)) 2 (Int32.ofNat (Int32.toNatClampNeg k + 1))
def zp5 (x y : Int32) : os_T := zpS (zpS (zpS (zpS (zpS zp0 0 x y) 1 (x - (1 : Int32)) y) 2 (x + (1 : Int32)) y) 3 x (y - (1 : Int32))) 4 x (y + (1 : Int32))
theorem zpS_n {o : os_T} {k a b : Int32} : cm_n (zpS o k a b) = cm_n o := rfl
theorem zpS_c {o : os_T} {k a b : Int32} : cm_c (zpS o k a b) = cm_c o := rfl
theorem zpS_b {o : os_T} {k a b : Int32} : cm_b (zpS o k a b) = Int32.toNatClampNeg (Int32.ofNat (Int32.toNatClampNeg k + 1)) := rfl
theorem zp0_n : cm_n zp0 = 5 := rfl
theorem zp0_c : cm_c zp0 = 2 := rfl
theorem zp0_b : cm_b zp0 = 0 := rfl
section WP
variable {N : Nat} {o p q : os_T} {S : Nat → Nat} {T H F G : Int → Int → Int}
theorem wp_c47 {k7 : (os_T × os_T × os_T × os_T × Int32) → Option (Int32 × os_T)} {k17 : (os_T × os_T × os_T × os_T × Int32 × Int32) → Option (Int32 × os_T)} {k47 : (os_T × os_T × os_T × os_T × Int32 × Int32 × Int32 × Int32 × UInt32 × Int32) → Option (Int32 × os_T)} {ow pw qw : os_T} {x2 x3 x4 x5 x7 : Int32} {x6 : UInt32} : ff_X13_polish_c47 N o q k7 k17 k47 p ow pw qw x2 x3 x4 x5 x6 x7 = (if (x4 + (1 : Int32)) < x7 then (if os_in x2 (cm_n p) then (if Int32.toNatClampNeg x2 < cm_b p then (if os_in x3 (cm_c p) then k17 (ss_A p (Int32.toNatClampNeg x2) (upd (os_A p (Int32.toNatClampNeg x2)) (Int32.toNatClampNeg x3) x5), ow, pw, qw, x2, x3 + 1) else none) else none) else none) else (if x7 < (os_I o 4) then ff_X13_polish_b262 N o q k7 k17 k47 p ow pw qw x2 x3 x4 x5 x6 x7 else (if x7 ≤ (os_I o 2) then (if os_in x2 (cm_n p) then (if Int32.toNatClampNeg x2 < cm_b p then (if os_in x3 (cm_c p) then ff_X13_polish_l186 N o q k7 k17 k47 N (ss_A p (Int32.toNatClampNeg x2) (upd (os_A p (Int32.toNatClampNeg x2)) (Int32.toNatClampNeg x3) x7), ow, pw, qw, zp5 x3 x2, x2, x3, x4, x5, x6, x7, FP.fconst0, (5 : Int32), (0 : Int32)) else none) else none) else none) else ff_X13_polish_b262 N o q k7 k17 k47 p ow pw qw x2 x3 x4 x5 x6 x7))) := by
  unfold ff_X13_polish_c47
  have a0 : os_in (0 : Int32) 2 = True := eq_true (by decide)
  have a1 : os_in (1 : Int32) 2 = True := eq_true (by decide)
  have b0 : os_in (0 : Int32) 5 = True := eq_true (by decide)
  have b1 : os_in (1 : Int32) 5 = True := eq_true (by decide)
  have b2 : os_in (2 : Int32) 5 = True := eq_true (by decide)
  have b3 : os_in (3 : Int32) 5 = True := eq_true (by decide)
  have b4 : os_in (4 : Int32) 5 = True := eq_true (by decide)
  have c0 : (Int32.toNatClampNeg (0 : Int32) = 0 ∧ 2 = 2 ∧ 0 < 1000) = True := eq_true (by decide)
  have c1 : (Int32.toNatClampNeg (1 : Int32) = Int32.toNatClampNeg (Int32.ofNat (Int32.toNatClampNeg 0 + 1)) ∧ 2 = 2 ∧ Int32.toNatClampNeg (Int32.ofNat (Int32.toNatClampNeg 0 + 1)) < 1000) = True := eq_true (by decide)
  have c2 : (Int32.toNatClampNeg (2 : Int32) = Int32.toNatClampNeg (Int32.ofNat (Int32.toNatClampNeg 1 + 1)) ∧ 2 = 2 ∧ Int32.toNatClampNeg (Int32.ofNat (Int32.toNatClampNeg 1 + 1)) < 1000) = True := eq_true (by decide)
  have c3 : (Int32.toNatClampNeg (3 : Int32) = Int32.toNatClampNeg (Int32.ofNat (Int32.toNatClampNeg 2 + 1)) ∧ 2 = 2 ∧ Int32.toNatClampNeg (Int32.ofNat (Int32.toNatClampNeg 2 + 1)) < 1000) = True := eq_true (by decide)
  have c4 : (Int32.toNatClampNeg (4 : Int32) = Int32.toNatClampNeg (Int32.ofNat (Int32.toNatClampNeg 3 + 1)) ∧ 2 = 2 ∧ Int32.toNatClampNeg (Int32.ofNat (Int32.toNatClampNeg 3 + 1)) < 1000) = True := eq_true (by decide)
  have e0 : ss_I (ss_I os_zero 0 (5 : Int32)) 1 (2 : Int32) = zp0 := rfl
  have eS : ∀ (o : os_T) (k a b : Int32), ss_I (ss_A o (Int32.toNatClampNeg k) (upd (upd (os_A os_zero 0) (Int32.toNatClampNeg (0 : Int32)) a) (Int32.toNatClampNeg (1 : Int32)) b)) 2 (Int32.ofNat (Int32.toNatClampNeg k + 1)) = zpS o k a b := fun _ _ _ _ => rfl
  rw [e0]
  simp only [eS]
  simp only [zpS_n, zpS_c, zpS_b, zp0_n, zp0_c, zp0_b, a0, a1, b0, b1, b2, b3, b4, c0, c1, c2, c3, c4, if_true]
  rfl
theorem wp_mnz (hS : sv S) (hG : hv S G) (hT : tv S T) {x y : Int} (c : ic S x y) : g_m S T G x y ≠ FP.Core.fzeroNeg := by
  intro e
  have ht := hT x y c
  have aF := g_eF hS hG c
  have bF := fl_wF (t := (T x y).toNat) (by omega)
  have al := (g_all hS hG c).2.2.2.2.2.2.2
  have bl := fl_wb (t := (T x y).toNat) (by omega)
  unfold g_m at e
  have z : fz (FP.fsub (g_e S G x y) (fl_w (T x y).toNat)) = 0 := by rw [e]; exact fz_z
  have n1 : ¬ fz (g_e S G x y) < fz (fl_w (T x y).toNat) := by rw [← fz_sub_neg aF bF, z]; omega
  have n2 : ¬ fz (fl_w (T x y).toNat) < fz (g_e S G x y) := fun l => by
    have := fz_sub_ge (V := 1) aF bF fz_1F (by rw [fz_1]; omega)
    rw [fz_1, z] at this
    omega
  have l1 : fz (g_e S G x y) ≤ fz (fl_w (T x y).toNat) := by omega
  have l2 : fz (fl_w (T x y).toNat) ≤ fz (g_e S G x y) := by omega
  rw [fz_le (by omega) (by omega)] at l1 l2
  have : g_e S G x y = fl_w (T x y).toNat := UInt32.toNat.inj (by omega)
  rw [this] at e
  obtain ⟨s, c0, q0, hv0⟩ := bF
  have h0 : FP.fsub (fl_w (T x y).toNat) (fl_w (T x y).toNat) = FP.fconst0 := FP.Core.fsub_self hv0
  rw [h0] at e
  exact absurd e (by decide)
theorem wp_step (hS : sv S) (h : wh o S) (hq : wm q S T) (hT : tv S T) (hp : wm p S G) (hG : hv S G) {ow pw qw v10 : os_T} {x2 x3 x4 x5 x7 : Int32} {x6 a : UInt32} {n : Nat} (hn : n ≤ 100) (ha : fp_s n a) {k : Nat} (hk : k < 5) (hv : cm_n v10 = 5 ∧ cm_b v10 = 5 ∧ cm_c v10 = 2) {px py : Int} (hx : ib px) (hy : ib py) (h0 : os_A v10 k 0 = Int32.ofInt px) (h1 : os_A v10 k 1 = Int32.ofInt py) (k7 : (os_T × os_T × os_T × os_T × Int32) → Option (Int32 × os_T)) (k17 : (os_T × os_T × os_T × os_T × Int32 × Int32) → Option (Int32 × os_T)) (k47 : (os_T × os_T × os_T × os_T × Int32 × Int32 × Int32 × Int32 × UInt32 × Int32) → Option (Int32 × os_T)) (k186 : (os_T × os_T × os_T × os_T × os_T × Int32 × Int32 × Int32 × Int32 × UInt32 × Int32 × UInt32 × Int32 × Int32) → Option (Int32 × os_T)) : ff_X13_polish_c186 N o q k7 k17 k47 k186 p ow pw qw v10 x2 x3 x4 x5 x6 x7 a (5 : Int32) (Int32.ofInt (k : Int)) = k186 (p, ow, pw, qw, v10, x2, x3, x4, x5, x6, x7, FP.fadd a (g_z S T G px py), (5 : Int32), Int32.ofInt ((k + 1 : Nat) : Int)) := by
  have e5 : (5 : Int32) = Int32.ofInt 5 := rfl
  have g1 : ((5 : Int32) ≤ Int32.ofInt (k : Int)) = False := by rw [e5, ia_le (by omega) (by omega) (by omega) (by omega)]; exact eq_false (by omega)
  have g2 : os_in (Int32.ofInt (k : Int)) (cm_n v10) = True := by rw [hv.1]; exact eq_true (ia_in (by omega) (by omega) (by omega))
  have ek : Int32.toNatClampNeg (Int32.ofInt (k : Int)) = k := by rw [ia_nat (by omega) (by omega)]; exact Int.toNat_natCast _
  have g3 : (Int32.toNatClampNeg (Int32.ofInt (k : Int)) < cm_b v10) = True := by rw [hv.2.1, ek]; exact eq_true hk
  have g4 : os_in (0 : Int32) (cm_c v10) = True := by rw [hv.2.2]; exact eq_true (by decide)
  have g5 : os_in (1 : Int32) (cm_c v10) = True := by rw [hv.2.2]; exact eq_true (by decide)
  have v0 : os_A v10 (Int32.toNatClampNeg (Int32.ofInt (k : Int))) (Int32.toNatClampNeg (0 : Int32)) = Int32.ofInt px := by rw [ek]; exact h0
  have v1 : os_A v10 (Int32.toNatClampNeg (Int32.ofInt (k : Int))) (Int32.toNatClampNeg (1 : Int32)) = Int32.ofInt py := by rw [ek]; exact h1
  have hb := fp_add (n := n) (by omega) ha (g_zb (x := px) (y := py) hS hG hT)
  unfold ff_X13_polish_c186 ff_X13_polish_b235
  simp only [g1, g2, g3, g4, g5, v0, v1, if_true, if_false]
  rw [wc_has hS h hx hy, Option.bind_some, oz_ite]
  by_cases c : ic S px py
  · have hm := g_mF hS hG hT c
    rw [if_pos c, wc_error hS h hq hT hp hG c, Option.bind_some, if_pos hm.1, fq_mE (fw_F hm.2 (by decide)) (wp_mnz hS hG hT c)]
    have ez : fq_a (g_m S T G px py) = g_z S T G px py := (if_pos c).symm
    rw [ez, if_pos (fp_n hb), ii_1, ia_s]
  · rw [if_neg c, g_z_out c, fp_z ha, ii_1, ia_s]
theorem wp_sum (hN : 1000 < N) (hS : sv S) (h : wh o S) (hq : wm q S T) (hT : tv S T) (hp : wm p S G) (hG : hv S G) {ow pw qw : os_T} {x4 x5 x7 : Int32} {x6 : UInt32} {x y : Int} (c : ic S x y) (k7 : (os_T × os_T × os_T × os_T × Int32) → Option (Int32 × os_T)) (k17 : (os_T × os_T × os_T × os_T × Int32 × Int32) → Option (Int32 × os_T)) (k47 : (os_T × os_T × os_T × os_T × Int32 × Int32 × Int32 × Int32 × UInt32 × Int32) → Option (Int32 × os_T)) : ff_X13_polish_l186 N o q k7 k17 k47 N (p, ow, pw, qw, zp5 (Int32.ofInt x) (Int32.ofInt y), Int32.ofInt y, Int32.ofInt x, x4, x5, x6, x7, FP.fconst0, (5 : Int32), (0 : Int32)) = (if x5 < 0 then ff_X13_polish_b254 N o q k7 k17 k47 p ow pw qw (Int32.ofInt y) (Int32.ofInt x) x4 x7 (q_55 S T G x y) else (if 0 ≤ (Op.cmpValue (FP.fcmp (q_55 S T G x y) x6) CmpOp.g) then ff_X13_polish_b262 N o q k7 k17 k47 p ow pw qw (Int32.ofInt y) (Int32.ofInt x) x4 x5 x6 x7 else ff_X13_polish_b254 N o q k7 k17 k47 p ow pw qw (Int32.ofInt y) (Int32.ofInt x) x4 x7 (q_55 S T G x y))) := by
  have hs := sv_a hS
  have hr := ic_r hS c
  obtain ⟨s1, s2, s3, s4, s5⟩ := q_5s (x := x) (y := y) hS hG hT
  have hv5 : cm_n (zp5 (Int32.ofInt x) (Int32.ofInt y)) = 5 ∧ cm_b (zp5 (Int32.ofInt x) (Int32.ofInt y)) = 5 ∧ cm_c (zp5 (Int32.ofInt x) (Int32.ofInt y)) = 2 := ⟨rfl, rfl, rfl⟩
  unfold ff_X13_polish_l186
  refine lo_run (N := N) (step := fun k186 s1 => ff_X13_polish_c186 N o q k7 k17 k47 k186 s1.1 s1.2.1 s1.2.2.1 s1.2.2.2.1 s1.2.2.2.2.1 s1.2.2.2.2.2.1 s1.2.2.2.2.2.2.1 s1.2.2.2.2.2.2.2.1 s1.2.2.2.2.2.2.2.2.1 s1.2.2.2.2.2.2.2.2.2.1 s1.2.2.2.2.2.2.2.2.2.2.1 s1.2.2.2.2.2.2.2.2.2.2.2.1 s1.2.2.2.2.2.2.2.2.2.2.2.2.1 s1.2.2.2.2.2.2.2.2.2.2.2.2.2) (fun k : Nat => (p, ow, pw, qw, zp5 (Int32.ofInt x) (Int32.ofInt y), Int32.ofInt y, Int32.ofInt x, x4, x5, x6, x7, (match k with | 0 => FP.fconst0 | 1 => q_51 S T G x y | 2 => q_52 S T G x y | 3 => q_53 S T G x y | 4 => q_54 S T G x y | _ => q_55 S T G x y), (5 : Int32), Int32.ofInt (k : Int))) 5 ?_ ?_ (by omega)
  · intro k hk r
    obtain rfl | rfl | rfl | rfl | rfl : k = 0 ∨ k = 1 ∨ k = 2 ∨ k = 3 ∨ k = 4 := by omega
    · exact wp_step (N := N) (n := 0) (k := 0) hS h hq hT hp hG (by omega) fp_0 (by omega) hv5 (px := x) (py := y) (by omega) (by omega) rfl rfl k7 k17 k47 r
    · exact wp_step (N := N) (n := 1) (k := 1) hS h hq hT hp hG (by omega) s1 (by omega) hv5 (px := x - 1) (py := y) (by omega) (by omega) (by rw [← ia_sub]; rfl) rfl k7 k17 k47 r
    · exact wp_step (N := N) (n := 2) (k := 2) hS h hq hT hp hG (by omega) s2 (by omega) hv5 (px := x + 1) (py := y) (by omega) (by omega) (by rw [← ia_add]; rfl) rfl k7 k17 k47 r
    · exact wp_step (N := N) (n := 3) (k := 3) hS h hq hT hp hG (by omega) s3 (by omega) hv5 (px := x) (py := y - 1) (by omega) (by omega) rfl (by rw [← ia_sub]; rfl) k7 k17 k47 r
    · exact wp_step (N := N) (n := 4) (k := 4) hS h hq hT hp hG (by omega) s4 (by omega) hv5 (px := x) (py := y + 1) (by omega) (by omega) rfl (by rw [← ia_add]; rfl) k7 k17 k47 r
  · intro r
    show ff_X13_polish_c186 N o q k7 k17 k47 r p ow pw qw (zp5 (Int32.ofInt x) (Int32.ofInt y)) (Int32.ofInt y) (Int32.ofInt x) x4 x5 x6 x7 (q_55 S T G x y) (5 : Int32) (5 : Int32) = _
    unfold ff_X13_polish_c186
    rw [if_pos (Int32.le_refl _)]
/-- one cell -/
theorem wp_cell (hN : 1000 < N) (hS : sv S) (h : wh o S) (hq : wm q S T) (hT : tv S T) (hp : wm p S G) (hG : hv S G) {ow pw qw : os_T} {x y : Int} (c : ic S x y) : ∃ p', wm p' S (hu G x y (q_be S T G x y)) ∧ ∀ K : ((os_T × os_T × os_T × os_T × Int32) → Option (Int32 × os_T)) × ((os_T × os_T × os_T × os_T × Int32 × Int32) → Option (Int32 × os_T)), ff_X13_polish_l47 N o q K.1 K.2 5 (p, ow, pw, qw, Int32.ofInt y, Int32.ofInt x, Int32.ofInt (G x y), (-1 : Int32), FP.fconst0, Int32.ofInt (G x y - 1)) = K.2 (p', ow, pw, qw, Int32.ofInt y, Int32.ofInt x + 1) := by
  have hs := sv_a hS
  have hr := ic_r hS c
  have h0 := hG x y c
  have hbe : q_be S T G x y = (q_bf S T G x y (q_lo S G x y) (q_hi S G x y - q_lo S G x y).toNat).1 := rfl
  have elo : q_lo S G x y = max (S 4 : Int) (G x y - 1) := rfl
  have ehi : q_hi S G x y = min (S 2 : Int) (G x y + 1) := rfl
  unfold ff_X13_polish_l47
  refine lo_cntP (K := ((os_T × os_T × os_T × os_T × Int32) → Option (Int32 × os_T)) × ((os_T × os_T × os_T × os_T × Int32 × Int32) → Option (Int32 × os_T))) (step := fun K k47 s1 => ff_X13_polish_c47 N o q K.1 K.2 k47 s1.1 s1.2.1 s1.2.2.1 s1.2.2.2.1 s1.2.2.2.2.1 s1.2.2.2.2.2.1 s1.2.2.2.2.2.2.1 s1.2.2.2.2.2.2.2.1 s1.2.2.2.2.2.2.2.2.1 s1.2.2.2.2.2.2.2.2.2) (fun K (p' : os_T) => K.2 (p', ow, pw, qw, Int32.ofInt y, Int32.ofInt x + 1)) (fun (j : Nat) s => ∃ p' v b w, s = (p', ow, pw, qw, Int32.ofInt y, Int32.ofInt x, Int32.ofInt (G x y), Int32.ofInt b, w, Int32.ofInt (G x y - 1 + j)) ∧ wm p' S (hu G x y v) ∧ (G x y - 2 + j < q_lo S G x y → b = -1) ∧ (q_lo S G x y ≤ G x y - 2 + j → (b, w) = q_bf S T G x y (q_lo S G x y) (min (q_hi S G x y) (G x y - 2 + j) - q_lo S G x y).toNat)) (fun p' => wm p' S (hu G x y (q_be S T G x y))) 3 ?_ ?_ (by omega) ⟨p, G x y, -1, FP.fconst0, by rw [show G x y - 1 + ((0 : Nat) : Int) = G x y - 1 by omega]; rfl, by rw [hu_id]; exact hp, fun _ => rfl, fun z => by omega⟩
  · rintro j s hj ⟨p', v, b, w, rfl, h', hl, hg⟩
    have hb2 : q_lo S G x y ≤ G x y - 2 + j → b = (q_bf S T G x y (q_lo S G x y) (min (q_hi S G x y) (G x y - 2 + j) - q_lo S G x y).toNat).1 ∧ w = (q_bf S T G x y (q_lo S G x y) (min (q_hi S G x y) (G x y - 2 + j) - q_lo S G x y).toNat).2 := fun z => by
      have := hg z
      exact ⟨congrArg Prod.fst this, congrArg Prod.snd this⟩
    have hbr := q_bf_r (S := S) (T := T) (G := G) (x := x) (y := y) (lo := q_lo S G x y) (min (q_hi S G x y) (G x y - 2 + j) - q_lo S G x y).toNat
    have hbF := q_bf_F (S := S) (T := T) (G := G) (x := x) (y := y) (lo := q_lo S G x y) hS hG hT (min (q_hi S G x y) (G x y - 2 + j) - q_lo S G x y).toNat (by omega) (by omega)
    have hbb : ib b := by
      by_cases z : q_lo S G x y ≤ G x y - 2 + j
      · have := hb2 z; omega
      · have := hl (by omega); omega
    have eend : (Int32.ofInt (G x y) + 1 < Int32.ofInt (G x y - 1 + j)) = False := by rw [ii_1, ia_add, ia_lt (by omega) (by omega) (by omega) (by omega)]; exact eq_false (by omega)
    have e1 : ∀ j : Nat, G x y - 1 + (j : Int) + 1 = G x y - 1 + ((j + 1 : Nat) : Int) := fun j => by omega
    by_cases ca : G x y - 1 + j < S 4
    · refine ⟨_, ⟨p', v, b, w, rfl, h', fun _ => hl (by omega), fun z => by omega⟩, fun K r => ?_⟩
      show ff_X13_polish_c47 N o q K.1 K.2 r p' ow pw qw (Int32.ofInt y) (Int32.ofInt x) (Int32.ofInt (G x y)) (Int32.ofInt b) w (Int32.ofInt (G x y - 1 + j)) = _
      rw [wp_c47]
      simp only [eend, if_false]
      rw [h 4 (by decide), ii_lt (by omega) (by omega), if_pos ca]
      unfold ff_X13_polish_b262
      rw [ii_1, ia_add, e1]
    · by_cases cb : G x y - 1 + j ≤ S 2
      · have hr2 : (S 4 : Int) ≤ G x y - 1 + j ∧ G x y - 1 + j ≤ S 2 := by omega
        have hp2 := wm_hu hS h' c (v := G x y - 1 + j)
        rw [hu_hu] at hp2
        have hG2 := hu_hv (x := x) (y := y) hG hr2
        obtain ⟨k1, k2, k3, k4⟩ := wg hS h' c
        have q5F := (q_5s (S := S) (T := T) (x := x) (y := y) hS hG2 hT).2.2.2.2.1
        have run : ∀ (K : ((os_T × os_T × os_T × os_T × Int32) → Option (Int32 × os_T)) × ((os_T × os_T × os_T × os_T × Int32 × Int32) → Option (Int32 × os_T))) (r : _ → Option (Int32 × os_T)), ff_X13_polish_c47 N o q K.1 K.2 r p' ow pw qw (Int32.ofInt y) (Int32.ofInt x) (Int32.ofInt (G x y)) (Int32.ofInt b) w (Int32.ofInt (G x y - 1 + j)) = if b < 0 ∨ fz (q_55 S T (hu G x y (G x y - 1 + j)) x y) < fz w then r (ss_A p' (Int32.toNatClampNeg (Int32.ofInt y)) (upd (os_A p' (Int32.toNatClampNeg (Int32.ofInt y))) (Int32.toNatClampNeg (Int32.ofInt x)) (Int32.ofInt (G x y - 1 + j))), ow, pw, qw, Int32.ofInt y, Int32.ofInt x, Int32.ofInt (G x y), Int32.ofInt (G x y - 1 + j), q_55 S T (hu G x y (G x y - 1 + j)) x y, Int32.ofInt (G x y - 1 + ((j + 1 : Nat) : Int))) else r (ss_A p' (Int32.toNatClampNeg (Int32.ofInt y)) (upd (os_A p' (Int32.toNatClampNeg (Int32.ofInt y))) (Int32.toNatClampNeg (Int32.ofInt x)) (Int32.ofInt (G x y - 1 + j))), ow, pw, qw, Int32.ofInt y, Int32.ofInt x, Int32.ofInt (G x y), Int32.ofInt b, w, Int32.ofInt (G x y - 1 + ((j + 1 : Nat) : Int))) := fun K r => by
          rw [wp_c47]
          simp only [eend, if_false]
          rw [h 4 (by decide), ii_lt (by omega) (by omega), if_neg ca, h 2 (by decide), ii_le (by omega) (by omega), if_pos cb]
          simp only [k1, k2, k3, if_true]
          rw [wp_sum hN hS h hq hT hp2 hG2 c]
          unfold ff_X13_polish_b254 ff_X13_polish_b262
          simp only [i0_lt hbb, cq_geg]
          rw [ii_1, ia_add, e1]
          by_cases d : b < 0
          · rw [if_pos d, if_pos (Or.inl d)]
          · rw [if_neg d]
            have wF : fF w := by
              by_cases z : q_lo S G x y ≤ G x y - 2 + j
              · rw [(hb2 z).2]; exact hbF
              · have := hl (by omega); omega
            simp only [ne_eq, fq_lt q5F wF]
            by_cases d2 : fz (q_55 S T (hu G x y (G x y - 1 + j)) x y) < fz w
            · rw [if_neg (fun z => z d2), if_pos (Or.inr d2)]
            · rw [if_pos d2, if_neg (fun z => z.elim d d2)]
        by_cases d : b < 0 ∨ fz (q_55 S T (hu G x y (G x y - 1 + j)) x y) < fz w
        · refine ⟨_, ⟨_, _, _, _, rfl, hp2, fun z => by omega, fun z => ?_⟩, fun K r => (run K r).trans (if_pos d)⟩
          by_cases z2 : q_lo S G x y ≤ G x y - 2 + j
          · obtain ⟨b1, b2⟩ := hb2 z2
            have hd : fz (q_55 S T (hu G x y (G x y - 1 + j)) x y) < fz w := d.resolve_left (by omega)
            rw [show (min (q_hi S G x y) (G x y - 2 + ((j + 1 : Nat) : Int)) - q_lo S G x y).toNat = (min (q_hi S G x y) (G x y - 2 + j) - q_lo S G x y).toNat + 1 by omega]
            rw [b2] at hd
            unfold q_bf
            rw [show q_lo S G x y + (((min (q_hi S G x y) (G x y - 2 + j) - q_lo S G x y).toNat + 1 : Nat) : Int) = G x y - 1 + j by omega, if_pos hd]
          · rw [show (min (q_hi S G x y) (G x y - 2 + ((j + 1 : Nat) : Int)) - q_lo S G x y).toNat = 0 by omega, show G x y - 1 + (j : Int) = q_lo S G x y by omega]
            rfl
        · refine ⟨_, ⟨_, _, _, _, rfl, hp2, fun z => by omega, fun z => ?_⟩, fun K r => (run K r).trans (if_neg d)⟩
          by_cases z2 : q_lo S G x y ≤ G x y - 2 + j
          · obtain ⟨b1, b2⟩ := hb2 z2
            have hd : ¬ fz (q_55 S T (hu G x y (G x y - 1 + j)) x y) < fz w := fun z => d (Or.inr z)
            have e := hg z2
            rw [show (min (q_hi S G x y) (G x y - 2 + ((j + 1 : Nat) : Int)) - q_lo S G x y).toNat = (min (q_hi S G x y) (G x y - 2 + j) - q_lo S G x y).toNat + 1 by omega]
            rw [b2] at hd
            rw [e]
            conv => rhs; unfold q_bf
            rw [show q_lo S G x y + (((min (q_hi S G x y) (G x y - 2 + j) - q_lo S G x y).toNat + 1 : Nat) : Int) = G x y - 1 + j by omega, if_neg hd]
          · exfalso
            have := hl (by omega)
            exact d (Or.inl (by omega))
      · have em : ∀ z : Int, min (q_hi S G x y) (G x y - 2 + ((j + 1 : Nat) : Int)) = min (q_hi S G x y) (G x y - 2 + j) := fun _ => by omega
        refine ⟨_, ⟨p', v, b, w, rfl, h', fun z => by omega, fun z => by rw [em 0]; exact hg (by omega)⟩, fun K r => ?_⟩
        show ff_X13_polish_c47 N o q K.1 K.2 r p' ow pw qw (Int32.ofInt y) (Int32.ofInt x) (Int32.ofInt (G x y)) (Int32.ofInt b) w (Int32.ofInt (G x y - 1 + j)) = _
        rw [wp_c47]
        simp only [eend, if_false]
        rw [h 4 (by decide), ii_lt (by omega) (by omega), if_neg ca, h 2 (by decide), ii_le (by omega) (by omega), if_neg cb]
        unfold ff_X13_polish_b262
        rw [ii_1, ia_add, e1]
  · rintro s ⟨p', v, b, w, rfl, h', hl, hg⟩
    have e := hg (by omega)
    have eb : b = q_be S T G x y := by
      have := congrArg Prod.fst e
      rw [hbe, show (q_hi S G x y - q_lo S G x y).toNat = (min (q_hi S G x y) (G x y - 2 + ((3 : Nat) : Int)) - q_lo S G x y).toNat by omega]
      exact this
    obtain ⟨k1, k2, k3, k4⟩ := wg hS h' c
    have hp2 := wm_hu hS h' c (v := b)
    rw [hu_hu, eb] at hp2
    refine ⟨_, hp2, fun K r => ?_⟩
    show ff_X13_polish_c47 N o q K.1 K.2 r p' ow pw qw (Int32.ofInt y) (Int32.ofInt x) (Int32.ofInt (G x y)) (Int32.ofInt b) w (Int32.ofInt (G x y - 1 + ((3 : Nat) : Int))) = _
    rw [wp_c47, ii_1, ia_add, ii_lt (by omega) (by omega), if_pos (by omega), eb]
    simp only [k1, k2, k3, if_true]
theorem wc_polish (hN : 1000 < N) (hS : sv S) (hz : wz S) (h : wh o S) (hq : wm q S T) (hT : tv S T) (hp : wm p S H) (hH : hv S H) : ∃ p', ff_X13_polish N o q p = some (Int32.ofInt (q_df S H (q_po S T (S 0 * S 1) H)), p') ∧ wm p' S (q_po S T (S 0 * S 1) H) := by
  have hs := sv_a hS
  obtain ⟨z0, z1⟩ := id hz
  obtain ⟨ow, qw, pw, ew, hwo, hwq, hwp⟩ := wc_copy (N := N) hS hz h hq hp
  unfold ff_X13_polish
  rw [ew, Option.bind_some]
  unfold ff_X13_polish_l7
  have key := lo_gridP (K := Unit) (N := 13) (M := 17) (step1 := fun _ k7 s1 => ff_X13_polish_c7 N o q k7 s1.1 s1.2.1 s1.2.2.1 s1.2.2.2.1 s1.2.2.2.2) (step2 := fun _ k7 k17 s1 => ff_X13_polish_c17 N o q k7 k17 s1.1 s1.2.1 s1.2.2.1 s1.2.2.2.1 s1.2.2.2.2.1 s1.2.2.2.2.2) (fun _ (t : os_T) => some (Int32.ofInt (q_df S H (q_po S T (S 0 * S 1) H)), t)) (fun y s => ∃ p', s = (p', ow, pw, qw, Int32.ofInt (y : Int)) ∧ wm p' S (q_po S T (S 0 * y) H)) (fun y x s => ∃ p', s = (p', ow, pw, qw, Int32.ofInt (y : Int), Int32.ofInt (x : Int)) ∧ wm p' S (q_po S T (S 0 * y + x) H)) (fun p' => wm p' S (q_po S T (S 0 * S 1) H)) (S 0) (S 1) ?_ ?_ ?_ ?_ (by omega) (by omega) (s := (p, ow, pw, qw, (0 : Int32))) ⟨p, rfl, hp⟩
  · obtain ⟨p', hp', e⟩ := key
    exact ⟨p', e (), hp'⟩
  · rintro y s hy ⟨p', rfl, h'⟩
    refine ⟨_, ⟨p', rfl, h'⟩, fun k r => ?_⟩
    show ff_X13_polish_c7 N o q r p' ow pw qw (Int32.ofInt (y : Int)) = _
    unfold ff_X13_polish_c7
    simp only [ww_r hS h hy, if_false]
    rfl
  · rintro x y s hx hy ⟨p', rfl, h'⟩
    have hc : ic S (x : Int) (y : Int) := ic_n hx hy
    have hlt := fg_lt hx hy
    have hG := (q_po_i (T := T) hS hH (S 0 * y + x) (by omega)).1
    obtain ⟨p2, h2, e⟩ := wp_cell (N := N) (ow := ow) (pw := pw) (qw := qw) hN hS h hq hT h' hG hc
    obtain ⟨k1, k2, k3, k4⟩ := wg hS h' hc
    refine ⟨_, ⟨p2, rfl, by rw [← q_po_x hx]; exact h2⟩, fun k r r2 => ?_⟩
    show ff_X13_polish_c17 N o q r r2 p' ow pw qw (Int32.ofInt (y : Int)) (Int32.ofInt (x : Int)) = _
    unfold ff_X13_polish_c17
    simp only [ww_w hS h hx, k1, k2, k3, k4, if_true, if_false]
    rw [ii_1, ia_sub]
    refine (e (r, r2)).trans ?_
    rw [ii_1, ia_s]
  · rintro y s hy ⟨p', rfl, h'⟩
    refine ⟨_, ⟨p', rfl, by rw [Nat.mul_succ]; exact h'⟩, fun k r r2 => ?_⟩
    show ff_X13_polish_c17 N o q r r2 p' ow pw qw (Int32.ofInt (y : Int)) (Int32.ofInt (S 0 : Int)) = _
    unfold ff_X13_polish_c17
    simp only [ww_W h, if_true]
    rw [ii_1, ia_s]
  · rintro s ⟨p', rfl, h'⟩
    refine ⟨p', h', fun k r => ?_⟩
    show ff_X13_polish_c7 N o q r p' ow pw qw (Int32.ofInt (S 1 : Int)) = _
    unfold ff_X13_polish_c7
    simp only [ww_R h, if_true]
    rw [wc_others hN hS h h' hwp ((q_po_i (T := T) hS hH (S 0 * S 1) (Nat.le_refl _)).1.wv hS) (hH.wv hS), Option.bind_some, q_df_sy]
end WP
