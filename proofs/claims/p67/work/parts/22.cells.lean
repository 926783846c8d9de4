/-! LAYER 2. A relief in whole numbers: settings S, tones T, heights H; how the class's panel and the reference hold it -/
def sv (S : Nat → Nat) : Prop := (1 ≤ S 0 ∧ S 0 ≤ 16) ∧ (1 ≤ S 1 ∧ S 1 ≤ 12) ∧ (1 ≤ S 2 ∧ S 2 ≤ 20) ∧ (10 ≤ S 3 ∧ S 3 ≤ 99) ∧ S 4 ≤ S 2 ∧ (1 ≤ S 5 ∧ S 5 ≤ 4) ∧ S 6 ≤ 9
theorem sv_a {S : Nat → Nat} (h : sv S) : 1 ≤ S 0 ∧ S 0 ≤ 16 ∧ 1 ≤ S 1 ∧ S 1 ≤ 12 ∧ 1 ≤ S 2 ∧ S 2 ≤ 20 ∧ 10 ≤ S 3 ∧ S 3 ≤ 99 ∧ S 4 ≤ S 2 ∧ 1 ≤ S 5 ∧ S 5 ≤ 4 ∧ S 6 ≤ 9 := by
  unfold sv at h
  omega
abbrev ic (S : Nat → Nat) (x y : Int) : Prop := 0 ≤ x ∧ x < S 0 ∧ 0 ≤ y ∧ y < S 1
def hv (S : Nat → Nat) (H : Int → Int → Int) : Prop := ∀ x y, ic S x y → (S 4 : Int) ≤ H x y ∧ H x y ≤ S 2
def tv (S : Nat → Nat) (T : Int → Int → Int) : Prop := ∀ x y, ic S x y → 0 ≤ T x y ∧ T x y ≤ 255
/-- heights as they may be within a call -/
def wv (S : Nat → Nat) (H : Int → Int → Int) : Prop := ∀ x y, ic S x y → -1000000 ≤ H x y ∧ H x y ≤ 1000000
theorem hv.wv {S : Nat → Nat} {H : Int → Int → Int} (hS : sv S) (h : hv S H) : wv S H := fun x y c => by
  have := sv_a hS
  have := h x y c
  omega
theorem tv.wv {S : Nat → Nat} {T : Int → Int → Int} (h : tv S T) : wv S T := fun x y c => by
  have := h x y c
  omega
def hu (H : Int → Int → Int) (x y v : Int) : Int → Int → Int := fun a b => if a = x ∧ b = y then v else H a b
theorem hu_at (H : Int → Int → Int) (x y v : Int) : hu H x y v x y = v := if_pos ⟨rfl, rfl⟩
theorem hu_ne {H : Int → Int → Int} {x y v a b : Int} (h : ¬ (a = x ∧ b = y)) : hu H x y v a b = H a b := if_neg h
theorem hu_id (H : Int → Int → Int) (x y : Int) : hu H x y (H x y) = H := by
  funext a b
  unfold hu
  split
  · rename_i h; rw [h.1, h.2]
  · rfl
theorem hu_wv {S : Nat → Nat} {H : Int → Int → Int} {x y v : Int} (h : wv S H) (hv : -1000000 ≤ v ∧ v ≤ 1000000) : wv S (hu H x y v) := fun a b c => by
  unfold hu
  split
  · exact hv
  · exact h a b c
theorem hu_hv {S : Nat → Nat} {H : Int → Int → Int} {x y v : Int} (h : hv S H) (hq : (S 4 : Int) ≤ v ∧ v ≤ S 2) : hv S (hu H x y v) := fun a b c => by
  unfold hu
  split
  · exact hq
  · exact h a b c
def cp (o : os_T) (S : Nat → Nat) (T H : Int → Int → Int) : Prop :=
  (∀ i : Nat, i < 7 → os_I o i = Int32.ofInt (S i)) ∧ (∀ x y, ic S x y → os_A o 0 (16 * y + x).toNat = Int32.ofInt (T x y)) ∧ (∀ x y, ic S x y → os_A o 1 (16 * y + x).toNat = Int32.ofInt (H x y)) ∧ ∀ k : Nat, k ≤ 20 → os_F o 0 k = fl_l (S 3) k
theorem cp.cg {o : os_T} {S : Nat → Nat} {T H T' H' : Int → Int → Int} (h : cp o S T H) (hT : ∀ x y, ic S x y → T x y = T' x y) (hH : ∀ x y, ic S x y → H x y = H' x y) : cp o S T' H' :=
  ⟨h.1, fun x y c => by rw [h.2.1 x y c, hT x y c], fun x y c => by rw [h.2.2.1 x y c, hH x y c], h.2.2.2⟩
/-- four tests for a cell -/
theorem gd_if {α : Type} {w h x y : Int} {A B : α} (hx : ib x) (hy : ib y) (hw : ib w) (hh : ib h) : (if Int32.ofInt x < 0 then A else (if Int32.ofInt w ≤ Int32.ofInt x then A else (if Int32.ofInt y < 0 then A else (if Int32.ofInt h ≤ Int32.ofInt y then A else B)))) = if 0 ≤ x ∧ x < w ∧ 0 ≤ y ∧ y < h then B else A := by
  have e1 : (Int32.ofInt x < 0) = (x < 0) := ia_lt (b := 0) hx.1 hx.2 (by omega) (by omega)
  have e2 : (Int32.ofInt w ≤ Int32.ofInt x) = (w ≤ x) := ia_le hw.1 hw.2 hx.1 hx.2
  have e3 : (Int32.ofInt y < 0) = (y < 0) := ia_lt (b := 0) hy.1 hy.2 (by omega) (by omega)
  have e4 : (Int32.ofInt h ≤ Int32.ofInt y) = (h ≤ y) := ia_le hh.1 hh.2 hy.1 hy.2
  simp only [e1, e2, e3, e4]
  by_cases c : 0 ≤ x ∧ x < w ∧ 0 ≤ y ∧ y < h
  · rw [if_pos c, if_neg (by omega), if_neg (by omega), if_neg (by omega), if_neg (by omega)]
  · rw [if_neg c]
    repeat' split
    all_goals first | rfl | (exfalso; omega)
section Cells
variable {N : Nat} {o : os_T} {S : Nat → Nat} {T H : Int → Int → Int}
theorem ic_r {x y : Int} (hS : sv S) (h : ic S x y) : 0 ≤ 16 * y + x ∧ 16 * y + x < 192 ∧ x ≤ 15 ∧ y ≤ 11 := by
  have := sv_a hS
  omega
theorem cp_ix {x y : Int} : Int32.ofInt y * 16 + Int32.ofInt x = Int32.ofInt (16 * y + x) := by
  rw [ii_16, ia_mul, ia_add, Int.mul_comm]
theorem cp_in {x y : Int} (hS : sv S) (h : ic S x y) : os_in (Int32.ofInt y * 16 + Int32.ofInt x) 192 := by
  have := ic_r hS h
  rw [cp_ix]
  exact ia_in (by omega) (by omega) (by omega)
theorem cp_na {x y : Int} (hS : sv S) (h : ic S x y) : Int32.toNatClampNeg (Int32.ofInt y * 16 + Int32.ofInt x) = (16 * y + x).toNat := by
  have := ic_r hS h
  rw [cp_ix, ia_nat (by omega) (by omega)]
theorem ic_inj {x y a b : Int} (hS : sv S) (h : ic S x y) (h2 : ic S a b) (e : (16 * b + a).toNat = (16 * y + x).toNat) : a = x ∧ b = y := by
  have := ic_r hS h
  have := ic_r hS h2
  omega
theorem cp_ih {x y : Int} (hS : sv S) (h : cp o S T H) (hx : ib x) (hy : ib y) {α : Type} {A B : α} : (if Int32.ofInt x < 0 then A else (if os_I o 0 ≤ Int32.ofInt x then A else (if Int32.ofInt y < 0 then A else (if os_I o 1 ≤ Int32.ofInt y then A else B)))) = if ic S x y then B else A := by
  have := sv_a hS
  rw [h.1 0 (by decide), h.1 1 (by decide)]
  exact gd_if hx hy (by omega) (by omega)
theorem pc_has (hS : sv S) (h : cp o S T H) {x y : Int} (hx : ib x) (hy : ib y) : ff_X5_has N o (Int32.ofInt x) (Int32.ofInt y) = some (oz (decide (ic S x y))) := by
  unfold ff_X5_has
  rw [cp_ih hS h hx hy]
  by_cases c : ic S x y
  · rw [if_pos c, decide_eq_true c]; rfl
  · rw [if_neg c, decide_eq_false c]; rfl
theorem pc_toneAt (hS : sv S) (h : cp o S T H) {x y : Int} (hx : ib x) (hy : ib y) : ff_X5_toneAt N o (Int32.ofInt x) (Int32.ofInt y) = some (Int32.ofInt (if ic S x y then T x y else 255)) := by
  unfold ff_X5_toneAt
  rw [cp_ih hS h hx hy]
  by_cases c : ic S x y
  · rw [if_pos c, if_pos c, if_pos (cp_in hS c), cp_na hS c, h.2.1 x y c]
  · rw [if_neg c, if_neg c]; rfl
theorem pc_heightAt (hS : sv S) (h : cp o S T H) {x y : Int} (hx : ib x) (hy : ib y) : ff_X5_heightAt N o (Int32.ofInt x) (Int32.ofInt y) = some (Int32.ofInt (if ic S x y then H x y else -1)) := by
  unfold ff_X5_heightAt
  rw [cp_ih hS h hx hy]
  by_cases c : ic S x y
  · rw [if_pos c, if_pos c, if_pos (cp_in hS c), cp_na hS c, h.2.2.1 x y c]
  · rw [if_neg c, if_neg c]; rfl
theorem pc_reaches (hS : sv S) (h : cp o S T H) (hH : wv S H) {x y d : Int} (hx : ib x) (hy : ib y) (hd : ib d) : ff_X5_reaches N o (Int32.ofInt x) (Int32.ofInt y) (Int32.ofInt d) = some (oz (decide (ic S x y ∧ d ≤ H x y))) := by
  unfold ff_X5_reaches
  rw [cp_ih hS h hx hy]
  by_cases c : ic S x y
  · have := hH x y c
    rw [if_pos c, if_pos (cp_in hS c), cp_na hS c, h.2.2.1 x y c, ii_lt (by omega) (by omega)]
    by_cases c2 : H x y < d
    · rw [if_pos c2, decide_eq_false (fun z => by omega)]; rfl
    · rw [if_neg c2, decide_eq_true ⟨c, by omega⟩]; rfl
  · rw [if_neg c, decide_eq_false (fun z => c z.1)]; rfl
theorem pc_lightOf (h : cp o S T H) {k : Int} (h0 : 0 ≤ k) (h1 : k ≤ 20) : ff_X5_lightOf N o (Int32.ofInt k) = some (fl_l (S 3) k.toNat) := by
  unfold ff_X5_lightOf
  have e1 : (Int32.ofInt k < 0) = (k < 0) := ia_lt (b := 0) (by omega) (by omega) (by omega) (by omega)
  have e2 : ((21 : Int32) ≤ Int32.ofInt k) = (21 ≤ k) := ia_le (a := 21) (by omega) (by omega) (by omega) (by omega)
  simp only [e1, e2]
  rw [if_neg (by omega), if_neg (by omega), if_pos (ia_in (by omega) (by omega) (by omega)), ia_nat (by omega) (by omega), h.2.2.2 _ (by omega)]
theorem pc_lightAt (hS : sv S) (h : cp o S T H) (hH : hv S H) {x y : Int} (hx : ib x) (hy : ib y) (d : UInt32) : ff_X5_lightAt N o (Int32.ofInt x) (Int32.ofInt y) d = some (if ic S x y then fl_l (S 3) (H x y).toNat else d) := by
  have hs := sv_a hS
  unfold ff_X5_lightAt
  have e1 : (Int32.ofInt x < 0) = (x < 0) := ia_lt (b := 0) hx.1 hx.2 (by omega) (by omega)
  have e2 : (os_I o 0 ≤ Int32.ofInt x) = ((S 0 : Int) ≤ x) := by rw [h.1 0 (by decide), ia_le (by omega) (by omega) hx.1 hx.2]
  have e3 : (Int32.ofInt y < 0) = (y < 0) := ia_lt (b := 0) hy.1 hy.2 (by omega) (by omega)
  have e4 : (Int32.ofInt y < os_I o 1) = (y < (S 1 : Int)) := by rw [h.1 1 (by decide), ia_lt hy.1 hy.2 (by omega) (by omega)]
  simp only [e1, e2, e3, e4]
  by_cases c : ic S x y
  · have hh := hH x y c
    rw [if_neg (by omega), if_neg (by omega), if_neg (by omega), if_pos (by omega), if_pos (cp_in hS c), cp_na hS c, h.2.2.1 x y c, if_pos c]
    have e5 : (Int32.ofInt (H x y) < 0) = (H x y < 0) := ia_lt (b := 0) (by omega) (by omega) (by omega) (by omega)
    have e6 : ((21 : Int32) ≤ Int32.ofInt (H x y)) = (21 ≤ H x y) := ia_le (a := 21) (by omega) (by omega) (by omega) (by omega)
    simp only [e5, e6]
    rw [if_neg (by omega), if_neg (by omega), if_pos (ia_in (by omega) (by omega) (by omega)), ia_nat (by omega) (by omega), h.2.2.2 _ (by omega)]
  · rw [if_neg c]
    repeat' split
    all_goals first | rfl | (exfalso; omega)
theorem pc_wish {t : Int} (h0 : 0 ≤ t) (h1 : t ≤ 255) : ff_X5_wish N (Int32.ofInt t) = some (fl_w t.toNat) := by
  unfold ff_X5_wish
  have e : FP.fdiv (FP.i2f (Int32.ofInt t)) 1132396544 = fl_w t.toNat := by
    unfold fl_w
    rw [Int.toNat_of_nonneg h0]
  rw [e, if_pos (fl_wn (by omega))]
theorem pc_wishAt (hS : sv S) (h : cp o S T H) (hT : tv S T) {x y : Int} (hc : ic S x y) : ff_X5_wishAt N o (Int32.ofInt x) (Int32.ofInt y) = some (fl_w (T x y).toNat) := by
  have := ic_r hS hc
  unfold ff_X5_wishAt
  rw [pc_toneAt hS h (by omega) (by omega), if_pos hc, Option.bind_some, pc_wish (hT x y hc).1 (hT x y hc).2]
  rfl
theorem cp_hu (hS : sv S) (h : cp o S T H) {x y v : Int} (hc : ic S x y) : cp (ss_A o 1 (upd (os_A o 1) (16 * y + x).toNat (Int32.ofInt v))) S T (hu H x y v) := by
  refine ⟨h.1, h.2.1, fun a b c => ?_, h.2.2.2⟩
  show upd (os_A o 1) (16 * y + x).toNat (Int32.ofInt v) (16 * b + a).toNat = _
  unfold upd hu
  by_cases e : a = x ∧ b = y
  · rw [if_pos e, e.1, e.2, if_pos rfl]
  · rw [if_neg e, if_neg (fun z => e (ic_inj hS hc c z)), h.2.2.1 a b c]
theorem cp_tu (hS : sv S) (h : cp o S T H) {x y v : Int} (hc : ic S x y) : cp (ss_A o 0 (upd (os_A o 0) (16 * y + x).toNat (Int32.ofInt v))) S (hu T x y v) H := by
  refine ⟨h.1, fun a b c => ?_, h.2.2.1, h.2.2.2⟩
  show upd (os_A o 0) (16 * y + x).toNat (Int32.ofInt v) (16 * b + a).toNat = _
  unfold upd hu
  by_cases e : a = x ∧ b = y
  · rw [if_pos e, e.1, e.2, if_pos rfl]
  · rw [if_neg e, if_neg (fun z => e (ic_inj hS hc c z)), h.2.1 a b c]
theorem pc_dye (hS : sv S) (h : cp o S T H) {x y v : Int} (hc : ic S x y) : ∃ o', ff_X5_dye N o (Int32.ofInt x) (Int32.ofInt y) (Int32.ofInt v) = some o' ∧ cp o' S (hu T x y v) H := by
  have := ic_r hS hc
  unfold ff_X5_dye
  refine ⟨_, ?_, cp_tu hS h hc⟩
  rw [pc_has hS h (by omega) (by omega), decide_eq_true hc, Option.bind_some, if_neg (by decide), if_pos (cp_in hS hc), cp_na hS hc]
theorem pc_dyeNo (hS : sv S) (h : cp o S T H) {x y v : Int} (hx : ib x) (hy : ib y) (hc : ¬ ic S x y) : ff_X5_dye N o (Int32.ofInt x) (Int32.ofInt y) (Int32.ofInt v) = some o := by
  unfold ff_X5_dye
  rw [pc_has hS h hx hy, decide_eq_false hc, Option.bind_some, if_pos (by decide)]
theorem pc_build (hS : sv S) (h : cp o S T H) (hH : wv S H) {x y v : Int} (hc : ic S x y) (hv : ib v) : ∃ o', ff_X5_build N o (Int32.ofInt x) (Int32.ofInt y) (Int32.ofInt v) = some (Int32.ofInt (if H x y = v then 0 else 1), o') ∧ cp o' S T (hu H x y v) := by
  have := ic_r hS hc
  have hh := hH x y hc
  unfold ff_X5_build
  rw [pc_has hS h (by omega) (by omega), decide_eq_true hc, Option.bind_some, if_neg (by decide)]
  simp only [if_pos (cp_in hS hc)]
  rw [cp_na hS hc, h.2.2.1 x y hc, ii_eq (by omega) hv]
  by_cases c : H x y = v
  · rw [if_pos c, if_pos c]
    refine ⟨o, rfl, ?_⟩
    rw [← c, hu_id]
    exact h
  · rw [if_neg c, if_neg c]
    exact ⟨_, rfl, cp_hu hS h hc⟩
theorem pc_buildNo (hS : sv S) (h : cp o S T H) {x y v : Int} (hx : ib x) (hy : ib y) (hc : ¬ ic S x y) : ff_X5_build N o (Int32.ofInt x) (Int32.ofInt y) (Int32.ofInt v) = some (Int32.ofInt 0, o) := by
  unfold ff_X5_build
  rw [pc_has hS h hx hy, decide_eq_false hc, Option.bind_some, if_pos (by decide)]
  rfl
theorem pc_fits (hS : sv S) (h : cp o S T H) {x y a b : Int} (hc : ic S x y) (ha : ib a) (hb : ib b) : ff_X5_fits N o (Int32.ofInt x) (Int32.ofInt y) (Int32.ofInt a) (Int32.ofInt b) = some (oz (decide (1 ≤ a ∧ a ≤ S 0 - x ∧ 1 ≤ b ∧ b ≤ S 1 - y))) := by
  have := ic_r hS hc
  have := sv_a hS
  unfold ff_X5_fits
  rw [h.1 0 (by decide), h.1 1 (by decide), ia_sub, ia_sub, ii_1, ii_lt (by omega) (by omega), ii_lt (by omega) (by omega), ii_lt (by omega) (by omega), ii_lt (by omega) (by omega)]
  by_cases c : 1 ≤ a ∧ a ≤ S 0 - x ∧ 1 ≤ b ∧ b ≤ S 1 - y
  · rw [decide_eq_true c, if_neg (by omega), if_neg (by omega), if_neg (by omega), if_neg (by omega)]; rfl
  · rw [decide_eq_false c]
    repeat' split
    all_goals first | rfl | (exfalso; omega)
theorem pc_allows (hS : sv S) (h : cp o S T H) {v : Int} (hv : ib v) : ff_X5_allows N o (Int32.ofInt v) = some (oz (decide ((S 4 : Int) ≤ v ∧ v ≤ S 2))) := by
  have := sv_a hS
  unfold ff_X5_allows
  rw [h.1 4 (by decide), h.1 2 (by decide), ii_lt (by omega) (by omega), ii_lt (by omega) (by omega)]
  by_cases c : (S 4 : Int) ≤ v ∧ v ≤ S 2
  · rw [decide_eq_true c, if_neg (by omega), if_neg (by omega)]; rfl
  · rw [decide_eq_false c]
    repeat' split
    all_goals first | rfl | (exfalso; omega)
theorem pc_isTone {v : Int} (hv : ib v) : ff_X5_isTone N (Int32.ofInt v) = some (oz (decide (0 ≤ v ∧ v ≤ 255))) := by
  unfold ff_X5_isTone
  rw [show (0 : Int32) = Int32.ofInt 0 from rfl, ii_255, ii_lt (by omega) (by omega), ii_lt (by omega) (by omega)]
  by_cases c : 0 ≤ v ∧ v ≤ 255
  · rw [decide_eq_true c, if_neg (by omega), if_neg (by omega)]; rfl
  · rw [decide_eq_false c]
    repeat' split
    all_goals first | rfl | (exfalso; omega)
end Cells
/-! the height for some wanted light -/
def sh_s (g : Nat) (w : UInt32) (h : Nat) (a : Nat × UInt32) : Nat × UInt32 := if fz (fq_d (fl_l g h) w) < fz a.2 then (h, fq_d (fl_l g h) w) else a
def sh (S : Nat → Nat) (w : UInt32) : Nat := (fo (fun k => sh_s (S 3) w (S 4 + 1 + k)) (S 2 - S 4) (S 4, fq_d (fl_l (S 3) (S 4)) w)).1
theorem sh_inv {S : Nat → Nat} (hS : sv S) {w : UInt32} (hw : fw_m 200 w) : ∀ n, n ≤ S 2 - S 4 → (S 4 ≤ (fo (fun k => sh_s (S 3) w (S 4 + 1 + k)) n (S 4, fq_d (fl_l (S 3) (S 4)) w)).1 ∧ (fo (fun k => sh_s (S 3) w (S 4 + 1 + k)) n (S 4, fq_d (fl_l (S 3) (S 4)) w)).1 ≤ S 2) ∧ fw_m 202 (fo (fun k => sh_s (S 3) w (S 4 + 1 + k)) n (S 4, fq_d (fl_l (S 3) (S 4)) w)).2 := by
  have hs := sv_a hS
  intro n
  induction n with
  | zero => intro _; exact ⟨⟨Nat.le_refl _, by show S 4 ≤ S 2; omega⟩, fq_dF (fw_le (fl_m (by omega) (by omega) (by omega)) (by decide)) hw (by decide)⟩
  | succ n ih =>
    intro hn
    have := ih (by omega)
    rw [fo_s]
    unfold sh_s
    split
    · exact ⟨⟨by show S 4 ≤ S 4 + 1 + n; omega, by show S 4 + 1 + n ≤ S 2; omega⟩, fq_dF (fw_le (fl_m (by omega) (by omega) (by omega)) (by decide)) hw (by decide)⟩
    · exact this
theorem sh_r {S : Nat → Nat} (hS : sv S) {w : UInt32} (hw : fw_m 200 w) : S 4 ≤ sh S w ∧ sh S w ≤ S 2 := (sh_inv hS hw _ (Nat.le_refl _)).1
theorem pc_stepFor {N : Nat} {o : os_T} {S : Nat → Nat} {T H : Int → Int → Int} (hN : 1000 < N) (hS : sv S) (h : cp o S T H) {w : UInt32} (hw : fw_m 200 w) : ff_X5_stepFor N o w = some (Int32.ofInt (sh S w)) := by
  have hs := sv_a hS
  have hwF := fw_F hw (by decide)
  unfold ff_X5_stepFor
  rw [h.1 4 (by decide), pc_lightOf h (by omega) (by omega), Option.bind_some, Int.toNat_natCast, fq_distC (fl_F (by omega) (by omega) (by omega)) hwF, Option.bind_some]
  unfold ff_X5_stepFor_l26
  rw [ii_1, ia_add]
  refine lo_fo (fun (a : Nat × UInt32) k => (w, Int32.ofInt a.1, a.2, Int32.ofInt (S 4 + 1 + k : Nat))) (fun k => sh_s (S 3) w (S 4 + 1 + k)) (S 4, fq_d (fl_l (S 3) (S 4)) w) (S 2 - S 4) ?_ ?_ (by omega)
  · intro k a hk ha r
    have hi := sh_inv hS hw k (by omega)
    rw [← ha] at hi
    show ff_X5_stepFor_c26 N o r w (Int32.ofInt a.1) a.2 (Int32.ofInt (S 4 + 1 + k : Nat)) = _
    unfold ff_X5_stepFor_c26
    rw [h.1 2 (by decide), ii_lt (by omega) (by omega), if_neg (by omega), pc_lightOf h (by omega) (by omega), Option.bind_some, Int.toNat_natCast, fq_distC (fl_F (by omega) (by omega) (by omega)) hwF, Option.bind_some]
    have hd := fw_F (fq_dF (fw_le (fl_m (g := S 3) (k := S 4 + 1 + k) (by omega) (by omega) (by omega)) (by decide)) hw (by decide)) (by decide)
    simp only [cq_geg, ne_eq, fq_lt hd (fw_F hi.2 (by decide))]
    unfold ff_X5_stepFor_b60 sh_s
    rw [ii_1, ia_add]
    by_cases c : fz (fq_d (fl_l (S 3) (S 4 + 1 + k)) w) < fz a.2
    · rw [if_neg (fun z => z c), if_pos c]; rfl
    · rw [if_pos c, if_neg c]; rfl
  · intro r
    show ff_X5_stepFor_c26 N o r w _ _ (Int32.ofInt (S 4 + 1 + (S 2 - S 4) : Nat)) = _
    unfold ff_X5_stepFor_c26
    rw [h.1 2 (by decide), ii_lt (by omega) (by omega), if_pos (by omega)]
    rfl
