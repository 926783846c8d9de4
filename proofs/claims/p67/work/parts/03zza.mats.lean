/-! ROWS OF ROWS: the outer row a, the inner rows r; I 0 = how many places the outer one has, I 1 = how long an inner one is, I 2 = how many inner ones lie in it; A y = what the row y holds -/
abbrev cm_n (o : os_T) : Nat := Int32.toNatClampNeg (os_I o 0)
abbrev cm_c (o : os_T) : Nat := Int32.toNatClampNeg (os_I o 1)
abbrev cm_b (o : os_T) : Nat := Int32.toNatClampNeg (os_I o 2)
def cm_f (r : Nat → Nat) (o : os_T) : Nat → Option Nat := fun i => if i < cm_b o then some (r i) else none
def ce_M (kA : Nat → ClassId) (a : Nat) (r : Nat → Nat) (o : os_T) : va_W := (a, .inl (kA 4, cm_n o, .inr (.inr (.inr (.inr (cm_f r o)))))) :: (List.range (cm_b o)).map (fun i => (r i, .inl (kA 0, cm_c o, .inl (os_A o i))))
theorem cm_0 {kA : Nat → ClassId} {a : Nat} {r : Nat → Nat} {o : os_T} : (ce_M kA a r o)[0]? = some (a, .inl (kA 4, cm_n o, .inr (.inr (.inr (.inr (cm_f r o)))))) := rfl
theorem cm_row {kA : Nat → ClassId} {a : Nat} {r : Nat → Nat} {o : os_T} {y : Nat} (h : y < cm_b o) : (ce_M kA a r o)[y + 1]? = some (r y, .inl (kA 0, cm_c o, .inl (os_A o y))) := by
  show ((List.range (cm_b o)).map _)[y]? = _
  rw [List.getElem?_map, List.getElem?_range h]
  rfl
theorem cm_len {kA : Nat → ClassId} {a : Nat} {r : Nat → Nat} {o : os_T} : (ce_M kA a r o).length = cm_b o + 1 := by simp [ce_M]
theorem cm_lt {kA : Nat → ClassId} {a : Nat} {r : Nat → Nat} {o : os_T} {y : Nat} (h : y < cm_b o) : y + 1 < (ce_M kA a r o).length := by rw [cm_len]; omega
theorem os_u_at {α : Type} (f : Nat → α) (k : Nat) (v : α) : os_u f k v k = v := by
  unfold os_u
  rw [Nat.beq_refl]
  rfl
theorem os_u_ne {α : Type} {f : Nat → α} {k j : Nat} {v : α} (h : j ≠ k) : os_u f k v j = f j := by
  unfold os_u
  have e : Nat.beq j k = false := by
    cases hb : Nat.beq j k with
    | false => rfl
    | true => exact absurd (Nat.eq_of_beq_eq_true hb) h
  rw [e]
  rfl
theorem cm_set {kA : Nat → ClassId} {a : Nat} {r : Nat → Nat} {o : os_T} {y : Nat} (h : y < cm_b o) (f : Nat → Int32) : (ce_M kA a r o).set (y + 1) (r y, .inl (kA 0, cm_c o, .inl f)) = ce_M kA a r (ss_A o y f) := by
  show (a, _) :: ((List.range (cm_b o)).map _).set y _ = (a, _) :: (List.range (cm_b o)).map _
  congr 1
  apply List.ext_getElem?
  intro i
  by_cases hi : i < cm_b o
  · by_cases e : y = i
    · subst e
      rw [List.getElem?_set_self (by rw [List.length_map, List.length_range]; exact hi), List.getElem?_map, List.getElem?_range hi]
      show some _ = some (r y, Sum.inl (kA 0, cm_c o, Sum.inl (os_u o.2.2.1 y f y)))
      rw [os_u_at]
    · rw [List.getElem?_set_ne e, List.getElem?_map, List.getElem?_map, List.getElem?_range hi]
      show some (r i, Sum.inl (kA 0, cm_c o, Sum.inl (os_A o i))) = some (r i, Sum.inl (kA 0, cm_c o, Sum.inl (os_u o.2.2.1 y f i)))
      rw [os_u_ne (fun z => e z.symm)]
  · rw [List.getElem?_eq_none (by rw [List.length_set, List.length_map, List.length_range]; omega), List.getElem?_eq_none (by rw [List.length_map, List.length_range]; omega)]
/-- other segments: an int row, a byte row, a StringBuilder, a String, a picture of the law -/
abbrev ci_n (o : os_T) : Nat := Int32.toNatClampNeg (os_I o 0)
abbrev ce_IA (kA : Nat → ClassId) (a : Nat) (o : os_T) : va_W := [(a, .inl (kA 0, ci_n o, .inl (os_A o 0)))]
abbrev ce_BA (kA : Nat → ClassId) (a : Nat) (o : os_T) : va_W := [(a, .inl (kA 2, ci_n o, .inl (os_A o 0)))]
abbrev ce_J4 (a v : Nat) (o : os_T) : va_W := [(a, .inr (1, [.ref v, .int (os_I o 1), .int (os_I o 2), .int (os_I o 3)]))]
abbrev ce_J0 (a v : Nat) (o : os_T) : va_W := [(a, .inr (0, [.ref v, .int (os_I o 1), .int (os_I o 2), .int (os_I o 3)]))]
abbrev ce_X13 (a t h x s : Nat) (o : os_T) : va_W := [(a, .inr (11, [.int (os_I o 0), .int (os_I o 1), .int (os_I o 2), .int (os_I o 3), .int (os_I o 4), .int (os_I o 5), .int (os_I o 6), .int (os_I o 7), .ref t, .ref h, .ref x, .ref s, .int (os_I o 12)]))]
theorem ck_inner (c : ClassId) (n : Nat) : Jvm.Free.Multi.innerC c n (defaultValue .int) = vp_cell c (n, .inl (fun _ => 0)) := by
  show ({ cls := c, slots := Array.replicate n (.int 0), vm := .none } : Cell) = arrV c n (fun _ => .int 0)
  unfold arrV
  congr 1
  apply Array.ext
  · simp
  · intro i h1 h2
    simp
theorem ck_new {kA : Nat → ClassId} {a : Nat} {r : Nat → Nat} {n c : Int32} : [(a, Sum.inl (kA 4, n.toNatClampNeg, Sum.inr (Sum.inr (Sum.inr (Sum.inr (fun _ => none))))))] = ce_M kA a r (ss_I (ss_I (fun _ => 0, fun _ => 0, fun _ _ => 0, fun _ _ => 0, fun _ _ => none) 0 n) 1 c) := by
  show [_] = [_]
  congr 5
/-- one inner row more -/
theorem ck_b {o : os_T} {f : Nat → Int32} (hb : cm_b o < 1000) : cm_b (ss_I (ss_A o (cm_b o) f) 2 (Int32.ofNat (cm_b o + 1))) = cm_b o + 1 := by
  show Int32.toNatClampNeg (os_u o.1 2 (Int32.ofNat (cm_b o + 1)) 2) = _
  rw [os_u_at]
  exact nI_clamp (by omega)
theorem ck_push {kA : Nat → ClassId} {a q : Nat} {r : Nat → Nat} {o : os_T} {f : Nat → Int32} {y n : Nat} (hy : y = cm_b o) (hn : n = cm_c o) (hb : cm_b o < 1000) : (ce_M kA a r o).set 0 (a, .inl (kA 4, cm_n o, .inr (.inr (.inr (.inr (va_up (cm_f r o) y (some q))))))) ++ [(q, .inl (kA 0, n, .inl f))] = ce_M kA a (va_up r y q) (ss_I (ss_A o y f) 2 (Int32.ofNat (y + 1))) := by
  subst hy hn
  have e2 := ck_b (f := f) hb
  have hf : va_up (cm_f r o) (cm_b o) (some q) = cm_f (va_up r (cm_b o) q) (ss_I (ss_A o (cm_b o) f) 2 (Int32.ofNat (cm_b o + 1))) := by
    funext i
    unfold cm_f
    rw [e2]
    unfold va_up
    by_cases h : i = cm_b o
    · rw [if_pos h, if_pos (by omega), if_pos h]
    · rw [if_neg h, if_neg h]
      show (if i < cm_b o then some (r i) else none) = if i < cm_b o + 1 then some (r i) else none
      by_cases h2 : i < cm_b o
      · rw [if_pos h2, if_pos (by omega)]
      · rw [if_neg h2, if_neg (by omega)]
  rw [hf]
  show (a, _) :: (List.map (fun i => (r i, Sum.inl (kA 0, cm_c o, Sum.inl (os_A o i)))) (List.range (cm_b o)) ++ [(q, Sum.inl (kA 0, cm_c o, Sum.inl f))]) = _
  unfold ce_M
  rw [e2, List.range_succ, List.map_append]
  congr 1
  congr 1
  · apply List.map_congr_left
    intro i hi
    have hlt := List.mem_range.mp hi
    show (r i, Sum.inl (kA 0, cm_c o, Sum.inl (os_A o i))) = (va_up r (cm_b o) q i, Sum.inl (kA 0, cm_c o, Sum.inl (os_u o.2.2.1 (cm_b o) f i)))
    rw [os_u_ne (Nat.ne_of_lt hlt), show va_up r (cm_b o) q i = r i from if_neg (Nat.ne_of_lt hlt)]
  · show [(q, Sum.inl (kA 0, cm_c o, Sum.inl f))] = [(va_up r (cm_b o) q (cm_b o), Sum.inl (kA 0, cm_c o, Sum.inl (os_u o.2.2.1 (cm_b o) f (cm_b o))))]
    rw [os_u_at, show va_up r (cm_b o) q (cm_b o) = q from if_pos rfl]
/-- two segments that stand side by side are one -/
theorem sg_join {D : va_G} {cl : List vw_C} {H : Heap} {G1 G2 G : va_W} {T : List va_W} (he : G1 ++ G2 = G) (h : va_P D cl (fl (G1 :: G2 :: T)) H) : va_P D cl (fl (G :: T)) H := by
  subst he
  have e : fl ((G1 ++ G2) :: T) = fl (G1 :: G2 :: T) := List.append_assoc G1 G2 (fl T)
  rw [e]
  exact h
theorem sg_joinD {A : Nat → Prop} {G1 G2 G : va_W} {T : List va_W} (he : G1 ++ G2 = G) (h : va_D A (fl (G1 :: G2 :: T))) : va_D A (fl (G :: T)) := by
  subst he
  have e : fl ((G1 ++ G2) :: T) = fl (G1 :: G2 :: T) := List.append_assoc G1 G2 (fl T)
  rw [e]
  exact h
section MatRows
variable {p : Program} {l : Launch} {e : Env} {R : Room} {s : State} {m : MethodId} {args : Array Value} {below : List Frame} {meth : Method} {c : Code} {H : Heap} {locs : List Loc} {cells slots : Nat} {Q : State → Prop}
variable {cc : ByteArray} {pc : Nat} {ls : Array Slot} {rest : List Value} {D : va_G} {kA : Nat → ClassId} {A : Nat → Prop} {a : Nat} {ws : va_W} {H0 : Heap}
theorem sg_aald (hx : p.tables.exec = Jvm.exec) (hb : c.code = cc) (hK : va_K D vwCl (kk_T kA) s) (hP : va_P D vwCl ws H) (q0 : Nat) {n z : Nat} {f : Nat → Option Nat} (ha : ws[q0]? = some (a, .inl (kA 4, n, .inr (.inr (.inr (.inr f)))))) {i : Int32} (hin : vp_in i n) (hz : f i.toNatClampNeg = some z) (hdg : decode cc pc = .ok (.aaload, 1))
    (kk : W p l e R s m args below meth c H locs cells slots Q (F0 m (pc + 1) ls (.ref z :: rest))) : W p l e R s m args below meth c H locs cells slots Q (F0 m pc ls (.int i :: .ref a :: rest)) := by
  have hlt : i.toNatClampNeg < n := Nat.not_le.mp fun q => hin (Or.inr q)
  refine W.aald (v := va_rf (f i.toNatClampNeg)) (ty := .array .int) hx hb (hP q0 _ ha) ((hK.2 4 _ rfl).1 n (fun j => va_rf (f j))) rfl (fun q => by cases q) (by show ¬ (i < 0 ∨ (arrV _ _ _).slots.size ≤ _); rw [arrV_size]; exact hin) (by show (arrV _ _ _).slots[_]? = _; rw [arrV_read _ _ hlt]) rfl rfl hdg ?_
  rw [hz]
  exact kk
theorem sg_aast (hx : p.tables.exec = Jvm.exec) (hb : c.code = cc) (hK : va_K D vwCl (kk_T kA) s) (hP : va_P D vwCl ws H) (hD : va_D A ws) (hS : va_S A H0 H locs) (hO : va_AOA .int s) (q0 qk : Nat) {n v nv : Nat} {fv : Nat → Int32} {f : Nat → Option Nat} (ha : ws[q0]? = some (a, .inl (kA 4, n, .inr (.inr (.inr (.inr f)))))) (hv : ws[qk]? = some (v, .inl (kA 0, nv, .inl fv))) {i : Int32} (hin : vp_in i n) (hdg : decode cc pc = .ok (.aastore, 1))
    (kk : ∀ (H1 : Heap) (locs1 : List Loc), va_P D vwCl (ws.set q0 (a, .inl (kA 4, n, .inr (.inr (.inr (.inr (va_up f i.toNatClampNeg (some v)))))))) H1 → va_D A (ws.set q0 (a, .inl (kA 4, n, .inr (.inr (.inr (.inr (va_up f i.toNatClampNeg (some v)))))))) → va_S A H0 H1 locs1 → W p l e R s m args below meth c H1 locs1 cells slots Q (F0 m (pc + 1) ls rest)) : W p l e R s m args below meth c H locs cells slots Q (F0 m pc ls (.ref v :: .int i :: .ref a :: rest)) := by
  have hlt : i.toNatClampNeg < n := Nat.not_le.mp fun q => hin (Or.inr q)
  have h0 : ¬ i < 0 := fun q => hin (Or.inl q)
  obtain ⟨comp, cA, kA', hcomp, hidx, hkA, hkind, hname⟩ := arrayOverA_spec hO
  have e4 : cA = kA 4 := Option.some.inj (hname.symm.trans ((hK.2 4 _ rfl).2 : s.vm.findClass ("[" ++ (FieldType.array FieldType.int).toString) = some (kA 4)))
  subst e4
  have e0 : comp = kA 0 := by
    have h1 : s.vm.findClass "[I" = some (kA 0) := va_nm_int (hK.2 0 _ rfl).2
    have h2 : (FieldType.array FieldType.int).toString = "[I" := by decide +kernel
    rw [h2, h1] at hcomp
    exact (Option.some.inj hcomp).symm
  subst e0
  obtain ⟨-, kv, hkv, -⟩ := (hK.2 0 _ rfl).1 0 (fun _ => .null)
  have hkv : s.vm.classes[kA 0]? = some kv := hkv
  refine W.aast hx hb (hP q0 _ ha) (fun q h => by cases h) (fun h => by cases h) hkA hkind rfl hkv ⟨h0, by show _ < (arrV _ _ _).slots.size; rw [arrV_size]; exact hlt⟩ (hP qk _ hv) (fun q h => by cases h) hkv (va_asg _ _) rfl rfl hdg fun H1 e z oq => ?_
  refine kk H1 _ (hP.set hD ha ?_ oq) (hD.set ha) (hS.put z oq (hD.2 q0 _ ha))
  show H1[a]? = some (vp_cell _ _)
  rw [e]
  rw [vp_cell_q, vp_cell_q, arrV_store]
  congr 2
  funext q
  by_cases hq : q = i.toNatClampNeg
  · subst hq
    simp [updV, va_up, va_rf]
  · simp [updV, va_up, hq]
theorem sg_anew (hx : p.tables.exec = Jvm.exec) (hb : c.code = cc) {own : String} {index : Nat} (hown : s.vm.findClass own = some m.cls) (hcl : (Cond.classLink own index "[I").before args s = true) (hO : va_AOA .int s) (hK : va_K D vwCl (kk_T kA) s) (hP : va_P D vwCl ws H) (hD : va_D A ws) (hS : va_S A H0 H locs) (hA : ∀ q, H0.size ≤ q → A q)
    {n : Int32} {N' : Nat} (hn : ¬ n < 0) (hN : n.toNatClampNeg = N') (hbytes : N' * 4 ≤ 536870912) (hcells : cells + 1 ≤ R.cells) (hslots : slots + N' ≤ R.slots) (hdg : decode cc pc = .ok (.anewarray index, 3))
    (kk : ∀ (q : Nat) (H1 : Heap), va_P D vwCl (ws ++ [(q, .inl (kA 4, N', .inr (.inr (.inr (.inr (fun _ => none))))))]) H1 → va_D A (ws ++ [(q, .inl (kA 4, N', .inr (.inr (.inr (.inr (fun _ => none))))))]) → va_S A H0 H1 locs →
      W p l e R s m args below meth c H1 locs (cells + 1) (slots + N') Q (F0 m (pc + 3) ls (.ref q :: rest))) : W p l e R s m args below meth c H locs cells slots Q (F0 m pc ls (.int n :: rest)) := by
  subst hN
  have h2 : (FieldType.array FieldType.int).toString = "[I" := by decide +kernel
  refine W.anewA (t := .int) hx hb hown (by rw [h2]; exact hcl) (va_AOA.use hO) rfl hdg rfl hn hbytes hcells hslots fun cA kA' comp f1 f2 f3 f4 => ?_
  have e4 : cA = kA 4 := Option.some.inj (f1.symm.trans ((hK.2 4 _ rfl).2 : s.vm.findClass ("[" ++ (FieldType.array FieldType.int).toString) = some (kA 4)))
  subst e4
  generalize hH1 : H.push ({ cls := kA 4, slots := Array.replicate n.toNatClampNeg .null, vm := .none } : Cell) = H1
  have z1 : H1.size = H.size + 1 := by rw [← hH1, Array.size_push]
  have e1 : H1[H.size]? = some (arrV (kA 4) n.toNatClampNeg (fun _ => .null)) := by rw [← hH1, Array.getElem?_push_size, ← arrV_new]
  have o1 : ∀ q : Nat, q < H.size → H1[q]? = H[q]? := fun q hq => by rw [← hH1, Array.getElem?_push, if_neg (Nat.ne_of_lt hq)]
  have hk : ∀ (k : Nat) (x : Nat × va_E), ws[k]? = some x → H1[x.1]? = H[x.1]? := fun k x hx => o1 x.1 ((hP k x hx).lt)
  refine kk H.size H1 ((hP.kept hk).app (fun k x hx => ?_)) (hD.push hP rfl (hA _ hS.1)) ⟨Nat.le_trans hS.1 (by omega), fun x h1 h2 => (o1 x (Nat.lt_of_lt_of_le h1 hS.1)).trans (hS.2.1 x h1 h2), hS.2.2⟩
  have hz : k < 1 := (List.getElem?_eq_some_iff.mp hx).1
  rw [show k = 0 by omega] at hx
  cases hx
  show H1[H.size]? = some (vp_cell _ _)
  rw [vp_cell_q]
  exact e1
/-- new int[n][k] -/
theorem sg_mnew {ss : List va_W} (hx : p.tables.exec = Jvm.exec) (hb : c.code = cc) {own : String} {index : Nat} (hown : s.vm.findClass own = some m.cls) (hcl : (Cond.classLink own index "[[I").before args s = true) (hO : va_AOA .int s) (harr : (Cond.arrayClass .int).before args s = true) (hK : va_K D vwCl (kk_T kA) s) (hP : va_P D vwCl (fl ss) H) (hD : va_D A (fl ss)) (hS : va_S A H0 H locs) (hA : ∀ q, H0.size ≤ q → A q)
    {n k : Int32} (hn : ¬ n < 0) (hk : ¬ k < 0) (hnb : n.toNatClampNeg ≤ 8) (hkb : k.toNatClampNeg ≤ 8) {C S' : Nat} (hC : 9 ≤ C) (hS' : 72 ≤ S') (hcells : cells + C ≤ R.cells) (hslots : slots + S' ≤ R.slots) (hdg : decode cc pc = .ok (.multianewarray index 2, 4))
    (kk : ∀ (q : Nat) (r : Nat → Nat) (H1 : Heap), va_P D vwCl (fl (ss ++ [ce_M kA q r (ss_I (ss_I (ss_I (fun _ => 0, fun _ => 0, fun _ _ => 0, fun _ _ => 0, fun _ _ => none) 0 n) 1 k) 2 n)])) H1 → va_D A (fl (ss ++ [ce_M kA q r (ss_I (ss_I (ss_I (fun _ => 0, fun _ => 0, fun _ _ => 0, fun _ _ => 0, fun _ _ => none) 0 n) 1 k) 2 n)])) → va_S A H0 H1 locs →
      W p l e R s m args below meth c H1 locs (cells + C) (slots + S') Q (F0 m (pc + 4) ls (.ref q :: rest))) : W p l e R s m args below meth c H locs cells slots Q (F0 m pc ls (.int k :: .int n :: rest)) := by
  have h2 : "[" ++ (FieldType.array FieldType.int).toString = "[[I" := by decide +kernel
  have h3 : s.vm.findClass (FieldType.array FieldType.int).toString = some (kA 0) := by
    have h1 : s.vm.findClass "[I" = some (kA 0) := va_nm_int (hK.2 0 _ rfl).2
    have e : (FieldType.array FieldType.int).toString = "[I" := by decide +kernel
    rw [e]
    exact h1
  have hmul : n.toNatClampNeg * k.toNatClampNeg ≤ 8 * 8 := Nat.mul_le_mul hnb hkb
  refine va_mna (X := fl ss) (L := []) (f := fun _ => .inr (0, [])) (ty := .int) (cy := kA 0) (N' := n.toNatClampNeg) (K' := k.toNatClampNeg) (z := (k.toNatClampNeg, .inl (fun _ => 0))) hx hb hown (by rw [h2]; exact hcl) hO harr h3 hK (by show va_P D vwCl (fl ss ++ []) H; rw [List.append_nil]; exact hP) (by show va_D A (fl ss ++ []); rw [List.append_nil]; exact hD) hS hA hn hk rfl rfl (by omega) (by show k.toNatClampNeg * 4 ≤ _; omega) (by omega) rfl rfl (by omega) (by omega) (fun c => ck_inner c _) hdg ?_
  intro q r cA H1 hinj hnin hK1 hP1 hD1 hS1
  have e4 : cA = kA 4 := by
    have h1 := (hK1.2 (kk_T kA).length (cA, .array .int) (by simp)).2
    exact Option.some.inj ((h1 : s.vm.findClass ("[" ++ (FieldType.array FieldType.int).toString) = some cA).symm.trans ((hK.2 4 _ rfl).2 : s.vm.findClass ("[" ++ (FieldType.array FieldType.int).toString) = some (kA 4)))
  subst e4
  have e5 : (fl ss ++ [(q, .inl (kA 4, n.toNatClampNeg, .inr (.inr (.inr (.inr (fun i => if i < n.toNatClampNeg then some (r i) else none))))))]) ++ va_pl ([] ++ (List.range n.toNatClampNeg).map r) (vr_up (fun _ => .inr (0, [])) ((List.range n.toNatClampNeg).map r) (.inl (kA 0, (k.toNatClampNeg, .inl (fun _ => 0))))) = fl (ss ++ [ce_M kA q r (ss_I (ss_I (ss_I (fun _ => 0, fun _ => 0, fun _ _ => 0, fun _ _ => 0, fun _ _ => none) 0 n) 1 k) 2 n)]) := by
    rw [← fl_snoc, List.append_assoc]
    congr 1
    show (q, _) :: _ = (q, _) :: _
    congr 1
    show va_pl ((List.range n.toNatClampNeg).map r) _ = (List.range n.toNatClampNeg).map _
    unfold va_pl
    rw [List.map_map]
    apply List.map_congr_left
    intro i hi
    show (r i, vr_up _ _ _ (r i)) = _
    rw [vr_up_in (List.mem_map.mpr ⟨i, hi, rfl⟩)]
    rfl
  rw [e5] at hP1 hD1
  exact W.widen (k := cells + C) (n := slots + S') (by omega) (by omega) (kk q r H1 hP1 hD1 hS1)
end MatRows
