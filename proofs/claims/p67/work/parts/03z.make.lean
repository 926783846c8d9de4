/-! CONSTRUCTORS: from the object just made (and values) to the cells w1 g, for some addresses g -/
def st_Y (U : State) : Prop := va_AO RX5 U ∧ va_AO RX1 U ∧ va_Nw (.methodLinkNest RX12 36 yX11_init RX12) U ∧ va_Nw (.methodLinkNest RX12 59 yX10_init RX12) U
theorem st_Y.warm {s U : State} (hW : s.WarmedH U.vm) (h : st_Y s) : st_Y U := ⟨va_AO.moved hW.alike h.1, va_AO.moved hW.alike h.2.1, va_Nw.warmM hW h.2.2.1, va_Nw.warmM hW h.2.2.2⟩
theorem st_Y.same {u U : State} (e : u.vm = U.vm) (h : st_Y u) : st_Y U := ⟨va_AO.moved (e ▸ Vm.Alike.refl u.vm) h.1, va_AO.moved (e ▸ Vm.Alike.refl u.vm) h.2.1, va_Nw.same rfl e h.2.2.1, va_Nw.same rfl e h.2.2.2⟩
def os_zero : os_T := (fun _ => 0, fun _ => 0, fun _ _ => 0, fun _ _ => 0, fun _ _ => none)
def mi_Q (D : va_G) (kA : Nat → ClassId) (A : Nat → Prop) (b : Nat) (w1 : (Nat → Nat → Nat) → va_W) : Array Value → State → Outcome → State → Prop := fun _ st oc t =>
  (oc = .returned none ∧ ∃ g : Nat → Nat → Nat, g 0 0 = b ∧ va_P D vwCl (w1 g) t.heap ∧ va_K D vwCl (kk_T kA) t ∧ va_D A (w1 g)) ∧ va_F A st t
def mi_P (D : va_G) (kA : Nat → ClassId) (sz : Nat) (av : List Value) (wc : va_W) : Array Value → State → Prop :=
  va_Pc av (fun U => U.heap.size = sz ∧ va_P D vwCl wc U.heap ∧ va_K D vwCl (kk_T kA) U ∧ va_D (fun _ => True) wc ∧ st_Y U)
def mi_C (l : Launch) (D : va_G) (kA : Nat → ClassId) (y : MethodName) (ws : List Cond) (rm : Room) (b : Nat) (As : List Value) (wc : va_W) (w1 : (Nat → Nat → Nat) → va_W) : Prop :=
  ∀ sz : Nat, Met l y ws rm (mi_P D kA sz (.ref b :: As) wc) (mi_Q D kA (va_A wc sz) b w1) rm.cells rm.slots (va_A wc sz)
theorem mi_of {l : Launch} {D : va_G} {kA : Nat → ClassId} {y : MethodName} {ws ws' : List Cond} {rm : Room} {b : Nat} {As : List Value} {wc : va_W} {w1 : (Nat → Nat → Nat) → va_W} {cc : ByteArray} {maxL : Nat}
    (hy : plainName y.cls = true) (hw : ws = Cond.code y cc maxL none :: ws') (hn : (lg_sl (.ref b :: As)).length ≤ maxL)
    (body : ∀ (p : Program) (e : Env) (s : State) (m : MethodId) (below : List Frame) (meth : Method) (c : Code) (A : Nat → Prop), mc_B p s m meth c D kA A y ws cc maxL none (.ref b :: As) → st_Y s → va_D A wc → va_P D vwCl wc s.heap → va_S A s.heap s.heap [] → ∀ ls, lv_has ls maxL (lv_args 0 (.ref b :: As)) →
      W p l e rm s m (Value.ref b :: As).toArray below meth c s.heap [] 0 0 (MQ below (mi_Q D kA A b w1) (Value.ref b :: As).toArray s rm.cells rm.slots A) (F0 m 0 ls [])) : mi_C l D kA y ws rm b As wc w1 := by
  intro sz
  refine Met.ofW (cc := cc) (maxL := maxL) (ret := none) hy hw ?_
  intro p e s m args below meth c s₁ B hml hv
  obtain ⟨rfl, hsz, hP, hK, hD0, hY⟩ := hv
  subst hsz
  rw [lg_entry_eq]
  exact body p e s m below meth c _ ⟨B.exec, B.bytes, B.returns, B.notSynchronized, hml, findClass_of_methodNamed B.named, atoms_spec (ws := ws) B.pre, hK, fun q h => Or.inr h, (name_of_methodNamed B.named B.method).1⟩ hY hD0.self hP va_S.rf _ (lv_entry _ hn)
theorem mi_blind {D : va_G} {kA : Nat → ClassId} {sz : Nat} {av : List Value} {wc : va_W} : FrameBlind (mi_P D kA sz av wc) := fun a U g mk q => by
  obtain ⟨q0, q1, qP, qK, qD, qY⟩ := q
  exact ⟨q0, q1, qP, va_K.moved (u := U) (U := U.calling g mk a) (Vm.Alike.refl U.vm) qK, qD, st_Y.same (u := U) (U := U.calling g mk a) rfl qY⟩
section MiRows
variable {p : Program} {l : Launch} {e : Env} {R : Room} {s : State} {m : MethodId} {args : Array Value} {below : List Frame} {meth : Method} {c : Code} {H : Heap} {locs : List Loc} {cells slots : Nat} {Q : State → Prop}
variable {cc : ByteArray} {pc : Nat} {ls : Array Slot} {rest : List Value} {D : va_G} {kA : Nat → ClassId} {A : Nat → Prop}
theorem mi_retv {b mc ms : Nat} {w1 : (Nat → Nat → Nat) → va_W} (g : Nat → Nat → Nat) (hg : g 0 0 = b) (hc : cells ≤ mc) (hs : slots ≤ ms) (hx : p.tables.exec = Jvm.exec) (hb : c.code = cc) (hr : meth.sig.returnType = none) (hlk : meth.locks = false) (hP : va_P D vwCl (w1 g) H) (hK : va_K D vwCl (kk_T kA) s) (hD : va_D A (w1 g)) (hS : va_S A s.heap H locs) (hdg : decode cc pc = .ok (.return_, 1)) :
    W p l e R s m args below meth c H locs cells slots (MQ below (mi_Q D kA A b w1) args s mc ms A) (F0 m pc ls []) :=
  W.widen hc hs (W.vret hx hb hr (fun t ht hW => ⟨⟨rfl, g, hg, by rw [ht]; exact hP, va_K.moved hW.alike hK, hD⟩, hS.F ht⟩) hS.2.2 hdg hlk)
/-- the class of a row of a type is one -/
theorem mi_same {cA cB : ClassId} {ty : FieldType} (h1 : va_RA s cA ty) (h2 : va_RA s cB ty) (hn : ∀ c0 : ClassId, va_RA s c0 ty → ∃ nm : String, nm = "[" ++ ty.toString ∧ s.vm.findClass nm = some c0) : cA = cB := by
  obtain ⟨n1, e1, f1⟩ := hn _ h1
  obtain ⟨n2, e2, f2⟩ := hn _ h2
  rw [e1] at f1; rw [e2] at f2
  exact Option.some.inj (f1.symm.trans f2)
theorem mi_newa {atype : ArrayType} (t0 : Nat) (hx : p.tables.exec = Jvm.exec) (hb : c.code = cc) (harr : (Cond.arrayClass (newarray.typeOf atype)).before args s = true) {ty : FieldType} (hty : newarray.typeOf atype = ty) (ht0 : (kk_T kA)[t0]? = some (kA t0, ty)) (hnm : ∀ c0 : ClassId, va_RA s c0 ty → ∃ nm : String, nm = "[" ++ ty.toString ∧ s.vm.findClass nm = some c0)
    (hK : va_K D vwCl (kk_T kA) s) {ws : va_W} (hP : va_P D vwCl ws H) (hD : va_D A ws) {H0 : Heap} (hS : va_S A H0 H locs) (hA : ∀ q, H0.size ≤ q → A q)
    {n : Int32} {N' : Nat} {a0 : vp_A} (ha : ∀ cA : ClassId, vp_cell cA a0 = arrV cA N' (fun _ => defaultValue ty)) (hn : ¬ n < 0) (hN : n.toNatClampNeg = N') (hbytes : N' * componentBytes ty ≤ 536870912) (hcells : cells + 1 ≤ R.cells) (hslots : slots + N' ≤ R.slots) (hdg : decode cc pc = .ok (.newarray atype, 2))
    (kk : ∀ (q : Nat) (H1 : Heap), va_P D vwCl (ws ++ [(q, .inl (kA t0, a0))]) H1 → va_D A (ws ++ [(q, .inl (kA t0, a0))]) → va_S A H0 H1 locs →
      W p l e R s m args below meth c H1 locs (cells + 1) (slots + N') Q (F0 m (pc + 2) ls (.ref q :: rest))) : W p l e R s m args below meth c H locs cells slots Q (F0 m pc ls (.int n :: rest)) := by
  refine va_newa hx hb harr hty hK hP hD hS hA ha hn hN hbytes hcells hslots hdg (fun q cA H1 hK1 hP1 hD1 hS1 => ?_)
  have e : cA = kA t0 := mi_same (hK1.2 (kk_T kA).length (cA, ty) (by simp)).2 (hK.2 t0 _ ht0).2 hnm
  subst e
  exact kk q H1 hP1 hD1 hS1
theorem mi_newq {own C : String} {index : Nat} (t0 : Nat) (hx : p.tables.exec = Jvm.exec) (hb : c.code = cc) (hown : s.vm.findClass own = some m.cls) (hcl : (Cond.classLink own index C).before args s = true) (hover : va_AO C s) (ht0 : (kk_T kA)[t0]? = some (kA t0, .object C))
    (hK : va_K D vwCl (kk_T kA) s) {ws : va_W} (hP : va_P D vwCl ws H) (hD : va_D A ws) {H0 : Heap} (hS : va_S A H0 H locs) (hA : ∀ q, H0.size ≤ q → A q)
    {n : Int32} {N' : Nat} (hn : ¬ n < 0) (hN : n.toNatClampNeg = N') (hbytes : N' * 4 ≤ 536870912) (hcells : cells + 1 ≤ R.cells) (hslots : slots + N' ≤ R.slots) (hdg : decode cc pc = .ok (.anewarray index, 3))
    (kk : ∀ (q : Nat) (H1 : Heap), va_P D vwCl (ws ++ [(q, .inl (kA t0, N', .inr (.inr (.inr (.inr (fun _ => none))))))]) H1 → va_D A (ws ++ [(q, .inl (kA t0, N', .inr (.inr (.inr (.inr (fun _ => none))))))]) → va_S A H0 H1 locs →
      W p l e R s m args below meth c H1 locs (cells + 1) (slots + N') Q (F0 m (pc + 3) ls (.ref q :: rest))) : W p l e R s m args below meth c H locs cells slots Q (F0 m pc ls (.int n :: rest)) := by
  refine va_newq hx hb hown hcl hover hK hP hD hS hA hn hN hbytes hcells hslots hdg (fun q cA H1 hK1 hP1 hD1 hS1 => ?_)
  have e : cA = kA t0 := mi_same (hK1.2 (kk_T kA).length (cA, .object C) (by simp)).2 (hK.2 t0 _ ht0).2 (fun c0 h => ⟨_, rfl, va_nmO h rfl⟩)
  subst e
  exact kk q H1 hP1 hD1 hS1
theorem mi_after {a : Array Value} {wcs wc wr : va_W} {w1 w2 : (Nat → Nat → Nat) → va_W} {b : Nat} {H0 : Heap} {mc ms : Nat} {st0 : List Value} (hr : va_Run p l e R s m args below meth c H locs cells slots mc ms (F0 m pc ls st0) rest (mi_Q D kA (va_A wc H.size) b w1 a) (va_A wc H.size))
    (hP : va_P D vwCl wcs H) (hD : va_D A wcs) (hS : va_S A H0 H locs) (hA : ∀ q, H0.size ≤ q → A q) (isC isR perm : List Nat) (hC : isC.map (fun i => wcs[i]?) = wc.map some) (hR : isR.map (fun i => wcs[i]?) = wr.map some) (hnd : va_nd isR = true) (hdis : ∀ i ∈ isR, i ∉ isC)
    (hperm : ∀ g, perm.map (fun i => (wr ++ w1 g)[i]?) = (w2 g).map some) (hndp : va_nd perm = true)
    (kk : ∀ (g : Nat → Nat → Nat) (H1 : Heap) (locs1 : List Loc), g 0 0 = b → va_P D vwCl (w2 g) H1 → va_D A (w2 g) → va_S A H0 H1 locs1 → W p l e R s m args below meth c H1 locs1 (cells + mc) (slots + ms) Q (F0 m (pc + 3) ls rest)) : W p l e R s m args below meth c H locs cells slots Q (F0 m pc ls st0) := by
  intro T hT X
  obtain ⟨v, st₀, t, T', L, h0, X', hL, e1, e2, ⟨⟨hv, g, hg0, hP1, -, hD1⟩, hz, hk⟩, st⟩ := hr T hT X
  cases hv
  rw [h0] at hz hk
  have hF := va_free (wc := wc) hD hS hA isC hC
  rw [← e1] at hP1
  obtain ⟨hP2, hD2⟩ := va_join (wr := wr) (w1 := w1 g) hP hD isC isR hC hR hnd hdis (fun q h1 h2 => by rw [e1]; exact hk q h1 h2) hF hP1 hD1
  have hps : perm.filterMap (fun i => (wr ++ w1 g)[i]?) = w2 g := by
    have := congrArg (List.filterMap id) (hperm g)
    simpa [List.filterMap_map] using this
  obtain ⟨t2, a1, b1⟩ := kk g T'.heap (locs ++ L) hg0 (hP2.sub perm hps) (hD2.sub perm hndp (hperm g))
    ⟨Nat.le_trans hS.1 (by rw [e1]; exact hz), fun q h1 h2 => by rw [e1, hk q (Nat.lt_of_lt_of_le h1 hS.1) (fun z => h2 (hF q z))]; exact hS.2.1 q h1 h2, fun q hq => by
      rcases List.mem_append.mp hq with h | h
      · exact hS.2.2 q h
      · exact hF _ (hL q h)⟩ T' rfl X'
  exact ⟨t2, st t2 a1, b1⟩
variable {Ts wsY : List Cond} {nL maxL index n : Nat} {own C : String} {y : MethodName} {bytes : ByteArray} {rm : Room} {b : Addr} {As : List Value} {ws wc wr : va_W} {w1 w2 : (Nat → Nat → Nat) → va_W} {H0 : Heap}
theorem mi_callI (S : CallFix p m c cc nL s args Ts own) (hM : mi_C l D kA y wsY rm b As wc w1) (cw : CallB R s args own index y bytes maxL none wsY rm rm.cells rm.slots n ∧ y.name = "<init>" ∧ (Cond.instanceMethod y).before args s = true) (hY : st_Y s)
    (hn : As.length = n) (hsize : ls.size = nL) {st0 : List Value} (hst : st0 = As.reverse ++ .ref b :: rest) (hW : (rest.map fun v => v.category).sum ≤ 8) (hdg : decode cc pc = .ok (.invokespecial index, 3)) (hf : cells + rm.cells ≤ R.cells ∧ slots + rm.slots ≤ R.slots)
    (hK : va_K D vwCl (kk_T kA) s) (hP : va_P D vwCl ws H) (hD : va_D A ws) (hS : va_S A H0 H locs) (hA : ∀ q, H0.size ≤ q → A q) (isC isR perm : List Nat) (hC : isC.map (fun i => ws[i]?) = wc.map some) (hndC : va_nd isC = true) (hR : isR.map (fun i => ws[i]?) = wr.map some) (hnd : va_nd isR = true) (hdis : ∀ i ∈ isR, i ∉ isC)
    (hperm : ∀ g, perm.map (fun i => (wr ++ w1 g)[i]?) = (w2 g).map some) (hndp : va_nd perm = true)
    (kk : ∀ (g : Nat → Nat → Nat) (H1 : Heap) (locs1 : List Loc), g 0 0 = b → va_P D vwCl (w2 g) H1 → va_D A (w2 g) → va_S A H0 H1 locs1 → W p l e R s m args below meth c H1 locs1 (cells + rm.cells) (slots + rm.slots) Q (F0 m (pc + 3) ls rest)) : W p l e R s m args below meth c H locs cells slots Q (F0 m pc ls st0) := by
  subst hst
  have hps : isC.filterMap (fun i => ws[i]?) = wc := by
    have := congrArg (List.filterMap id) hC
    simpa [List.filterMap_map] using this
  have hPc := hP.sub isC hps
  have hDc := hD.sub isC hndC hC
  exact mi_after (va_runI S (hM H.size) cw ⟨mi_blind, fun U hU hW => ⟨rfl, by rw [hU], by rw [hU]; exact hPc, va_K.moved hW.alike hK, hDc.weaken (fun _ _ _ _ => trivial), hY.warm hW⟩⟩ rfl hn hsize rfl (lv_room hW) hdg hf) hP hD hS hA isC isR perm hC hR hnd hdis hperm hndp kk
theorem mi_callIN {host : String} (S : CallFix p m c cc nL s args Ts own) (hM : mi_C l D kA y wsY rm b As wc w1) (cw : va_CN R s args own index y host bytes maxL none wsY rm rm.cells rm.slots n ∧ y.name = "<init>" ∧ (Cond.instanceMethod y).before args s = true) (hY : st_Y s)
    (hn : As.length = n) (hsize : ls.size = nL) {st0 : List Value} (hst : st0 = As.reverse ++ .ref b :: rest) (hW : (rest.map fun v => v.category).sum ≤ 8) (hdg : decode cc pc = .ok (.invokespecial index, 3)) (hf : cells + rm.cells ≤ R.cells ∧ slots + rm.slots ≤ R.slots)
    (hK : va_K D vwCl (kk_T kA) s) (hP : va_P D vwCl ws H) (hD : va_D A ws) (hS : va_S A H0 H locs) (hA : ∀ q, H0.size ≤ q → A q) (isC isR perm : List Nat) (hC : isC.map (fun i => ws[i]?) = wc.map some) (hndC : va_nd isC = true) (hR : isR.map (fun i => ws[i]?) = wr.map some) (hnd : va_nd isR = true) (hdis : ∀ i ∈ isR, i ∉ isC)
    (hperm : ∀ g, perm.map (fun i => (wr ++ w1 g)[i]?) = (w2 g).map some) (hndp : va_nd perm = true)
    (kk : ∀ (g : Nat → Nat → Nat) (H1 : Heap) (locs1 : List Loc), g 0 0 = b → va_P D vwCl (w2 g) H1 → va_D A (w2 g) → va_S A H0 H1 locs1 → W p l e R s m args below meth c H1 locs1 (cells + rm.cells) (slots + rm.slots) Q (F0 m (pc + 3) ls rest)) : W p l e R s m args below meth c H locs cells slots Q (F0 m pc ls st0) := by
  subst hst
  have hps : isC.filterMap (fun i => ws[i]?) = wc := by
    have := congrArg (List.filterMap id) hC
    simpa [List.filterMap_map] using this
  have hPc := hP.sub isC hps
  have hDc := hD.sub isC hndC hC
  exact mi_after (va_runIN S (hM H.size) cw ⟨mi_blind, fun U hU hW => ⟨rfl, by rw [hU], by rw [hU]; exact hPc, va_K.moved hW.alike hK, hDc.weaken (fun _ _ _ _ => trivial), hY.warm hW⟩⟩ rfl hn hsize rfl (lv_room hW) hdg hf) hP hD hS hA isC isR perm hC hR hnd hdis hperm hndp kk
end MiRows
theorem mi_arrV {cA : ClassId} {n : Nat} {f f' : Nat → Value} (h : ∀ j, j < n → f j = f' j) : arrV cA n f = arrV cA n f' := by
  unfold arrV
  congr 1
  apply Array.ext
  · simp
  · intro i h1 h2
    simp at h1 ⊢
    exact h i h1
theorem mi_refs {D : va_G} {cl : List vw_C} {ws : va_W} {H : Heap} {A : Nat → Prop} (q0 : Nat) {a n : Nat} {cA : ClassId} {f : Nat → Option Nat} (f' : Nat → Option Nat) (hP : va_P D cl ws H) (hD : va_D A ws) (hq : ws[q0]? = some (a, .inl (cA, n, .inr (.inr (.inr (.inr f)))))) (h : ∀ j, j < n → f j = f' j) :
    va_P D cl (ws.set q0 (a, .inl (cA, n, .inr (.inr (.inr (.inr f')))))) H ∧ va_D A (ws.set q0 (a, .inl (cA, n, .inr (.inr (.inr (.inr f')))))) := by
  have key : ∀ (k : Nat) (q : Nat × va_E), (ws.set q0 (a, .inl (cA, n, .inr (.inr (.inr (.inr f'))))))[k]? = some q → ∃ q', ws[k]? = some q' ∧ q'.1 = q.1 ∧ (va_at D cl q' H → va_at D cl q H) := by
    intro k q hk
    by_cases e : q0 = k
    · subst e
      have hl : q0 < ws.length := (List.getElem?_eq_some_iff.mp hq).1
      rw [List.getElem?_set_self hl] at hk
      cases hk
      refine ⟨_, hq, rfl, fun h1 => ?_⟩
      show H[a]? = some (vp_cell cA (n, .inr (.inr (.inr (.inr f')))))
      have h2 : H[a]? = some (vp_cell cA (n, .inr (.inr (.inr (.inr f))))) := h1
      rw [h2]
      exact congrArg some (mi_arrV (fun j hj => congrArg va_rf (h j hj)))
    · rw [List.getElem?_set_ne e] at hk
      exact ⟨q, hk, rfl, fun h => h⟩
  refine ⟨fun k q hk => ?_, fun i j p q hp hq hpq => ?_, fun k q hk => ?_⟩
  · obtain ⟨q', h1, h2, h3⟩ := key k q hk
    exact h3 (hP k q' h1)
  · obtain ⟨p', h1, h2, -⟩ := key i p hp
    obtain ⟨q', h4, h5, -⟩ := key j q hq
    exact hD.1 i j p' q' h1 h4 (by rw [h2, h5]; exact hpq)
  · obtain ⟨q', h1, h2, -⟩ := key k q hk
    rw [← h2]; exact hD.2 k q' h1
