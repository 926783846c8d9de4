/-! WORLDS BY SEGMENTS: a world is a list of segments, laid end to end; a cell's place is its segment and its place there -/
abbrev fl (ss : List va_W) : va_W := ss.flatten
def pl : List va_W → Nat → Nat → Nat
  | [], _, k => k
  | _ :: _, 0, k => k
  | g :: t, j + 1, k => g.length + pl t j k
theorem sg_get {ss : List va_W} : ∀ {j k : Nat} {G : va_W} {x : Nat × va_E}, ss[j]? = some G → G[k]? = some x → (fl ss)[pl ss j k]? = some x := by
  induction ss with
  | nil => intro j k G x h; cases h
  | cons g t ih =>
    intro j k G x h hk
    cases j with
    | zero =>
      cases h
      show (g ++ fl t)[k]? = some x
      rw [List.getElem?_append_left (List.getElem?_eq_some_iff.mp hk).1]
      exact hk
    | succ j =>
      show (g ++ fl t)[g.length + pl t j k]? = some x
      rw [List.getElem?_append_right (Nat.le_add_right _ _), Nat.add_sub_cancel_left]
      exact ih h hk
theorem sg_set {ss : List va_W} : ∀ {j k : Nat} {G : va_W} (x : Nat × va_E), ss[j]? = some G → k < G.length → (fl ss).set (pl ss j k) x = fl (ss.set j (G.set k x)) := by
  induction ss with
  | nil => intro j k G x h; cases h
  | cons g t ih =>
    intro j k G x h hk
    cases j with
    | zero =>
      cases h
      show (g ++ fl t).set k x = g.set k x ++ fl t
      rw [List.set_append_left _ _ hk]
    | succ j =>
      show (g ++ fl t).set (g.length + pl t j k) x = g ++ fl (t.set j (G.set k x))
      rw [List.set_append_right _ _ (Nat.le_add_right _ _), Nat.add_sub_cancel_left, ih x h hk]
/-- behind a store: the world's new segments -/
theorem sg_P {D : va_G} {cl : List vw_C} {H : Heap} {ss ss' : List va_W} {j k : Nat} {G : va_W} {x : Nat × va_E} (hj : ss[j]? = some G) (hk : k < G.length) (he : ss.set j (G.set k x) = ss') (h : va_P D cl ((fl ss).set (pl ss j k) x) H) : va_P D cl (fl ss') H := by
  rw [sg_set x hj hk, he] at h
  exact h
theorem sg_D {A : Nat → Prop} {ss ss' : List va_W} {j k : Nat} {G : va_W} {x : Nat × va_E} (hj : ss[j]? = some G) (hk : k < G.length) (he : ss.set j (G.set k x) = ss') (h : va_D A ((fl ss).set (pl ss j k) x)) : va_D A (fl ss') := by
  rw [sg_set x hj hk, he] at h
  exact h
theorem fl_app (a b : List va_W) : fl (a ++ b) = fl a ++ fl b := List.flatten_append
theorem fl_snoc (ss : List va_W) (t : va_W) : fl ss ++ t = fl (ss ++ [t]) := by rw [fl_app]; simp [fl]
theorem sg_Pn {D : va_G} {cl : List vw_C} {H : Heap} {ss : List va_W} {t : va_W} (h : va_P D cl (fl ss ++ t) H) : va_P D cl (fl (ss ++ [t])) H := by rw [← fl_snoc]; exact h
theorem sg_Dn {A : Nat → Prop} {ss : List va_W} {t : va_W} (h : va_D A (fl ss ++ t)) : va_D A (fl (ss ++ [t])) := by rw [← fl_snoc]; exact h
theorem va_P.mem {D : va_G} {cl : List vw_C} {ws : va_W} {H : Heap} (h : va_P D cl ws H) {x : Nat × va_E} (hx : x ∈ ws) : va_at D cl x H := by
  obtain ⟨k, hk⟩ := List.mem_iff_getElem?.mp hx
  exact h k x hk
theorem va_P.ofmem {D : va_G} {cl : List vw_C} {ws : va_W} {H : Heap} (h : ∀ x ∈ ws, va_at D cl x H) : va_P D cl ws H := fun _ q hk => h q (List.mem_of_getElem? hk)
theorem va_D.nd {A : Nat → Prop} {ws : va_W} (h : va_D A ws) : (ws.map (·.1)).Nodup := by
  refine List.pairwise_iff_getElem.mpr fun i j hi hj hij e => ?_
  rw [List.length_map] at hi hj
  rw [List.getElem_map, List.getElem_map] at e
  have := h.1 i j _ _ (List.getElem?_eq_getElem hi) (List.getElem?_eq_getElem hj) e
  omega
theorem va_D.ina {A : Nat → Prop} {ws : va_W} (h : va_D A ws) {x : Nat × va_E} (hx : x ∈ ws) : A x.1 := by
  obtain ⟨k, hk⟩ := List.mem_iff_getElem?.mp hx
  exact h.2 k x hk
theorem va_D.ofnd {A : Nat → Prop} {ws : va_W} (hn : (ws.map (·.1)).Nodup) (hA : ∀ x ∈ ws, A x.1) : va_D A ws := by
  have hp := List.pairwise_iff_getElem.mp hn
  refine ⟨fun i j p q hi hj e => ?_, fun k q hk => hA q (List.mem_of_getElem? hk)⟩
  obtain ⟨hi', ei⟩ := List.getElem?_eq_some_iff.mp hi
  obtain ⟨hj', ej⟩ := List.getElem?_eq_some_iff.mp hj
  rcases Nat.lt_trichotomy i j with h | h | h
  · exact absurd (by rw [List.getElem_map, List.getElem_map, ei, ej]; exact e) (hp i j (by rw [List.length_map]; exact hi') (by rw [List.length_map]; exact hj') h)
  · exact h
  · exact absurd (by rw [List.getElem_map, List.getElem_map, ei, ej]; exact e.symm) (hp j i (by rw [List.length_map]; exact hj') (by rw [List.length_map]; exact hi') h)
theorem va_P.pm {D : va_G} {cl : List vw_C} {ws ws' : va_W} {H : Heap} (h : va_P D cl ws H) (hp : ws.Perm ws') : va_P D cl ws' H := va_P.ofmem fun _ hx => h.mem (hp.mem_iff.mpr hx)
theorem va_D.pm {A : Nat → Prop} {ws ws' : va_W} (h : va_D A ws) (hp : ws.Perm ws') : va_D A ws' := va_D.ofnd ((hp.map _).nodup_iff.mp h.nd) fun _ hx => h.ina (hp.mem_iff.mpr hx)
theorem va_P.sl {D : va_G} {cl : List vw_C} {ws ws' : va_W} {H : Heap} (h : va_P D cl ws H) (hs : ws'.Sublist ws) : va_P D cl ws' H := va_P.ofmem fun _ hx => h.mem (hs.subset hx)
theorem va_D.sl {A : Nat → Prop} {ws ws' : va_W} (h : va_D A ws) (hs : ws'.Sublist ws) : va_D A ws' := va_D.ofnd (h.nd.sublist (hs.map _)) fun _ hx => h.ina (hs.subset hx)
theorem sl_0 : (fl []).Sublist (fl []) := List.Sublist.refl _
theorem sl_k {a : va_W} {s t : List va_W} (h : (fl s).Sublist (fl t)) : (fl (a :: s)).Sublist (fl (a :: t)) := (List.Sublist.refl a).append h
theorem sl_d {a : va_W} {s t : List va_W} (h : (fl s).Sublist (fl t)) : (fl s).Sublist (fl (a :: t)) := h.trans (List.sublist_append_right a _)
theorem fl_perm {a b : List va_W} (h : a.Perm b) : (fl a).Perm (fl b) := by
  induction h with
  | nil => exact List.Perm.refl _
  | cons x _ ih => exact (List.Perm.refl x).append ih
  | swap x y l =>
    show (y ++ (x ++ fl l)).Perm (x ++ (y ++ fl l))
    rw [← List.append_assoc, ← List.append_assoc]
    exact List.perm_append_comm.append_right _
  | trans _ _ i1 i2 => exact i1.trans i2
theorem pm_seg (ss ts : List va_W) (is : List Nat) (n : Nat) (h : is.map (fun i => ss[i]?) = ts.map some) (hn : is.Nodup) (hl : ss.length = n) (hall : (List.range n).all (fun i => is.contains i) = true) : (fl ss).Perm (fl ts) := by
  subst hl
  have hp : is.Perm (List.range ss.length) := by
    refine (List.perm_ext_iff_of_nodup hn List.nodup_range).mpr fun a => ⟨fun ha => ?_, fun ha => ?_⟩
    · have h1 : ss[a]? ∈ ts.map some := by rw [← h]; exact List.mem_map.mpr ⟨a, ha, rfl⟩
      obtain ⟨x, -, hx⟩ := List.mem_map.mp h1
      exact List.mem_range.mpr (List.getElem?_eq_some_iff.mp hx.symm).1
    · have h1 := List.all_eq_true.mp hall a ha
      exact List.contains_iff_mem.mp h1
  have e1 : is.filterMap (fun i => ss[i]?) = ts := by
    have := congrArg (List.filterMap id) h
    simpa [List.filterMap_map] using this
  have e0 : (List.range ss.length).map (fun i => ss[i]?) = ss.map some := by
    apply List.ext_getElem?
    intro i
    rw [List.getElem?_map, List.getElem?_map]
    by_cases hi : i < ss.length
    · rw [List.getElem?_range hi, List.getElem?_eq_getElem hi]
      simp [List.getElem?_eq_getElem hi]
    · rw [List.getElem?_eq_none (by rw [List.length_range]; omega), List.getElem?_eq_none (by omega)]
      rfl
  have e2 : (List.range ss.length).filterMap (fun i => ss[i]?) = ss := by
    have := congrArg (List.filterMap id) e0
    simpa [List.filterMap_map] using this
  refine fl_perm ?_
  rw [← e1]
  refine List.Perm.trans ?_ (hp.symm.filterMap _)
  rw [e2]
/-! CONTRACTS THAT MAKE CELLS: the static world stands by; from the cells wc to some answer rv and cells w1 that Qf knows of -/
def mg_Q (D : va_G) (kA : Nat → ClassId) (A : Nat → Prop) (Qf : Option Value → va_W → Prop) : Array Value → State → Outcome → State → Prop := fun _ st oc t =>
  (∃ (rv : Option Value) (w1 : va_W), Qf rv w1 ∧ oc = .returned rv ∧ va_P D vwCl w1 t.heap ∧ va_K D vwCl (kk_T kA) t ∧ va_D A w1) ∧ va_F A st t
def mg_C (l : Launch) (zz : Nat → Nat → Nat) (D : va_G) (kA : Nat → ClassId) (y : MethodName) (ws : List Cond) (rm : Room) (av : List Value) (wc : va_W) (Qf : Option Value → va_W → Prop) : Prop :=
  ∀ sz : Nat, Met l y ws rm (mx_P zz D kA sz av wc) (mg_Q D kA (va_A wc sz) Qf) rm.cells rm.slots (va_A wc sz)
theorem mg_of {l : Launch} {zz : Nat → Nat → Nat} {D : va_G} {kA : Nat → ClassId} {y : MethodName} {ws ws' : List Cond} {rm : Room} {av : List Value} {wc : va_W} {Qf : Option Value → va_W → Prop} {cc : ByteArray} {maxL : Nat} {ret : Option FieldType}
    (hy : plainName y.cls = true) (hw : ws = Cond.code y cc maxL ret :: ws') (hn : (lg_sl av).length ≤ maxL)
    (body : ∀ (p : Program) (e : Env) (s : State) (m : MethodId) (below : List Frame) (meth : Method) (c : Code) (A : Nat → Prop), mc_B p s m meth c D kA A y ws cc maxL ret av → mx_S zz A s s.heap → va_D A wc → va_P D vwCl wc s.heap → va_S A s.heap s.heap [] → ∀ ls, lv_has ls maxL (lv_args 0 av) →
      W p l e rm s m av.toArray below meth c s.heap [] 0 0 (MQ below (mg_Q D kA A Qf) av.toArray s rm.cells rm.slots A) (F0 m 0 ls [])) : mg_C l zz D kA y ws rm av wc Qf := by
  intro sz
  refine Met.ofW (cc := cc) (maxL := maxL) (ret := ret) hy hw ?_
  intro p e s m args below meth c s₁ B hml hv
  obtain ⟨rfl, hsz, hP, hK, hD0, hZ⟩ := hv
  subst hsz
  rw [lg_entry_eq]
  exact body p e s m below meth c _ ⟨B.exec, B.bytes, B.returns, B.notSynchronized, hml, findClass_of_methodNamed B.named, atoms_spec (ws := ws) B.pre, hK, fun q h => Or.inr h, (name_of_methodNamed B.named B.method).1⟩ hZ hD0.self hP va_S.rf _ (lv_entry av hn)
section MgRows
variable {p : Program} {l : Launch} {e : Env} {R : Room} {s : State} {m : MethodId} {args : Array Value} {below : List Frame} {meth : Method} {c : Code} {H : Heap} {locs : List Loc} {cells slots mc ms : Nat} {Q : State → Prop}
variable {zz : Nat → Nat → Nat} {cc : ByteArray} {pc : Nat} {ls : Array Slot} {rest : List Value} {D : va_G} {kA : Nat → ClassId} {A : Nat → Prop} {w1 : va_W} {Qf : Option Value → va_W → Prop}
theorem mg_reti {v : Int32} (hq : Qf (some (.int v)) w1) (hc : cells ≤ mc) (hs : slots ≤ ms) (hx : p.tables.exec = Jvm.exec) (hb : c.code = cc) (hr : meth.sig.returnType = some .int) (hlk : meth.locks = false) (hP : va_P D vwCl w1 H) (hK : va_K D vwCl (kk_T kA) s) (hD : va_D A w1) (hS : va_S A s.heap H locs) (hdg : decode cc pc = .ok (.ireturn, 1)) :
    W p l e R s m args below meth c H locs cells slots (MQ below (mg_Q D kA A Qf) args s mc ms A) (F0 m pc ls [.int v]) :=
  W.widen hc hs (W.iret hx hb hr (fun t ht hW => ⟨⟨_, _, hq, rfl, by rw [ht]; exact hP, va_K.moved hW.alike hK, hD⟩, hS.F ht⟩) hS.2.2 hdg hlk)
theorem mg_retz {v : Int32} {ty : FieldType} (hq : Qf (some (.int v)) w1) (hc : cells ≤ mc) (hs : slots ≤ ms) (hx : p.tables.exec = Jvm.exec) (hb : c.code = cc) (hr : meth.sig.returnType = some ty) (hn : narrow ty (.int v) = .int v) (hlk : meth.locks = false) (hP : va_P D vwCl w1 H) (hK : va_K D vwCl (kk_T kA) s) (hD : va_D A w1) (hS : va_S A s.heap H locs) (hdg : decode cc pc = .ok (.ireturn, 1)) :
    W p l e R s m args below meth c H locs cells slots (MQ below (mg_Q D kA A Qf) args s mc ms A) (F0 m pc ls [.int v]) :=
  W.widen hc hs (W.zret hx hb hr hn (fun t ht hW => ⟨⟨_, _, hq, rfl, by rw [ht]; exact hP, va_K.moved hW.alike hK, hD⟩, hS.F ht⟩) hS.2.2 hdg hlk)
theorem mg_retf {v : UInt32} (hq : Qf (some (.float v)) w1) (hc : cells ≤ mc) (hs : slots ≤ ms) (hx : p.tables.exec = Jvm.exec) (hb : c.code = cc) (hr : meth.sig.returnType = some .float) (hlk : meth.locks = false) (hP : va_P D vwCl w1 H) (hK : va_K D vwCl (kk_T kA) s) (hD : va_D A w1) (hS : va_S A s.heap H locs) (hdg : decode cc pc = .ok (.freturn, 1)) :
    W p l e R s m args below meth c H locs cells slots (MQ below (mg_Q D kA A Qf) args s mc ms A) (F0 m pc ls [.float v]) :=
  W.widen hc hs (W.fret hx hb hr (fun t ht hW => ⟨⟨_, _, hq, rfl, by rw [ht]; exact hP, va_K.moved hW.alike hK, hD⟩, hS.F ht⟩) hS.2.2 hdg hlk)
theorem mg_retv (hq : Qf none w1) (hc : cells ≤ mc) (hs : slots ≤ ms) (hx : p.tables.exec = Jvm.exec) (hb : c.code = cc) (hr : meth.sig.returnType = none) (hlk : meth.locks = false) (hP : va_P D vwCl w1 H) (hK : va_K D vwCl (kk_T kA) s) (hD : va_D A w1) (hS : va_S A s.heap H locs) (hdg : decode cc pc = .ok (.return_, 1)) :
    W p l e R s m args below meth c H locs cells slots (MQ below (mg_Q D kA A Qf) args s mc ms A) (F0 m pc ls []) :=
  W.widen hc hs (W.vret hx hb hr (fun t ht hW => ⟨⟨_, _, hq, rfl, by rw [ht]; exact hP, va_K.moved hW.alike hK, hD⟩, hS.F ht⟩) hS.2.2 hdg hlk)
theorem mg_reta {a : Nat} {ty : FieldType} (hq : Qf (some (.ref a)) w1) (hc : cells ≤ mc) (hs : slots ≤ ms) (hx : p.tables.exec = Jvm.exec) (hb : c.code = cc) (hr : meth.sig.returnType = some ty) (hty : (∃ n, ty = FieldType.object n) ∨ ∃ t, ty = FieldType.array t) (hlk : meth.locks = false) (hP : va_P D vwCl w1 H) (hK : va_K D vwCl (kk_T kA) s) (hD : va_D A w1) (hS : va_S A s.heap H locs) (hdg : decode cc pc = .ok (.areturn, 1)) :
    W p l e R s m args below meth c H locs cells slots (MQ below (mg_Q D kA A Qf) args s mc ms A) (F0 m pc ls [.ref a]) :=
  W.widen hc hs (W.aret hx hb hr hty (Or.inr ⟨a, rfl⟩) (fun t ht hW => ⟨⟨_, _, hq, rfl, by rw [ht]; exact hP, va_K.moved hW.alike hK, hD⟩, hS.F ht⟩) hS.2.2 hdg hlk)
/-- what a call finds of the static world and of its cells -/
theorem mg_pre {a : List Value} {ws wc wr : va_W} (hK : va_K D vwCl (kk_T kA) s) (hP : va_P D vwCl ws H) (hD : va_D A ws) (hS : va_S A s.heap H locs) (hA : ∀ q, s.heap.size ≤ q → A q) (hZ : mx_S zz A s s.heap) (hp : ws.Perm (wc ++ wr)) (U : State) (hU : U.heap = H) (hW : s.WarmedH U.vm) : mx_P zz D kA H.size a wc a.toArray U := by
  have hPc : va_P D vwCl wc H := (hP.pm hp).sl (List.sublist_append_left _ _)
  have hDc : va_D A wc := (hD.pm hp).sl (List.sublist_append_left _ _)
  have hF : ∀ q, va_A wc H.size q → A q := fun q h => by
    rcases h with ⟨k, e, hk⟩ | h
    · exact hDc.2 k _ hk
    · exact hA q (Nat.le_trans hS.1 h)
  refine ⟨rfl, by rw [hU], by rw [hU]; exact hPc, va_K.moved hW.alike hK, hDc.weaken (fun _ _ _ _ => trivial), ?_, ?_, ?_⟩
  · rw [hU]; exact vx_Zq.moved hW.alike ((hZ.1.kept hS.2.1).narrow hF)
  · rw [hU]; exact vx_Zq.moved hW.alike ((hZ.2.1.kept hS.2.1).narrow hF)
  · rw [hU]; exact st_S.moved hW.alike (fun _ _ _ _ h => vk_R.warm hW h) (fun h => st_W.warm hW h) ((hZ.2.2.kept hS.2.1).narrow hF)
/-- behind a call that returns -/
theorem mg_after {a : Array Value} {ws wc wr : va_W} {st0 : List Value} (hr : va_Run p l e R s m args below meth c H locs cells slots mc ms (F0 m pc ls st0) rest (mg_Q D kA (va_A wc H.size) Qf a) (va_A wc H.size))
    (hP : va_P D vwCl ws H) (hD : va_D A ws) (hS : va_S A s.heap H locs) (hA : ∀ q, s.heap.size ≤ q → A q) (hp : ws.Perm (wc ++ wr))
    (kk : ∀ (rv : Option Value) (w1 : va_W) (H1 : Heap) (locs1 : List Loc), Qf rv w1 → va_P D vwCl (w1 ++ wr) H1 → va_D A (w1 ++ wr) → va_S A s.heap H1 locs1 → W p l e R s m args below meth c H1 locs1 (cells + mc) (slots + ms) Q (F0 m (pc + 3) ls (rv.toList ++ rest))) : W p l e R s m args below meth c H locs cells slots Q (F0 m pc ls st0) := by
  have hP2 := hP.pm hp
  have hD2 := hD.pm hp
  have hPc : va_P D vwCl wc H := hP2.sl (List.sublist_append_left _ _)
  have hDc : va_D A wc := hD2.sl (List.sublist_append_left _ _)
  have hPr : va_P D vwCl wr H := hP2.sl (List.sublist_append_right _ _)
  have hF : ∀ q, va_A wc H.size q → A q := fun q h => by
    rcases h with ⟨k, e, hk⟩ | h
    · exact hDc.2 k _ hk
    · exact hA q (Nat.le_trans hS.1 h)
  have hn : ∀ x ∈ wr, x.1 < H.size ∧ ¬ va_A wc H.size x.1 := fun x hx => by
    have hlt : x.1 < H.size := by
      obtain ⟨k, hk⟩ := List.mem_iff_getElem?.mp hx
      exact (hPr k x hk).lt
    refine ⟨hlt, fun h => ?_⟩
    rcases h with ⟨k, e, hk⟩ | h
    · have h1 := hD2.nd
      rw [List.map_append] at h1
      exact (List.nodup_append.mp h1).2.2 _ (List.mem_map.mpr ⟨_, List.mem_of_getElem? hk, rfl⟩) _ (List.mem_map.mpr ⟨x, hx, rfl⟩) rfl
    · omega
  intro T hT X
  obtain ⟨v, st₀, t, T', L, h0, X', hL, e1, e2, ⟨⟨rv, w1, hq, hv, hP1, -, hD1⟩, hz, hk⟩, st⟩ := hr T hT X
  cases hv
  rw [h0] at hz hk
  rw [← e1] at hP1 hk hz
  have hPn : va_P D vwCl (w1 ++ wr) T'.heap := va_P.ofmem fun x hx => by
    rcases List.mem_append.mp hx with h | h
    · exact hP1.mem h
    · exact (hPr.mem h).kept (hk x.1 (hn x h).1 (hn x h).2)
  have hDn : va_D A (w1 ++ wr) := by
    refine va_D.ofnd ?_ fun x hx => ?_
    · rw [List.map_append]
      refine List.nodup_append.mpr ⟨hD1.nd, ((hD2.sl (List.sublist_append_right _ _)).nd), ?_⟩
      intro a ha b hb e
      obtain ⟨x, hx, rfl⟩ := List.mem_map.mp ha
      obtain ⟨y, hy, rfl⟩ := List.mem_map.mp hb
      exact (hn y hy).2 (e ▸ hD1.ina hx)
    · rcases List.mem_append.mp hx with h | h
      · exact hF _ (hD1.ina h)
      · exact (hD2.sl (List.sublist_append_right _ _)).ina h
  obtain ⟨t2, a1, b1⟩ := kk _ w1 T'.heap (locs ++ L) hq hPn hDn
    ⟨Nat.le_trans hS.1 hz, fun q h1 h2 => by rw [hk q (Nat.lt_of_lt_of_le h1 hS.1) (fun z => h2 (hF q z))]; exact hS.2.1 q h1 h2, fun q hq => by
      rcases List.mem_append.mp hq with h | h
      · exact hS.2.2 q h
      · exact hF _ (hL q h)⟩ T' rfl X'
  exact ⟨t2, st t2 a1, b1⟩
theorem run_c {a : Array Value} {B : Nat → Prop} {rv : Option Value} {w1 : va_W} {g : JFrame} (hr : va_Run p l e R s m args below meth c H locs cells slots mc ms g rest (mc_Q D kA B rv w1 a) B) : va_Run p l e R s m args below meth c H locs cells slots mc ms g rest (mg_Q D kA B (fun r w => r = rv ∧ w = w1) a) B := fun T hT X => by
  obtain ⟨v, st₀, t, T', L, h0, X', hL, e1, e2, ⟨⟨hv, hP1, hK1, hD1⟩, hF⟩, st⟩ := hr T hT X
  exact ⟨v, st₀, t, T', L, h0, X', hL, e1, e2, ⟨⟨rv, w1, ⟨rfl, rfl⟩, hv, hP1, hK1, hD1⟩, hF⟩, st⟩
theorem run_x {a : Array Value} {B : Nat → Prop} {xc : Nat} {rv : Option Value} {w1 : va_W} {g : JFrame} (h : xc = 0) (hr : vx_Run p l e R s m args below meth c H locs cells slots mc ms g rest (mx_Q D kA B xc rv w1 a) (mx_X D kA B xc w1) B) : va_Run p l e R s m args below meth c H locs cells slots mc ms g rest (mg_Q D kA B (fun r w => r = rv ∧ w = w1) a) B := fun T hT X => by
  rcases hr T hT X with ⟨v, st₀, t, T', L, h0, X', hL, e1, e2, ⟨-, ⟨hv, hP1, hK1, hD1⟩, hF⟩, st⟩ | ⟨q, st₀, t, T', L, E, ce, h0, X', hL, e1, e2, ⟨⟨hx0, -⟩, -⟩, -⟩
  · exact ⟨v, st₀, t, T', L, h0, X', hL, e1, e2, ⟨⟨rv, w1, ⟨rfl, rfl⟩, hv, hP1, hK1, hD1⟩, hF⟩, st⟩
  · exact absurd h hx0
theorem run_i {a : Array Value} {B : Nat → Prop} {b : Nat} {w1 : (Nat → Nat → Nat) → va_W} {g : JFrame} (hr : va_Run p l e R s m args below meth c H locs cells slots mc ms g rest (mi_Q D kA B b w1 a) B) : va_Run p l e R s m args below meth c H locs cells slots mc ms g rest (mg_Q D kA B (fun r w => r = none ∧ ∃ g, g 0 0 = b ∧ w = w1 g) a) B := fun T hT X => by
  obtain ⟨v, st₀, t, T', L, h0, X', hL, e1, e2, ⟨⟨hv, g1, hg, hP1, hK1, hD1⟩, hF⟩, st⟩ := hr T hT X
  exact ⟨v, st₀, t, T', L, h0, X', hL, e1, e2, ⟨⟨none, w1 g1, ⟨rfl, g1, hg, rfl⟩, hv, hP1, hK1, hD1⟩, hF⟩, st⟩
variable {Ts wsY : List Cond} {nL maxL index n : Nat} {own C : String} {y : MethodName} {bytes : ByteArray} {ret : Option FieldType} {rm : Room} {b : Addr} {As : List Value} {ss wcs wrs : List va_W} {wc : va_W} {xc : Nat} {rv : Option Value}
/-- the five kinds of calls, over segments: is = the callee's segments, then the others -/
theorem mg_callV (S : CallFix p m c cc nL s args Ts own) (hM : mg_C l zz D kA y wsY rm (.ref b :: As) (fl wcs) Qf) (cw : CallW R s args own C index y bytes maxL ret wsY rm rm.cells rm.slots n)
    (hrv : ∃ cell : Cell, H[b]? = some cell ∧ cell.vm.isStatics = false ∧ s.vm.findClass C = some cell.cls)
    (hn : As.length = n) (hsize : ls.size = nL) {st0 : List Value} (hst : st0 = As.reverse ++ .ref b :: rest) (hW : (rest.map fun v => v.category).sum ≤ 8) (hdg : decode cc pc = .ok (.invokevirtual index, 3)) (hf : cells + rm.cells ≤ R.cells ∧ slots + rm.slots ≤ R.slots)
    (hK : va_K D vwCl (kk_T kA) s) (hP : va_P D vwCl (fl ss) H) (hD : va_D A (fl ss)) (hS : va_S A s.heap H locs) (hA : ∀ q, s.heap.size ≤ q → A q) (hZ : mx_S zz A s s.heap) (hp : (fl ss).Perm (fl (wcs ++ wrs)))
    (kk : ∀ (rv : Option Value) (w1 : va_W) (H1 : Heap) (locs1 : List Loc), Qf rv w1 → va_P D vwCl (w1 ++ fl wrs) H1 → va_D A (w1 ++ fl wrs) → va_S A s.heap H1 locs1 → W p l e R s m args below meth c H1 locs1 (cells + rm.cells) (slots + rm.slots) Q (F0 m (pc + 3) ls (rv.toList ++ rest))) : W p l e R s m args below meth c H locs cells slots Q (F0 m pc ls st0) := by
  subst hst
  rw [fl_app] at hp
  exact mg_after (va_runV S (hM H.size) cw ⟨mx_blind, hrv, fun U hU hW => mg_pre hK hP hD hS hA hZ hp U hU hW⟩ rfl hn hsize rfl (lv_room hW) hdg hf) hP hD hS hA hp kk
theorem mg_callS (S : CallFix p m c cc nL s args Ts own) (hM : mg_C l zz D kA y wsY rm As (fl wcs) Qf) (cw : CallB R s args own index y bytes maxL ret wsY rm rm.cells rm.slots n ∧ (Cond.static y).before args s = true)
    (hn : As.length = n) (hsize : ls.size = nL) {st0 : List Value} (hst : st0 = As.reverse ++ rest) (hW : (rest.map fun v => v.category).sum ≤ 8) (hdg : decode cc pc = .ok (.invokestatic index, 3)) (hf : cells + rm.cells ≤ R.cells ∧ slots + rm.slots ≤ R.slots)
    (hK : va_K D vwCl (kk_T kA) s) (hP : va_P D vwCl (fl ss) H) (hD : va_D A (fl ss)) (hS : va_S A s.heap H locs) (hA : ∀ q, s.heap.size ≤ q → A q) (hZ : mx_S zz A s s.heap) (hp : (fl ss).Perm (fl (wcs ++ wrs)))
    (kk : ∀ (rv : Option Value) (w1 : va_W) (H1 : Heap) (locs1 : List Loc), Qf rv w1 → va_P D vwCl (w1 ++ fl wrs) H1 → va_D A (w1 ++ fl wrs) → va_S A s.heap H1 locs1 → W p l e R s m args below meth c H1 locs1 (cells + rm.cells) (slots + rm.slots) Q (F0 m (pc + 3) ls (rv.toList ++ rest))) : W p l e R s m args below meth c H locs cells slots Q (F0 m pc ls st0) := by
  subst hst
  rw [fl_app] at hp
  exact mg_after (va_runS S (hM H.size) cw ⟨mx_blind, fun U hU hW => mg_pre hK hP hD hS hA hZ hp U hU hW⟩ rfl hn hsize rfl (lv_room hW) hdg hf) hP hD hS hA hp kk
theorem mg_callSN {host : String} (S : CallFix p m c cc nL s args Ts own) (hM : mg_C l zz D kA y wsY rm As (fl wcs) Qf) (cw : va_CN R s args own index y host bytes maxL ret wsY rm rm.cells rm.slots n ∧ (Cond.static y).before args s = true ∧ True)
    (hn : As.length = n) (hsize : ls.size = nL) {st0 : List Value} (hst : st0 = As.reverse ++ rest) (hW : (rest.map fun v => v.category).sum ≤ 8) (hdg : decode cc pc = .ok (.invokestatic index, 3)) (hf : cells + rm.cells ≤ R.cells ∧ slots + rm.slots ≤ R.slots)
    (hK : va_K D vwCl (kk_T kA) s) (hP : va_P D vwCl (fl ss) H) (hD : va_D A (fl ss)) (hS : va_S A s.heap H locs) (hA : ∀ q, s.heap.size ≤ q → A q) (hZ : mx_S zz A s s.heap) (hp : (fl ss).Perm (fl (wcs ++ wrs)))
    (kk : ∀ (rv : Option Value) (w1 : va_W) (H1 : Heap) (locs1 : List Loc), Qf rv w1 → va_P D vwCl (w1 ++ fl wrs) H1 → va_D A (w1 ++ fl wrs) → va_S A s.heap H1 locs1 → W p l e R s m args below meth c H1 locs1 (cells + rm.cells) (slots + rm.slots) Q (F0 m (pc + 3) ls (rv.toList ++ rest))) : W p l e R s m args below meth c H locs cells slots Q (F0 m pc ls st0) := by
  subst hst
  rw [fl_app] at hp
  exact mg_after (va_runSN S (hM H.size) cw ⟨mx_blind, fun U hU hW => mg_pre hK hP hD hS hA hZ hp U hU hW⟩ rfl hn hsize rfl (lv_room hW) hdg hf) hP hD hS hA hp kk
theorem mg_callI (S : CallFix p m c cc nL s args Ts own) (hM : mg_C l zz D kA y wsY rm (.ref b :: As) (fl wcs) Qf) (cw : CallB R s args own index y bytes maxL none wsY rm rm.cells rm.slots n ∧ y.name = "<init>" ∧ (Cond.instanceMethod y).before args s = true)
    (hn : As.length = n) (hsize : ls.size = nL) {st0 : List Value} (hst : st0 = As.reverse ++ .ref b :: rest) (hW : (rest.map fun v => v.category).sum ≤ 8) (hdg : decode cc pc = .ok (.invokespecial index, 3)) (hf : cells + rm.cells ≤ R.cells ∧ slots + rm.slots ≤ R.slots)
    (hK : va_K D vwCl (kk_T kA) s) (hP : va_P D vwCl (fl ss) H) (hD : va_D A (fl ss)) (hS : va_S A s.heap H locs) (hA : ∀ q, s.heap.size ≤ q → A q) (hZ : mx_S zz A s s.heap) (hp : (fl ss).Perm (fl (wcs ++ wrs)))
    (kk : ∀ (rv : Option Value) (w1 : va_W) (H1 : Heap) (locs1 : List Loc), Qf rv w1 → va_P D vwCl (w1 ++ fl wrs) H1 → va_D A (w1 ++ fl wrs) → va_S A s.heap H1 locs1 → W p l e R s m args below meth c H1 locs1 (cells + rm.cells) (slots + rm.slots) Q (F0 m (pc + 3) ls (rv.toList ++ rest))) : W p l e R s m args below meth c H locs cells slots Q (F0 m pc ls st0) := by
  subst hst
  rw [fl_app] at hp
  exact mg_after (va_runI S (hM H.size) cw ⟨mx_blind, fun U hU hW => mg_pre hK hP hD hS hA hZ hp U hU hW⟩ rfl hn hsize rfl (lv_room hW) hdg hf) hP hD hS hA hp kk
theorem mg_callU {owner : String} {x : MethodName} (S : CallFix p m c cc nL s args Ts own) (hM : mg_C l zz D kA y wsY rm (.ref b :: As) (fl wcs) Qf) (cw : va_CU R s args own C owner index x y bytes maxL ret wsY rm rm.cells rm.slots n)
    (hrv : ∃ cell : Cell, H[b]? = some cell ∧ cell.vm.isStatics = false ∧ s.vm.findClass C = some cell.cls)
    (hn : As.length = n) (hsize : ls.size = nL) {st0 : List Value} (hst : st0 = As.reverse ++ .ref b :: rest) (hW : (rest.map fun v => v.category).sum ≤ 8) (hdg : decode cc pc = .ok (.invokevirtual index, 3)) (hf : cells + rm.cells ≤ R.cells ∧ slots + rm.slots ≤ R.slots)
    (hK : va_K D vwCl (kk_T kA) s) (hP : va_P D vwCl (fl ss) H) (hD : va_D A (fl ss)) (hS : va_S A s.heap H locs) (hA : ∀ q, s.heap.size ≤ q → A q) (hZ : mx_S zz A s s.heap) (hp : (fl ss).Perm (fl (wcs ++ wrs)))
    (kk : ∀ (rv : Option Value) (w1 : va_W) (H1 : Heap) (locs1 : List Loc), Qf rv w1 → va_P D vwCl (w1 ++ fl wrs) H1 → va_D A (w1 ++ fl wrs) → va_S A s.heap H1 locs1 → W p l e R s m args below meth c H1 locs1 (cells + rm.cells) (slots + rm.slots) Q (F0 m (pc + 3) ls (rv.toList ++ rest))) : W p l e R s m args below meth c H locs cells slots Q (F0 m pc ls st0) := by
  subst hst
  rw [fl_app] at hp
  exact mg_after (va_runU S (hM H.size) cw ⟨mx_blind, hrv, fun U hU hW => mg_pre hK hP hD hS hA hZ hp U hU hW⟩ rfl hn hsize rfl (lv_room hW) hdg hf) hP hD hS hA hp kk
theorem mg_callSU {cC : ClassId} (hat : ClassAt s C cC) (S : CallFix p m c cc nL s args Ts own) (hM : mg_C l zz D kA y wsY rm (.ref b :: As) (fl wcs) Qf) (cw : va_CS R s args own index y bytes maxL ret wsY rm rm.cells rm.slots n)
    (hrv : ∃ cell : Cell, H[b]? = some cell ∧ cell.vm.isStatics = false ∧ s.vm.findClass C = some cell.cls)
    (hn : As.length = n) (hsize : ls.size = nL) {st0 : List Value} (hst : st0 = As.reverse ++ .ref b :: rest) (hW : (rest.map fun v => v.category).sum ≤ 8) (hdg : decode cc pc = .ok (.invokespecial index, 3)) (hf : cells + rm.cells ≤ R.cells ∧ slots + rm.slots ≤ R.slots)
    (hK : va_K D vwCl (kk_T kA) s) (hP : va_P D vwCl (fl ss) H) (hD : va_D A (fl ss)) (hS : va_S A s.heap H locs) (hA : ∀ q, s.heap.size ≤ q → A q) (hZ : mx_S zz A s s.heap) (hp : (fl ss).Perm (fl (wcs ++ wrs)))
    (kk : ∀ (rv : Option Value) (w1 : va_W) (H1 : Heap) (locs1 : List Loc), Qf rv w1 → va_P D vwCl (w1 ++ fl wrs) H1 → va_D A (w1 ++ fl wrs) → va_S A s.heap H1 locs1 → W p l e R s m args below meth c H1 locs1 (cells + rm.cells) (slots + rm.slots) Q (F0 m (pc + 3) ls (rv.toList ++ rest))) : W p l e R s m args below meth c H locs cells slots Q (F0 m pc ls st0) := by
  subst hst
  rw [fl_app] at hp
  exact mg_after (va_runSU hat S (hM H.size) cw ⟨mx_blind, hrv, fun U hU hW => mg_pre hK hP hD hS hA hZ hp U hU hW⟩ rfl hn hsize rfl (lv_room hW) hdg hf) hP hD hS hA hp kk
/-- callees with contracts of the older forms -/
theorem mg_callVx (S : CallFix p m c cc nL s args Ts own) (hM : mx_C l zz D kA y wsY rm (.ref b :: As) wc xc rv w1) (h0 : xc = 0) (hwc : fl wcs = wc) (cw : CallW R s args own C index y bytes maxL ret wsY rm rm.cells rm.slots n)
    (hrv : ∃ cell : Cell, H[b]? = some cell ∧ cell.vm.isStatics = false ∧ s.vm.findClass C = some cell.cls)
    (hn : As.length = n) (hsize : ls.size = nL) {st0 : List Value} (hst : st0 = As.reverse ++ .ref b :: rest) (hW : (rest.map fun v => v.category).sum ≤ 8) (hdg : decode cc pc = .ok (.invokevirtual index, 3)) (hf : cells + rm.cells ≤ R.cells ∧ slots + rm.slots ≤ R.slots)
    (hK : va_K D vwCl (kk_T kA) s) (hP : va_P D vwCl (fl ss) H) (hD : va_D A (fl ss)) (hS : va_S A s.heap H locs) (hA : ∀ q, s.heap.size ≤ q → A q) (hZ : mx_S zz A s s.heap) (hp : (fl ss).Perm (fl (wcs ++ wrs)))
    (kk : ∀ (H1 : Heap) (locs1 : List Loc), va_P D vwCl (w1 ++ fl wrs) H1 → va_D A (w1 ++ fl wrs) → va_S A s.heap H1 locs1 → W p l e R s m args below meth c H1 locs1 (cells + rm.cells) (slots + rm.slots) Q (F0 m (pc + 3) ls (rv.toList ++ rest))) : W p l e R s m args below meth c H locs cells slots Q (F0 m pc ls st0) := by
  subst hst hwc
  rw [fl_app] at hp
  exact mg_after (run_x h0 (vx_runV S (hM H.size) cw ⟨mx_blind, hrv, fun U hU hW => mg_pre hK hP hD hS hA hZ hp U hU hW⟩ rfl hn hsize rfl (lv_room hW) hdg hf)) hP hD hS hA hp (fun r w H1 locs1 hq hP1 hD1 hS1 => by obtain ⟨rfl, rfl⟩ := hq; exact kk H1 locs1 hP1 hD1 hS1)
theorem mg_callSx (S : CallFix p m c cc nL s args Ts own) (hM : mx_C l zz D kA y wsY rm As wc xc rv w1) (h0 : xc = 0) (hwc : fl wcs = wc) (cw : CallB R s args own index y bytes maxL ret wsY rm rm.cells rm.slots n ∧ (Cond.static y).before args s = true)
    (hn : As.length = n) (hsize : ls.size = nL) {st0 : List Value} (hst : st0 = As.reverse ++ rest) (hW : (rest.map fun v => v.category).sum ≤ 8) (hdg : decode cc pc = .ok (.invokestatic index, 3)) (hf : cells + rm.cells ≤ R.cells ∧ slots + rm.slots ≤ R.slots)
    (hK : va_K D vwCl (kk_T kA) s) (hP : va_P D vwCl (fl ss) H) (hD : va_D A (fl ss)) (hS : va_S A s.heap H locs) (hA : ∀ q, s.heap.size ≤ q → A q) (hZ : mx_S zz A s s.heap) (hp : (fl ss).Perm (fl (wcs ++ wrs)))
    (kk : ∀ (H1 : Heap) (locs1 : List Loc), va_P D vwCl (w1 ++ fl wrs) H1 → va_D A (w1 ++ fl wrs) → va_S A s.heap H1 locs1 → W p l e R s m args below meth c H1 locs1 (cells + rm.cells) (slots + rm.slots) Q (F0 m (pc + 3) ls (rv.toList ++ rest))) : W p l e R s m args below meth c H locs cells slots Q (F0 m pc ls st0) := by
  subst hst hwc
  rw [fl_app] at hp
  exact mg_after (run_x h0 (vx_runS S (hM H.size) cw ⟨mx_blind, fun U hU hW => mg_pre hK hP hD hS hA hZ hp U hU hW⟩ rfl hn hsize rfl (lv_room hW) hdg hf)) hP hD hS hA hp (fun r w H1 locs1 hq hP1 hD1 hS1 => by obtain ⟨rfl, rfl⟩ := hq; exact kk H1 locs1 hP1 hD1 hS1)
theorem mg_callVc (S : CallFix p m c cc nL s args Ts own) (hM : mc_C l D kA y wsY rm (.ref b :: As) wc rv w1) (hwc : fl wcs = wc) (cw : CallW R s args own C index y bytes maxL ret wsY rm rm.cells rm.slots n)
    (hrv : ∃ cell : Cell, H[b]? = some cell ∧ cell.vm.isStatics = false ∧ s.vm.findClass C = some cell.cls)
    (hn : As.length = n) (hsize : ls.size = nL) {st0 : List Value} (hst : st0 = As.reverse ++ .ref b :: rest) (hW : (rest.map fun v => v.category).sum ≤ 8) (hdg : decode cc pc = .ok (.invokevirtual index, 3)) (hf : cells + rm.cells ≤ R.cells ∧ slots + rm.slots ≤ R.slots)
    (hK : va_K D vwCl (kk_T kA) s) (hP : va_P D vwCl (fl ss) H) (hD : va_D A (fl ss)) (hS : va_S A s.heap H locs) (hA : ∀ q, s.heap.size ≤ q → A q) (hZ : mx_S zz A s s.heap) (hp : (fl ss).Perm (fl (wcs ++ wrs)))
    (kk : ∀ (H1 : Heap) (locs1 : List Loc), va_P D vwCl (w1 ++ fl wrs) H1 → va_D A (w1 ++ fl wrs) → va_S A s.heap H1 locs1 → W p l e R s m args below meth c H1 locs1 (cells + rm.cells) (slots + rm.slots) Q (F0 m (pc + 3) ls (rv.toList ++ rest))) : W p l e R s m args below meth c H locs cells slots Q (F0 m pc ls st0) := by
  subst hst hwc
  rw [fl_app] at hp
  have hpr := fun (U : State) (hU : U.heap = H) (hW : s.WarmedH U.vm) => mg_pre (a := .ref b :: As) hK hP hD hS hA hZ hp U hU hW
  exact mg_after (run_c (va_runV S (hM H.size) cw ⟨mc_blind, hrv, fun U hU hW => ⟨(hpr U hU hW).1, (hpr U hU hW).2.1, (hpr U hU hW).2.2.1, (hpr U hU hW).2.2.2.1, (hpr U hU hW).2.2.2.2.1⟩⟩ rfl hn hsize rfl (lv_room hW) hdg hf)) hP hD hS hA hp (fun r w H1 locs1 hq hP1 hD1 hS1 => by obtain ⟨rfl, rfl⟩ := hq; exact kk H1 locs1 hP1 hD1 hS1)
theorem mg_callIi {w1 : (Nat → Nat → Nat) → va_W} (S : CallFix p m c cc nL s args Ts own) (hM : mi_C l D kA y wsY rm b As wc w1) (hwc : fl wcs = wc) (cw : CallB R s args own index y bytes maxL none wsY rm rm.cells rm.slots n ∧ y.name = "<init>" ∧ (Cond.instanceMethod y).before args s = true)
    (hn : As.length = n) (hsize : ls.size = nL) {st0 : List Value} (hst : st0 = As.reverse ++ .ref b :: rest) (hW : (rest.map fun v => v.category).sum ≤ 8) (hdg : decode cc pc = .ok (.invokespecial index, 3)) (hf : cells + rm.cells ≤ R.cells ∧ slots + rm.slots ≤ R.slots)
    (hK : va_K D vwCl (kk_T kA) s) (hP : va_P D vwCl (fl ss) H) (hD : va_D A (fl ss)) (hS : va_S A s.heap H locs) (hA : ∀ q, s.heap.size ≤ q → A q) (hZ : mx_S zz A s s.heap) (hp : (fl ss).Perm (fl (wcs ++ wrs)))
    (kk : ∀ (g : Nat → Nat → Nat) (H1 : Heap) (locs1 : List Loc), g 0 0 = b → va_P D vwCl (w1 g ++ fl wrs) H1 → va_D A (w1 g ++ fl wrs) → va_S A s.heap H1 locs1 → W p l e R s m args below meth c H1 locs1 (cells + rm.cells) (slots + rm.slots) Q (F0 m (pc + 3) ls rest)) : W p l e R s m args below meth c H locs cells slots Q (F0 m pc ls st0) := by
  subst hst hwc
  rw [fl_app] at hp
  have hpr := fun (U : State) (hU : U.heap = H) (hW : s.WarmedH U.vm) => mg_pre (a := .ref b :: As) hK hP hD hS hA hZ hp U hU hW
  exact mg_after (run_i (va_runI S (hM H.size) cw ⟨mi_blind, fun U hU hW => ⟨(hpr U hU hW).1, (hpr U hU hW).2.1, (hpr U hU hW).2.2.1, (hpr U hU hW).2.2.2.1, (hpr U hU hW).2.2.2.2.1, ⟨(hpr U hU hW).2.2.2.2.2.2.2.1.2.2.2.1, (hpr U hU hW).2.2.2.2.2.2.2.1.2.2.2.2.1, (hpr U hU hW).2.2.2.2.2.2.2.1.2.2.2.2.2.1, (hpr U hU hW).2.2.2.2.2.2.2.1.2.2.2.2.2.2.1⟩⟩⟩ rfl hn hsize rfl (lv_room hW) hdg hf)) hP hD hS hA hp (fun r w H1 locs1 hq hP1 hD1 hS1 => by obtain ⟨rfl, g, hg, rfl⟩ := hq; exact kk g H1 locs1 hg hP1 hD1 hS1)
end MgRows
