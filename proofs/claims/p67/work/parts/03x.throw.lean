/-! CONTRACTS OF METHODS THAT MAY THROW: with code 0 it returns; else it throws the code's exception; in both it comes to the cells w1 -/
def mx_n : Nat → String
  | 1 => "java/lang/IllegalStateException"
  | 2 => "java/lang/IllegalArgumentException"
  | _ => "java/lang/IndexOutOfBoundsException"
/-! THE STATIC WORLD: strings (7 words of the relief's grammar, 11 texts of the law's picture), the digits' tables -/
def st_len : List Nat := [5, 5, 4, 5, 3, 5, 4, 0, 6, 1, 3, 1, 5, 3, 6, 7, 6, 6]
def st_byt : List (List Int32) := [[112, 97, 110, 101, 108], [115, 116, 101, 112, 115], [119, 97, 108, 108], [115, 108, 111, 112, 101], [114, 111, 119], [103, 108, 97, 115, 115], [98, 97, 115, 101], [], [112, 97, 110, 101, 108, 32], [32], [32, 59, 10], [59], [119, 97, 108, 108, 32], [114, 111, 119], [115, 116, 101, 112, 115, 32], [32, 103, 108, 97, 115, 115, 32], [32, 98, 97, 115, 101, 32], [115, 108, 111, 112, 101, 32]]
def st_ix : List Nat := [63, 72, 77, 82, 87, 112, 119, 40, 77, 82, 61, 63, 88, 91, 102, 104, 106, 108]
def st_tx : List String := ["panel", "steps", "wall", "slope", "row", "glass", "base", "", "panel ", " ", " ;\n", ";", "wall ", "row", "steps ", " glass ", " base ", "slope "]
def st_dg (k : Nat) : Nat → Value := fun i => .int (Int32.ofNat (48 + (if k = 0 then i % 10 else i / 10)))
def st_T (U : State) : Prop := (va_Nw (.declares ⟨"java/lang/RuntimeException", "<init>", "()V"⟩) U ∧ va_Nw (.declares ⟨"java/lang/Exception", "<init>", "()V"⟩) U ∧ va_Nw (.declares ⟨"java/lang/Throwable", "<init>", "()V"⟩) U) ∧ (∀ xc : Nat, va_Nw (.castable (mx_n xc) (mx_n xc)) U) ∧ True
theorem st_T.warm {s U : State} (hW : s.WarmedH U.vm) (h : st_T s) : st_T U := ⟨⟨va_Nw.warmD hW h.1.1, va_Nw.warmD hW h.1.2.1, va_Nw.warmD hW h.1.2.2⟩, fun xc => va_Nw.warmC hW (h.2.1 xc), trivial⟩
theorem st_T.same {u U : State} (e : u.vm = U.vm) (h : st_T u) : st_T U := ⟨⟨va_Nw.same rfl e h.1.1, va_Nw.same rfl e h.1.2.1, va_Nw.same rfl e h.1.2.2⟩, fun xc => va_Nw.same rfl e (h.2.1 xc), trivial⟩
theorem st_bad {s : State} {args : Array Value} {xc : Nat} (h : st_T s) : ∀ w ∈ [Cond.declares ⟨"java/lang/RuntimeException", "<init>", "()V"⟩, Cond.declares ⟨"java/lang/Exception", "<init>", "()V"⟩, Cond.declares ⟨"java/lang/Throwable", "<init>", "()V"⟩, Cond.castable (mx_n xc) (mx_n xc)], w.before args s = true :=
  vx_c (va_Nw.use rfl h.1.1) (vx_c (va_Nw.use rfl h.1.2.1) (vx_c (va_Nw.use rfl h.1.2.2) (vx_c (va_Nw.use rfl (h.2.1 xc)) vx_n)))
/-- what the tables say of the machine's classes: rows of panels, of commands, of int rows; clones; members of a nest -/
def st_V (U : State) : Prop := va_AO RX5 U ∧ va_AO RX1 U ∧ va_Nw (.methodLinkNest RX12 36 yX11_init RX12) U ∧ va_Nw (.methodLinkNest RX12 59 yX10_init RX12) U ∧ va_AOA .int U ∧ va_Nw (.castable "[I" "java/lang/Cloneable") U ∧ va_Nw (.castable "[B" "java/lang/Cloneable") U ∧ va_Nw (.methodLinkNest RX13 52 yL_pick RL) U
theorem st_V.warm {s U : State} (hW : s.WarmedH U.vm) (h : st_V s) : st_V U := ⟨va_AO.moved hW.alike h.1, va_AO.moved hW.alike h.2.1, va_Nw.warmM hW h.2.2.1, va_Nw.warmM hW h.2.2.2.1, va_AOA.moved hW.alike h.2.2.2.2.1, va_Nw.warmC hW h.2.2.2.2.2.1, va_Nw.warmC hW h.2.2.2.2.2.2.1, va_Nw.warmM hW h.2.2.2.2.2.2.2⟩
theorem st_V.same {u U : State} (e : u.vm = U.vm) (h : st_V u) : st_V U := ⟨va_AO.moved (e ▸ Vm.Alike.refl u.vm) h.1, va_AO.moved (e ▸ Vm.Alike.refl u.vm) h.2.1, va_Nw.same rfl e h.2.2.1, va_Nw.same rfl e h.2.2.2.1, va_AOA.moved (e ▸ Vm.Alike.refl u.vm) h.2.2.2.2.1, va_Nw.same rfl e h.2.2.2.2.2.1, va_Nw.same rfl e h.2.2.2.2.2.2.1, va_Nw.same rfl e h.2.2.2.2.2.2.2⟩
def st_W (U : State) : Prop := st_T U ∧ st_V U
theorem st_W.warm {s U : State} (hW : s.WarmedH U.vm) (h : st_W s) : st_W U := ⟨h.1.warm hW, h.2.warm hW⟩
theorem st_W.same {u U : State} (e : u.vm = U.vm) (h : st_W u) : st_W U := ⟨h.1.same e, h.2.same e⟩
/-- strings as the constants hold them; no two of them need be apart, since one text may stand twice -/
def vs_S (N : Nat) (len : List Nat) (byt : List (List Int32)) (adK adV : Nat → Nat) (A : Nat → Prop) (U : State) (H : Heap) : Prop :=
  (∀ i : Nat, i < N → va_O "java/lang/String" (adK i) A U H ∧ va_OF "java/lang/String" "coder" "B" (.int 0) (adK i) A U H ∧ va_OF "java/lang/String" "value" "[B" (.ref (adV i)) (adK i) A U H ∧ va_T .byte (adV i) (len.getD i 0) (fun j => .int ((byt.getD i []).getD j 0)) A U H) ∧ True
theorem vs_S.moved {N : Nat} {len : List Nat} {byt : List (List Int32)} {adK adV : Nat → Nat} {A : Nat → Prop} {u U : State} {H : Heap} (hvm : u.vm.Alike U.vm) (h : vs_S N len byt adK adV A u H) : vs_S N len byt adK adV A U H :=
  ⟨fun i hi => ⟨va_O.moved hvm (h.1 i hi).1, va_OF.moved hvm (h.1 i hi).2.1, va_OF.moved hvm (h.1 i hi).2.2.1, va_T.moved hvm (h.1 i hi).2.2.2⟩, trivial⟩
theorem vs_S.kept {N : Nat} {len : List Nat} {byt : List (List Int32)} {adK adV : Nat → Nat} {A : Nat → Prop} {U : State} {H H1 : Heap} (h : vs_S N len byt adK adV A U H) (hq : ∀ a : Nat, a < H.size → ¬ A a → H1[a]? = H[a]?) : vs_S N len byt adK adV A U H1 :=
  ⟨fun i hi => ⟨(h.1 i hi).1.kept hq, (h.1 i hi).2.1.kept hq, (h.1 i hi).2.2.1.kept hq, (h.1 i hi).2.2.2.kept hq⟩, trivial⟩
theorem vs_S.narrow {N : Nat} {len : List Nat} {byt : List (List Int32)} {adK adV : Nat → Nat} {A B : Nat → Prop} {U : State} {H : Heap} (h : vs_S N len byt adK adV A U H) (hAB : ∀ q, B q → A q) : vs_S N len byt adK adV B U H :=
  ⟨fun i hi => ⟨(h.1 i hi).1.narrow hAB, (h.1 i hi).2.1.narrow hAB, (h.1 i hi).2.2.1.narrow hAB, (h.1 i hi).2.2.2.narrow hAB⟩, trivial⟩
theorem vs_recv {s : State} {H : Heap} {A : Nat → Prop} {locs : List Loc} {N : Nat} {len : List Nat} {byt : List (List Int32)} {adK adV : Nat → Nat} {i : Nat} (hE : vs_S N len byt adK adV A s s.heap) (hi : i < N) (hS : va_S A s.heap H locs) : ∃ cell : Cell, H[adK i]? = some cell ∧ cell.vm.isStatics = false ∧ s.vm.findClass "java/lang/String" = some cell.cls := by
  obtain ⟨cell, h1, h2, h3, -⟩ := (hE.1 i hi).1.kept hS.2.1
  exact ⟨cell, h1, h2, h3⟩
def st_S (zz : Nat → Nat → Nat) (A : Nat → Prop) (U : State) (H : Heap) : Prop :=
  (va_Z "java/lang/String" "COMPACT_STRINGS" "Z" (.int 1) A U H ∧ va_Zq "jdk/internal/util/Preconditions" "SIOOBE_FORMATTER" "Ljava/util/function/BiFunction;" A U H ∧ st_W U) ∧ vs_S 18 st_len st_byt (zz 0) (zz 1) A U H ∧
  (va_Z "java/lang/Integer" "DigitOnes" "[B" (.ref (zz 3 0)) A U H ∧ va_T .byte (zz 3 0) 100 (st_dg 0) A U H) ∧ (va_Z "java/lang/Integer" "DigitTens" "[B" (.ref (zz 3 1)) A U H ∧ va_T .byte (zz 3 1) 100 (st_dg 1) A U H) ∧
  (∀ i : Nat, i < 7 → vk_R RX7 (st_ix.getD i 0) (st_tx.getD i "") (zz 0 i) U) ∧ (∀ i : Nat, i < 11 → vk_R RX13 (st_ix.getD (7 + i) 0) (st_tx.getD (7 + i) "") (zz 0 (7 + i)) U) ∧
  va_T .int (zz 4 0) (zz 4 1) (fun j => .int (Int32.ofNat (zz 5 j))) A U H
theorem st_S.moved {zz : Nat → Nat → Nat} {A : Nat → Prop} {u U : State} {H : Heap} (hvm : u.vm.Alike U.vm) (hR : ∀ (own tx : String) (k a : Nat), vk_R own k tx a u → vk_R own k tx a U) (hT : st_W u → st_W U) (h : st_S zz A u H) : st_S zz A U H :=
  ⟨⟨h.1.1.moved hvm, h.1.2.1.moved hvm, hT h.1.2.2⟩, h.2.1.moved hvm, ⟨h.2.2.1.1.moved hvm, h.2.2.1.2.moved hvm⟩, ⟨h.2.2.2.1.1.moved hvm, h.2.2.2.1.2.moved hvm⟩, fun i hi => hR _ _ _ _ (h.2.2.2.2.1 i hi), fun i hi => hR _ _ _ _ (h.2.2.2.2.2.1 i hi), h.2.2.2.2.2.2.moved hvm⟩
theorem st_S.kept {zz : Nat → Nat → Nat} {A : Nat → Prop} {U : State} {H H1 : Heap} (h : st_S zz A U H) (hq : ∀ a : Nat, a < H.size → ¬ A a → H1[a]? = H[a]?) : st_S zz A U H1 :=
  ⟨⟨h.1.1.kept hq, h.1.2.1.kept hq, h.1.2.2⟩, h.2.1.kept hq, ⟨h.2.2.1.1.kept hq, h.2.2.1.2.kept hq⟩, ⟨h.2.2.2.1.1.kept hq, h.2.2.2.1.2.kept hq⟩, h.2.2.2.2.1, h.2.2.2.2.2.1, h.2.2.2.2.2.2.kept hq⟩
theorem st_S.narrow {zz : Nat → Nat → Nat} {A B : Nat → Prop} {U : State} {H : Heap} (h : st_S zz A U H) (hAB : ∀ q, B q → A q) : st_S zz B U H :=
  ⟨⟨h.1.1.narrow hAB, h.1.2.1.narrow hAB, h.1.2.2⟩, h.2.1.narrow hAB, ⟨h.2.2.1.1.narrow hAB, h.2.2.1.2.narrow hAB⟩, ⟨h.2.2.2.1.1.narrow hAB, h.2.2.2.1.2.narrow hAB⟩, h.2.2.2.2.1, h.2.2.2.2.2.1, h.2.2.2.2.2.2.narrow hAB⟩
abbrev os_c (v : Int32) : Prop := v = ((Int32.toUInt32 v) % 65536).toInt32
theorem os_c_n {v : Int32} (h : os_c v) : narrow .char (.int v) = .int v := congrArg Value.int (Eq.symm h)
def os_opt {β : Type} (e : Option Nat) (a : Option β) (g : Nat → Option β) : Option β := match e with
  | none => a
  | some i => g i
theorem os_op {β : Type} {e : Option Nat} {a : Option β} {g : Nat → Option β} {y : β} (h : os_opt e a g = some y) : (e = none ∧ a = some y) ∨ ∃ i, e = some i ∧ g i = some y := by
  cases e with
  | none => exact Or.inl ⟨rfl, h⟩
  | some i => exact Or.inr ⟨i, rfl, h⟩
/-- which command a place holds, if it holds one -/
theorem os_upR {f : Nat → Option Nat} {ec : Nat → Nat} {a v : Nat} : va_up (fun k => (f k).map ec) a (some (ec v)) = fun k => (va_up f a (some v) k).map ec := by
  funext k
  unfold va_up
  split <;> rfl
theorem st_zq {C n d : String} {A : Nat → Prop} {U : State} {H : Heap} (h : va_Zq C n d A U H) : ∃ o : Option Nat, va_Z C n d (va_rf o) A U H := by
  rcases h with h | ⟨t, h⟩
  · exact ⟨none, h⟩
  · exact ⟨some t, h⟩
def mx_S (zz : Nat → Nat → Nat) (A : Nat → Prop) (U : State) (H : Heap) : Prop := vx_Zq Bundle.tN "UNASSIGNED_STACK" Bundle.steD A U H ∧ vx_Zq Bundle.tN "SUPPRESSED_SENTINEL" Bundle.listD A U H ∧ st_S zz A U H
def mx_P (zz : Nat → Nat → Nat) (D : va_G) (kA : Nat → ClassId) (sz : Nat) (av : List Value) (wc : va_W) : Array Value → State → Prop :=
  va_Pc av (fun U => U.heap.size = sz ∧ va_P D vwCl wc U.heap ∧ va_K D vwCl (kk_T kA) U ∧ va_D (fun _ => True) wc ∧ mx_S zz (va_A wc sz) U U.heap)
def mx_Q (D : va_G) (kA : Nat → ClassId) (A : Nat → Prop) (xc : Nat) (rv : Option Value) (w1 : va_W) : Array Value → State → Outcome → State → Prop := fun a st oc t => xc = 0 ∧ mc_Q D kA A rv w1 a st oc t
def mx_X (D : va_G) (kA : Nat → ClassId) (A : Nat → Prop) (xc : Nat) (w1 : va_W) : String → State → State → Prop := fun E st t =>
  (xc ≠ 0 ∧ E = mx_n xc ∧ va_P D vwCl w1 t.heap ∧ va_K D vwCl (kk_T kA) t ∧ va_D A w1) ∧ va_F A st t
def mx_C (l : Launch) (zz : Nat → Nat → Nat) (D : va_G) (kA : Nat → ClassId) (y : MethodName) (ws : List Cond) (rm : Room) (av : List Value) (wc : va_W) (xc : Nat) (rv : Option Value) (w1 : va_W) : Prop :=
  ∀ sz : Nat, vx_Met l y ws rm (mx_P zz D kA sz av wc) (mx_Q D kA (va_A wc sz) xc rv w1) (mx_X D kA (va_A wc sz) xc w1) rm.cells rm.slots (va_A wc sz)
theorem mx_blind {zz : Nat → Nat → Nat} {D : va_G} {kA : Nat → ClassId} {sz : Nat} {av : List Value} {wc : va_W} : FrameBlind (mx_P zz D kA sz av wc) := fun a U g mk q => by
  obtain ⟨q0, q1, qP, qK, qD, qZ, qN, qS⟩ := q
  exact ⟨q0, q1, qP, va_K.moved (u := U) (U := U.calling g mk a) (Vm.Alike.refl U.vm) qK, qD, vx_Zq.moved (u := U) (U := U.calling g mk a) (Vm.Alike.refl U.vm) qZ, vx_Zq.moved (u := U) (U := U.calling g mk a) (Vm.Alike.refl U.vm) qN, st_S.moved (u := U) (U := U.calling g mk a) (Vm.Alike.refl U.vm) (fun _ _ _ _ h => vk_R.same (u := U) (U := U.calling g mk a) rfl h) (fun h => st_W.same (u := U) (U := U.calling g mk a) rfl h) qS⟩
theorem mx_of {l : Launch} {zz : Nat → Nat → Nat} {D : va_G} {kA : Nat → ClassId} {y : MethodName} {ws ws' : List Cond} {rm : Room} {av : List Value} {wc w1 : va_W} {xc : Nat} {rv : Option Value} {cc : ByteArray} {maxL : Nat} {ret : Option FieldType}
    (hy : plainName y.cls = true) (hw : ws = Cond.code y cc maxL ret :: ws') (hn : (lg_sl av).length ≤ maxL)
    (body : ∀ (p : Program) (e : Env) (s : State) (m : MethodId) (below : List Frame) (meth : Method) (c : Code) (A : Nat → Prop), mc_B p s m meth c D kA A y ws cc maxL ret av → (∀ x ∈ c.exceptionTable.toList, False) → mx_S zz A s s.heap → va_D A wc → va_P D vwCl wc s.heap → va_S A s.heap s.heap [] → ∀ ls, lv_has ls maxL (lv_args 0 av) →
      W p l e rm s m av.toArray below meth c s.heap [] 0 0 (vx_MQ below (mx_Q D kA A xc rv w1) (mx_X D kA A xc w1) av.toArray s rm.cells rm.slots A) (F0 m 0 ls [])) : mx_C l zz D kA y ws rm av wc xc rv w1 := by
  intro sz
  refine vx_ofW (cc := cc) (maxL := maxL) (ret := ret) hy hw ?_
  intro p e s m args below meth c s₁ B hml hx0 hv
  obtain ⟨rfl, hsz, hP, hK, hD0, hZ⟩ := hv
  subst hsz
  rw [lg_entry_eq]
  exact body p e s m below meth c _ ⟨B.exec, B.bytes, B.returns, B.notSynchronized, hml, findClass_of_methodNamed B.named, atoms_spec (ws := ws) B.pre, hK, fun q h => Or.inr h, (name_of_methodNamed B.named B.method).1⟩ hx0 hZ hD0.self hP va_S.rf _ (lv_entry av hn)
section MxRows
variable {p : Program} {l : Launch} {e : Env} {R : Room} {s : State} {m : MethodId} {args : Array Value} {below : List Frame} {meth : Method} {c : Code} {H : Heap} {locs : List Loc} {cells slots mc ms : Nat} {Q : State → Prop}
variable {zz : Nat → Nat → Nat} {cc : ByteArray} {pc : Nat} {ls : Array Slot} {rest : List Value} {D : va_G} {kA : Nat → ClassId} {A : Nat → Prop} {w1 : va_W}
theorem mx_reti {v : Int32} (hc : cells ≤ mc) (hs : slots ≤ ms) (hx : p.tables.exec = Jvm.exec) (hb : c.code = cc) (hr : meth.sig.returnType = some .int) (hlk : meth.locks = false) (hP : va_P D vwCl w1 H) (hK : va_K D vwCl (kk_T kA) s) (hD : va_D A w1) (hS : va_S A s.heap H locs) (hdg : decode cc pc = .ok (.ireturn, 1)) :
    W p l e R s m args below meth c H locs cells slots (vx_MQ below (mx_Q D kA A 0 (some (.int v)) w1) (mx_X D kA A 0 w1) args s mc ms A) (F0 m pc ls [.int v]) :=
  W.widen hc hs (vx_ret (W.iret hx hb hr (fun t ht hW => ⟨rfl, ⟨rfl, by rw [ht]; exact hP, va_K.moved hW.alike hK, hD⟩, hS.F ht⟩) hS.2.2 hdg hlk))
theorem mx_retz {v : Int32} {ty : FieldType} (hc : cells ≤ mc) (hs : slots ≤ ms) (hx : p.tables.exec = Jvm.exec) (hb : c.code = cc) (hr : meth.sig.returnType = some ty) (hn : narrow ty (.int v) = .int v) (hlk : meth.locks = false) (hP : va_P D vwCl w1 H) (hK : va_K D vwCl (kk_T kA) s) (hD : va_D A w1) (hS : va_S A s.heap H locs) (hdg : decode cc pc = .ok (.ireturn, 1)) :
    W p l e R s m args below meth c H locs cells slots (vx_MQ below (mx_Q D kA A 0 (some (.int v)) w1) (mx_X D kA A 0 w1) args s mc ms A) (F0 m pc ls [.int v]) :=
  W.widen hc hs (vx_ret (W.zret hx hb hr hn (fun t ht hW => ⟨rfl, ⟨rfl, by rw [ht]; exact hP, va_K.moved hW.alike hK, hD⟩, hS.F ht⟩) hS.2.2 hdg hlk))
theorem mx_retf {v : UInt32} (hc : cells ≤ mc) (hs : slots ≤ ms) (hx : p.tables.exec = Jvm.exec) (hb : c.code = cc) (hr : meth.sig.returnType = some .float) (hlk : meth.locks = false) (hP : va_P D vwCl w1 H) (hK : va_K D vwCl (kk_T kA) s) (hD : va_D A w1) (hS : va_S A s.heap H locs) (hdg : decode cc pc = .ok (.freturn, 1)) :
    W p l e R s m args below meth c H locs cells slots (vx_MQ below (mx_Q D kA A 0 (some (.float v)) w1) (mx_X D kA A 0 w1) args s mc ms A) (F0 m pc ls [.float v]) :=
  W.widen hc hs (vx_ret (W.fret hx hb hr (fun t ht hW => ⟨rfl, ⟨rfl, by rw [ht]; exact hP, va_K.moved hW.alike hK, hD⟩, hS.F ht⟩) hS.2.2 hdg hlk))
theorem mx_retv (hc : cells ≤ mc) (hs : slots ≤ ms) (hx : p.tables.exec = Jvm.exec) (hb : c.code = cc) (hr : meth.sig.returnType = none) (hlk : meth.locks = false) (hP : va_P D vwCl w1 H) (hK : va_K D vwCl (kk_T kA) s) (hD : va_D A w1) (hS : va_S A s.heap H locs) (hdg : decode cc pc = .ok (.return_, 1)) :
    W p l e R s m args below meth c H locs cells slots (vx_MQ below (mx_Q D kA A 0 none w1) (mx_X D kA A 0 w1) args s mc ms A) (F0 m pc ls []) :=
  W.widen hc hs (vx_ret (W.vret hx hb hr (fun t ht hW => ⟨rfl, ⟨rfl, by rw [ht]; exact hP, va_K.moved hW.alike hK, hD⟩, hS.F ht⟩) hS.2.2 hdg hlk))
theorem mx_kept {w : va_W} {H1 : Heap} (hP : va_P D vwCl w H) (h : ∀ q : Nat, q < H.size → H1[q]? = H[q]?) : va_P D vwCl w H1 := fun k q hk => (hP k q hk).kept (h q.1 (hP k q hk).lt)
/-- its own throw -/
theorem mx_throw {xc : Nat} {rv : Option Value} {own : String} {ik ic : Nat} (hxc : xc ≠ 0) (hx : p.tables.exec = Jvm.exec) (hb : c.code = cc) (hl : l.stackTraces = false) (hown : s.vm.findClass own = some m.cls) (hcls : Bundle.fit (mx_n xc) = true)
    (hk : (Cond.classLink own ik (mx_n xc)).before args s = true) (hini : (Cond.initialized (mx_n xc)).before args s = true) (hat : ∀ w ∈ vx_at0 own ic (mx_n xc) ["java/lang/RuntimeException", "java/lang/Exception"], w.before args s = true)
    (hgood : ∀ w ∈ Cond.classLink own ik (mx_n xc) :: Cond.initialized (mx_n xc) :: vx_at0 own ic (mx_n xc) ["java/lang/RuntimeException", "java/lang/Exception"], vx_ot w = true)
    (hZ : mx_S zz A s s.heap) (hS : va_S A s.heap H locs) (hsize : ls.size = c.maxLocals) (hP : va_P D vwCl w1 H) (hK : va_K D vwCl (kk_T kA) s) (hD : va_D A w1)
    (d0 : decode cc pc = .ok (.new ik, 3)) (d3 : decode cc (pc + 3) = .ok (.dup, 1)) (d4 : decode cc (pc + 4) = .ok (.invokespecial ic, 3)) (d7 : decode cc (pc + 7) = .ok (.athrow, 1))
    (hx0 : ∀ x ∈ c.exceptionTable.toList, False) (hRf : 5 < R.frames) (hRl : (rest.map fun v => v.category).sum + 81 ≤ R.locals) (hRc : cells + 1 ≤ R.cells) (hRs : slots + 6 ≤ R.slots) (hlk : meth.locks = false) (hc : cells + 1 ≤ mc) (hs : slots + 6 ≤ ms) :
    W p l e R s m args below meth c H locs cells slots (vx_MQ below (mx_Q D kA A xc rv w1) (mx_X D kA A xc w1) args s mc ms A) (F0 m pc ls rest) :=
  vx_throw0 hx hb hl hown hcls (by decide) hk hini hat hgood hZ.1 hZ.2.1 hS hsize d0 d3 d4 d7 (fun x h => (hx0 x h).elim) hRf hRl hRc hRs hlk
    (fun t hv hz hq => ⟨⟨hxc, rfl, mx_kept hP hq, va_K.moved hv hK, hD⟩, Nat.le_trans hS.1 hz, fun q h1 h2 => by rw [hq q (Nat.lt_of_lt_of_le h1 hS.1)]; exact hS.2.1 q h1 h2⟩) hS.2.2 hc hs
variable {Ts wsY : List Cond} {nL maxL index n : Nat} {own C : String} {y : MethodName} {bytes : ByteArray} {ret : Option FieldType} {rm : Room} {b : Addr} {As : List Value} {ws wc wr w2 : va_W} {rv : Option Value} {xc : Nat}
theorem mx_pre {a : List Value} {isC : List Nat} (hK : va_K D vwCl (kk_T kA) s) (hP : va_P D vwCl ws H) (hD : va_D A ws) (hS : va_S A s.heap H locs) (hA : ∀ q, s.heap.size ≤ q → A q) (hZ : mx_S zz A s s.heap) (hC : isC.map (fun i => ws[i]?) = wc.map some) (hndC : va_nd isC = true) (U : State) (hU : U.heap = H) (hW : s.WarmedH U.vm) : mx_P zz D kA H.size a wc a.toArray U := by
  have hps : isC.filterMap (fun i => ws[i]?) = wc := by
    have := congrArg (List.filterMap id) hC
    simpa [List.filterMap_map] using this
  have hPc := hP.sub isC hps
  have hDc := hD.sub isC hndC hC
  have hF := va_free (wc := wc) hD hS hA isC hC
  refine ⟨rfl, by rw [hU], by rw [hU]; exact hPc, va_K.moved hW.alike hK, hDc.weaken (fun _ _ _ _ => trivial), ?_, ?_, ?_⟩
  · rw [hU]; exact vx_Zq.moved hW.alike ((hZ.1.kept hS.2.1).narrow hF)
  · rw [hU]; exact vx_Zq.moved hW.alike ((hZ.2.1.kept hS.2.1).narrow hF)
  · rw [hU]; exact st_S.moved hW.alike (fun _ _ _ _ h => vk_R.warm hW h) (fun h => st_W.warm hW h) ((hZ.2.2.kept hS.2.1).narrow hF)
/-- behind a call that may throw -/
theorem mx_after {a : Array Value} {st0 : List Value} (hr : vx_Run p l e R s m args below meth c H locs cells slots rm.cells rm.slots (F0 m pc ls st0) rest (mx_Q D kA (va_A wc H.size) xc rv w1 a) (mx_X D kA (va_A wc H.size) xc w1) (va_A wc H.size))
    (hP : va_P D vwCl ws H) (hD : va_D A ws) (hS : va_S A s.heap H locs) (hA : ∀ q, s.heap.size ≤ q → A q) (isC isR perm : List Nat) (hC : isC.map (fun i => ws[i]?) = wc.map some) (hR : isR.map (fun i => ws[i]?) = wr.map some) (hnd : va_nd isR = true) (hdis : ∀ i ∈ isR, i ∉ isC)
    (hperm : perm.map (fun i => (wr ++ w1)[i]?) = w2.map some) (hndp : va_nd perm = true)
    (kx : xc ≠ 0 → ∀ (H1 : Heap) (locs1 : List Loc) (q9 : Addr) (ce : Cell), va_P D vwCl w2 H1 → va_D A w2 → va_S A s.heap H1 locs1 → H1[q9]? = some ce → ce.vm = .none → s.vm.findClass (mx_n xc) = some ce.cls → vx_W p l e R s m args below meth c H1 locs1 (cells + rm.cells) (slots + rm.slots) Q (F0 m pc ls rest) q9)
    (kk : xc = 0 → ∀ (H1 : Heap) (locs1 : List Loc), va_P D vwCl w2 H1 → va_D A w2 → va_S A s.heap H1 locs1 → W p l e R s m args below meth c H1 locs1 (cells + rm.cells) (slots + rm.slots) Q (F0 m (pc + 3) ls (rv.toList ++ rest))) : W p l e R s m args below meth c H locs cells slots Q (F0 m pc ls st0) := by
  have hF := va_free (wc := wc) hD hS hA isC hC
  have hps : perm.filterMap (fun i => (wr ++ w1)[i]?) = w2 := by
    have := congrArg (List.filterMap id) hperm
    simpa [List.filterMap_map] using this
  intro T hT X
  rcases hr T hT X with ⟨v, st₀, t, T', L, h0, X', hL, e1, e2, ⟨h00, ⟨hv, hP1, -, hD1⟩, hz, hk⟩, st⟩ | ⟨q, st₀, t, T', L, E, ce, h0, X', hL, e1, e2, ⟨⟨hx0, hE, hP1, -, hD1⟩, hz, hk⟩, hce, hcv, hcl, st⟩
  · cases hv
    rw [h0] at hz hk
    rw [← e1] at hP1
    obtain ⟨hP2, hD2⟩ := va_join (wr := wr) (w1 := w1) hP hD isC isR hC hR hnd hdis (fun q h1 h2 => by rw [e1]; exact hk q h1 h2) hF hP1 hD1
    obtain ⟨t2, a1, b1⟩ := kk h00 T'.heap (locs ++ L) (hP2.sub perm hps) (hD2.sub perm hndp hperm)
      ⟨Nat.le_trans hS.1 (by rw [e1]; exact hz), fun q h1 h2 => by rw [e1, hk q (Nat.lt_of_lt_of_le h1 hS.1) (fun z => h2 (hF q z))]; exact hS.2.1 q h1 h2, fun q hq => by
        rcases List.mem_append.mp hq with h | h
        · exact hS.2.2 q h
        · exact hF _ (hL q h)⟩ T' rfl X'
    exact ⟨t2, st t2 a1, b1⟩
  · subst hE
    rw [h0] at hz hk
    rw [← e1] at hP1 hce
    obtain ⟨hP2, hD2⟩ := va_join (wr := wr) (w1 := w1) hP hD isC isR hC hR hnd hdis (fun q h1 h2 => by rw [e1]; exact hk q h1 h2) hF hP1 hD1
    obtain ⟨t2, a1, b1⟩ := kx hx0 T'.heap (locs ++ L) q ce (hP2.sub perm hps) (hD2.sub perm hndp hperm)
      ⟨Nat.le_trans hS.1 (by rw [e1]; exact hz), fun q h1 h2 => by rw [e1, hk q (Nat.lt_of_lt_of_le h1 hS.1) (fun z => h2 (hF q z))]; exact hS.2.1 q h1 h2, fun q hq => by
        rcases List.mem_append.mp hq with h | h
        · exact hS.2.2 q h
        · exact hF _ (hL q h)⟩ hce hcv hcl T' rfl X'
    exact ⟨t2, st.trans a1, b1⟩
theorem mx_callV (S : CallFix p m c cc nL s args Ts own) (hM : mx_C l zz D kA y wsY rm (.ref b :: As) wc xc rv w1) (cw : CallW R s args own C index y bytes maxL ret wsY rm rm.cells rm.slots n)
    {ci q0 : Nat} {T : u_T} {N : Nat} {fs : List Value} (hci : vwCl[ci]? = some (C, T, N)) (hrc : wc[q0]? = some (b, .inr (ci, fs)))
    (hn : As.length = n) (hsize : ls.size = nL) {st0 : List Value} (hst : st0 = As.reverse ++ .ref b :: rest) (hW : (rest.map fun v => v.category).sum ≤ 8) (hdg : decode cc pc = .ok (.invokevirtual index, 3)) (hf : cells + rm.cells ≤ R.cells ∧ slots + rm.slots ≤ R.slots)
    (hK : va_K D vwCl (kk_T kA) s) (hP : va_P D vwCl ws H) (hD : va_D A ws) (hS : va_S A s.heap H locs) (hA : ∀ q, s.heap.size ≤ q → A q) (hZ : mx_S zz A s s.heap) (isC isR perm : List Nat) (hC : isC.map (fun i => ws[i]?) = wc.map some) (hndC : va_nd isC = true) (hR : isR.map (fun i => ws[i]?) = wr.map some) (hnd : va_nd isR = true) (hdis : ∀ i ∈ isR, i ∉ isC)
    (hperm : perm.map (fun i => (wr ++ w1)[i]?) = w2.map some) (hndp : va_nd perm = true)
    (kx : xc ≠ 0 → ∀ (H1 : Heap) (locs1 : List Loc) (q9 : Addr) (ce : Cell), va_P D vwCl w2 H1 → va_D A w2 → va_S A s.heap H1 locs1 → H1[q9]? = some ce → ce.vm = .none → s.vm.findClass (mx_n xc) = some ce.cls → vx_W p l e R s m args below meth c H1 locs1 (cells + rm.cells) (slots + rm.slots) Q (F0 m pc ls rest) q9)
    (kk : xc = 0 → ∀ (H1 : Heap) (locs1 : List Loc), va_P D vwCl w2 H1 → va_D A w2 → va_S A s.heap H1 locs1 → W p l e R s m args below meth c H1 locs1 (cells + rm.cells) (slots + rm.slots) Q (F0 m (pc + 3) ls (rv.toList ++ rest))) : W p l e R s m args below meth c H locs cells slots Q (F0 m pc ls st0) := by
  subst hst
  have hps : isC.filterMap (fun i => ws[i]?) = wc := by
    have := congrArg (List.filterMap id) hC
    simpa [List.filterMap_map] using this
  exact mx_after (vx_runV S (hM H.size) cw ⟨mx_blind, va_recv hK (hP.sub isC hps) hci hrc, fun U hU hW => mx_pre hK hP hD hS hA hZ hC hndC U hU hW⟩ rfl hn hsize rfl (lv_room hW) hdg hf) hP hD hS hA isC isR perm hC hR hnd hdis hperm hndp kx kk
theorem mx_callR (S : CallFix p m c cc nL s args Ts own) (hM : mx_C l zz D kA y wsY rm (.ref b :: As) wc xc rv w1) (cw : CallW R s args own C index y bytes maxL ret wsY rm rm.cells rm.slots n)
    (hrv : ∃ cell : Cell, H[b]? = some cell ∧ cell.vm.isStatics = false ∧ s.vm.findClass C = some cell.cls)
    (hn : As.length = n) (hsize : ls.size = nL) {st0 : List Value} (hst : st0 = As.reverse ++ .ref b :: rest) (hW : (rest.map fun v => v.category).sum ≤ 8) (hdg : decode cc pc = .ok (.invokevirtual index, 3)) (hf : cells + rm.cells ≤ R.cells ∧ slots + rm.slots ≤ R.slots)
    (hK : va_K D vwCl (kk_T kA) s) (hP : va_P D vwCl ws H) (hD : va_D A ws) (hS : va_S A s.heap H locs) (hA : ∀ q, s.heap.size ≤ q → A q) (hZ : mx_S zz A s s.heap) (isC isR perm : List Nat) (hC : isC.map (fun i => ws[i]?) = wc.map some) (hndC : va_nd isC = true) (hR : isR.map (fun i => ws[i]?) = wr.map some) (hnd : va_nd isR = true) (hdis : ∀ i ∈ isR, i ∉ isC)
    (hperm : perm.map (fun i => (wr ++ w1)[i]?) = w2.map some) (hndp : va_nd perm = true)
    (kx : xc ≠ 0 → ∀ (H1 : Heap) (locs1 : List Loc) (q9 : Addr) (ce : Cell), va_P D vwCl w2 H1 → va_D A w2 → va_S A s.heap H1 locs1 → H1[q9]? = some ce → ce.vm = .none → s.vm.findClass (mx_n xc) = some ce.cls → vx_W p l e R s m args below meth c H1 locs1 (cells + rm.cells) (slots + rm.slots) Q (F0 m pc ls rest) q9)
    (kk : xc = 0 → ∀ (H1 : Heap) (locs1 : List Loc), va_P D vwCl w2 H1 → va_D A w2 → va_S A s.heap H1 locs1 → W p l e R s m args below meth c H1 locs1 (cells + rm.cells) (slots + rm.slots) Q (F0 m (pc + 3) ls (rv.toList ++ rest))) : W p l e R s m args below meth c H locs cells slots Q (F0 m pc ls st0) := by
  subst hst
  exact mx_after (vx_runV S (hM H.size) cw ⟨mx_blind, hrv, fun U hU hW => mx_pre hK hP hD hS hA hZ hC hndC U hU hW⟩ rfl hn hsize rfl (lv_room hW) hdg hf) hP hD hS hA isC isR perm hC hR hnd hdis hperm hndp kx kk
theorem mx_callU {owner : String} {x : MethodName} (S : CallFix p m c cc nL s args Ts own) (hM : mx_C l zz D kA y wsY rm (.ref b :: As) wc xc rv w1) (cw : va_CU R s args own C owner index x y bytes maxL ret wsY rm rm.cells rm.slots n)
    (hrv : ∃ cell : Cell, H[b]? = some cell ∧ cell.vm.isStatics = false ∧ s.vm.findClass C = some cell.cls)
    (hn : As.length = n) (hsize : ls.size = nL) {st0 : List Value} (hst : st0 = As.reverse ++ .ref b :: rest) (hW : (rest.map fun v => v.category).sum ≤ 8) (hdg : decode cc pc = .ok (.invokevirtual index, 3)) (hf : cells + rm.cells ≤ R.cells ∧ slots + rm.slots ≤ R.slots)
    (hK : va_K D vwCl (kk_T kA) s) (hP : va_P D vwCl ws H) (hD : va_D A ws) (hS : va_S A s.heap H locs) (hA : ∀ q, s.heap.size ≤ q → A q) (hZ : mx_S zz A s s.heap) (isC isR perm : List Nat) (hC : isC.map (fun i => ws[i]?) = wc.map some) (hndC : va_nd isC = true) (hR : isR.map (fun i => ws[i]?) = wr.map some) (hnd : va_nd isR = true) (hdis : ∀ i ∈ isR, i ∉ isC)
    (hperm : perm.map (fun i => (wr ++ w1)[i]?) = w2.map some) (hndp : va_nd perm = true)
    (kx : xc ≠ 0 → ∀ (H1 : Heap) (locs1 : List Loc) (q9 : Addr) (ce : Cell), va_P D vwCl w2 H1 → va_D A w2 → va_S A s.heap H1 locs1 → H1[q9]? = some ce → ce.vm = .none → s.vm.findClass (mx_n xc) = some ce.cls → vx_W p l e R s m args below meth c H1 locs1 (cells + rm.cells) (slots + rm.slots) Q (F0 m pc ls rest) q9)
    (kk : xc = 0 → ∀ (H1 : Heap) (locs1 : List Loc), va_P D vwCl w2 H1 → va_D A w2 → va_S A s.heap H1 locs1 → W p l e R s m args below meth c H1 locs1 (cells + rm.cells) (slots + rm.slots) Q (F0 m (pc + 3) ls (rv.toList ++ rest))) : W p l e R s m args below meth c H locs cells slots Q (F0 m pc ls st0) := by
  subst hst
  exact mx_after (vx_runU S (hM H.size) cw ⟨mx_blind, hrv, fun U hU hW => mx_pre hK hP hD hS hA hZ hC hndC U hU hW⟩ rfl hn hsize rfl (lv_room hW) hdg hf) hP hD hS hA isC isR perm hC hR hnd hdis hperm hndp kx kk
theorem mx_callS (S : CallFix p m c cc nL s args Ts own) (hM : mx_C l zz D kA y wsY rm As wc xc rv w1) (cw : (CallB R s args own index y bytes maxL ret wsY rm rm.cells rm.slots n ∧ (Cond.static y).before args s = true))
        (hn : As.length = n) (hsize : ls.size = nL) {st0 : List Value} (hst : st0 = As.reverse ++ rest) (hW : (rest.map fun v => v.category).sum ≤ 8) (hdg : decode cc pc = .ok (.invokestatic index, 3)) (hf : cells + rm.cells ≤ R.cells ∧ slots + rm.slots ≤ R.slots)
    (hK : va_K D vwCl (kk_T kA) s) (hP : va_P D vwCl ws H) (hD : va_D A ws) (hS : va_S A s.heap H locs) (hA : ∀ q, s.heap.size ≤ q → A q) (hZ : mx_S zz A s s.heap) (isC isR perm : List Nat) (hC : isC.map (fun i => ws[i]?) = wc.map some) (hndC : va_nd isC = true) (hR : isR.map (fun i => ws[i]?) = wr.map some) (hnd : va_nd isR = true) (hdis : ∀ i ∈ isR, i ∉ isC)
    (hperm : perm.map (fun i => (wr ++ w1)[i]?) = w2.map some) (hndp : va_nd perm = true)
    (kx : xc ≠ 0 → ∀ (H1 : Heap) (locs1 : List Loc) (q9 : Addr) (ce : Cell), va_P D vwCl w2 H1 → va_D A w2 → va_S A s.heap H1 locs1 → H1[q9]? = some ce → ce.vm = .none → s.vm.findClass (mx_n xc) = some ce.cls → vx_W p l e R s m args below meth c H1 locs1 (cells + rm.cells) (slots + rm.slots) Q (F0 m pc ls rest) q9)
    (kk : xc = 0 → ∀ (H1 : Heap) (locs1 : List Loc), va_P D vwCl w2 H1 → va_D A w2 → va_S A s.heap H1 locs1 → W p l e R s m args below meth c H1 locs1 (cells + rm.cells) (slots + rm.slots) Q (F0 m (pc + 3) ls (rv.toList ++ rest))) : W p l e R s m args below meth c H locs cells slots Q (F0 m pc ls st0) := by
  subst hst
  exact mx_after (vx_runS S (hM H.size) cw ⟨mx_blind, fun U hU hW => mx_pre hK hP hD hS hA hZ hC hndC U hU hW⟩ rfl hn hsize rfl (lv_room hW) hdg hf) hP hD hS hA isC isR perm hC hR hnd hdis hperm hndp kx kk
theorem mx_reta {v : Option Nat} {ty : FieldType} (hc : cells ≤ mc) (hs : slots ≤ ms) (hx : p.tables.exec = Jvm.exec) (hb : c.code = cc) (hr : meth.sig.returnType = some ty) (hty : ∃ n, ty = FieldType.object n) (hlk : meth.locks = false) (hP : va_P D vwCl w1 H) (hK : va_K D vwCl (kk_T kA) s) (hD : va_D A w1) (hS : va_S A s.heap H locs) (hdg : decode cc pc = .ok (.areturn, 1)) :
    W p l e R s m args below meth c H locs cells slots (vx_MQ below (mx_Q D kA A 0 (some (va_rf v)) w1) (mx_X D kA A 0 w1) args s mc ms A) (F0 m pc ls [va_rf v]) :=
  W.widen hc hs (vx_ret (W.aret hx hb hr (Or.inl hty) (by cases v with | none => exact Or.inl rfl | some a => exact Or.inr ⟨a, rfl⟩) (fun t ht hW => ⟨rfl, ⟨rfl, by rw [ht]; exact hP, va_K.moved hW.alike hK, hD⟩, hS.F ht⟩) hS.2.2 hdg hlk))
/-- a throw of a callee goes on to the caller -/
theorem mx_out {q9 : Addr} {ce : Cell} (hxc : xc ≠ 0) (hx0 : ∀ x ∈ c.exceptionTable.toList, False) (hlk : meth.locks = false) (hP : va_P D vwCl w1 H) (hK : va_K D vwCl (kk_T kA) s) (hD : va_D A w1) (hS : va_S A s.heap H locs) (h1 : H[q9]? = some ce) (h2 : ce.vm = .none) (h3 : s.vm.findClass (mx_n xc) = some ce.cls) (hc : cells ≤ mc) (hs : slots ≤ ms) :
    vx_W p l e R s m args below meth c H locs cells slots (vx_MQ below (mx_Q D kA A xc rv w1) (mx_X D kA A xc w1) args s mc ms A) (F0 m pc ls rest) q9 :=
  vx_out (fun x h => (hx0 x h).elim) hlk h1 h2 h3 (fun t ht hv => ⟨⟨hxc, rfl, by rw [ht]; exact hP, va_K.moved hv hK, hD⟩, hS.F ht⟩) hS.2.2 hc hs
end MxRows
/-! METHODS WITH HANDLERS: they return, whatever their callee does -/
abbrev os_n64 (r : UInt64) : Prop := r &&& 9223372036854775807 ≤ 9218868437227405312
def mh_C (l : Launch) (zz : Nat → Nat → Nat) (D : va_G) (kA : Nat → ClassId) (y : MethodName) (ws : List Cond) (rm : Room) (av : List Value) (wc : va_W) (rv : Option Value) (w1 : va_W) : Prop :=
  ∀ sz : Nat, Met l y ws rm (mx_P zz D kA sz av wc) (mc_Q D kA (va_A wc sz) rv w1) rm.cells rm.slots (va_A wc sz)
theorem mh_of {l : Launch} {zz : Nat → Nat → Nat} {D : va_G} {kA : Nat → ClassId} {y : MethodName} {ws ws' : List Cond} {rm : Room} {av : List Value} {wc w1 : va_W} {rv : Option Value} {cc : ByteArray} {maxL : Nat} {ret : Option FieldType} {hh : List (Nat × Nat × Nat × Nat)}
    (hy : plainName y.cls = true) (hw : ws = Cond.codeWith y cc maxL ret hh :: ws') (hn : (lg_sl av).length ≤ maxL)
    (body : ∀ (p : Program) (e : Env) (s : State) (m : MethodId) (below : List Frame) (meth : Method) (c : Code) (A : Nat → Prop), mc_B p s m meth c D kA A y ws cc maxL ret av → c.exceptionTable.toList = tableOf hh → mx_S zz A s s.heap → va_D A wc → va_P D vwCl wc s.heap → va_S A s.heap s.heap [] → ∀ ls, lv_has ls maxL (lv_args 0 av) →
      W p l e rm s m av.toArray below meth c s.heap [] 0 0 (MQ below (mc_Q D kA A rv w1) av.toArray s rm.cells rm.slots A) (F0 m 0 ls [])) : mh_C l zz D kA y ws rm av wc rv w1 := by
  intro sz
  refine va_MetW (cc := cc) (maxL := maxL) (ret := ret) (hh := hh) hy hw ?_
  intro p e s m args below meth c s₁ B hml hv
  have hts := atoms_spec (ws := ws) B.pre
  obtain ⟨rfl, hsz, hP, hK, hD0, hZ⟩ := hv
  subst hsz
  have hex := vx_table (x := y) B (hts _ (by rw [hw]; exact List.mem_cons_self))
  rw [lg_entry_eq]
  exact body p e s m below meth c _ ⟨B.exec, B.bytes, B.returns, B.notSynchronized, hml, findClass_of_methodNamed B.named, hts, hK, fun q h => Or.inr h, (name_of_methodNamed B.named B.method).1⟩ hex hZ hD0.self hP va_S.rf _ (lv_entry av hn)
section MhRows
variable {p : Program} {l : Launch} {e : Env} {R : Room} {s : State} {m : MethodId} {args : Array Value} {below : List Frame} {meth : Method} {c : Code} {H : Heap} {locs : List Loc} {cells slots mc ms : Nat} {Q : State → Prop}
variable {zz : Nat → Nat → Nat} {cc : ByteArray} {pc : Nat} {ls : Array Slot} {rest : List Value} {D : va_G} {kA : Nat → ClassId} {A : Nat → Prop} {w1 : va_W}
variable {Ts wsY : List Cond} {nL maxL index n : Nat} {own C : String} {y : MethodName} {bytes : ByteArray} {ret : Option FieldType} {rm : Room} {b : Addr} {As : List Value} {ws wc wr w2 : va_W} {rv : Option Value} {xc : Nat}
theorem mh_callS {hh : List (Nat × Nat × Nat × Nat)} (S : CallFix p m c cc nL s args Ts own) (hM : mh_C l zz D kA y wsY rm As wc rv w1) (cw : vx_CSW R s args own index y bytes maxL ret hh wsY rm rm.cells rm.slots n)
        (hn : As.length = n) (hsize : ls.size = nL) {st0 : List Value} (hst : st0 = As.reverse ++ rest) (hW : (rest.map fun v => v.category).sum ≤ 8) (hdg : decode cc pc = .ok (.invokestatic index, 3)) (hf : cells + rm.cells ≤ R.cells ∧ slots + rm.slots ≤ R.slots)
    (hK : va_K D vwCl (kk_T kA) s) (hP : va_P D vwCl ws H) (hD : va_D A ws) (hS : va_S A s.heap H locs) (hA : ∀ q, s.heap.size ≤ q → A q) (hZ : mx_S zz A s s.heap) (isC isR perm : List Nat) (hC : isC.map (fun i => ws[i]?) = wc.map some) (hndC : va_nd isC = true) (hR : isR.map (fun i => ws[i]?) = wr.map some) (hnd : va_nd isR = true) (hdis : ∀ i ∈ isR, i ∉ isC)
    (hperm : perm.map (fun i => (wr ++ w1)[i]?) = w2.map some) (hndp : va_nd perm = true)
    (kk : ∀ (H1 : Heap) (locs1 : List Loc), va_P D vwCl w2 H1 → va_D A w2 → va_S A s.heap H1 locs1 → W p l e R s m args below meth c H1 locs1 (cells + rm.cells) (slots + rm.slots) Q (F0 m (pc + 3) ls (rv.toList ++ rest))) : W p l e R s m args below meth c H locs cells slots Q (F0 m pc ls st0) := by
  subst hst
  exact mc_after (vx_runSW S (hM H.size) cw ⟨mx_blind, fun U hU hW => mx_pre hK hP hD hS hA hZ hC hndC U hU hW⟩ rfl hn hsize rfl (lv_room hW) hdg hf) hP hD hS hA isC isR perm hC hR hnd hdis hperm hndp kk
end MhRows
