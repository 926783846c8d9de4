abbrev vwCl : List vw_C := [(RJ0, TJ0, 4), (RJ4, TJ4, 4), (RX3, TX3, 3), (RX4, TX4, 4), (RX5, TX5, 10), (RX6, TX6, 1), (RX7, TX7, 8), (RX8, TX8, 7), (RX10, TX10, 11), (RX11, TX11, 1), (RX12, TX12, 15), (RX13, TX13, 13)]
/-! The state of an object: its int fields by place, its long fields, its int-like arrays, its float arrays, its arrays of references -/
abbrev os_T : Type := (Nat → Int32) × (Nat → Int64) × (Nat → Nat → Int32) × (Nat → Nat → UInt32) × (Nat → Nat → Option Nat)
def os_u {α : Type} (f : Nat → α) (k : Nat) (v : α) : Nat → α := fun j => bif Nat.beq j k then v else f j
abbrev os_I (o : os_T) (k : Nat) : Int32 := o.1 k
abbrev os_L (o : os_T) (k : Nat) : Int64 := o.2.1 k
abbrev os_A (o : os_T) (j : Nat) : Nat → Int32 := o.2.2.1 j
abbrev os_F (o : os_T) (j : Nat) : Nat → UInt32 := o.2.2.2.1 j
abbrev os_R (o : os_T) (j : Nat) : Nat → Option Nat := o.2.2.2.2 j
abbrev ss_I (o : os_T) (k : Nat) (v : Int32) : os_T := (os_u o.1 k v, o.2)
abbrev ss_L (o : os_T) (k : Nat) (v : Int64) : os_T := (o.1, os_u o.2.1 k v, o.2.2)
abbrev ss_A (o : os_T) (j : Nat) (f : Nat → Int32) : os_T := (o.1, o.2.1, os_u o.2.2.1 j f, o.2.2.2)
abbrev ss_F (o : os_T) (j : Nat) (f : Nat → UInt32) : os_T := (o.1, o.2.1, o.2.2.1, os_u o.2.2.2.1 j f, o.2.2.2.2)
abbrev ss_R (o : os_T) (j : Nat) (f : Nat → Option Nat) : os_T := (o.1, o.2.1, o.2.2.1, o.2.2.2.1, os_u o.2.2.2.2 j f)
abbrev os_in (i : Int32) (n : Nat) : Prop := ¬ (i < 0 ∨ n ≤ i.toNatClampNeg)
abbrev os_nn (r : UInt32) : Prop := r &&& 0x7fffffff ≤ 0x7f800000
abbrev os_z (v : Int32) : Prop := v = 0 ∨ v = 1
theorem os_z_n {v : Int32} (h : os_z v) : narrow .boolean (.int v) = .int v := by rcases h with rfl | rfl <;> rfl
theorem os_z_f {v : Int32} (h : os_z v) : fits .boolean (.int v) = true := by rcases h with rfl | rfl <;> rfl
theorem os_if {c : Prop} [Decidable c] {α : Type} {x : Option α} {y : α} (h : (if c then x else none) = some y) : c ∧ x = some y := by
  by_cases hc : c
  · rw [if_pos hc] at h; exact ⟨hc, h⟩
  · rw [if_neg hc] at h; cases h
theorem os_bd {α β : Type} {x : Option α} {k : α → Option β} {y : β} (h : x.bind k = some y) : ∃ r, x = some r ∧ k r = some y := by
  cases x with
  | none => cases h
  | some r => exact ⟨r, rfl, h⟩
/-- a loop with fuel: the step is given the rest of the loop -/
def os_loop {S α : Type} (step : (S → Option α) → S → Option α) : Nat → S → Option α
  | 0, _ => none
  | n + 1, s => step (os_loop step n) s
theorem va_AOA.moved {ty : FieldType} {u U : State} (hvm : u.vm.Alike U.vm) (h : va_AOA ty u) : va_AOA ty U := by
  obtain ⟨comp, c, k, h1, h2, h3, h4, h5⟩ := arrayOverA_spec h
  obtain ⟨k', hk', he⟩ := hvm.2.2 _ _ h3
  have hi : (U.vm.classes.findIdx? fun (x : Class) => match x.kind with | .array component _ => component == comp | _ => false) = some c := by
    rw [hvm.findIdx?_eq _ (fun _ => rfl)]
    exact h2
  have hkind : k'.kind = .array comp (.array ty) := by rw [he]; exact h4
  have f1 : U.vm.findClass (FieldType.array ty).toString = some comp := by rw [hvm.findClass]; exact h1
  have f2 : U.vm.findClass ("[" ++ (FieldType.array ty).toString) = some c := by rw [hvm.findClass]; exact h5
  unfold va_AOA Cond.before Cond.holds
  simp only [Cond.value]
  rw [f1, Option.bind_some]
  refine (congrArg (fun o : Option Nat => (o.bind (fun c => (U.vm.classes[c]?).map fun (k : Class) => match k.kind with | .array _ ty' => decide (ty' = FieldType.array ty) && decide (U.vm.findClass ("[" ++ (FieldType.array ty).toString) = some c) | _ => false) == some true)) hi).trans ?_
  simp [hk', hkind, f2]
