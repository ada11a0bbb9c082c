theorem idx_bare2 (vm : Vm) (comp : ClassId) : (vm.bare.classes.findIdx? fun (x : Class) => match x.kind with | .array component _ => component == comp | _ => false) = (vm.classes.findIdx? fun (x : Class) => match x.kind with | .array component _ => component == comp | _ => false) := by
  simp only [Vm.bare, Array.findIdx?_map]
  rfl
/-- arrays of arrays of t: the word, of a state -/
def aoa (t : FieldType) (U : State) : Prop := (Cond.arrayOver (.array t)).before #[] U = true
theorem aoa.moved {t : FieldType} {u U : State} (hvm : u.vm.Alike U.vm) (h : aoa t u) : aoa t U := by
  obtain ⟨comp, c, k, h1, h2, h3, h4, h5⟩ := arrayOverA_spec h
  obtain ⟨k', hk', he⟩ := hvm.2.2 _ _ h3
  have hi : (U.vm.classes.findIdx? fun (x : Class) => match x.kind with | .array component _ => component == comp | _ => false) = some c := by
    rw [← idx_bare2]
    first | rw [hvm.bare_eq] | rw [← hvm.bare_eq]
    rw [idx_bare2]
    exact h2
  have hkind : k'.kind = .array comp (.array t) := by rw [he]; exact h4
  have f1 : U.vm.findClass (FieldType.array t).toString = some comp := by rw [hvm.findClass]; exact h1
  have f2 : U.vm.findClass ("[" ++ (FieldType.array t).toString) = some c := by rw [hvm.findClass]; exact h5
  unfold aoa Cond.before Cond.holds
  simp only [Cond.value]
  rw [f1, Option.bind_some]
  refine (congrArg (fun o : Option Nat => (o.bind (fun c => (U.vm.classes[c]?).map fun (k : Class) => match k.kind with | .array _ ty => decide (ty = FieldType.array t) && decide (U.vm.findClass ("[" ++ (FieldType.array t).toString) = some c) | _ => false) == some true)) hi).trans ?_
  simp [hk', hkind, f2]
def N4 (U : State) : Prop := aoa .long U ∧ aoa .int U
theorem N4.call (a : Array Value) (U : State) (g : JFrame) (mk : MethodId) (h : N4 U) : N4 (U.calling g mk a) := ⟨aoa.moved (u := U) (U := U.calling g mk a) (Vm.Alike.refl U.vm) h.1, aoa.moved (u := U) (U := U.calling g mk a) (Vm.Alike.refl U.vm) h.2⟩
theorem N4.warm {s U : State} (h : N4 s) (hW : s.WarmedH U.vm) : N4 U := ⟨aoa.moved hW.alike h.1, aoa.moved hW.alike h.2⟩
