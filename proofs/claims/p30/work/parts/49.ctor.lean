/-! making cells -/
def z0 : Int → Int := fun _ => 0
theorem va_RA.nm {s : State} {cA : ClassId} {ty : FieldType} (h : va_RA s cA ty) : s.vm.findClass ("[" ++ ty.toString) = some cA := by
  cases ty with
  | object C =>
    obtain ⟨kA, comp, h1, h2, h3, h4⟩ := h
    exact h4
  | _ => exact h
theorem va_RA.uniq {s : State} {a b : ClassId} {ty : FieldType} (h : va_RA s a ty) (h' : va_RA s b ty) : a = b := Option.some.inj (h.nm.symm.trans h'.nm)
section CT
variable {p : Program} {l : Launch} {e : Env} {R : Room} {s : State} {m : MethodId} {args : Array Value} {below : List Frame} {meth : Method} {c : Code} {H : Heap} {locs : List Loc} {cells slots : Nat} {Q : State → Prop}
variable {cc : ByteArray} {pc : Nat} {ls : Array Slot} {rest : List Value} {D : va_G} {cl : List vw_C} {A : Nat → Prop} {a : Nat} {tys : List (ClassId × FieldType)} {ws : va_W} {H0 : Heap}
/-- a new array, of the class that the tables' list already holds -/
theorem c_newa (hexec : p.tables.exec = Jvm.exec) (hb : c.code = cc) {atype : ArrayType} (harr : (Cond.arrayClass (newarray.typeOf atype)).before args s = true) {ty : FieldType} (hty : newarray.typeOf atype = ty) (hK : va_K D cl tys s) (hP : va_P D cl ws H) (hD : va_D A ws) (hS : va_S A H0 H locs) (hA : ∀ q, H0.size ≤ q → A q) (t0 : Nat) {cT : ClassId} (ht : tys[t0]? = some (cT, ty))
    {n : Int32} {N' : Nat} {a0 : vp_A} (ha : ∀ cA : ClassId, vp_cell cA a0 = arrV cA N' (fun _ => defaultValue ty)) (hn : ¬ n < 0) (hN : n.toNatClampNeg = N') (hbytes : N' * componentBytes ty ≤ 536870912) (hcells : cells + 1 ≤ R.cells) (hslots : slots + N' ≤ R.slots) (hdg : decode cc pc = .ok (.newarray atype, 2))
    (kk : ∀ (q : Nat) (H1 : Heap), va_P D cl (ws ++ [(q, .inl (cT, a0))]) H1 → va_D A (ws ++ [(q, .inl (cT, a0))]) → va_S A H0 H1 locs → W p l e R s m args below meth c H1 locs (cells + 1) (slots + N') Q (F0 m (pc + 2) ls (.ref q :: rest))) : W p l e R s m args below meth c H locs cells slots Q (F0 m pc ls (.int n :: rest)) := by
  refine va_newa hexec hb harr hty hK hP hD hS hA ha hn hN hbytes hcells hslots hdg (fun q cA H1 hK2 hP2 hD2 hS2 => ?_)
  have h1 := (hK2.2 tys.length (cA, ty) (by rw [List.getElem?_append_right (Nat.le_refl _)]; simp)).2
  have h2 := (hK.2 t0 _ ht).2
  have e : cA = cT := h1.uniq h2
  subst e
  exact kk q H1 hP2 hD2 hS2
end CT
def tyD (c : Nat → ClassId) : List (ClassId × FieldType) := [(c 0, .int), (c 1, .long), (c 2, .char), (c 3, .object "ShapeFits$PointRow"), (c 4, .array .long), (c 5, .array .int)]
/-- a constructor's contract: the object b with its first fields becomes the cells Wf q, at the addresses q -/
def MCt (l : Launch) (y : MethodName) (ws : List Cond) (rm : Room) (b : Nat) (As : List Value) (ci : Nat) (fs : List Value) (N : State → Prop) (D : va_G) (c : Nat → ClassId) (mc ms : Nat) (Wf : (Nat → Nat) → va_W) : Prop := ∀ sz : Nat, Met l y ws rm (va_Pc (.ref b :: As) (fun U => U.heap.size = sz ∧ va_P D vwCl [(b, .inr (ci, fs))] U.heap ∧ va_K D vwCl (tyD c) U ∧ va_D (fun _ => True) [(b, .inr (ci, fs))] ∧ N U)) (va_Qv (fun q : Nat → Nat => q 0 = b) (fun q t => va_P D vwCl (Wf q) t.heap ∧ va_K D vwCl (tyD c) t ∧ va_D (va_A [(b, .inr (ci, fs))] sz) (Wf q)) (va_A [(b, .inr (ci, fs))] sz)) mc ms (va_A [(b, .inr (ci, fs))] sz)
def gz (p : Program) (s : State) (m : MethodId) (args : Array Value) (meth : Method) (c : Code) (cc : ByteArray) (nL : Nat) (own : String) (Ts : List Cond) : Prop := gx p s m args meth c cc nL own Ts none ∧ meth.name = "<init>"
theorem c_start {l : Launch} {y : MethodName} {ws ws' : List Cond} {rm : Room} {b : Nat} {As : List Value} {ci : Nat} {fs : List Value} {N : State → Prop} {D : va_G} {cf : Nat → ClassId} {mc ms : Nat} {Wf : (Nat → Nat) → va_W} {cc : ByteArray} {nL : Nat} {own : String} (hy : plainName y.cls = true) (hw : ws = Cond.code y cc nL none :: ws') (hown : y.cls = own) (hini : y.name = "<init>") (hlen : (lg_sl (.ref b :: As)).length ≤ nL)
    (body : ∀ (p : Program) (e : Env) (s : State) (m : MethodId) (below : List Frame) (meth : Method) (c : Code) (A : Nat → Prop) (Z : State → Prop) (ls : Array Slot), gz p s m (.ref b :: As).toArray meth c cc nL own ws → (∀ (q : Nat → Nat) H locs pc ls, q 0 = b → va_P D vwCl (Wf q) H → va_D A (Wf q) → va_S A s.heap H locs → va_K D vwCl (tyD cf) s → decode cc pc = .ok (.return_, 1) → W p l e rm s m (.ref b :: As).toArray below meth c H locs mc ms Z (F0 m pc ls [])) → va_P D vwCl [(b, .inr (ci, fs))] s.heap → va_D A [(b, .inr (ci, fs))] → va_S A s.heap s.heap [] → va_K D vwCl (tyD cf) s → (∀ q : Nat, s.heap.size ≤ q → A q) → N s → lv_has ls nL (lv_args 0 (.ref b :: As)) → W p l e rm s m (.ref b :: As).toArray below meth c s.heap [] 0 0 Z (F0 m 0 ls [])) : MCt l y ws rm b As ci fs N D cf mc ms Wf := by
  intro sz
  refine Met.ofW (cc := cc) (maxL := nL) (ret := none) hy hw ?_
  intro p e s m args below meth c s₁ B hml hv
  obtain ⟨rfl, rfl, hP, hK, hD0, hN⟩ := hv
  have hts := atoms_spec (ws := ws) B.pre
  have G : gx p s m (.ref b :: As).toArray meth c cc nL own ws none := ⟨B.exec, B.bytes, hml, by rw [← hown]; exact findClass_of_methodNamed B.named, hts, B.returns, B.notSynchronized⟩
  have hin : meth.name = "<init>" := by rw [← hini]; exact (name_of_methodNamed B.named B.method).1
  have hD := hD0.self (sz := s.heap.size)
  generalize hAe : va_A [(b, (.inr (ci, fs) : va_E))] s.heap.size = A at hD
  have hA : ∀ q : Nat, s.heap.size ≤ q → A q := fun q h => by rw [← hAe]; exact Or.inr h
  have hl := lv_entry (.ref b :: As) (n := nL) hlen
  rw [lg_entry_eq]
  refine body p e s m below meth c A _ _ ⟨G, hin⟩ (fun q H locs pc ls hq hP1 hD1 hS1 hK1 hdg => ?_) hP hD va_S.rf hK hA hN hl
  exact W.vret G.1 G.2.1 G.2.2.2.2.2.1 (fun t ht hW => ⟨⟨q, rfl, hq, by rw [ht]; exact hP1, va_K.moved hW.alike hK1, hD1⟩, hS1.F ht⟩) hS1.2.2 hdg G.2.2.2.2.2.2
