/-! new T[n][k]: the outer array and behind it the inner ones -/
def mnaW (q : Nat) (cT cy : ClassId) (N : Nat) (z : vp_A) : va_W := (q, .inl (cT, N, .inr (.inr (.inr (.inr (fun i => if i < N then some (q + 1 + i) else none)))))) :: (List.range N).map (fun i => (q + 1 + i, .inl (cy, z)))
theorem mna_at {q : Nat} {cT cy : ClassId} {N : Nat} {z : vp_A} {j : Nat} {x : Nat × va_E} (h : (mnaW q cT cy N z)[j]? = some x) : x.1 = q + j ∧ (j = 0 → x.2 = .inl (cT, N, .inr (.inr (.inr (.inr (fun i => if i < N then some (q + 1 + i) else none)))))) ∧ (j ≠ 0 → j - 1 < N ∧ x.2 = .inl (cy, z)) := by
  cases j with
  | zero => cases h; exact ⟨rfl, fun _ => rfl, fun h => absurd rfl h⟩
  | succ j =>
    unfold mnaW at h
    rw [List.getElem?_cons_succ, List.getElem?_map] at h
    by_cases g : j < N
    · rw [List.getElem?_range g] at h
      cases h
      exact ⟨by show q + 1 + j = q + (j + 1); omega, fun h => by omega, fun _ => ⟨by omega, rfl⟩⟩
    · rw [List.getElem?_eq_none (by rw [List.length_range]; omega)] at h
      cases h
theorem mna_out (c : ClassId) (N h0 : Nat) : ∀ i : Nat, Jvm.Free.Multi.outerC c N h0 i = arrV c N (fun j => va_rf (if j < i then some (h0 + 1 + j) else none)) := by
  intro i
  induction i with
  | zero =>
    show ({ cls := c, slots := Array.replicate N .null, vm := .none } : Cell) = _
    rw [arrV_new]
    exact congrArg (arrV c N) (funext fun j => by simp [va_rf])
  | succ i ih =>
    show (Jvm.Free.Multi.outerC c N h0 i).setSlot i (.ref (h0 + 1 + i)) = _
    rw [ih, arrV_store]
    refine congrArg (arrV c N) (funext fun j => ?_)
    rcases Nat.lt_trichotomy j i with h | h | h
    · simp [updV, va_rf, show j ≠ i by omega, h, show j < i + 1 by omega]
    · subst h; simp [updV, va_rf]
    · simp [updV, va_rf, show j ≠ i by omega, show ¬ j < i by omega, show ¬ j < i + 1 by omega]
section CM
variable {p : Program} {l : Launch} {e : Env} {R : Room} {s : State} {m : MethodId} {args : Array Value} {below : List Frame} {meth : Method} {c : Code} {H : Heap} {locs : List Loc} {cells slots : Nat} {Q : State → Prop}
variable {cc : ByteArray} {pc : Nat} {ls : Array Slot} {rest : List Value} {D : va_G} {cl : List vw_C} {A : Nat → Prop} {a : Nat} {tys : List (ClassId × FieldType)} {ws : va_W} {H0 : Heap}
theorem c_mna (hexec : p.tables.exec = Jvm.exec) (hb : c.code = cc) {own : String} {index : Nat} {ty : FieldType} (hown : s.vm.findClass own = some m.cls) (hclink : (Cond.classLink own index ("[" ++ (FieldType.array ty).toString)).before args s = true) (hover : (Cond.arrayOver (.array ty)).before args s = true) (harr : (Cond.arrayClass ty).before args s = true)
    (hK : va_K D cl tys s) (hP : va_P D cl ws H) (hD : va_D A ws) (hS : va_S A H0 H locs) (hA : ∀ q, H0.size ≤ q → A q) (t0 tj : Nat) {cT cy : ClassId} (ht : tys[t0]? = some (cT, .array ty)) (hj : tys[tj]? = some (cy, ty)) {n k : Int32} {N' K' : Nat} {z : vp_A} (hn : ¬ n < 0) (hk : ¬ k < 0) (hN : n.toNatClampNeg = N') (hM : k.toNatClampNeg = K')
    (hb1 : N' * 4 ≤ 536870912) (hb2 : K' * componentBytes ty ≤ 536870912) (hb3 : K' ≤ 536870912) (hdf : fits ty (defaultValue ty) = true) (hdd : (defaultValue ty).isDefault = true) (hcells : cells + (1 + N') ≤ R.cells) (hslots : slots + (N' + N' * K') ≤ R.slots) (hz : ∀ c : ClassId, Jvm.Free.Multi.innerC c K' (defaultValue ty) = vp_cell c z) (hdg : decode cc pc = .ok (.multianewarray index 2, 4))
    (kk : ∀ (q : Nat) (H1 : Heap), va_P D cl (ws ++ mnaW q cT cy N' z) H1 → va_D A (ws ++ mnaW q cT cy N' z) → va_S A H0 H1 locs → W p l e R s m args below meth c H1 locs (cells + 1 + N') (slots + N' + N' * K') Q (F0 m (pc + 4) ls (.ref q :: rest))) : W p l e R s m args below meth c H locs cells slots Q (F0 m pc ls (.int k :: .int n :: rest)) := by
  subst hN
  subst hM
  intro T hT Xs
  obtain ⟨vm₁, cA, comp, -, fA, fC, hO, -, X', step⟩ := Xs.multianewarray2F hexec hown hclink hover harr (g := F0 m pc ls (.int k :: .int n :: rest)) rfl (by rw [hb]; exact hdg) rfl hn hk hb1 hb2 hb3 hdf hdd hcells hslots
  have e1 : cA = cT := by
    have h2 := (hK.2 t0 _ ht).2.nm
    exact Option.some.inj (fA.symm.trans h2)
  have e2 : comp = cy := by
    have h2 := (hK.2 tj _ hj).2.nm
    exact Option.some.inj (fC.symm.trans h2)
  subst e1
  subst e2
  generalize hF : Jvm.Free.Multi.fill (T.setVm vm₁) cA comp n.toNatClampNeg k.toNatClampNeg (defaultValue ty) n.toNatClampNeg = F at X' step
  have hTh : (T.setVm vm₁).heap = H := hT
  obtain ⟨f1, f2, -, -⟩ := Jvm.Free.Multi.fill_facts (T.setVm vm₁) cA comp n.toNatClampNeg k.toNatClampNeg (defaultValue ty) n.toNatClampNeg
  rw [hF, hTh] at f1 f2
  rw [mna_out] at f2
  have hold : ∀ x : Nat, x < H.size → F.heap[x]? = H[x]? := fun x hx => by
    have := Jvm.Free.Multi.fill_old (T.setVm vm₁) cA comp n.toNatClampNeg k.toNatClampNeg (defaultValue ty) (a := x) (by rw [hTh]; exact hx) n.toNatClampNeg
    rw [hF, hTh] at this
    exact this
  have hrow : ∀ j : Nat, j < n.toNatClampNeg → F.heap[H.size + 1 + j]? = some (vp_cell comp z) := fun j hj => by
    have := Jvm.Free.Multi.fill_inner (T.setVm vm₁) cA comp n.toNatClampNeg k.toNatClampNeg (defaultValue ty) n.toNatClampNeg j hj
    rw [hF, hTh, hz] at this
    exact this
  have hP0 : va_P D cl ws F.heap := hP.kept (fun k9 x hx => hold x.1 ((hP k9 x hx).lt))
  have hP1 : va_P D cl (mnaW H.size cA comp n.toNatClampNeg z) F.heap := fun j x hx => by
    obtain ⟨g1, g2, g3⟩ := mna_at hx
    obtain ⟨x1, x2⟩ := x
    dsimp only at g1 g2 g3
    by_cases q : j = 0
    · rw [g2 q, g1, q]
      exact f2
    · obtain ⟨g4, g5⟩ := g3 q
      rw [g5, g1, show H.size + j = H.size + 1 + (j - 1) by omega]
      exact hrow (j - 1) g4
  have hD1 : va_D A (mnaW H.size cA comp n.toNatClampNeg z) := ⟨fun i j x y hi hj hxy => by
    have a1 := (mna_at hi).1
    have a2 := (mna_at hj).1
    omega, fun j x hx => by
    rw [(mna_at hx).1]
    exact hA _ (by have := hS.1; omega)⟩
  obtain ⟨t, a1, b1⟩ := kk H.size F.heap (hP0.app hP1) (hD.app hD1 (fun i j x y hi hj => by
    have a1 := (hP i x hi).lt
    have a2 := (mna_at hj).1
    omega)) ⟨by rw [f1]; have := hS.1; omega, fun x h1 h2 => (hold x (Nat.lt_of_lt_of_le h1 hS.1)).trans (hS.2.1 x h1 h2), hS.2.2⟩ F rfl X'
  refine ⟨t, step t ?_, b1⟩
  have e : T.heap.size = H.size := by rw [hT]
  rw [e]
  exact a1
end CM
