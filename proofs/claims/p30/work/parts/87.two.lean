/-! two worlds side by side -/
def apart (L L2 : Lt) (Y Y2 : Yt) : Prop := ∀ i j : Nat, i < (L Y).length → j < (L2 Y2).length → Y.2.1 i ≠ Y2.2.1 j
theorem apart.sym {L L2 : Lt} {Y Y2 : Yt} (h : apart L L2 Y Y2) : apart L2 L Y2 Y := fun i j hi hj e => h j i hj hi e.symm
theorem wL_mem {L : Lt} {Y : Yt} {σ : Mem} {k : Nat} {x : Nat × va_E} (h : (wL L Y σ)[k]? = some x) : k < (L Y).length ∧ x.1 = Y.2.1 k := by
  have hk : k < (L Y).length := by
    have := (List.getElem?_eq_some_iff.mp h).1
    rw [wL_len] at this
    exact this
  rw [wL_at hk] at h
  cases h
  exact ⟨hk, rfl⟩
section Two
variable {p : Program} {l : Launch} {e : Env} {R : Room} {s : State} {m : MethodId} {args : Array Value} {below : List Frame} {meth : Method} {c : Code} {H : Heap} {locs : List Loc} {cells slots : Nat} {Z : State → Prop}
variable {cc : ByteArray} {nL : Nat} {own : String} {Ts : List Cond} {rt : Option FieldType} {pc : Nat} {ls : Array Slot} {rest : List Value}
variable {L L2 : Lt} {Y Y2 : Yt} {σ τ : Mem} {A : Nat → Prop}
variable {y : MethodName} {wy : List Cond} {rm : Room} {As st : List Value} {index maxL n : Nat} {bytes : ByteArray} {ret : Option FieldType}
theorem wx.other (X2 : wx L2 Y2 τ s A H locs) (hap : apart L L2 Y Y2) {H1 : Heap} {locs1 : List Loc} (hk : ∀ q : Nat, q < H.size → ¬ va_A (wL L Y σ) H.size q → H1[q]? = H[q]?) (hS : va_S A s.heap H1 locs1) : wx L2 Y2 τ s A H1 locs1 := by
  refine ⟨X2.1.kept (fun k x hx => ?_), X2.2.1, hS, X2.2.2.2⟩
  have hl := (X2.1 k x hx).lt
  obtain ⟨g1, g2⟩ := wL_mem hx
  refine hk x.1 hl (fun h => ?_)
  rcases h with ⟨k2, e2, h⟩ | h
  · obtain ⟨g3, g4⟩ := wL_mem h
    exact hap k2 k g3 g1 (g4.symm.trans g2)
  · omega
theorem h_callVi (G : gx p s m args meth c cc nL own Ts rt) (X : wx L Y σ s A H locs) (X2 : wx L2 Y2 τ s A H locs) (hap : apart L L2 Y Y2) {b : Nat} {C : String} {T : u_T} {N ci k : Nat} {fs : List Value} {Qc : Int → Mem → Prop} (hM : MXi l L Y y wy rm (.ref b :: As) σ Qc) (cw : CallW R s args own C index y bytes maxL ret wy rm 0 0 n) (hk : k < (L Y).length) (hb : Y.2.1 k = b) (hlay : cL L Y k (σ k) = .inr (ci, fs)) (hc : vwCl[ci]? = some (C, T, N)) (hn : As.length = n) (hls : ls.size = nL) (hst : st = As.reverse ++ .ref b :: rest) (hW : (rest.map fun v => v.category).sum ≤ 8) (hdg : decode cc pc = .ok (.invokevirtual index, 3)) (hroom : cells ≤ R.cells ∧ slots ≤ R.slots) (kk : ∀ z u H1 locs1, Qc z u → wx L Y u s A H1 locs1 → wx L2 Y2 τ s A H1 locs1 → W p l e R s m args below meth c H1 locs1 cells slots Z (F0 m (pc + 3) ls (.int (iI z) :: rest))) : W p l e R s m args below meth c H locs cells slots Z (F0 m pc ls st) := by
  subst hb
  refine va_calli (mc := 0) (ms := 0) (va_runV (As := As) (rest := rest) ⟨G.1, G.2.1, G.2.2.1, G.2.2.2.1, G.2.2.2.2.1⟩ (hM H.size) cw ⟨MPre.blind, va_recv X.2.2.2.1 X.1 (q0 := k) hc (by rw [wL_at hk, hlay]), X.pre⟩ rfl hn hls hst (lv_room hW) hdg hroom) X.2.2.1 (fun q _ h => X.free q h) X.free (fun r u t H1 locs1 ht hvm hw hB hz1 hk1 hS => by
    obtain ⟨z, rfl, hq⟩ := hw
    exact kk z u H1 locs1 hq (X.back ht hvm hB hS) (X2.other hap hk1 hS))
theorem h_callVl (G : gx p s m args meth c cc nL own Ts rt) (X : wx L Y σ s A H locs) (X2 : wx L2 Y2 τ s A H locs) (hap : apart L L2 Y Y2) {b : Nat} {C : String} {T : u_T} {N ci k : Nat} {fs : List Value} {Qc : Int → Mem → Prop} (hM : MXl l L Y y wy rm (.ref b :: As) σ Qc) (cw : CallW R s args own C index y bytes maxL ret wy rm 0 0 n) (hk : k < (L Y).length) (hb : Y.2.1 k = b) (hlay : cL L Y k (σ k) = .inr (ci, fs)) (hc : vwCl[ci]? = some (C, T, N)) (hn : As.length = n) (hls : ls.size = nL) (hst : st = As.reverse ++ .ref b :: rest) (hW : (rest.map fun v => v.category).sum ≤ 8) (hdg : decode cc pc = .ok (.invokevirtual index, 3)) (hroom : cells ≤ R.cells ∧ slots ≤ R.slots) (kk : ∀ z u H1 locs1, Qc z u → wx L Y u s A H1 locs1 → wx L2 Y2 τ s A H1 locs1 → W p l e R s m args below meth c H1 locs1 cells slots Z (F0 m (pc + 3) ls (.long (lI z) :: rest))) : W p l e R s m args below meth c H locs cells slots Z (F0 m pc ls st) := by
  subst hb
  refine va_calll (mc := 0) (ms := 0) (va_runV (As := As) (rest := rest) ⟨G.1, G.2.1, G.2.2.1, G.2.2.2.1, G.2.2.2.2.1⟩ (hM H.size) cw ⟨MPre.blind, va_recv X.2.2.2.1 X.1 (q0 := k) hc (by rw [wL_at hk, hlay]), X.pre⟩ rfl hn hls hst (lv_room hW) hdg hroom) X.2.2.1 (fun q _ h => X.free q h) X.free (fun r u t H1 locs1 ht hvm hw hB hz1 hk1 hS => by
    obtain ⟨z, rfl, hq⟩ := hw
    exact kk z u H1 locs1 hq (X.back ht hvm hB hS) (X2.other hap hk1 hS))
end Two
