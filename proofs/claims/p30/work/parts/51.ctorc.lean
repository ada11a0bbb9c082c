/-! calling a constructor: the new object stands last in the list of cells -/
section CC
variable {p : Program} {l : Launch} {e : Env} {R : Room} {s : State} {m : MethodId} {args : Array Value} {below : List Frame} {meth : Method} {c : Code} {H : Heap} {locs : List Loc} {cells slots : Nat} {Q : State → Prop}
variable {cc : ByteArray} {pc : Nat} {ls : Array Slot} {rest : List Value} {D : va_G} {A : Nat → Prop} {H0 : Heap} {cf : Nat → ClassId}
theorem c_pre {b ci : Nat} {As : List Value} {fs : List Value} {N : State → Prop} (hPc : va_P D vwCl [(b, .inr (ci, fs))] H) (hK : va_K D vwCl (tyD cf) s) (hDc : va_D A [(b, .inr (ci, fs))]) (hN1 : ∀ (a : Array Value) (U : State) (g : JFrame) (mk : MethodId), N U → N (U.calling g mk a)) (hN2 : ∀ U : State, s.WarmedH U.vm → N U) : PreS s H (va_Pc (.ref b :: As) (fun U => U.heap.size = H.size ∧ va_P D vwCl [(b, .inr (ci, fs))] U.heap ∧ va_K D vwCl (tyD cf) U ∧ va_D (fun _ => True) [(b, .inr (ci, fs))] ∧ N U)) (.ref b :: As) :=
  ⟨fun a U g mk q => by obtain ⟨q0, q1, qP, qK, qD, qN⟩ := q; exact ⟨q0, q1, qP, va_K.moved (u := U) (U := U.calling g mk a) (Vm.Alike.refl U.vm) qK, qD, hN1 _ _ _ _ qN⟩, fun U hU hW => ⟨rfl, by rw [hU], by rw [hU]; exact hPc, va_K.moved hW.alike hK, hDc.weaken (fun _ _ _ _ => trivial), hN2 U hW⟩⟩
theorem c_call {b ci k : Nat} {fs : List Value} {mc ms : Nat} {Wf : (Nat → Nat) → va_W} {ws wr : va_W} {st0 : List Value} {aa : Array Value}
    (hP : va_P D vwCl ws H) (hD : va_D A ws) (hS : va_S A H0 H locs) (hA : ∀ q, H0.size ≤ q → A q)
    (hr : va_Run p l e R s m args below meth c H locs cells slots mc ms (F0 m pc ls st0) rest (va_Qv (fun q : Nat → Nat => q 0 = b) (fun q t => va_P D vwCl (Wf q) t.heap ∧ va_K D vwCl (tyD cf) t ∧ va_D (va_A [(b, .inr (ci, fs))] H.size) (Wf q)) (va_A [(b, .inr (ci, fs))] H.size) aa) (va_A [(b, .inr (ci, fs))] H.size))
    (hC : [k].map (fun i => ws[i]?) = ([(b, .inr (ci, fs))] : va_W).map some) (isR : List Nat) (hR : isR.map (fun i => ws[i]?) = wr.map some) (hn : va_nd isR = true) (hdis : ∀ i ∈ isR, i ∉ [k])
    (kk : ∀ (q : Nat → Nat) (H1 : Heap) (locs1 : List Loc), q 0 = b → va_P D vwCl (wr ++ Wf q) H1 → va_D A (wr ++ Wf q) → va_S A H0 H1 locs1 → W p l e R s m args below meth c H1 locs1 (cells + mc) (slots + ms) Q (F0 m (pc + 3) ls rest)) : W p l e R s m args below meth c H locs cells slots Q (F0 m pc ls st0) := by
  have hF := va_free (wc := [(b, .inr (ci, fs))]) hD hS hA [k] hC
  refine va_callv hr hS (fun q _ h => hF q h) hF (fun u t H1 locs1 ht hvm hw hB hz hk hS1 => ?_)
  obtain ⟨hP1, hK1, hD1⟩ := hB
  rw [ht] at hP1
  obtain ⟨hP2, hD2⟩ := va_join hP hD [k] isR hC hR hn hdis hk hF hP1 hD1
  exact kk u H1 locs1 hw hP2 hD2 hS1
end CC
/-- words of nest mates, of a state -/
def NestN (L : List (String × Nat × MethodName × String)) (U : State) : Prop := ∀ x ∈ L, va_Nw (.methodLinkNest x.1 x.2.1 x.2.2.1 x.2.2.2) U
theorem NestN.call {L : List (String × Nat × MethodName × String)} (a : Array Value) (U : State) (g : JFrame) (mk : MethodId) (h : NestN L U) : NestN L (U.calling g mk a) := fun x hx => va_Nw.same rfl rfl (h x hx)
theorem NestN.warm {L : List (String × Nat × MethodName × String)} {s U : State} (h : NestN L s) (hW : s.WarmedH U.vm) : NestN L U := fun x hx => va_Nw.warmM hW (h x hx)
