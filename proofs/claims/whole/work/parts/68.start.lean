def R_law : String := "ShapeFitsLaw"
def lw_P (b : Addr) (xs : List Int32) (args : Array Value) (s : State) : Prop := args = #[.ref b] ∧ s.IntsAt b xs ∧ xs.length ≤ 2048 ∧ (Jvm.Cond.and given_1 narrow_1).before args s = true
def lw_Q (_ : Array Value) (s : State) (o : Outcome) (t : State) : Prop := o = .returned (some (.int 1)) ∧ Framed s o t [] 600000 7302249
def lw_Z (below : List Frame) (a : Array Value) (s : State) : State → Prop := fun t => ∃ o, t.status = .running ∧ Ended t below o ∧ lw_Q a s o t
/-- the law's own end, with 1 on the stack, nothing written that was there before, its room as the claim has it -/
theorem lw_ret {p : Program} {l : Launch} {e : Env} {s : State} {m : MethodId} {below : List Frame} {meth : Method} {c : Code} {b : Nat} (hx : p.tables.exec = Jvm.exec) (hb : c.code = code) (hr : meth.sig.returnType = ret) (hlocks : meth.locks = false) {pc : Nat} {H : Heap} {ls : Array Slot} (hdg : decode code pc = .ok (.ireturn, 1)) : W p l e room_1 s m #[Value.ref b] below meth c H [] 600000 7302249 (lw_Z below #[Value.ref b] s) (F0 m pc ls [.int 1]) := by
  intro T hT X
  obtain ⟨fs, hret, hrun, hended, hW, hframe⟩ := X.leave (v := some (.int 1)) (hlocks := hlocks) (fun h => by rw [hr] at h; cases h)
  have hmeth' : T.vm.method? m = some meth := X.method'
  refine ⟨T.setFrames fs, ?_, .returned (some (.int 1)), hrun, hended, rfl, ⟨_, rfl⟩, hW, hframe⟩
  jvm_step X.here [X.here.top, hx, hb, hdg, hmeth', hr, ret, narrow_b1]
  (try refine ⟨rfl, ?_⟩); (try refine ⟨rfl, ?_⟩)
  first | (intro acts; rw [hret _ acts rfl rfl rfl]) | rw [hret _ _ rfl rfl rfl]
  exact Steps.refl _
/-- what holds at the law's entry: the machine, the code, the tables' words (any of lw_tbl by 'hts w (by decide +kernel)'), the script of L ints xs at the cell b, what the Statement gives of the start (any of its parts by flat_of_before) -/
def lw_At (p : Program) (s : State) (m : MethodId) (meth : Method) (c : Code) (b L : Nat) (xs : Nat → Int32) : Prop :=
  p.tables.exec = Jvm.exec ∧ c.code = code ∧ meth.sig.returnType = ret ∧ c.maxLocals = 4 ∧ s.vm.findClass R_law = some m.cls ∧ (∀ w ∈ lw_tbl, w.before #[Value.ref b] s = true) ∧ va_X b L xs s s.heap ∧ b < s.heap.size ∧ meth.locks = false ∧ (Jvm.Cond.and given_1 narrow_1).before #[Value.ref b] s = true
theorem ws_lastf {ws : va_W} {x : Nat × va_E} {n : Nat} (hn : ws.length = n) : [n].filterMap (fun i => (ws ++ [x])[i]?) = [x] := by
  subst hn
  simp
theorem ws_last {ws : va_W} {x : Nat × va_E} {n : Nat} (hn : ws.length = n) : [n].map (fun i => (ws ++ [x])[i]?) = ([x] : va_W).map some := by
  subst hn
  simp
theorem ws_rest {ws : va_W} {x : Nat × va_E} {n : Nat} (hn : ws.length = n) : (List.range n).map (fun i => (ws ++ [x])[i]?) = ws.map some := by
  subst hn
  apply List.ext_getElem?
  intro j
  rw [List.getElem?_map, List.getElem?_map]
  by_cases h : j < ws.length
  · rw [List.getElem?_range h]
    simp [List.getElem?_append_left h, List.getElem?_eq_getElem h]
  · rw [List.getElem?_eq_none (by rw [List.length_range]; omega), List.getElem?_eq_none (by omega)]
    rfl
theorem wl_split {D : va_G} {cl : List vw_C} {a b : va_W} {H : Heap} (hP : va_P D cl (a ++ b) H) : va_P D cl a H ∧ va_P D cl b H :=
  ⟨fun k x hx => hP k x (by rw [List.getElem?_append_left (List.getElem?_eq_some_iff.mp hx).1]; exact hx), fun k x hx => hP (a.length + k) x (by rw [List.getElem?_append_right (Nat.le_add_right _ _), Nat.add_sub_cancel_left]; exact hx)⟩
theorem wd_split {A : Nat → Prop} {a b : va_W} (hD : va_D A (a ++ b)) : va_D A a ∧ va_D A b ∧ ∀ (i j : Nat) (p q : Nat × va_E), a[i]? = some p → b[j]? = some q → p.1 ≠ q.1 := by
  have l : ∀ (k : Nat) (x : Nat × va_E), a[k]? = some x → (a ++ b)[k]? = some x := fun k x hx => by rw [List.getElem?_append_left (List.getElem?_eq_some_iff.mp hx).1]; exact hx
  have r : ∀ (k : Nat) (x : Nat × va_E), b[k]? = some x → (a ++ b)[a.length + k]? = some x := fun k x hx => by rw [List.getElem?_append_right (Nat.le_add_right _ _), Nat.add_sub_cancel_left]; exact hx
  refine ⟨⟨fun i j p q hp hq e => hD.1 i j p q (l _ _ hp) (l _ _ hq) e, fun k q hq => hD.2 k q (l _ _ hq)⟩, ⟨fun i j p q hp hq e => ?_, fun k q hq => hD.2 _ q (r _ _ hq)⟩, fun i j p q hp hq e => ?_⟩
  · have := hD.1 _ _ p q (r _ _ hp) (r _ _ hq) e
    omega
  · have h1 := hD.1 _ _ p q (l _ _ hp) (r _ _ hq) e
    have h2 := (List.getElem?_eq_some_iff.mp hp).1
    omega
theorem apart_of {A : Nat → Prop} {D : va_G} {cf : Nat → ClassId} {q1 q2 : Nat → Nat} {σ τ : Mem} (h : ∀ (i j : Nat) (p q : Nat × va_E), (wL LX (D, q1, cf) σ)[i]? = some p → (wL LM (D, q2, cf) τ)[j]? = some q → p.1 ≠ q.1) : apart LX LM (D, q1, cf) (D, q2, cf) := fun i j hi hj => h i j _ _ (wL_at hi) (wL_at hj)
set_option maxHeartbeats 4000000 in
set_option maxRecDepth 100000 in
theorem whole_start {p : Program} {e : Env} {s : State} {m : MethodId} {below : List Frame} {meth : Method} {c : Code} (l : Launch) (hflags : l.flags = flags0) {b L : Nat} {xs : Nat → Int32} (hL : L ≤ 2048) (C0 : lw_At p s m meth c b L xs) : W p l e room_1 s m #[Value.ref b] below meth c s.heap [] 0 0 (lw_Z below #[Value.ref b] s) (entryFrame m ([Value.ref b] : List Value).toArray 4) := by
  obtain ⟨hx, hb, hr, hml, hown, hts, hX, hbl, hlocks, hgv⟩ := id C0
  have G : gx p s m #[Value.ref b] meth c cL_law 4 RL lw_tbl ret := ⟨hx, hb, hml, hown, hts, hr, hlocks⟩
  obtain ⟨D, cf, hK⟩ := law_K hts
  have hN : N7 s := law_nest hts
  obtain ⟨A, hA, hAi⟩ : ∃ A : Nat → Prop, (∀ q : Nat, s.heap.size ≤ q → A q) ∧ ∀ q : Nat, A q → s.heap.size ≤ q := ⟨fun q => s.heap.size ≤ q, fun _ h => h, fun _ h => h⟩
  have hbA : ¬ A b := fun h => by
    have := hAi b h
    omega
  have hS : va_S A s.heap s.heap [] := va_S.rf
  have hP : va_P D vwCl [] s.heap := fun k q h => by simp at h
  have hD : va_D A [] := ⟨fun i j p q h => by simp at h, fun k q h => by simp at h⟩
  have hl := lv_entry ([.ref b]) (n := 4) (Nat.le_of_ble_eq_true rfl)
  rw [lg_entry_eq]
  generalize (lg_sl ([.ref b]) ++ List.replicate (4 - (lg_sl ([.ref b])).length) Slot.unset).toArray = ls at hl ⊢
  have hl : lv_has ls 4 [(0, .ref b)] := hl
  refine va_new (ci := 7) (fs := [.null, .null, .null, .null, .null, .null, .null, .null]) (C := RX7) (T := TX7) (N := 8) hx hb hts (fun w h => (tu_X7 w h).1) tyX7 tyX7_ok hown (hts (.classLink RL 7 RX7) (in_1 (List.mem_of_getElem? (i := 12) (by decide +kernel)))) (hts (.instantiable RX7 8) (in_1 (List.mem_of_getElem? (i := 13) (by decide +kernel)))) (hts (.initialized RX7) tw_122.1) hK hP hD hS hA rfl (fun j hj => by rcases (show j = 0 ∨ j = 1 ∨ j = 2 ∨ j = 3 ∨ j = 4 ∨ j = 5 ∨ j = 6 ∨ j = 7 by omega) with rfl | rfl | rfl | rfl | rfl | rfl | rfl | rfl <;> rfl) (Nat.le_of_ble_eq_true rfl) (Nat.le_of_ble_eq_true rfl) dL_law_0 (fun a1 H hP hD hS => ?_)
  refine lv_dup hx hb dL_law_3 rfl ?_
  refine c_call (k := 0) (wr := []) hP hD hS hA (va_runI (As := []) (rest := [.ref a1]) ⟨hx, hb, hml, hown, hts⟩ (t_X7_init l a1 D cf H.size) (cwI 0 hts tl_wsX7_init rfl rfl rfl (hts (.initialized RX7) tw_122.1) (hts (.methodLink RL 9 yX7_init) (in_1 (List.mem_of_getElem? (i := 14) (by decide +kernel)))) (hts (.instanceMethod yX7_init) (in_1 (List.mem_of_getElem? (i := 15) (by decide +kernel)))) rfl (by decide +kernel) ⟨Nat.le_of_ble_eq_true rfl, Nat.le_of_ble_eq_true rfl⟩) (c_pre (hP.sub (ws' := [(a1, .inr (7, [.null, .null, .null, .null, .null, .null, .null, .null]))]) [0] rfl) hK (hD.sub (ws' := [(a1, .inr (7, [.null, .null, .null, .null, .null, .null, .null, .null]))]) [0] (by decide) rfl) N7.call (fun U hW => N7.warm hN hW)) rfl rfl hl.1 rfl (lv_room (Nat.le_of_ble_eq_true rfl)) dL_law_4 ⟨Nat.le_of_ble_eq_true rfl, Nat.le_of_ble_eq_true rfl⟩) rfl [] rfl (by decide) (by decide) (fun q1 H locs hq hP7 hD7 hS7 => ?_)
  subst hq
  have hP := hP7
  have hD := hD7
  have hS := hS7
  have X1 : wx LX (D, q1, cf) s0 s A H locs := bornX hP hD hS hK hA
  obtain ⟨hP, hD, hS, -, -⟩ := X1
  refine lv_astore_n (lv' := [(1, .ref (q1 0)), (0, .ref b)]) hx hb dL_law_7 rfl hl (by decide) rfl (fun ls hl => ?_)
  have hlen : (wL LX (D, q1, cf) s0).length = 78 := wL_len
  generalize hWe : wL LX (D, q1, cf) s0 = wX at hP hD hlen
  refine va_new (ci := 8) (fs := [.null, .null, .int 0, .null, .int 0, .null, .int 0, .null, .int 0, .null, .null, .null, .int 0, .null, .null, .null, .int 0, .null, .long 0, .long 0, .null, .null, .int 0, .int 0]) (C := RX8) (T := TX8) (N := 24) hx hb hts (fun w h => (tu_X8 w h).1) tyX8 tyX8_ok hown (hts (.classLink RL 10 RX8) (in_3 (List.mem_of_getElem? (i := 209) (by decide +kernel)))) (hts (.instantiable RX8 24) (in_3 (List.mem_of_getElem? (i := 210) (by decide +kernel)))) (hts (.initialized RX8) tw_197.1) hK hP hD hS hA rfl (fun j hj => by rcases (show j = 0 ∨ j = 1 ∨ j = 2 ∨ j = 3 ∨ j = 4 ∨ j = 5 ∨ j = 6 ∨ j = 7 ∨ j = 8 ∨ j = 9 ∨ j = 10 ∨ j = 11 ∨ j = 12 ∨ j = 13 ∨ j = 14 ∨ j = 15 ∨ j = 16 ∨ j = 17 ∨ j = 18 ∨ j = 19 ∨ j = 20 ∨ j = 21 ∨ j = 22 ∨ j = 23 by omega) with rfl | rfl | rfl | rfl | rfl | rfl | rfl | rfl | rfl | rfl | rfl | rfl | rfl | rfl | rfl | rfl | rfl | rfl | rfl | rfl | rfl | rfl | rfl | rfl <;> rfl) (Nat.le_of_ble_eq_true rfl) (Nat.le_of_ble_eq_true rfl) dL_law_8 (fun a2 H hP hD hS => ?_)
  refine lv_dup hx hb dL_law_11 rfl ?_
  refine c_call (k := 78) (wr := wX) hP hD hS hA (va_runI (As := []) (rest := [.ref a2]) ⟨hx, hb, hml, hown, hts⟩ (t_X8_init l a2 D cf H.size) (cwI 0 hts tl_wsX8_init rfl rfl rfl (hts (.initialized RX8) tw_197.1) (hts (.methodLink RL 12 yX8_init) (in_3 (List.mem_of_getElem? (i := 211) (by decide +kernel)))) (hts (.instanceMethod yX8_init) (in_3 (List.mem_of_getElem? (i := 212) (by decide +kernel)))) rfl (by decide +kernel) ⟨Nat.le_of_ble_eq_true rfl, Nat.le_of_ble_eq_true rfl⟩) (c_pre (hP.sub (ws' := [(a2, .inr (8, [.null, .null, .int 0, .null, .int 0, .null, .int 0, .null, .int 0, .null, .null, .null, .int 0, .null, .null, .null, .int 0, .null, .long 0, .long 0, .null, .null, .int 0, .int 0]))]) [78] (ws_lastf hlen)) hK (hD.sub (ws' := [(a2, .inr (8, [.null, .null, .int 0, .null, .int 0, .null, .int 0, .null, .int 0, .null, .null, .null, .int 0, .null, .null, .null, .int 0, .null, .long 0, .long 0, .null, .null, .int 0, .int 0]))]) [78] (by decide) (ws_last hlen)) (fun _ _ _ _ h => h) (fun _ _ => trivial)) rfl rfl hl.1 rfl (lv_room (Nat.le_of_ble_eq_true rfl)) dL_law_12 ⟨Nat.le_of_ble_eq_true rfl, Nat.le_of_ble_eq_true rfl⟩) (ws_last hlen) (List.range 78) (ws_rest hlen) (by decide) (by decide) (fun q2 H locs hq hP7 hD7 hS7 => ?_)
  subst hq
  have hP := hP7
  have hD := hD7
  have hS := hS7
  subst hWe
  obtain ⟨hP1, hP2⟩ := wl_split hP
  obtain ⟨hD1, hD2, hap⟩ := wd_split hD
  have X : wx LX (D, q1, cf) s0 s A H locs := ⟨hP1, hD1, hS, hK, hA⟩
  have X2 : wx LM (D, q2, cf) m0 s A H locs := bornM (wM_eq D cf q2) hP2 hD2 hS hK hA
  have hap : apart LX LM (D, q1, cf) (D, q2, cf) := fun i j hi hj => hap i j _ _ (wL_at hi) (wL_at (L := LM) (Y := (D, q2, cf)) (σ := m0) hj)
  refine lv_astore_n (lv' := [(2, .ref (q2 0)), (1, .ref (q1 0)), (0, .ref b)]) hx hb dL_law_15 rfl hl (by decide) rfl (fun ls hl => ?_)
  refine lv_iconst (v := iI 0) hx hb dL_law_16 rfl ?_
  refine lv_istore_n (lv' := [(3, .int (iI 0)), (2, .ref (q2 0)), (1, .ref (q1 0)), (0, .ref b)]) hx hb dL_law_17 rfl hl (by decide) rfl (fun ls hl => ?_)
  refine W.widen (k := 600000) (n := 7302249) (Nat.le_of_ble_eq_true rfl) (Nat.le_of_ble_eq_true rfl) ?_
  refine law_loop (Y := (D, q1, cf)) (Y2 := (D, q2, cf)) ⟨G, hX, hbl, hbA, hap, hL⟩ (fun H locs ls hS => ?_) (L + 9) 0 [] [] [] [] s0 m0 H locs ls (by omega) (by omega) (by omega) ⟨xinv_0, minv_0, X, X2, lv_sub hl [3, 2, 1, 0] rfl⟩
  refine lv_iconst (v := 1) hx hb dL_law_909 (by decide) ?_
  refine va_forget (fun q hq => hAi _ (hS.2.2 q hq)) ?_
  exact lw_ret hx hb hr hlocks dL_law_910
