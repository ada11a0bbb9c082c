/-! rows that the law's own methods want -/
theorem iI_irem {a b : Int} (ha : 0 ≤ a ∧ a ≤ 2147483647) (hb : 0 < b ∧ b ≤ 2147483647) : iI a - iI a / iI b * iI b = iI (a % b) := by
  have h1 : Int32.minValue.toInt = -2147483648 := by decide
  have h2 : Int32.maxValue.toInt = 2147483647 := by decide
  have e : iI a / iI b = iI (a.tdiv b) := (Int32.ofInt_tdiv (by rw [h1]; omega) (by rw [h2]; exact ha.2) (by rw [h1]; omega) (by rw [h2]; exact hb.2)).symm
  rw [e, iI_mul, iI_sub, Int.tdiv_eq_ediv_of_nonneg ha.1, show a - a / b * b = a % b by rw [Int.emod_def, Int.mul_comm]]
theorem iI_ishr {a : Int} {k : Nat} {w : Int} {s : Int32} (ha : 0 ≤ a ∧ a ≤ 2147483647) (hs : (s.toBitVec.smod 32).toNat = k) (hw : w = 2 ^ k) : iI a >>> s = iI (a / w) := by
  obtain ⟨n, rfl⟩ : ∃ n : Nat, a = (n : Int) := ⟨a.toNat, by omega⟩
  rw [iI_nI, pk_shrN (by omega) s k hs, ← iI_nI, hw]
  congr 1
section LRows
variable {p : Program} {l : Launch} {e : Env} {R : Room} {s : State} {m : MethodId} {args : Array Value} {below : List Frame} {meth : Method} {c : Code} {H : Heap} {locs : List Loc} {cells slots : Nat} {Z : State → Prop}
variable {cc : ByteArray} {nL : Nat} {own : String} {Ts : List Cond} {rt : Option FieldType} {pc : Nat} {ls : Array Slot} {rest : List Value}
variable {L : Lt} {Y : Yt} {σ : Mem} {A : Nat → Prop}
theorem g_l2i (G : gx p s m args meth c cc nL own Ts rt) {a : Int} (hdg : decode cc pc = .ok (.l2i, 1)) (k : W p l e R s m args below meth c H locs cells slots Z (F0 m (pc + 1) ls (.int (iI a) :: rest))) : W p l e R s m args below meth c H locs cells slots Z (F0 m pc ls (.long (lI a) :: rest)) := lv_l2i G.1 G.2.1 hdg (v := iI a) Int64.toInt32_ofInt k
theorem iI_ne0 {b : Int} (hb : 0 < b ∧ b ≤ 2147483647) : ¬ iI b = 0 := fun h => by
  have h1 := (iI_eq (a := b) (b := 0) (by omega) (by omega)).mp h
  omega
theorem g_irem (G : gx p s m args meth c cc nL own Ts rt) {a b : Int} (ha : 0 ≤ a ∧ a ≤ 2147483647) (hb : 0 < b ∧ b ≤ 2147483647) (hdg : decode cc pc = .ok (.irem, 1)) (k : W p l e R s m args below meth c H locs cells slots Z (F0 m (pc + 1) ls (.int (iI (a % b)) :: rest))) : W p l e R s m args below meth c H locs cells slots Z (F0 m pc ls (.int (iI b) :: .int (iI a) :: rest)) := lv_irem G.1 G.2.1 hdg (iI_ne0 hb) (by rw [iI_irem ha hb]; exact k)
theorem g_ishr (G : gx p s m args meth c cc nL own Ts rt) {a b : Int} {k : Nat} {w : Int} (hs : ((iI b &&& 31).toBitVec.smod 32).toNat = k) (hw : w = 2 ^ k) (ha : 0 ≤ a ∧ a ≤ 2147483647) (hdg : decode cc pc = .ok (.ishr, 1)) (kk : W p l e R s m args below meth c H locs cells slots Z (F0 m (pc + 1) ls (.int (iI (a / w)) :: rest))) : W p l e R s m args below meth c H locs cells slots Z (F0 m pc ls (.int (iI b) :: .int (iI a) :: rest)) := lv_ishr G.1 G.2.1 hdg (by rw [iI_ishr ha hs hw]; exact kk)
end LRows
/-! contracts of methods that read the script, too -/
def MPreS (L : Lt) (Y : Yt) (σ : Mem) (sz b n : Nat) (xs : Nat → Int32) : State → Prop := fun U => MPre L Y σ sz U ∧ va_X b n xs U U.heap ∧ b < sz ∧ ¬ va_A (wL L Y σ) sz b
def MSi (l : Launch) (L : Lt) (Y : Yt) (y : MethodName) (ws : List Cond) (rm : Room) (av : List Value) (σ : Mem) (b n : Nat) (xs : Nat → Int32) (Q : Int → Mem → Prop) : Prop := ∀ sz : Nat, Met l y ws rm (va_Pc av (MPreS L Y σ sz b n xs)) (va_Qi (fun (r : Int32) (u : Mem) => ∃ z : Int, r = iI z ∧ Q z u) (MBe L Y (va_A (wL L Y σ) sz)) (va_A (wL L Y σ) sz)) 0 0 (va_A (wL L Y σ) sz)
def MSv (l : Launch) (L : Lt) (Y : Yt) (y : MethodName) (ws : List Cond) (rm : Room) (av : List Value) (σ : Mem) (b n : Nat) (xs : Nat → Int32) (Q : Mem → Prop) : Prop := ∀ sz : Nat, Met l y ws rm (va_Pc av (MPreS L Y σ sz b n xs)) (va_Qv (fun (u : Mem) => Q u) (MBe L Y (va_A (wL L Y σ) sz)) (va_A (wL L Y σ) sz)) 0 0 (va_A (wL L Y σ) sz)
section LCalls
variable {p : Program} {l : Launch} {e : Env} {R : Room} {s : State} {m : MethodId} {args : Array Value} {below : List Frame} {meth : Method} {c : Code} {H : Heap} {locs : List Loc} {cells slots : Nat} {Z : State → Prop}
variable {cc : ByteArray} {nL : Nat} {own : String} {Ts : List Cond} {rt : Option FieldType} {pc : Nat} {ls : Array Slot} {rest : List Value}
variable {L : Lt} {Y : Yt} {σ : Mem} {A : Nat → Prop} {bb nn : Nat} {xs : Nat → Int32}
variable {y : MethodName} {wy : List Cond} {rm : Room} {As st : List Value} {index maxL n : Nat} {bytes : ByteArray} {ret : Option FieldType}
theorem MPreS.blind {sz : Nat} {av : List Value} : FrameBlind (va_Pc av (MPreS L Y σ sz bb nn xs)) := fun a U g mk q => ⟨q.1, ⟨q.2.1.1, q.2.1.2.1, va_K.moved (u := U) (U := U.calling g mk a) (Vm.Alike.refl U.vm) q.2.1.2.2.1, q.2.1.2.2.2⟩, va_X.moved (u := U) (U := U.calling g mk a) (Vm.Alike.refl U.vm) q.2.2.1, q.2.2.2⟩
theorem wx.preS (X : wx L Y σ s A H locs) (hX : va_X bb nn xs s s.heap) (hbl : bb < s.heap.size) (hbA : ¬ A bb) {av : List Value} : ∀ U : State, U.heap = H → s.WarmedH U.vm → va_Pc av (MPreS L Y σ H.size bb nn xs) av.toArray U := fun U hU hW => ⟨rfl, (X.pre U hU hW (av := av)).2, by
  rw [hU]
  exact va_X.moved hW.alike (hX.kept (X.2.2.1.2.1 bb hbl hbA)), Nat.lt_of_lt_of_le hbl X.2.2.1.1, fun h => hbA (X.free bb h)⟩
theorem g_callSiS (G : gx p s m args meth c cc nL own Ts rt) (X : wx L Y σ s A H locs) (hX : va_X bb nn xs s s.heap) (hbl : bb < s.heap.size) (hbA : ¬ A bb) {Qc : Int → Mem → Prop} (hM : MSi l L Y y wy rm As σ bb nn xs Qc) (cw : CallB R s args own index y bytes maxL ret wy rm 0 0 n ∧ (Cond.static y).before args s = true) (hn : As.length = n) (hls : ls.size = nL) (hst : st = As.reverse ++ rest) (hW : (rest.map fun v => v.category).sum ≤ 8) (hdg : decode cc pc = .ok (.invokestatic index, 3)) (hroom : cells ≤ R.cells ∧ slots ≤ R.slots) (kk : ∀ z u H1 locs1, Qc z u → wx L Y u s A H1 locs1 → W p l e R s m args below meth c H1 locs1 cells slots Z (F0 m (pc + 3) ls (.int (iI z) :: rest))) : W p l e R s m args below meth c H locs cells slots Z (F0 m pc ls st) := by
  refine va_calli (mc := 0) (ms := 0) (va_runS (As := As) (rest := rest) ⟨G.1, G.2.1, G.2.2.1, G.2.2.2.1, G.2.2.2.2.1⟩ (hM H.size) cw ⟨MPreS.blind, X.preS hX hbl hbA⟩ rfl hn hls hst (lv_room hW) hdg hroom) X.2.2.1 (fun q _ h => X.free q h) X.free (fun r u t H1 locs1 ht hvm hw hB _ _ hS => by
    obtain ⟨z, rfl, hq⟩ := hw
    exact kk z u H1 locs1 hq (X.back ht hvm hB hS))
theorem g_callSvS (G : gx p s m args meth c cc nL own Ts rt) (X : wx L Y σ s A H locs) (hX : va_X bb nn xs s s.heap) (hbl : bb < s.heap.size) (hbA : ¬ A bb) {Qc : Mem → Prop} (hM : MSv l L Y y wy rm As σ bb nn xs Qc) (cw : CallB R s args own index y bytes maxL ret wy rm 0 0 n ∧ (Cond.static y).before args s = true) (hn : As.length = n) (hls : ls.size = nL) (hst : st = As.reverse ++ rest) (hW : (rest.map fun v => v.category).sum ≤ 8) (hdg : decode cc pc = .ok (.invokestatic index, 3)) (hroom : cells ≤ R.cells ∧ slots ≤ R.slots) (kk : ∀ u H1 locs1, Qc u → wx L Y u s A H1 locs1 → W p l e R s m args below meth c H1 locs1 cells slots Z (F0 m (pc + 3) ls (rest))) : W p l e R s m args below meth c H locs cells slots Z (F0 m pc ls st) := by
  refine va_callv (mc := 0) (ms := 0) (va_runS (As := As) (rest := rest) ⟨G.1, G.2.1, G.2.2.1, G.2.2.2.1, G.2.2.2.2.1⟩ (hM H.size) cw ⟨MPreS.blind, X.preS hX hbl hbA⟩ rfl hn hls hst (lv_room hW) hdg hroom) X.2.2.1 (fun q _ h => X.free q h) X.free (fun u t H1 locs1 ht hvm hw hB _ _ hS => kk u H1 locs1 hw (X.back ht hvm hB hS))
end LCalls
theorem g_startiS {l : Launch} {L : Lt} {Y : Yt} {y : MethodName} {ws ws' : List Cond} {rm : Room} {av : List Value} {σ : Mem} {bb nn : Nat} {xs : Nat → Int32} {Qc : Int → Mem → Prop} {cc : ByteArray} {nL : Nat} {own : String} {rty : FieldType} (hn : ∀ z u, Qc z u → narrow rty (.int (iI z)) = .int (iI z)) (hy : plainName y.cls = true) (hw : ws = Cond.code y cc nL (some rty) :: ws') (hown : y.cls = own) (hlen : (lg_sl av).length ≤ nL)
    (body : ∀ (p : Program) (e : Env) (s : State) (m : MethodId) (below : List Frame) (meth : Method) (c : Code) (A : Nat → Prop) (Z : State → Prop) (ls : Array Slot), va_X bb nn xs s s.heap ∧ bb < s.heap.size ∧ ¬ A bb → gx p s m av.toArray meth c cc nL own ws (some rty) → (∀ z u H locs pc ls, Qc z u → wx L Y u s A H locs → decode cc pc = .ok (.ireturn, 1) → W p l e rm s m av.toArray below meth c H locs 0 0 Z (F0 m pc ls [.int (iI z)])) → wx L Y σ s A s.heap [] → lv_has ls nL (lv_args 0 av) → W p l e rm s m av.toArray below meth c s.heap [] 0 0 Z (F0 m 0 ls [])) : MSi l L Y y ws rm av σ bb nn xs Qc := by
  intro sz
  refine Met.ofW (cc := cc) (maxL := nL) (ret := some rty) hy hw ?_
  intro p e s m args below meth c s₁ B hml hv
  obtain ⟨rfl, ⟨rfl, hP, hK, hD0⟩, hXs, hbl, hbA⟩ := hv
  have hts := atoms_spec (ws := ws) B.pre
  have G : gx p s m av.toArray meth c cc nL own ws (some rty) := ⟨B.exec, B.bytes, hml, by rw [← hown]; exact findClass_of_methodNamed B.named, hts, B.returns, B.notSynchronized⟩
  have hD := hD0.self (sz := s.heap.size)
  generalize hAe : va_A (wL L Y σ) s.heap.size = A at hD hbA
  have hA : ∀ q : Nat, s.heap.size ≤ q → A q := fun q h => by rw [← hAe]; exact Or.inr h
  have hl := lv_entry av (n := nL) hlen
  rw [lg_entry_eq]
  refine body p e s m below meth c A _ _ ⟨hXs, hbl, hbA⟩ G (fun z u H locs pc ls hq X1 hdg => ?_) ⟨hP, hD, va_S.rf, hK, hA⟩ hl
  exact W.zret (v := iI z) G.1 G.2.1 G.2.2.2.2.2.1 (hn z u hq) (fun t ht hW => ⟨⟨iI z, u, rfl, ⟨z, rfl, hq⟩, ⟨by rw [ht]; exact X1.1, va_K.moved hW.alike X1.2.2.2.1, X1.2.1⟩⟩, X1.2.2.1.F ht⟩) X1.2.2.1.2.2 hdg G.2.2.2.2.2.2
theorem g_startvS {l : Launch} {L : Lt} {Y : Yt} {y : MethodName} {ws ws' : List Cond} {rm : Room} {av : List Value} {σ : Mem} {bb nn : Nat} {xs : Nat → Int32} {Qc : Mem → Prop} {cc : ByteArray} {nL : Nat} {own : String} (hy : plainName y.cls = true) (hw : ws = Cond.code y cc nL (none) :: ws') (hown : y.cls = own) (hlen : (lg_sl av).length ≤ nL)
    (body : ∀ (p : Program) (e : Env) (s : State) (m : MethodId) (below : List Frame) (meth : Method) (c : Code) (A : Nat → Prop) (Z : State → Prop) (ls : Array Slot), va_X bb nn xs s s.heap ∧ bb < s.heap.size ∧ ¬ A bb → gx p s m av.toArray meth c cc nL own ws (none) → (∀ u H locs pc ls, Qc u → wx L Y u s A H locs → decode cc pc = .ok (.return_, 1) → W p l e rm s m av.toArray below meth c H locs 0 0 Z (F0 m pc ls [])) → wx L Y σ s A s.heap [] → lv_has ls nL (lv_args 0 av) → W p l e rm s m av.toArray below meth c s.heap [] 0 0 Z (F0 m 0 ls [])) : MSv l L Y y ws rm av σ bb nn xs Qc := by
  intro sz
  refine Met.ofW (cc := cc) (maxL := nL) (ret := none) hy hw ?_
  intro p e s m args below meth c s₁ B hml hv
  obtain ⟨rfl, ⟨rfl, hP, hK, hD0⟩, hXs, hbl, hbA⟩ := hv
  have hts := atoms_spec (ws := ws) B.pre
  have G : gx p s m av.toArray meth c cc nL own ws (none) := ⟨B.exec, B.bytes, hml, by rw [← hown]; exact findClass_of_methodNamed B.named, hts, B.returns, B.notSynchronized⟩
  have hD := hD0.self (sz := s.heap.size)
  generalize hAe : va_A (wL L Y σ) s.heap.size = A at hD hbA
  have hA : ∀ q : Nat, s.heap.size ≤ q → A q := fun q h => by rw [← hAe]; exact Or.inr h
  have hl := lv_entry av (n := nL) hlen
  rw [lg_entry_eq]
  refine body p e s m below meth c A _ _ ⟨hXs, hbl, hbA⟩ G (fun u H locs pc ls hq X1 hdg => ?_) ⟨hP, hD, va_S.rf, hK, hA⟩ hl
  exact W.vret G.1 G.2.1 G.2.2.2.2.2.1 (fun t ht hW => ⟨⟨u, rfl, hq, ⟨by rw [ht]; exact X1.1, va_K.moved hW.alike X1.2.2.2.1, X1.2.1⟩⟩, X1.2.2.1.F ht⟩) X1.2.2.1.2.2 hdg G.2.2.2.2.2.2
/-! comparing fractions as the law does -/
theorem fl_tm {a b : Int} (hb : 0 < b) : -b < a.tmod b ∧ a.tmod b < b ∧ a.tdiv b * b + a.tmod b = a := ⟨Int.lt_tmod_of_pos a hb, Int.tmod_lt_of_pos a hb, by rw [Int.mul_comm]; exact Int.mul_tdiv_add_tmod a b⟩
theorem fl_rg {a b z A : Int} (hb : 0 < b) (hA : 0 ≤ A) (h1 : -A ≤ a) (h2 : a ≤ A) (h3 : z * b ≤ a) (h4 : a < z * b + b) : -A - 1 ≤ z ∧ z ≤ A := by
  constructor
  · by_cases q : -A - 1 ≤ z
    · exact q
    · have k : (z + 1) * b ≤ (z + 1) * 1 := Int.mul_le_mul_of_nonpos_left (by omega) (by omega)
      rw [Int.add_mul, Int.one_mul, Int.mul_one] at k
      omega
  · by_cases q : z ≤ A
    · exact q
    · have k : z * 1 ≤ z * b := Int.mul_le_mul_of_nonneg_left (by omega) (by omega)
      omega
theorem fl_hi {a b : Int} (hb : 0 < b) (h1 : -1152921504606846976 ≤ a) (h2 : a ≤ 1152921504606846976) (h : 0 ≤ a.tmod b) : a.tdiv b * b ≤ a ∧ a < a.tdiv b * b + b ∧ -1152921504606846977 ≤ a.tdiv b ∧ a.tdiv b ≤ 1152921504606846976 := by
  obtain ⟨t1, t2, t3⟩ := fl_tm (a := a) hb
  have k1 : a.tdiv b * b ≤ a := by omega
  have k2 : a < a.tdiv b * b + b := by omega
  have := fl_rg hb (by omega) h1 h2 k1 k2
  exact ⟨k1, k2, by omega, this.2⟩
theorem fl_lo {a b : Int} (hb : 0 < b) (h1 : -1152921504606846976 ≤ a) (h2 : a ≤ 1152921504606846976) (h : a.tmod b < 0) : (a.tdiv b - 1) * b ≤ a ∧ a < (a.tdiv b - 1) * b + b ∧ -1152921504606846977 ≤ a.tdiv b - 1 ∧ a.tdiv b - 1 ≤ 1152921504606846976 := by
  obtain ⟨t1, t2, t3⟩ := fl_tm (a := a) hb
  have e : (a.tdiv b - 1) * b = a.tdiv b * b - b := by rw [Int.sub_mul, Int.one_mul]
  have k1 : (a.tdiv b - 1) * b ≤ a := by omega
  have k2 : a < (a.tdiv b - 1) * b + b := by omega
  have := fl_rg hb (by omega) h1 h2 k1 k2
  exact ⟨k1, k2, by omega, this.2⟩
theorem il_lt {a b c d x y : Int} (hb : 0 < b) (hd : 0 < d) (h1 : a < x * b + b) (h2 : y * d ≤ c) (h : x < y) : a * d < c * b := by
  have k1 : a * d < (x * b + b) * d := Int.mul_lt_mul_of_pos_right h1 hd
  have k2 : y * d * b ≤ c * b := Int.mul_le_mul_of_nonneg_right h2 (Int.le_of_lt hb)
  have k3 : (x + 1) * (b * d) ≤ y * (b * d) := Int.mul_le_mul_of_nonneg_right (by omega) (Int.le_of_lt (Int.mul_pos hb hd))
  have e1 : (x * b + b) * d = (x + 1) * (b * d) := by grind
  have e2 : y * d * b = y * (b * d) := by grind
  omega
theorem il_gt {a b c d x y : Int} (hb : 0 < b) (hd : 0 < d) (h1 : x * b ≤ a) (h2 : c < y * d + d) (h : y < x) : ¬ a * d < c * b := by
  have := il_lt (a := c) (b := d) (c := a) (d := b) hd hb h2 h1 h
  omega
theorem il_eq {a b c d x y : Int} (h : x = y) : (a - x * b) * d < (c - y * d) * b ↔ a * d < c * b := by
  subst h
  have e1 : (a - x * b) * d = a * d - x * b * d := by grind
  have e2 : (c - x * d) * b = c * b - x * b * d := by grind
  omega
theorem il_rg {a b d x : Int} (hd : 0 < d ∧ d ≤ 1073741824) (hb : 0 < b ∧ b ≤ 1073741824) (h1 : x * b ≤ a) (h2 : a < x * b + b) : -1152921504606846976 ≤ (a - x * b) * d ∧ (a - x * b) * d ≤ 1152921504606846976 := mul_rg (A := 1073741824) (B := 1073741824) (by omega) (by omega)
theorem gin_rg {P : List Pt} (hP : ptsOk P) (hl : P.length ≤ 12) {g : Int} (hg : 0 ≤ g ∧ g < ng P) : (0 ≤ ginA P g 0 ∧ ginA P g 0 ≤ 40) ∧ (1 ≤ ginA P g 1 ∧ ginA P g 1 ≤ 24) ∧ -2376 ≤ ginA P g 2 ∧ ginA P g 2 ≤ 2376 := by
  have hPf := prof_of hP hl
  obtain ⟨e0, e1, e2⟩ := ginA_1 hg
  rw [e0, e1, e2]
  have w1 := prof_rg hPf hg.1 (b := g + 1) (by omega) (by omega)
  have w2 := prof_w hPf hg.1 (b := g + 1) (by omega) (by omega)
  have x := hPf.2.2.2 g hg.1 hg.2
  omega
theorem by_rg {P : List Pt} (hP : ptsOk P) (hl : P.length ≤ 12) {kind g : Int} (hk : 0 ≤ kind ∧ kind ≤ 5) (hg : 0 ≤ g ∧ g < ng P) : -30000000 ≤ byA P kind g ∧ byA P kind g ≤ 30000000 := by
  obtain ⟨a0, a1, a2, a3⟩ := fitA_rg hP hl hk hg
  obtain ⟨b0, b1, b2⟩ := gin_rg hP hl hg
  have k1 := mul_rg (a := fitA P kind g 0) (b := ginA P g 1) (A := 570240) (B := 24) (by omega) (by omega)
  have k2 := mul_rg (a := ginA P g 2) (b := fitA P kind g 1) (A := 2376) (B := 5760) (by omega) (by omega)
  unfold byA
  omega
theorem bd_rg {P : List Pt} (hP : ptsOk P) (hl : P.length ≤ 12) {kind g : Int} (hk : 0 ≤ kind ∧ kind ≤ 5) (h0 : 0 < g) (h1 : g < ng P - 1) : (-1600000000000000 ≤ bdA P kind g ∧ bdA P kind g ≤ 1600000000000000) ∧ -1600000000000000 ≤ bdB P kind g ∧ bdB P kind g ≤ 1600000000000000 := by
  obtain ⟨a0, a1, a2, a3⟩ := fitA_rg hP hl hk (g := g + 1) (by omega)
  obtain ⟨b0, b1, b2, b3⟩ := fitA_rg hP hl hk (g := g - 1) (by omega)
  have s1 := step_rg hP hl hk (g := g - 1) (by omega) (by omega)
  have s2 := step_rg hP hl hk (g := g) (by omega) (by omega)
  have c1 := (gin_rg hP hl (g := g - 1) (by omega)).1
  have c2 := (gin_rg hP hl (g := g) (by omega)).1
  have c3 := (gin_rg hP hl (g := g + 1) (by omega)).1
  have k1 := mul_rg (a := stepA P kind (g - 1)) (b := ginA P (g + 1) 0 - ginA P g 0) (A := 6569164800) (B := 40) (by omega) (by omega)
  have k2 := mul_rg (a := stepA P kind (g - 1) * (ginA P (g + 1) 0 - ginA P g 0)) (b := fitA P kind (g + 1) 1) (A := 262766592000) (B := 5760) (by omega) (by omega)
  have k3 := mul_rg (a := stepA P kind g) (b := ginA P g 0 - ginA P (g - 1) 0) (A := 6569164800) (B := 40) (by omega) (by omega)
  have k4 := mul_rg (a := stepA P kind g * (ginA P g 0 - ginA P (g - 1) 0)) (b := fitA P kind (g - 1) 1) (A := 262766592000) (B := 5760) (by omega) (by omega)
  unfold bdA bdB
  omega
theorem turned_by {P : List Pt} (hP : ptsOk P) (hl : P.length ≤ 12) {kind g : Int} (hk : kind = 2 ∨ kind = 3) (h0 : 0 ≤ g) (h1 : g + 1 < ng P) : (kind = 2 → (g < turnA P kind → 0 ≤ stepA P kind g) ∧ (turnA P kind ≤ g → stepA P kind g ≤ 0)) ∧ (kind = 3 → (g < turnA P kind → stepA P kind g ≤ 0) ∧ (turnA P kind ≤ g → 0 ≤ stepA P kind g)) := by
  have k := turned_step hP hl (kind := kind) (g := g) (by omega) h0 h1
  constructor
  · intro q
    have e : tSide kind = 1 := by unfold tSide; rw [if_pos q]
    rw [e, Int.one_mul] at k
    exact k
  · intro q
    have e : tSide kind = -1 := by unfold tSide; rw [if_neg (by omega)]
    rw [e, Int.neg_mul, Int.one_mul] at k
    exact ⟨fun h => by have := k.1 h; omega, fun h => by have := k.2 h; omega⟩
theorem bent_nz {P : List Pt} (hP : ptsOk P) (hl : P.length ≤ 12) {kind g : Int} (hk : kind = 4 ∨ kind = 5) (hg : 0 ≤ g ∧ g < ng P) (h : ¬ byA P kind g = 0) : 0 < g ∧ g < ng P - 1 ∧ ¬ isCor (hulC P (hSide kind)) g := by
  have b := (bent_by hP hl hk hg).2
  obtain ⟨c0, c1⟩ := cor_ends (hulC_ok hP hl (hSide kind)) (show 0 < ng P by omega)
  refine ⟨?_, ?_, fun q => h (b q)⟩
  · by_cases q : 0 < g
    · exact q
    · exact absurd (b ((show g = 0 by omega) ▸ c0)) h
  · by_cases q : g < ng P - 1
    · exact q
    · exact absurd (b ((show g = ng P - 1 by omega) ▸ c1)) h
theorem hs_of {kind sg : Int} (h : (kind = 4 ∧ sg = 1) ∨ (kind = 5 ∧ sg = -1)) : hSide kind = sg := by
  unfold hSide
  split <;> omega
theorem sg_rg {sg x A : Int} (h : sg = 1 ∨ sg = -1) (h1 : -A ≤ x) (h2 : x ≤ A) : -A ≤ sg * x ∧ sg * x ≤ A := by
  rcases h with rfl | rfl
  · rw [Int.one_mul]; omega
  · rw [Int.neg_mul, Int.one_mul]; omega
