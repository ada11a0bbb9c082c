section GRows2
variable {p : Program} {l : Launch} {e : Env} {R : Room} {s : State} {m : MethodId} {args : Array Value} {below : List Frame} {meth : Method} {c : Code} {H : Heap} {locs : List Loc} {cells slots : Nat} {Z : State → Prop}
variable {cc : ByteArray} {nL : Nat} {own : String} {Ts : List Cond} {rt : Option FieldType} {pc : Nat} {ls : Array Slot} {rest : List Value}
variable {L : Lt} {Y : Yt} {σ : Mem} {A : Nat → Prop}
theorem g_get (G : gx p s m args meth c cc nL own Ts rt) (X : wx L Y σ s A H locs) {ref C : String} {T : u_T} {N ci index k : Nat} {fs : (Int → Int) → List Value} (hk : k < (L Y).length) (hlay : ∀ r, cL L Y k r = .inr (ci, fs r)) (hc : vwCl[ci]? = some (C, T, N)) (hin : ∀ w ∈ u_ws C T N, w ∈ Ts) (j : Nat) (hj : j < N) (hlink : (Cond.fieldLink own index ref (T j).2.1 (T j).2.2.1).before args s = true) (href : (T j).1 = ref) {v : Value} (hv : (fs (σ k))[j]? = some v) (hdg : decode cc pc = .ok (.getfield index, 3)) (kk : W p l e R s m args below meth c H locs cells slots Z (F0 m (pc + 3) ls (v :: rest))) : W p l e R s m args below meth c H locs cells slots Z (F0 m pc ls (.ref (Y.2.1 k) :: rest)) := va_get G.1 G.2.1 G.2.2.2.2.1 hin G.2.2.2.1 X.2.2.2.1 X.1 k (by rw [wL_at hk, hlay]) hc j hj hlink (fun _ h => by rw [← href]; exact h) hv hdg kk
theorem g_puti (G : gx p s m args meth c cc nL own Ts rt) (X : wx L Y σ s A H locs) {ref C : String} {T : u_T} {N ci index k : Nat} {fs : (Int → Int) → List Value} (hk : k < (L Y).length) (hlay : ∀ r, cL L Y k r = .inr (ci, fs r)) (hc : vwCl[ci]? = some (C, T, N)) (hin : ∀ w ∈ u_ws C T N, w ∈ Ts) (ty0 : Nat → FieldType) (hty : ∀ k, k < N → parseFieldDescriptor (T k).2.2.1 = some (ty0 k)) (hnm : ∀ a, a < N → ∀ b, b < N → a ≠ b → (T a).2.1 ≠ (T b).2.1) (j : Nat) (ji : Int) (hj : j < N) (hlink : (Cond.fieldLink own index ref (T j).2.1 (T j).2.2.1).before args s = true) (href : (T j).1 = ref) (hfin : (T j).2.2.2 = false) (hd : parseFieldDescriptor (T j).2.2.1 = some .int) {z : Int} (hl : j < (fs (σ k)).length) (hset : ∀ r, (fs r).set j (.int (iI z)) = fs (fun b => if b = ji then z else r b)) (hdg : decode cc pc = .ok (.putfield index, 3)) (kk : ∀ H1 locs1, wx L Y (up σ k ji z) s A H1 locs1 → W p l e R s m args below meth c H1 locs1 cells slots Z (F0 m (pc + 3) ls rest)) : W p l e R s m args below meth c H locs cells slots Z (F0 m pc ls (.int (iI z) :: .ref (Y.2.1 k) :: rest)) := by
  refine va_put (v := .int (iI z)) G.1 G.2.1 G.2.2.2.2.1 hin ty0 hty hnm G.2.2.2.1 X.2.2.2.1 X.1 X.2.1 X.2.2.1 k (by rw [wL_at hk, hlay]) hc j hj hlink (fun _ h => by rw [← href]; exact h) hfin hd rfl rfl hl hdg (fun H1 locs1 hP hD hS => ?_)
  have e1 : up σ k ji z k = fun b => if b = ji then z else σ k b := by funext b; simp [up]
  have e2 : (wL L Y σ).set k (Y.2.1 k, .inr (ci, (fs (σ k)).set j (.int (iI z)))) = wL L Y (up σ k ji z) := by
    rw [← wL_set (τ := up σ k ji z) hk (fun a h => up_ne h), hlay, e1, hset]
  rw [e2] at hP hD
  exact kk H1 locs1 ⟨hP, hD, hS, X.2.2.2⟩
theorem g_putl (G : gx p s m args meth c cc nL own Ts rt) (X : wx L Y σ s A H locs) {ref C : String} {T : u_T} {N ci index k : Nat} {fs : (Int → Int) → List Value} (hk : k < (L Y).length) (hlay : ∀ r, cL L Y k r = .inr (ci, fs r)) (hc : vwCl[ci]? = some (C, T, N)) (hin : ∀ w ∈ u_ws C T N, w ∈ Ts) (ty0 : Nat → FieldType) (hty : ∀ k, k < N → parseFieldDescriptor (T k).2.2.1 = some (ty0 k)) (hnm : ∀ a, a < N → ∀ b, b < N → a ≠ b → (T a).2.1 ≠ (T b).2.1) (j : Nat) (ji : Int) (hj : j < N) (hlink : (Cond.fieldLink own index ref (T j).2.1 (T j).2.2.1).before args s = true) (href : (T j).1 = ref) (hfin : (T j).2.2.2 = false) (hd : parseFieldDescriptor (T j).2.2.1 = some .long) {z : Int} (hl : j < (fs (σ k)).length) (hset : ∀ r, (fs r).set j (.long (lI z)) = fs (fun b => if b = ji then z else r b)) (hdg : decode cc pc = .ok (.putfield index, 3)) (kk : ∀ H1 locs1, wx L Y (up σ k ji z) s A H1 locs1 → W p l e R s m args below meth c H1 locs1 cells slots Z (F0 m (pc + 3) ls rest)) : W p l e R s m args below meth c H locs cells slots Z (F0 m pc ls (.long (lI z) :: .ref (Y.2.1 k) :: rest)) := by
  refine va_put (v := .long (lI z)) G.1 G.2.1 G.2.2.2.2.1 hin ty0 hty hnm G.2.2.2.1 X.2.2.2.1 X.1 X.2.1 X.2.2.1 k (by rw [wL_at hk, hlay]) hc j hj hlink (fun _ h => by rw [← href]; exact h) hfin hd rfl rfl hl hdg (fun H1 locs1 hP hD hS => ?_)
  have e1 : up σ k ji z k = fun b => if b = ji then z else σ k b := by funext b; simp [up]
  have e2 : (wL L Y σ).set k (Y.2.1 k, .inr (ci, (fs (σ k)).set j (.long (lI z)))) = wL L Y (up σ k ji z) := by
    rw [← wL_set (τ := up σ k ji z) hk (fun a h => up_ne h), hlay, e1, hset]
  rw [e2] at hP hD
  exact kk H1 locs1 ⟨hP, hD, hS, X.2.2.2⟩
theorem g_iald (G : gx p s m args meth c cc nL own Ts rt) (X : wx L Y σ s A H locs) {k n : Nat} (hk : k < (L Y).length) (hlay : ∀ r, cL L Y k r = eI Y n r) (hn : n < 2147483648) {z : Int} (hz : 0 ≤ z ∧ z < n) (hdg : decode cc pc = .ok (.iaload, 1)) (kk : W p l e R s m args below meth c H locs cells slots Z (F0 m (pc + 1) ls (.int (iI (σ k z)) :: rest))) : W p l e R s m args below meth c H locs cells slots Z (F0 m pc ls (.int (iI z) :: .ref (Y.2.1 k) :: rest)) := by
  refine va_iald G.1 G.2.1 X.2.2.2.1 X.1 k 0 (by rw [wL_at hk, hlay]; rfl) rfl (iI_in hz hn) hdg ?_
  rw [iI_cl hz hn, Int.toNat_of_nonneg hz.1]
  exact kk
theorem g_cald (G : gx p s m args meth c cc nL own Ts rt) (X : wx L Y σ s A H locs) {k n : Nat} (hk : k < (L Y).length) (hlay : ∀ r, cL L Y k r = eC Y n r) (hn : n < 2147483648) {z : Int} (hz : 0 ≤ z ∧ z < n) (hdg : decode cc pc = .ok (.caload, 1)) (kk : W p l e R s m args below meth c H locs cells slots Z (F0 m (pc + 1) ls (.int (iI (σ k z)) :: rest))) : W p l e R s m args below meth c H locs cells slots Z (F0 m pc ls (.int (iI z) :: .ref (Y.2.1 k) :: rest)) := by
  refine va_cald G.1 G.2.1 X.2.2.2.1 X.1 k 2 (by rw [wL_at hk, hlay]; rfl) rfl (iI_in hz hn) hdg ?_
  rw [iI_cl hz hn, Int.toNat_of_nonneg hz.1]
  exact kk
theorem g_lald (G : gx p s m args meth c cc nL own Ts rt) (X : wx L Y σ s A H locs) {k n : Nat} (hk : k < (L Y).length) (hlay : ∀ r, cL L Y k r = eJ Y n r) (hn : n < 2147483648) {z : Int} (hz : 0 ≤ z ∧ z < n) (hdg : decode cc pc = .ok (.laload, 1)) (kk : W p l e R s m args below meth c H locs cells slots Z (F0 m (pc + 1) ls (.long (lI (σ k z)) :: rest))) : W p l e R s m args below meth c H locs cells slots Z (F0 m pc ls (.int (iI z) :: .ref (Y.2.1 k) :: rest)) := by
  refine va_lald G.1 G.2.1 X.2.2.2.1 X.1 k 1 (by rw [wL_at hk, hlay]; rfl) rfl (iI_in hz hn) hdg ?_
  rw [iI_cl hz hn, Int.toNat_of_nonneg hz.1]
  exact kk
theorem e_upI (Y : Yt) (n : Nat) (r : Int → Int) {z : Int} (hz : 0 ≤ z) (v : Int) : (.inl (Y.2.2 0, n, .inl (upd (fun j : Nat => iI (r (j : Int))) z.toNat (iI v))) : va_E) = eI Y n (fun b => if b = z then v else r b) := by
  unfold eI
  refine congrArg (fun f => (Sum.inl (Y.2.2 0, n, Sum.inl f) : va_E)) (funext fun j => ?_)
  unfold upd
  dsimp only
  by_cases h : j = z.toNat
  · rw [if_pos h, if_pos (by omega)]
  · rw [if_neg h, if_neg (by omega)]
theorem e_upC (Y : Yt) (n : Nat) (r : Int → Int) {z : Int} (hz : 0 ≤ z) (v : Int) : (.inl (Y.2.2 2, n, .inl (upd (fun j : Nat => iI (r (j : Int))) z.toNat (iI v))) : va_E) = eC Y n (fun b => if b = z then v else r b) := by
  unfold eC
  refine congrArg (fun f => (Sum.inl (Y.2.2 2, n, Sum.inl f) : va_E)) (funext fun j => ?_)
  unfold upd
  dsimp only
  by_cases h : j = z.toNat
  · rw [if_pos h, if_pos (by omega)]
  · rw [if_neg h, if_neg (by omega)]
theorem e_upJ (Y : Yt) (n : Nat) (r : Int → Int) {z : Int} (hz : 0 ≤ z) (v : Int) : (.inl (Y.2.2 1, n, .inr (.inl (vp_updL (fun j : Nat => lI (r (j : Int))) z.toNat (lI v)))) : va_E) = eJ Y n (fun b => if b = z then v else r b) := by
  unfold eJ
  refine congrArg (fun f => (Sum.inl (Y.2.2 1, n, Sum.inr (Sum.inl f)) : va_E)) (funext fun j => ?_)
  unfold vp_updL
  dsimp only
  by_cases h : j = z.toNat
  · rw [if_pos h, if_pos (by omega)]
  · rw [if_neg h, if_neg (by omega)]
theorem iI_narC {v : Int} (hv : 0 ≤ v ∧ v < 65536) : vp_nar .char (iI v) = iI v := by
  obtain ⟨n, rfl⟩ : ∃ n : Nat, v = (n : Int) := ⟨v.toNat, by omega⟩
  rw [iI_nI]
  unfold vp_nar
  rw [(pk_charN (q := n) (by omega)).1]
theorem g_iast (G : gx p s m args meth c cc nL own Ts rt) (X : wx L Y σ s A H locs) {k n : Nat} (hk : k < (L Y).length) (hlay : ∀ r, cL L Y k r = eI Y n r) (hn : n < 2147483648) {z v : Int} (hz : 0 ≤ z ∧ z < n) (hdg : decode cc pc = .ok (.iastore, 1)) (kk : ∀ H1 locs1, wx L Y (up σ k z v) s A H1 locs1 → W p l e R s m args below meth c H1 locs1 cells slots Z (F0 m (pc + 1) ls rest)) : W p l e R s m args below meth c H locs cells slots Z (F0 m pc ls (.int (iI v) :: .int (iI z) :: .ref (Y.2.1 k) :: rest)) := by
  refine va_iast G.1 G.2.1 X.2.2.2.1 X.1 X.2.1 X.2.2.1 k 0 (by rw [wL_at hk, hlay]; rfl) rfl (iI_in hz hn) hdg (fun H1 locs1 hP hD hS => ?_)
  rw [iI_cl hz hn, e_upI Y n (σ k) hz.1 v] at hP hD
  have e1 : up σ k z v k = fun b => if b = z then v else σ k b := by funext b; simp [up]
  have e2 : (wL L Y σ).set k (Y.2.1 k, eI Y n (fun b => if b = z then v else σ k b)) = wL L Y (up σ k z v) := by
    rw [← wL_set (τ := up σ k z v) hk (fun a h => up_ne h), hlay, e1]
  rw [e2] at hP hD
  exact kk H1 locs1 ⟨hP, hD, hS, X.2.2.2⟩
theorem g_cast (G : gx p s m args meth c cc nL own Ts rt) (X : wx L Y σ s A H locs) {k n : Nat} (hk : k < (L Y).length) (hlay : ∀ r, cL L Y k r = eC Y n r) (hn : n < 2147483648) {z v : Int} (hz : 0 ≤ z ∧ z < n) (hv : 0 ≤ v ∧ v < 65536) (hdg : decode cc pc = .ok (.castore, 1)) (kk : ∀ H1 locs1, wx L Y (up σ k z v) s A H1 locs1 → W p l e R s m args below meth c H1 locs1 cells slots Z (F0 m (pc + 1) ls rest)) : W p l e R s m args below meth c H locs cells slots Z (F0 m pc ls (.int (iI v) :: .int (iI z) :: .ref (Y.2.1 k) :: rest)) := by
  refine va_cast G.1 G.2.1 X.2.2.2.1 X.1 X.2.1 X.2.2.1 k 2 (by rw [wL_at hk, hlay]; rfl) rfl (iI_in hz hn) hdg (fun H1 locs1 hP hD hS => ?_)
  rw [iI_cl hz hn, iI_narC hv, e_upC Y n (σ k) hz.1 v] at hP hD
  have e1 : up σ k z v k = fun b => if b = z then v else σ k b := by funext b; simp [up]
  have e2 : (wL L Y σ).set k (Y.2.1 k, eC Y n (fun b => if b = z then v else σ k b)) = wL L Y (up σ k z v) := by
    rw [← wL_set (τ := up σ k z v) hk (fun a h => up_ne h), hlay, e1]
  rw [e2] at hP hD
  exact kk H1 locs1 ⟨hP, hD, hS, X.2.2.2⟩
theorem g_last (G : gx p s m args meth c cc nL own Ts rt) (X : wx L Y σ s A H locs) {k n : Nat} (hk : k < (L Y).length) (hlay : ∀ r, cL L Y k r = eJ Y n r) (hn : n < 2147483648) {z v : Int} (hz : 0 ≤ z ∧ z < n) (hdg : decode cc pc = .ok (.lastore, 1)) (kk : ∀ H1 locs1, wx L Y (up σ k z v) s A H1 locs1 → W p l e R s m args below meth c H1 locs1 cells slots Z (F0 m (pc + 1) ls rest)) : W p l e R s m args below meth c H locs cells slots Z (F0 m pc ls (.long (lI v) :: .int (iI z) :: .ref (Y.2.1 k) :: rest)) := by
  refine va_last G.1 G.2.1 X.2.2.2.1 X.1 X.2.1 X.2.2.1 k 1 (by rw [wL_at hk, hlay]; rfl) rfl (iI_in hz hn) hdg (fun H1 locs1 hP hD hS => ?_)
  rw [iI_cl hz hn, e_upJ Y n (σ k) hz.1 v] at hP hD
  have e1 : up σ k z v k = fun b => if b = z then v else σ k b := by funext b; simp [up]
  have e2 : (wL L Y σ).set k (Y.2.1 k, eJ Y n (fun b => if b = z then v else σ k b)) = wL L Y (up σ k z v) := by
    rw [← wL_set (τ := up σ k z v) hk (fun a h => up_ne h), hlay, e1]
  rw [e2] at hP hD
  exact kk H1 locs1 ⟨hP, hD, hS, X.2.2.2⟩
theorem g_aaldR (G : gx p s m args meth c cc nL own Ts rt) (X : wx L Y σ s A H locs) {k n : Nat} (hk : k < (L Y).length) (hlay : ∀ r, cL L Y k r = eR Y n r) (hn : n < 2147483648) {z : Int} (hz : 0 ≤ z ∧ z < n) (hdg : decode cc pc = .ok (.aaload, 1)) (kk : W p l e R s m args below meth c H locs cells slots Z (F0 m (pc + 1) ls (.ref (Y.2.1 (σ k z).toNat) :: rest))) : W p l e R s m args below meth c H locs cells slots Z (F0 m pc ls (.int (iI z) :: .ref (Y.2.1 k) :: rest)) := by
  refine va_aldq G.1 G.2.1 X.2.2.2.1 X.1 k 3 (by rw [wL_at hk, hlay]; rfl) rfl (iI_in hz hn) hdg ?_
  rw [iI_cl hz hn]
  show W p l e R s m args below meth c H locs cells slots Z (F0 m (pc + 1) ls (.ref (Y.2.1 (σ k ((z.toNat : Nat) : Int)).toNat) :: rest))
  rw [Int.toNat_of_nonneg hz.1]
  exact kk
theorem g_aaldT (G : gx p s m args meth c cc nL own Ts rt) (X : wx L Y σ s A H locs) {k t n g : Nat} {ty : FieldType} (hk : k < (L Y).length) (hlay : ∀ r, cL L Y k r = eT Y t n g r) (ht : (tyY Y)[t]? = some (Y.2.2 t, ty)) (hty : ty.isReference = true) (hn : n < 2147483648) {z : Int} (hz : 0 ≤ z ∧ z < n) (hdg : decode cc pc = .ok (.aaload, 1)) (kk : W p l e R s m args below meth c H locs cells slots Z (F0 m (pc + 1) ls (.ref (Y.2.1 (g + z.toNat)) :: rest))) : W p l e R s m args below meth c H locs cells slots Z (F0 m pc ls (.int (iI z) :: .ref (Y.2.1 k) :: rest)) := by
  have ha : (wL L Y σ)[k]? = some (Y.2.1 k, .inl (Y.2.2 t, n, .inr (.inr (.inr (.inr (fun j : Nat => if j < n then some (Y.2.1 (g + j)) else none)))))) := by rw [wL_at hk, hlay]; rfl
  have hlt : z.toNat < n := by omega
  refine W.aald (v := .ref (Y.2.1 (g + z.toNat))) (ty := ty) G.1 G.2.1 (X.1 k _ ha) ((X.2.2.2.1.2 t _ ht).1 n (fun j => va_rf (if j < n then some (Y.2.1 (g + j)) else none))) hty (fun q => by cases q) (by show ¬ (iI z < 0 ∨ (arrV _ _ _).slots.size ≤ _); rw [arrV_size]; exact iI_in hz hn) (by show (arrV _ _ _).slots[_]? = _; rw [iI_cl hz hn, arrV_read _ _ hlt]; dsimp only; rw [if_pos hlt]; rfl) rfl rfl hdg kk
theorem e_upR (Y : Yt) (n : Nat) (r : Int → Int) {z : Int} (hz : 0 ≤ z) (v : Nat) : (.inl (Y.2.2 3, n, .inr (.inr (.inr (.inr (va_up (fun j : Nat => some (Y.2.1 (r (j : Int)).toNat)) z.toNat (some (Y.2.1 v))))))) : va_E) = eR Y n (fun b => if b = z then (v : Int) else r b) := by
  unfold eR
  refine congrArg (fun f => (Sum.inl (Y.2.2 3, n, Sum.inr (Sum.inr (Sum.inr (Sum.inr f)))) : va_E)) (funext fun j => ?_)
  unfold va_up
  dsimp only
  by_cases h : j = z.toNat
  · rw [if_pos h, if_pos (by omega)]; rfl
  · rw [if_neg h, if_neg (by omega)]
theorem g_aastR (G : gx p s m args meth c cc nL own Ts rt) (X : wx L Y σ s A H locs) {k n v : Nat} {fs : (Int → Int) → List Value} (hk : k < (L Y).length) (hlay : ∀ r, cL L Y k r = eR Y n r) (hkv : v < (L Y).length) (hlv : ∀ r, cL L Y v r = .inr (5, fs r)) (hn : n < 2147483648) {z : Int} (hz : 0 ≤ z ∧ z < n) (hdg : decode cc pc = .ok (.aastore, 1)) (kk : ∀ H1 locs1, wx L Y (up σ k z (v : Int)) s A H1 locs1 → W p l e R s m args below meth c H1 locs1 cells slots Z (F0 m (pc + 1) ls rest)) : W p l e R s m args below meth c H locs cells slots Z (F0 m pc ls (.ref (Y.2.1 v) :: .int (iI z) :: .ref (Y.2.1 k) :: rest)) := by
  refine va_astq G.1 G.2.1 X.2.2.2.1 X.1 X.2.1 X.2.2.1 k 3 v 5 (r := (RX5, TX5, 4)) (vs := fs (σ v)) (by rw [wL_at hk, hlay]; rfl) rfl (by rw [wL_at hkv, hlv]) rfl (iI_in hz hn) hdg (fun H1 locs1 hP hD hS => ?_)
  rw [iI_cl hz hn, e_upR Y n (σ k) hz.1 v] at hP hD
  have e1 : up σ k z (v : Int) k = fun b => if b = z then (v : Int) else σ k b := by funext b; simp [up]
  have e2 : (wL L Y σ).set k (Y.2.1 k, eR Y n (fun b => if b = z then (v : Int) else σ k b)) = wL L Y (up σ k z (v : Int)) := by
    rw [← wL_set (τ := up σ k z (v : Int)) hk (fun a h => up_ne h), hlay, e1]
  rw [e2] at hP hD
  exact kk H1 locs1 ⟨hP, hD, hS, X.2.2.2⟩
end GRows2
/-! contracts: from a world that holds σ; Q: the answer and the world behind it -/
def MPre (L : Lt) (Y : Yt) (σ : Mem) (sz : Nat) : State → Prop := fun U => U.heap.size = sz ∧ va_P Y.1 vwCl (wL L Y σ) U.heap ∧ va_K Y.1 vwCl (tyY Y) U ∧ va_D (fun _ => True) (wL L Y σ)
def MBe (L : Lt) (Y : Yt) (A : Nat → Prop) (u : Mem) (t : State) : Prop := va_P Y.1 vwCl (wL L Y u) t.heap ∧ va_K Y.1 vwCl (tyY Y) t ∧ va_D A (wL L Y u)
def MXi (l : Launch) (L : Lt) (Y : Yt) (y : MethodName) (ws : List Cond) (rm : Room) (av : List Value) (σ : Mem) (Q : Int → Mem → Prop) : Prop := ∀ sz : Nat, Met l y ws rm (va_Pc av (MPre L Y σ sz)) (va_Qi (fun (r : Int32) (u : Mem) => ∃ z : Int, r = iI z ∧ Q z u) (MBe L Y (va_A (wL L Y σ) sz)) (va_A (wL L Y σ) sz)) 0 0 (va_A (wL L Y σ) sz)
def MXl (l : Launch) (L : Lt) (Y : Yt) (y : MethodName) (ws : List Cond) (rm : Room) (av : List Value) (σ : Mem) (Q : Int → Mem → Prop) : Prop := ∀ sz : Nat, Met l y ws rm (va_Pc av (MPre L Y σ sz)) (va_Ql (fun (r : Int64) (u : Mem) => ∃ z : Int, r = lI z ∧ Q z u) (MBe L Y (va_A (wL L Y σ) sz)) (va_A (wL L Y σ) sz)) 0 0 (va_A (wL L Y σ) sz)
def MXv (l : Launch) (L : Lt) (Y : Yt) (y : MethodName) (ws : List Cond) (rm : Room) (av : List Value) (σ : Mem) (Q : Mem → Prop) : Prop := ∀ sz : Nat, Met l y ws rm (va_Pc av (MPre L Y σ sz)) (va_Qv (fun (u : Mem) => Q u) (MBe L Y (va_A (wL L Y σ) sz)) (va_A (wL L Y σ) sz)) 0 0 (va_A (wL L Y σ) sz)
def MXr (l : Launch) (L : Lt) (Y : Yt) (y : MethodName) (ws : List Cond) (rm : Room) (av : List Value) (σ : Mem) (Q : Nat → Mem → Prop) : Prop := ∀ sz : Nat, Met l y ws rm (va_Pc av (MPre L Y σ sz)) (va_Qr (fun (_ : Mem) => True) (fun (u : Mem) (a : Nat) (t : State) => MBe L Y (va_A (wL L Y σ) sz) u t ∧ ∃ k : Nat, a = Y.2.1 k ∧ Q k u) (va_A (wL L Y σ) sz)) 0 0 (va_A (wL L Y σ) sz)
section GCalls
variable {p : Program} {l : Launch} {e : Env} {R : Room} {s : State} {m : MethodId} {args : Array Value} {below : List Frame} {meth : Method} {c : Code} {H : Heap} {locs : List Loc} {cells slots : Nat} {Z : State → Prop}
variable {cc : ByteArray} {nL : Nat} {own : String} {Ts : List Cond} {rt : Option FieldType} {pc : Nat} {ls : Array Slot} {rest : List Value}
variable {L : Lt} {Y : Yt} {σ : Mem} {A : Nat → Prop}
variable {y : MethodName} {wy : List Cond} {rm : Room} {As st : List Value} {index maxL n : Nat} {bytes : ByteArray} {ret : Option FieldType}
theorem MPre.blind {sz : Nat} {av : List Value} : FrameBlind (va_Pc av (MPre L Y σ sz)) := fun a U g mk q => ⟨q.1, q.2.1, q.2.2.1, va_K.moved (u := U) (U := U.calling g mk a) (Vm.Alike.refl U.vm) q.2.2.2.1, q.2.2.2.2⟩
theorem wx.pre (X : wx L Y σ s A H locs) {av : List Value} : ∀ U : State, U.heap = H → s.WarmedH U.vm → va_Pc av (MPre L Y σ H.size) av.toArray U := fun U hU hW => ⟨rfl, by rw [hU], by rw [hU]; exact X.1, va_K.moved hW.alike X.2.2.2.1, X.2.1.weaken (fun _ _ _ _ => trivial)⟩
theorem wx.free (X : wx L Y σ s A H locs) : ∀ q, va_A (wL L Y σ) H.size q → A q := fun q h => by
  rcases h with ⟨k, e, h⟩ | h
  · exact X.2.1.2 k (q, e) h
  · exact X.2.2.2.2 q (Nat.le_trans X.2.2.1.1 h)
theorem wx.back (X : wx L Y σ s A H locs) {u : Mem} {t : State} {H1 : Heap} {locs1 : List Loc} (ht : t.heap = H1) (hvm : s.vm.Alike t.vm) (hB : MBe L Y (va_A (wL L Y σ) H.size) u t) (hS : va_S A s.heap H1 locs1) : wx L Y u s A H1 locs1 := ⟨by rw [← ht]; exact hB.1, hB.2.2.weaken (fun k q _ h => X.free q.1 h), hS, X.2.2.2⟩
theorem g_callVi (G : gx p s m args meth c cc nL own Ts rt) (X : wx L Y σ s A H locs) {b : Nat} {C : String} {T : u_T} {N ci k : Nat} {fs : List Value} {Qc : Int → Mem → Prop} (hM : MXi l L Y y wy rm (.ref b :: As) σ Qc) (cw : CallW R s args own C index y bytes maxL ret wy rm 0 0 n) (hk : k < (L Y).length) (hb : Y.2.1 k = b) (hlay : cL L Y k (σ k) = .inr (ci, fs)) (hc : vwCl[ci]? = some (C, T, N)) (hn : As.length = n) (hls : ls.size = nL) (hst : st = As.reverse ++ .ref b :: rest) (hW : (rest.map fun v => v.category).sum ≤ 8) (hdg : decode cc pc = .ok (.invokevirtual index, 3)) (hroom : cells ≤ R.cells ∧ slots ≤ R.slots) (kk : ∀ z u H1 locs1, Qc z u → wx L Y u s A H1 locs1 → W p l e R s m args below meth c H1 locs1 cells slots Z (F0 m (pc + 3) ls (.int (iI z) :: rest))) : W p l e R s m args below meth c H locs cells slots Z (F0 m pc ls st) := by
  subst hb
  refine va_calli (mc := 0) (ms := 0) (va_runV (As := As) (rest := rest) ⟨G.1, G.2.1, G.2.2.1, G.2.2.2.1, G.2.2.2.2.1⟩ (hM H.size) cw ⟨MPre.blind, va_recv X.2.2.2.1 X.1 (q0 := k) hc (by rw [wL_at hk, hlay]), X.pre⟩ rfl hn hls hst (lv_room hW) hdg hroom) X.2.2.1 (fun q _ h => X.free q h) X.free (fun r u t H1 locs1 ht hvm hw hB _ _ hS => by
    obtain ⟨z, rfl, hq⟩ := hw
    exact kk z u H1 locs1 hq (X.back ht hvm hB hS))
theorem g_callSi (G : gx p s m args meth c cc nL own Ts rt) (X : wx L Y σ s A H locs) {Qc : Int → Mem → Prop} (hM : MXi l L Y y wy rm As σ Qc) (cw : CallB R s args own index y bytes maxL ret wy rm 0 0 n ∧ (Cond.static y).before args s = true) (hn : As.length = n) (hls : ls.size = nL) (hst : st = As.reverse ++ rest) (hW : (rest.map fun v => v.category).sum ≤ 8) (hdg : decode cc pc = .ok (.invokestatic index, 3)) (hroom : cells ≤ R.cells ∧ slots ≤ R.slots) (kk : ∀ z u H1 locs1, Qc z u → wx L Y u s A H1 locs1 → W p l e R s m args below meth c H1 locs1 cells slots Z (F0 m (pc + 3) ls (.int (iI z) :: rest))) : W p l e R s m args below meth c H locs cells slots Z (F0 m pc ls st) := by
  refine va_calli (mc := 0) (ms := 0) (va_runS (As := As) (rest := rest) ⟨G.1, G.2.1, G.2.2.1, G.2.2.2.1, G.2.2.2.2.1⟩ (hM H.size) cw ⟨MPre.blind, X.pre⟩ rfl hn hls hst (lv_room hW) hdg hroom) X.2.2.1 (fun q _ h => X.free q h) X.free (fun r u t H1 locs1 ht hvm hw hB _ _ hS => by
    obtain ⟨z, rfl, hq⟩ := hw
    exact kk z u H1 locs1 hq (X.back ht hvm hB hS))
theorem g_callVl (G : gx p s m args meth c cc nL own Ts rt) (X : wx L Y σ s A H locs) {b : Nat} {C : String} {T : u_T} {N ci k : Nat} {fs : List Value} {Qc : Int → Mem → Prop} (hM : MXl l L Y y wy rm (.ref b :: As) σ Qc) (cw : CallW R s args own C index y bytes maxL ret wy rm 0 0 n) (hk : k < (L Y).length) (hb : Y.2.1 k = b) (hlay : cL L Y k (σ k) = .inr (ci, fs)) (hc : vwCl[ci]? = some (C, T, N)) (hn : As.length = n) (hls : ls.size = nL) (hst : st = As.reverse ++ .ref b :: rest) (hW : (rest.map fun v => v.category).sum ≤ 8) (hdg : decode cc pc = .ok (.invokevirtual index, 3)) (hroom : cells ≤ R.cells ∧ slots ≤ R.slots) (kk : ∀ z u H1 locs1, Qc z u → wx L Y u s A H1 locs1 → W p l e R s m args below meth c H1 locs1 cells slots Z (F0 m (pc + 3) ls (.long (lI z) :: rest))) : W p l e R s m args below meth c H locs cells slots Z (F0 m pc ls st) := by
  subst hb
  refine va_calll (mc := 0) (ms := 0) (va_runV (As := As) (rest := rest) ⟨G.1, G.2.1, G.2.2.1, G.2.2.2.1, G.2.2.2.2.1⟩ (hM H.size) cw ⟨MPre.blind, va_recv X.2.2.2.1 X.1 (q0 := k) hc (by rw [wL_at hk, hlay]), X.pre⟩ rfl hn hls hst (lv_room hW) hdg hroom) X.2.2.1 (fun q _ h => X.free q h) X.free (fun r u t H1 locs1 ht hvm hw hB _ _ hS => by
    obtain ⟨z, rfl, hq⟩ := hw
    exact kk z u H1 locs1 hq (X.back ht hvm hB hS))
theorem g_callSl (G : gx p s m args meth c cc nL own Ts rt) (X : wx L Y σ s A H locs) {Qc : Int → Mem → Prop} (hM : MXl l L Y y wy rm As σ Qc) (cw : CallB R s args own index y bytes maxL ret wy rm 0 0 n ∧ (Cond.static y).before args s = true) (hn : As.length = n) (hls : ls.size = nL) (hst : st = As.reverse ++ rest) (hW : (rest.map fun v => v.category).sum ≤ 8) (hdg : decode cc pc = .ok (.invokestatic index, 3)) (hroom : cells ≤ R.cells ∧ slots ≤ R.slots) (kk : ∀ z u H1 locs1, Qc z u → wx L Y u s A H1 locs1 → W p l e R s m args below meth c H1 locs1 cells slots Z (F0 m (pc + 3) ls (.long (lI z) :: rest))) : W p l e R s m args below meth c H locs cells slots Z (F0 m pc ls st) := by
  refine va_calll (mc := 0) (ms := 0) (va_runS (As := As) (rest := rest) ⟨G.1, G.2.1, G.2.2.1, G.2.2.2.1, G.2.2.2.2.1⟩ (hM H.size) cw ⟨MPre.blind, X.pre⟩ rfl hn hls hst (lv_room hW) hdg hroom) X.2.2.1 (fun q _ h => X.free q h) X.free (fun r u t H1 locs1 ht hvm hw hB _ _ hS => by
    obtain ⟨z, rfl, hq⟩ := hw
    exact kk z u H1 locs1 hq (X.back ht hvm hB hS))
theorem g_callVv (G : gx p s m args meth c cc nL own Ts rt) (X : wx L Y σ s A H locs) {b : Nat} {C : String} {T : u_T} {N ci k : Nat} {fs : List Value} {Qc : Mem → Prop} (hM : MXv l L Y y wy rm (.ref b :: As) σ Qc) (cw : CallW R s args own C index y bytes maxL ret wy rm 0 0 n) (hk : k < (L Y).length) (hb : Y.2.1 k = b) (hlay : cL L Y k (σ k) = .inr (ci, fs)) (hc : vwCl[ci]? = some (C, T, N)) (hn : As.length = n) (hls : ls.size = nL) (hst : st = As.reverse ++ .ref b :: rest) (hW : (rest.map fun v => v.category).sum ≤ 8) (hdg : decode cc pc = .ok (.invokevirtual index, 3)) (hroom : cells ≤ R.cells ∧ slots ≤ R.slots) (kk : ∀ u H1 locs1, Qc u → wx L Y u s A H1 locs1 → W p l e R s m args below meth c H1 locs1 cells slots Z (F0 m (pc + 3) ls (rest))) : W p l e R s m args below meth c H locs cells slots Z (F0 m pc ls st) := by
  subst hb
  refine va_callv (mc := 0) (ms := 0) (va_runV (As := As) (rest := rest) ⟨G.1, G.2.1, G.2.2.1, G.2.2.2.1, G.2.2.2.2.1⟩ (hM H.size) cw ⟨MPre.blind, va_recv X.2.2.2.1 X.1 (q0 := k) hc (by rw [wL_at hk, hlay]), X.pre⟩ rfl hn hls hst (lv_room hW) hdg hroom) X.2.2.1 (fun q _ h => X.free q h) X.free (fun u t H1 locs1 ht hvm hw hB _ _ hS => kk u H1 locs1 hw (X.back ht hvm hB hS))
theorem g_callSv (G : gx p s m args meth c cc nL own Ts rt) (X : wx L Y σ s A H locs) {Qc : Mem → Prop} (hM : MXv l L Y y wy rm As σ Qc) (cw : CallB R s args own index y bytes maxL ret wy rm 0 0 n ∧ (Cond.static y).before args s = true) (hn : As.length = n) (hls : ls.size = nL) (hst : st = As.reverse ++ rest) (hW : (rest.map fun v => v.category).sum ≤ 8) (hdg : decode cc pc = .ok (.invokestatic index, 3)) (hroom : cells ≤ R.cells ∧ slots ≤ R.slots) (kk : ∀ u H1 locs1, Qc u → wx L Y u s A H1 locs1 → W p l e R s m args below meth c H1 locs1 cells slots Z (F0 m (pc + 3) ls (rest))) : W p l e R s m args below meth c H locs cells slots Z (F0 m pc ls st) := by
  refine va_callv (mc := 0) (ms := 0) (va_runS (As := As) (rest := rest) ⟨G.1, G.2.1, G.2.2.1, G.2.2.2.1, G.2.2.2.2.1⟩ (hM H.size) cw ⟨MPre.blind, X.pre⟩ rfl hn hls hst (lv_room hW) hdg hroom) X.2.2.1 (fun q _ h => X.free q h) X.free (fun u t H1 locs1 ht hvm hw hB _ _ hS => kk u H1 locs1 hw (X.back ht hvm hB hS))
theorem g_callVr (G : gx p s m args meth c cc nL own Ts rt) (X : wx L Y σ s A H locs) {b : Nat} {C : String} {T : u_T} {N ci k : Nat} {fs : List Value} {Qc : Nat → Mem → Prop} (hM : MXr l L Y y wy rm (.ref b :: As) σ Qc) (cw : CallW R s args own C index y bytes maxL ret wy rm 0 0 n) (hk : k < (L Y).length) (hb : Y.2.1 k = b) (hlay : cL L Y k (σ k) = .inr (ci, fs)) (hc : vwCl[ci]? = some (C, T, N)) (hn : As.length = n) (hls : ls.size = nL) (hst : st = As.reverse ++ .ref b :: rest) (hW : (rest.map fun v => v.category).sum ≤ 8) (hdg : decode cc pc = .ok (.invokevirtual index, 3)) (hroom : cells ≤ R.cells ∧ slots ≤ R.slots) (kk : ∀ z u H1 locs1, Qc z u → wx L Y u s A H1 locs1 → W p l e R s m args below meth c H1 locs1 cells slots Z (F0 m (pc + 3) ls (.ref (Y.2.1 z) :: rest))) : W p l e R s m args below meth c H locs cells slots Z (F0 m pc ls st) := by
  subst hb
  refine va_callr (mc := 0) (ms := 0) (va_runV (As := As) (rest := rest) ⟨G.1, G.2.1, G.2.2.1, G.2.2.2.1, G.2.2.2.2.1⟩ (hM H.size) cw ⟨MPre.blind, va_recv X.2.2.2.1 X.1 (q0 := k) hc (by rw [wL_at hk, hlay]), X.pre⟩ rfl hn hls hst (lv_room hW) hdg hroom) X.2.2.1 (fun q _ h => X.free q h) X.free (fun u ra t H1 locs1 ht hvm hw hB _ _ hS => by
    obtain ⟨hB, z, rfl, hq⟩ := hB
    exact kk z u H1 locs1 hq (X.back ht hvm hB hS))
theorem g_callSr (G : gx p s m args meth c cc nL own Ts rt) (X : wx L Y σ s A H locs) {Qc : Nat → Mem → Prop} (hM : MXr l L Y y wy rm As σ Qc) (cw : CallB R s args own index y bytes maxL ret wy rm 0 0 n ∧ (Cond.static y).before args s = true) (hn : As.length = n) (hls : ls.size = nL) (hst : st = As.reverse ++ rest) (hW : (rest.map fun v => v.category).sum ≤ 8) (hdg : decode cc pc = .ok (.invokestatic index, 3)) (hroom : cells ≤ R.cells ∧ slots ≤ R.slots) (kk : ∀ z u H1 locs1, Qc z u → wx L Y u s A H1 locs1 → W p l e R s m args below meth c H1 locs1 cells slots Z (F0 m (pc + 3) ls (.ref (Y.2.1 z) :: rest))) : W p l e R s m args below meth c H locs cells slots Z (F0 m pc ls st) := by
  refine va_callr (mc := 0) (ms := 0) (va_runS (As := As) (rest := rest) ⟨G.1, G.2.1, G.2.2.1, G.2.2.2.1, G.2.2.2.2.1⟩ (hM H.size) cw ⟨MPre.blind, X.pre⟩ rfl hn hls hst (lv_room hW) hdg hroom) X.2.2.1 (fun q _ h => X.free q h) X.free (fun u ra t H1 locs1 ht hvm hw hB _ _ hS => by
    obtain ⟨hB, z, rfl, hq⟩ := hB
    exact kk z u H1 locs1 hq (X.back ht hvm hB hS))
end GCalls
theorem g_starti {l : Launch} {L : Lt} {Y : Yt} {y : MethodName} {ws ws' : List Cond} {rm : Room} {av : List Value} {σ : Mem} {Qc : Int → Mem → Prop} {cc : ByteArray} {nL : Nat} {own : String} {rty : FieldType} (hn : ∀ z u, Qc z u → narrow rty (.int (iI z)) = .int (iI z)) (hy : plainName y.cls = true) (hw : ws = Cond.code y cc nL (some rty) :: ws') (hown : y.cls = own) (hlen : (lg_sl av).length ≤ nL)
    (body : ∀ (p : Program) (e : Env) (s : State) (m : MethodId) (below : List Frame) (meth : Method) (c : Code) (A : Nat → Prop) (Z : State → Prop) (ls : Array Slot), gx p s m av.toArray meth c cc nL own ws (some rty) → (∀ z u H locs pc ls, Qc z u → wx L Y u s A H locs → decode cc pc = .ok (.ireturn, 1) → W p l e rm s m av.toArray below meth c H locs 0 0 Z (F0 m pc ls [.int (iI z)])) → wx L Y σ s A s.heap [] → lv_has ls nL (lv_args 0 av) → W p l e rm s m av.toArray below meth c s.heap [] 0 0 Z (F0 m 0 ls [])) : MXi l L Y y ws rm av σ Qc := by
  intro sz
  refine Met.ofW (cc := cc) (maxL := nL) (ret := some rty) hy hw ?_
  intro p e s m args below meth c s₁ B hml hv
  obtain ⟨rfl, rfl, hP, hK, hD0⟩ := hv
  have hts := atoms_spec (ws := ws) B.pre
  have G : gx p s m av.toArray meth c cc nL own ws (some rty) := ⟨B.exec, B.bytes, hml, by rw [← hown]; exact findClass_of_methodNamed B.named, hts, B.returns, B.notSynchronized⟩
  have hD := hD0.self (sz := s.heap.size)
  generalize hAe : va_A (wL L Y σ) s.heap.size = A at hD
  have hA : ∀ q : Nat, s.heap.size ≤ q → A q := fun q h => by rw [← hAe]; exact Or.inr h
  have hl := lv_entry av (n := nL) hlen
  rw [lg_entry_eq]
  refine body p e s m below meth c A _ _ G (fun z u H locs pc ls hq X1 hdg => ?_) ⟨hP, hD, va_S.rf, hK, hA⟩ hl
  exact W.zret (v := iI z) G.1 G.2.1 G.2.2.2.2.2.1 (hn z u hq) (fun t ht hW => ⟨⟨iI z, u, rfl, ⟨z, rfl, hq⟩, ⟨by rw [ht]; exact X1.1, va_K.moved hW.alike X1.2.2.2.1, X1.2.1⟩⟩, X1.2.2.1.F ht⟩) X1.2.2.1.2.2 hdg G.2.2.2.2.2.2
theorem g_startl {l : Launch} {L : Lt} {Y : Yt} {y : MethodName} {ws ws' : List Cond} {rm : Room} {av : List Value} {σ : Mem} {Qc : Int → Mem → Prop} {cc : ByteArray} {nL : Nat} {own : String} (hy : plainName y.cls = true) (hw : ws = Cond.code y cc nL (some .long) :: ws') (hown : y.cls = own) (hlen : (lg_sl av).length ≤ nL)
    (body : ∀ (p : Program) (e : Env) (s : State) (m : MethodId) (below : List Frame) (meth : Method) (c : Code) (A : Nat → Prop) (Z : State → Prop) (ls : Array Slot), gx p s m av.toArray meth c cc nL own ws (some .long) → (∀ z u H locs pc ls, Qc z u → wx L Y u s A H locs → decode cc pc = .ok (.lreturn, 1) → W p l e rm s m av.toArray below meth c H locs 0 0 Z (F0 m pc ls [.long (lI z)])) → wx L Y σ s A s.heap [] → lv_has ls nL (lv_args 0 av) → W p l e rm s m av.toArray below meth c s.heap [] 0 0 Z (F0 m 0 ls [])) : MXl l L Y y ws rm av σ Qc := by
  intro sz
  refine Met.ofW (cc := cc) (maxL := nL) (ret := some .long) hy hw ?_
  intro p e s m args below meth c s₁ B hml hv
  obtain ⟨rfl, rfl, hP, hK, hD0⟩ := hv
  have hts := atoms_spec (ws := ws) B.pre
  have G : gx p s m av.toArray meth c cc nL own ws (some .long) := ⟨B.exec, B.bytes, hml, by rw [← hown]; exact findClass_of_methodNamed B.named, hts, B.returns, B.notSynchronized⟩
  have hD := hD0.self (sz := s.heap.size)
  generalize hAe : va_A (wL L Y σ) s.heap.size = A at hD
  have hA : ∀ q : Nat, s.heap.size ≤ q → A q := fun q h => by rw [← hAe]; exact Or.inr h
  have hl := lv_entry av (n := nL) hlen
  rw [lg_entry_eq]
  refine body p e s m below meth c A _ _ G (fun z u H locs pc ls hq X1 hdg => ?_) ⟨hP, hD, va_S.rf, hK, hA⟩ hl
  exact W.lret (v := lI z) G.1 G.2.1 G.2.2.2.2.2.1 (fun t ht hW => ⟨⟨lI z, u, rfl, ⟨z, rfl, hq⟩, ⟨by rw [ht]; exact X1.1, va_K.moved hW.alike X1.2.2.2.1, X1.2.1⟩⟩, X1.2.2.1.F ht⟩) X1.2.2.1.2.2 hdg G.2.2.2.2.2.2
theorem g_startv {l : Launch} {L : Lt} {Y : Yt} {y : MethodName} {ws ws' : List Cond} {rm : Room} {av : List Value} {σ : Mem} {Qc : Mem → Prop} {cc : ByteArray} {nL : Nat} {own : String} (hy : plainName y.cls = true) (hw : ws = Cond.code y cc nL (none) :: ws') (hown : y.cls = own) (hlen : (lg_sl av).length ≤ nL)
    (body : ∀ (p : Program) (e : Env) (s : State) (m : MethodId) (below : List Frame) (meth : Method) (c : Code) (A : Nat → Prop) (Z : State → Prop) (ls : Array Slot), gx p s m av.toArray meth c cc nL own ws (none) → (∀ u H locs pc ls, Qc u → wx L Y u s A H locs → decode cc pc = .ok (.return_, 1) → W p l e rm s m av.toArray below meth c H locs 0 0 Z (F0 m pc ls [])) → wx L Y σ s A s.heap [] → lv_has ls nL (lv_args 0 av) → W p l e rm s m av.toArray below meth c s.heap [] 0 0 Z (F0 m 0 ls [])) : MXv l L Y y ws rm av σ Qc := by
  intro sz
  refine Met.ofW (cc := cc) (maxL := nL) (ret := none) hy hw ?_
  intro p e s m args below meth c s₁ B hml hv
  obtain ⟨rfl, rfl, hP, hK, hD0⟩ := hv
  have hts := atoms_spec (ws := ws) B.pre
  have G : gx p s m av.toArray meth c cc nL own ws (none) := ⟨B.exec, B.bytes, hml, by rw [← hown]; exact findClass_of_methodNamed B.named, hts, B.returns, B.notSynchronized⟩
  have hD := hD0.self (sz := s.heap.size)
  generalize hAe : va_A (wL L Y σ) s.heap.size = A at hD
  have hA : ∀ q : Nat, s.heap.size ≤ q → A q := fun q h => by rw [← hAe]; exact Or.inr h
  have hl := lv_entry av (n := nL) hlen
  rw [lg_entry_eq]
  refine body p e s m below meth c A _ _ G (fun u H locs pc ls hq X1 hdg => ?_) ⟨hP, hD, va_S.rf, hK, hA⟩ hl
  exact W.vret G.1 G.2.1 G.2.2.2.2.2.1 (fun t ht hW => ⟨⟨u, rfl, hq, ⟨by rw [ht]; exact X1.1, va_K.moved hW.alike X1.2.2.2.1, X1.2.1⟩⟩, X1.2.2.1.F ht⟩) X1.2.2.1.2.2 hdg G.2.2.2.2.2.2
theorem g_startr {l : Launch} {L : Lt} {Y : Yt} {y : MethodName} {ws ws' : List Cond} {rm : Room} {av : List Value} {σ : Mem} {Qc : Nat → Mem → Prop} {cc : ByteArray} {nL : Nat} {own : String} {rty : FieldType} (hrt : (∃ n, rty = .object n) ∨ ∃ t, rty = .array t) (hy : plainName y.cls = true) (hw : ws = Cond.code y cc nL (some rty) :: ws') (hown : y.cls = own) (hlen : (lg_sl av).length ≤ nL)
    (body : ∀ (p : Program) (e : Env) (s : State) (m : MethodId) (below : List Frame) (meth : Method) (c : Code) (A : Nat → Prop) (Z : State → Prop) (ls : Array Slot), gx p s m av.toArray meth c cc nL own ws (some rty) → (∀ z u H locs pc ls, Qc z u → wx L Y u s A H locs → decode cc pc = .ok (.areturn, 1) → W p l e rm s m av.toArray below meth c H locs 0 0 Z (F0 m pc ls [.ref (Y.2.1 z)])) → wx L Y σ s A s.heap [] → lv_has ls nL (lv_args 0 av) → W p l e rm s m av.toArray below meth c s.heap [] 0 0 Z (F0 m 0 ls [])) : MXr l L Y y ws rm av σ Qc := by
  intro sz
  refine Met.ofW (cc := cc) (maxL := nL) (ret := some rty) hy hw ?_
  intro p e s m args below meth c s₁ B hml hv
  obtain ⟨rfl, rfl, hP, hK, hD0⟩ := hv
  have hts := atoms_spec (ws := ws) B.pre
  have G : gx p s m av.toArray meth c cc nL own ws (some rty) := ⟨B.exec, B.bytes, hml, by rw [← hown]; exact findClass_of_methodNamed B.named, hts, B.returns, B.notSynchronized⟩
  have hD := hD0.self (sz := s.heap.size)
  generalize hAe : va_A (wL L Y σ) s.heap.size = A at hD
  have hA : ∀ q : Nat, s.heap.size ≤ q → A q := fun q h => by rw [← hAe]; exact Or.inr h
  have hl := lv_entry av (n := nL) hlen
  rw [lg_entry_eq]
  refine body p e s m below meth c A _ _ G (fun z u H locs pc ls hq X1 hdg => ?_) ⟨hP, hD, va_S.rf, hK, hA⟩ hl
  exact W.aret (v := .ref (Y.2.1 z)) G.1 G.2.1 G.2.2.2.2.2.1 hrt (Or.inr ⟨_, rfl⟩) (fun t ht hW => ⟨⟨u, Y.2.1 z, rfl, trivial, ⟨⟨by rw [ht]; exact X1.1, va_K.moved hW.alike X1.2.2.2.1, X1.2.1⟩, z, rfl, hq⟩⟩, X1.2.2.1.F ht⟩) X1.2.2.1.2.2 hdg G.2.2.2.2.2.2
