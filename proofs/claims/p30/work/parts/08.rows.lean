/-! numbers -/
theorem iI_add (a b : Int) : iI a + iI b = iI (a + b) := (Int32.ofInt_add a b).symm
theorem iI_sub (a b : Int) : iI a - iI b = iI (a - b) := (Int32.ofInt_sub a b).symm
theorem iI_mul (a b : Int) : iI a * iI b = iI (a * b) := (Int32.ofInt_mul a b).symm
theorem iI_neg (a : Int) : -iI a = iI (-a) := (Int32.ofInt_neg a).symm
theorem lI_add (a b : Int) : lI a + lI b = lI (a + b) := (Int64.ofInt_add a b).symm
theorem lI_sub (a b : Int) : lI a - lI b = lI (a - b) := (Int64.ofInt_sub a b).symm
theorem lI_mul (a b : Int) : lI a * lI b = lI (a * b) := (Int64.ofInt_mul a b).symm
theorem lI_neg (a : Int) : -lI a = lI (-a) := (Int64.ofInt_neg a).symm
theorem iI_toInt {a : Int} (h : -2147483648 ≤ a ∧ a ≤ 2147483647) : (iI a).toInt = a := Int32.toInt_ofInt_of_le (by omega) (by omega)
theorem lI_toInt {a : Int} (h : -9223372036854775808 ≤ a ∧ a ≤ 9223372036854775807) : (lI a).toInt = a := Int64.toInt_ofInt_of_le (by omega) (by omega)
theorem iI_of (x : Int32) : x = iI x.toInt := (Int32.ofInt_toInt x).symm
theorem iI_rg (x : Int32) : -2147483648 ≤ x.toInt ∧ x.toInt ≤ 2147483647 := ⟨by have := x.minValue_le_toInt; rw [show Int32.minValue.toInt = -2147483648 from by decide] at this; exact this, by have := x.toInt_le; rw [show Int32.maxValue.toInt = 2147483647 from by decide] at this; exact this⟩
theorem iI_lt {a b : Int} (ha : -2147483648 ≤ a ∧ a ≤ 2147483647) (hb : -2147483648 ≤ b ∧ b ≤ 2147483647) : iI a < iI b ↔ a < b := by rw [Int32.lt_iff_toInt_lt, iI_toInt ha, iI_toInt hb]
theorem iI_le {a b : Int} (ha : -2147483648 ≤ a ∧ a ≤ 2147483647) (hb : -2147483648 ≤ b ∧ b ≤ 2147483647) : iI a ≤ iI b ↔ a ≤ b := by rw [Int32.le_iff_toInt_le, iI_toInt ha, iI_toInt hb]
theorem iI_eq {a b : Int} (ha : -2147483648 ≤ a ∧ a ≤ 2147483647) (hb : -2147483648 ≤ b ∧ b ≤ 2147483647) : iI a = iI b ↔ a = b := by rw [← Int32.toInt_inj, iI_toInt ha, iI_toInt hb]
theorem lI_lt {a b : Int} (ha : -9223372036854775808 ≤ a ∧ a ≤ 9223372036854775807) (hb : -9223372036854775808 ≤ b ∧ b ≤ 9223372036854775807) : lI a < lI b ↔ a < b := by rw [Int64.lt_iff_toInt_lt, lI_toInt ha, lI_toInt hb]
theorem lI_eq {a b : Int} (ha : -9223372036854775808 ≤ a ∧ a ≤ 9223372036854775807) (hb : -9223372036854775808 ≤ b ∧ b ≤ 9223372036854775807) : lI a = lI b ↔ a = b := by rw [← Int64.toInt_inj, lI_toInt ha, lI_toInt hb]
theorem iI_i2l {a : Int} (h : -2147483648 ≤ a ∧ a ≤ 2147483647) : (iI a).toInt64 = lI a := Int64.toInt_inj.mp (by rw [Int32.toInt_toInt64, iI_toInt h, lI_toInt (by omega)])
theorem iI_in {z : Int} {n : Nat} (h : 0 ≤ z ∧ z < n) (hn : n < 2147483648) : vp_in (iI z) n := vp_in_iff.mpr (by rw [iI_toInt (by omega)]; exact h)
theorem iI_cl {z : Int} {n : Nat} (h : 0 ≤ z ∧ z < n) (hn : n < 2147483648) : (iI z).toNatClampNeg = z.toNat := Int32.toNatClampNeg_ofInt_of_le (by omega) (by omega)
def cmpI (a b : Int) : Int := if b < a then 1 else if a = b then 0 else -1
theorem lI_cmp {a b : Int} (ha : -9223372036854775808 ≤ a ∧ a ≤ 9223372036854775807) (hb : -9223372036854775808 ≤ b ∧ b ≤ 9223372036854775807) : lg_cmp (lI a) (lI b) = iI (cmpI a b) := by
  have h1 : lI a > lI b ↔ b < a := lI_lt hb ha
  have h2 := lI_eq ha hb
  unfold lg_cmp cmpI
  by_cases q : b < a
  · rw [if_pos (h1.mpr q), if_pos q]; rfl
  · rw [if_neg (fun h => q (h1.mp h)), if_neg q]
    by_cases w : a = b
    · rw [if_pos (h2.mpr w), if_pos w]; rfl
    · rw [if_neg (fun h => w (h2.mp h)), if_neg w]; rfl
theorem cmpI_cases (a b : Int) : (cmpI a b = 1 ∧ b < a) ∨ (cmpI a b = 0 ∧ a = b) ∨ (cmpI a b = -1 ∧ a < b) := by
  unfold cmpI
  split
  · exact Or.inl ⟨rfl, by assumption⟩
  · split
    · exact Or.inr (Or.inl ⟨rfl, by assumption⟩)
    · exact Or.inr (Or.inr ⟨rfl, by omega⟩)
theorem up_same (σ : Mem) (k : Nat) (j z : Int) : up σ k j z k j = z := by simp [up]
theorem up_ne {σ : Mem} {k k' : Nat} {j z : Int} (h : k' ≠ k) : up σ k j z k' = σ k' := by simp [up, h]
theorem up_nj {σ : Mem} {k : Nat} {j j' z : Int} (h : j' ≠ j) : up σ k j z k j' = σ k j' := by simp [up, h]
theorem up_at (σ : Mem) (k : Nat) (j z : Int) (k' : Nat) (j' : Int) : up σ k j z k' j' = if k' = k ∧ j' = j then z else σ k' j' := by
  unfold up
  by_cases h : k' = k
  · subst h
    by_cases g : j' = j <;> simp [g]
  · simp [h]
theorem up_id (σ : Mem) (k : Nat) (j : Int) : up σ k j (σ k j) = σ := by
  funext a b
  rw [up_at]
  split
  · rename_i h; rw [h.1, h.2]
  · rfl
/-! the world -/
theorem wL_at {L : Lt} {Y : Yt} {σ : Mem} {k : Nat} (hk : k < (L Y).length) : (wL L Y σ)[k]? = some (Y.2.1 k, cL L Y k (σ k)) := by
  unfold wL
  rw [List.getElem?_map, List.getElem?_range hk]
  rfl
theorem wL_len {L : Lt} {Y : Yt} {σ : Mem} : (wL L Y σ).length = (L Y).length := by unfold wL; simp
theorem wL_set {L : Lt} {Y : Yt} {σ τ : Mem} {k : Nat} (hk : k < (L Y).length) (h : ∀ a, a ≠ k → τ a = σ a) : (wL L Y σ).set k (Y.2.1 k, cL L Y k (τ k)) = wL L Y τ := by
  apply List.ext_getElem?
  intro i
  by_cases hi : i < (L Y).length
  · rw [wL_at hi]
    by_cases e : i = k
    · subst e
      rw [List.getElem?_set_self (by rw [wL_len]; exact hi)]
    · rw [List.getElem?_set_ne (fun q => e q.symm), wL_at hi, h i e]
  · have h1 : ((wL L Y σ).set k (Y.2.1 k, cL L Y k (τ k))).length ≤ i := by rw [List.length_set, wL_len]; omega
    rw [List.getElem?_eq_none h1, List.getElem?_eq_none (by rw [wL_len]; omega)]
/-- the world holds σ; A: what may be written, with all that is new -/
def wx (L : Lt) (Y : Yt) (σ : Mem) (s : State) (A : Nat → Prop) (H : Heap) (locs : List Loc) : Prop :=
  va_P Y.1 vwCl (wL L Y σ) H ∧ va_D A (wL L Y σ) ∧ va_S A s.heap H locs ∧ va_K Y.1 vwCl (tyY Y) s ∧ ∀ q, s.heap.size ≤ q → A q
/-- what holds through a method: the machine, its code, its class, its words, its return type -/
def gx (p : Program) (s : State) (m : MethodId) (args : Array Value) (meth : Method) (c : Code) (cc : ByteArray) (nL : Nat) (own : String) (Ts : List Cond) (rt : Option FieldType) : Prop :=
  p.tables.exec = Jvm.exec ∧ c.code = cc ∧ c.maxLocals = nL ∧ s.vm.findClass own = some m.cls ∧ (∀ w ∈ Ts, w.before args s = true) ∧ meth.sig.returnType = rt ∧ meth.locks = false
section GRows
variable {p : Program} {l : Launch} {e : Env} {R : Room} {s : State} {m : MethodId} {args : Array Value} {below : List Frame} {meth : Method} {c : Code} {H : Heap} {locs : List Loc} {cells slots : Nat} {Z : State → Prop}
variable {cc : ByteArray} {nL : Nat} {own : String} {Ts : List Cond} {rt : Option FieldType} {pc : Nat} {ls : Array Slot} {rest : List Value}
variable {L : Lt} {Y : Yt} {σ : Mem} {A : Nat → Prop}
/-- another name for the number on top -/
theorem g_topi {z z' : Int} (h : z = z') (k : W p l e R s m args below meth c H locs cells slots Z (F0 m pc ls (.int (iI z') :: rest))) : W p l e R s m args below meth c H locs cells slots Z (F0 m pc ls (.int (iI z) :: rest)) := by subst h; exact k
theorem g_topl {z z' : Int} (h : z = z') (k : W p l e R s m args below meth c H locs cells slots Z (F0 m pc ls (.long (lI z') :: rest))) : W p l e R s m args below meth c H locs cells slots Z (F0 m pc ls (.long (lI z) :: rest)) := by subst h; exact k
theorem g_ldc (G : gx p s m args meth c cc nL own Ts rt) {index : Nat} {v : Int32} {z : Int} (hc : (Jvm.Cond.constant own index v).before args s = true) (hv : v = iI z) (hdg : decode cc pc = .ok (.ldc index, 2)) (k : W p l e R s m args below meth c H locs cells slots Z (F0 m (pc + 2) ls (.int (iI z) :: rest))) : W p l e R s m args below meth c H locs cells slots Z (F0 m pc ls rest) := lv_ldc G.1 G.2.1 G.2.2.2.1 hc hdg (by rw [hv]; exact k)
theorem g_ldc2 (G : gx p s m args meth c cc nL own Ts rt) {index : Nat} {v : Int64} {z : Int} (hc : (Jvm.Cond.constantLong own index v).before args s = true) (hv : v = lI z) (hdg : decode cc pc = .ok (.ldc2_w index, 3)) (k : W p l e R s m args below meth c H locs cells slots Z (F0 m (pc + 3) ls (.long (lI z) :: rest))) : W p l e R s m args below meth c H locs cells slots Z (F0 m pc ls rest) := lv_ldc2 G.1 G.2.1 G.2.2.2.1 hc hdg (by rw [hv]; exact k)
theorem g_iadd (G : gx p s m args meth c cc nL own Ts rt) {a b : Int} (hdg : decode cc pc = .ok (.iadd, 1)) (k : W p l e R s m args below meth c H locs cells slots Z (F0 m (pc + 1) ls (.int (iI (a + b)) :: rest))) : W p l e R s m args below meth c H locs cells slots Z (F0 m pc ls (.int (iI b) :: .int (iI a) :: rest)) := lv_iadd G.1 G.2.1 hdg (by rw [iI_add]; exact k)
theorem g_isub (G : gx p s m args meth c cc nL own Ts rt) {a b : Int} (hdg : decode cc pc = .ok (.isub, 1)) (k : W p l e R s m args below meth c H locs cells slots Z (F0 m (pc + 1) ls (.int (iI (a - b)) :: rest))) : W p l e R s m args below meth c H locs cells slots Z (F0 m pc ls (.int (iI b) :: .int (iI a) :: rest)) := lv_isub G.1 G.2.1 hdg (by rw [iI_sub]; exact k)
theorem g_imul (G : gx p s m args meth c cc nL own Ts rt) {a b : Int} (hdg : decode cc pc = .ok (.imul, 1)) (k : W p l e R s m args below meth c H locs cells slots Z (F0 m (pc + 1) ls (.int (iI (a * b)) :: rest))) : W p l e R s m args below meth c H locs cells slots Z (F0 m pc ls (.int (iI b) :: .int (iI a) :: rest)) := lv_imul G.1 G.2.1 hdg (by rw [iI_mul]; exact k)
theorem g_ineg (G : gx p s m args meth c cc nL own Ts rt) {a : Int} (hdg : decode cc pc = .ok (.ineg, 1)) (k : W p l e R s m args below meth c H locs cells slots Z (F0 m (pc + 1) ls (.int (iI (-a)) :: rest))) : W p l e R s m args below meth c H locs cells slots Z (F0 m pc ls (.int (iI a) :: rest)) := lv_ineg G.1 G.2.1 hdg (by rw [iI_neg]; exact k)
theorem g_ladd (G : gx p s m args meth c cc nL own Ts rt) {a b : Int} (hdg : decode cc pc = .ok (.ladd, 1)) (k : W p l e R s m args below meth c H locs cells slots Z (F0 m (pc + 1) ls (.long (lI (a + b)) :: rest))) : W p l e R s m args below meth c H locs cells slots Z (F0 m pc ls (.long (lI b) :: .long (lI a) :: rest)) := lv_ladd G.1 G.2.1 hdg (by rw [lI_add]; exact k)
theorem g_lsub (G : gx p s m args meth c cc nL own Ts rt) {a b : Int} (hdg : decode cc pc = .ok (.lsub, 1)) (k : W p l e R s m args below meth c H locs cells slots Z (F0 m (pc + 1) ls (.long (lI (a - b)) :: rest))) : W p l e R s m args below meth c H locs cells slots Z (F0 m pc ls (.long (lI b) :: .long (lI a) :: rest)) := lv_lsub G.1 G.2.1 hdg (by rw [lI_sub]; exact k)
theorem g_lmul (G : gx p s m args meth c cc nL own Ts rt) {a b : Int} (hdg : decode cc pc = .ok (.lmul, 1)) (k : W p l e R s m args below meth c H locs cells slots Z (F0 m (pc + 1) ls (.long (lI (a * b)) :: rest))) : W p l e R s m args below meth c H locs cells slots Z (F0 m pc ls (.long (lI b) :: .long (lI a) :: rest)) := lv_lmul G.1 G.2.1 hdg (by rw [lI_mul]; exact k)
theorem g_lneg (G : gx p s m args meth c cc nL own Ts rt) {a : Int} (hdg : decode cc pc = .ok (.lneg, 1)) (k : W p l e R s m args below meth c H locs cells slots Z (F0 m (pc + 1) ls (.long (lI (-a)) :: rest))) : W p l e R s m args below meth c H locs cells slots Z (F0 m pc ls (.long (lI a) :: rest)) := lv_lneg G.1 G.2.1 hdg (by rw [lI_neg]; exact k)
theorem lI_ldiv {a b : Int} (ha : -9223372036854775808 ≤ a ∧ a ≤ 9223372036854775807) (hb : 0 < b ∧ b ≤ 9223372036854775807) : lI a / lI b = lI (a.tdiv b) := by
  have h1 : Int64.minValue.toInt = -9223372036854775808 := by decide
  have h2 : Int64.maxValue.toInt = 9223372036854775807 := by decide
  exact (Int64.ofInt_tdiv (by rw [h1]; exact ha.1) (by rw [h2]; exact ha.2) (by rw [h1]; omega) (by rw [h2]; exact hb.2)).symm
theorem lI_ne0 {b : Int} (hb : 0 < b ∧ b ≤ 9223372036854775807) : ¬ lI b = 0 := fun h => by
  have h1 := (lI_eq (a := b) (b := 0) (by omega) (by omega)).mp h
  omega
theorem g_ldiv (G : gx p s m args meth c cc nL own Ts rt) {a b : Int} (ha : -9223372036854775808 ≤ a ∧ a ≤ 9223372036854775807) (hb : 0 < b ∧ b ≤ 9223372036854775807) (hdg : decode cc pc = .ok (.ldiv, 1)) (k : W p l e R s m args below meth c H locs cells slots Z (F0 m (pc + 1) ls (.long (lI (a.tdiv b)) :: rest))) : W p l e R s m args below meth c H locs cells slots Z (F0 m pc ls (.long (lI b) :: .long (lI a) :: rest)) := lv_ldiv G.1 G.2.1 hdg (lI_ne0 hb) (by rw [lI_ldiv ha hb]; exact k)
theorem g_lrem (G : gx p s m args meth c cc nL own Ts rt) {a b : Int} (ha : -9223372036854775808 ≤ a ∧ a ≤ 9223372036854775807) (hb : 0 < b ∧ b ≤ 9223372036854775807) (hdg : decode cc pc = .ok (.lrem, 1)) (k : W p l e R s m args below meth c H locs cells slots Z (F0 m (pc + 1) ls (.long (lI (a.tmod b)) :: rest))) : W p l e R s m args below meth c H locs cells slots Z (F0 m pc ls (.long (lI b) :: .long (lI a) :: rest)) := lv_lrem G.1 G.2.1 hdg (lI_ne0 hb) (by rw [lI_ldiv ha hb, lI_mul, lI_sub, show a - a.tdiv b * b = a.tmod b by rw [Int.tmod_def, Int.mul_comm]]; exact k)
theorem g_i2l (G : gx p s m args meth c cc nL own Ts rt) {a : Int} (ha : -2147483648 ≤ a ∧ a ≤ 2147483647) (hdg : decode cc pc = .ok (.i2l, 1)) (k : W p l e R s m args below meth c H locs cells slots Z (F0 m (pc + 1) ls (.long (lI a) :: rest))) : W p l e R s m args below meth c H locs cells slots Z (F0 m pc ls (.int (iI a) :: rest)) := lv_i2l G.1 G.2.1 hdg (iI_i2l ha) k
theorem iI_chr {a : Int} (ha : 0 ≤ a ∧ a < 65536) : ((iI a).toUInt32 % 65536).toInt32 = iI a := by
  obtain ⟨n, rfl⟩ : ∃ n : Nat, a = (n : Int) := ⟨a.toNat, by omega⟩
  have h : iI (n : Int) = nI n := Int32.ofInt_eq_ofNat
  rw [h, pk_char, pk_tn (by omega), Nat.mod_eq_of_lt (by omega)]
theorem iI_nI (n : Nat) : iI (n : Int) = nI n := Int32.ofInt_eq_ofNat
theorem g_i2c (G : gx p s m args meth c cc nL own Ts rt) {a : Int} (ha : 0 ≤ a ∧ a < 65536) (hdg : decode cc pc = .ok (.i2c, 1)) (k : W p l e R s m args below meth c H locs cells slots Z (F0 m (pc + 1) ls (.int (iI a) :: rest))) : W p l e R s m args below meth c H locs cells slots Z (F0 m pc ls (.int (iI a) :: rest)) := lv_i2c G.1 G.2.1 hdg (iI_chr ha) k
theorem g_icmp_eq (G : gx p s m args meth c cc nL own Ts rt) {a b off : Int} {tgt : Nat} (hdg : decode cc pc = .ok (.if_icmp .eq off, 3)) (ht : (pc : Int) + off = (tgt : Int)) (ha : -2147483648 ≤ a ∧ a ≤ 2147483647) (hb : -2147483648 ≤ b ∧ b ≤ 2147483647) (kt : a = b → W p l e R s m args below meth c H locs cells slots Z (F0 m tgt ls rest)) (kf : ¬ (a = b) → W p l e R s m args below meth c H locs cells slots Z (F0 m (pc + 3) ls rest)) : W p l e R s m args below meth c H locs cells slots Z (F0 m pc ls (.int (iI b) :: .int (iI a) :: rest)) := lv_icmp_eq G.1 G.2.1 hdg ht (fun h => kt ((iI_eq ha hb).mp h)) (fun h => kf (fun q => h ((iI_eq ha hb).mpr q)))
theorem g_icmp_ne (G : gx p s m args meth c cc nL own Ts rt) {a b off : Int} {tgt : Nat} (hdg : decode cc pc = .ok (.if_icmp .ne off, 3)) (ht : (pc : Int) + off = (tgt : Int)) (ha : -2147483648 ≤ a ∧ a ≤ 2147483647) (hb : -2147483648 ≤ b ∧ b ≤ 2147483647) (kt : a ≠ b → W p l e R s m args below meth c H locs cells slots Z (F0 m tgt ls rest)) (kf : a = b → W p l e R s m args below meth c H locs cells slots Z (F0 m (pc + 3) ls rest)) : W p l e R s m args below meth c H locs cells slots Z (F0 m pc ls (.int (iI b) :: .int (iI a) :: rest)) := lv_icmp_ne G.1 G.2.1 hdg ht (fun h => kt (fun q => h ((iI_eq ha hb).mpr q))) (fun h => kf ((iI_eq ha hb).mp h))
theorem g_icmp_lt (G : gx p s m args meth c cc nL own Ts rt) {a b off : Int} {tgt : Nat} (hdg : decode cc pc = .ok (.if_icmp .lt off, 3)) (ht : (pc : Int) + off = (tgt : Int)) (ha : -2147483648 ≤ a ∧ a ≤ 2147483647) (hb : -2147483648 ≤ b ∧ b ≤ 2147483647) (kt : a < b → W p l e R s m args below meth c H locs cells slots Z (F0 m tgt ls rest)) (kf : ¬ (a < b) → W p l e R s m args below meth c H locs cells slots Z (F0 m (pc + 3) ls rest)) : W p l e R s m args below meth c H locs cells slots Z (F0 m pc ls (.int (iI b) :: .int (iI a) :: rest)) := lv_icmp_lt G.1 G.2.1 hdg ht (fun h => kt ((iI_lt ha hb).mp h)) (fun h => kf (fun q => h ((iI_lt ha hb).mpr q)))
theorem g_icmp_ge (G : gx p s m args meth c cc nL own Ts rt) {a b off : Int} {tgt : Nat} (hdg : decode cc pc = .ok (.if_icmp .ge off, 3)) (ht : (pc : Int) + off = (tgt : Int)) (ha : -2147483648 ≤ a ∧ a ≤ 2147483647) (hb : -2147483648 ≤ b ∧ b ≤ 2147483647) (kt : b ≤ a → W p l e R s m args below meth c H locs cells slots Z (F0 m tgt ls rest)) (kf : ¬ (b ≤ a) → W p l e R s m args below meth c H locs cells slots Z (F0 m (pc + 3) ls rest)) : W p l e R s m args below meth c H locs cells slots Z (F0 m pc ls (.int (iI b) :: .int (iI a) :: rest)) := lv_icmp_ge G.1 G.2.1 hdg ht (fun h => kt ((iI_le hb ha).mp h)) (fun h => kf (fun q => h ((iI_le hb ha).mpr q)))
theorem g_icmp_gt (G : gx p s m args meth c cc nL own Ts rt) {a b off : Int} {tgt : Nat} (hdg : decode cc pc = .ok (.if_icmp .gt off, 3)) (ht : (pc : Int) + off = (tgt : Int)) (ha : -2147483648 ≤ a ∧ a ≤ 2147483647) (hb : -2147483648 ≤ b ∧ b ≤ 2147483647) (kt : b < a → W p l e R s m args below meth c H locs cells slots Z (F0 m tgt ls rest)) (kf : ¬ (b < a) → W p l e R s m args below meth c H locs cells slots Z (F0 m (pc + 3) ls rest)) : W p l e R s m args below meth c H locs cells slots Z (F0 m pc ls (.int (iI b) :: .int (iI a) :: rest)) := lv_icmp_gt G.1 G.2.1 hdg ht (fun h => kt ((iI_lt hb ha).mp h)) (fun h => kf (fun q => h ((iI_lt hb ha).mpr q)))
theorem g_icmp_le (G : gx p s m args meth c cc nL own Ts rt) {a b off : Int} {tgt : Nat} (hdg : decode cc pc = .ok (.if_icmp .le off, 3)) (ht : (pc : Int) + off = (tgt : Int)) (ha : -2147483648 ≤ a ∧ a ≤ 2147483647) (hb : -2147483648 ≤ b ∧ b ≤ 2147483647) (kt : a ≤ b → W p l e R s m args below meth c H locs cells slots Z (F0 m tgt ls rest)) (kf : ¬ (a ≤ b) → W p l e R s m args below meth c H locs cells slots Z (F0 m (pc + 3) ls rest)) : W p l e R s m args below meth c H locs cells slots Z (F0 m pc ls (.int (iI b) :: .int (iI a) :: rest)) := lv_icmp_le G.1 G.2.1 hdg ht (fun h => kt ((iI_le ha hb).mp h)) (fun h => kf (fun q => h ((iI_le ha hb).mpr q)))
theorem g_if_eq (G : gx p s m args meth c cc nL own Ts rt) {a off : Int} {tgt : Nat} (hdg : decode cc pc = .ok (.ifCond .eq off, 3)) (ht : (pc : Int) + off = (tgt : Int)) (ha : -2147483648 ≤ a ∧ a ≤ 2147483647) (kt : a = 0 → W p l e R s m args below meth c H locs cells slots Z (F0 m tgt ls rest)) (kf : ¬ (a = 0) → W p l e R s m args below meth c H locs cells slots Z (F0 m (pc + 3) ls rest)) : W p l e R s m args below meth c H locs cells slots Z (F0 m pc ls (.int (iI a) :: rest)) := lv_if_eq G.1 G.2.1 hdg ht (fun h => kt ((iI_eq (a := a) (b := 0) ha (by omega)).mp h)) (fun h => kf (fun q => h ((iI_eq (a := a) (b := 0) ha (by omega)).mpr q)))
theorem g_if_ne (G : gx p s m args meth c cc nL own Ts rt) {a off : Int} {tgt : Nat} (hdg : decode cc pc = .ok (.ifCond .ne off, 3)) (ht : (pc : Int) + off = (tgt : Int)) (ha : -2147483648 ≤ a ∧ a ≤ 2147483647) (kt : a ≠ 0 → W p l e R s m args below meth c H locs cells slots Z (F0 m tgt ls rest)) (kf : a = 0 → W p l e R s m args below meth c H locs cells slots Z (F0 m (pc + 3) ls rest)) : W p l e R s m args below meth c H locs cells slots Z (F0 m pc ls (.int (iI a) :: rest)) := lv_if_ne G.1 G.2.1 hdg ht (fun h => kt (fun q => h ((iI_eq (a := a) (b := 0) ha (by omega)).mpr q))) (fun h => kf ((iI_eq (a := a) (b := 0) ha (by omega)).mp h))
theorem g_if_lt (G : gx p s m args meth c cc nL own Ts rt) {a off : Int} {tgt : Nat} (hdg : decode cc pc = .ok (.ifCond .lt off, 3)) (ht : (pc : Int) + off = (tgt : Int)) (ha : -2147483648 ≤ a ∧ a ≤ 2147483647) (kt : a < 0 → W p l e R s m args below meth c H locs cells slots Z (F0 m tgt ls rest)) (kf : ¬ (a < 0) → W p l e R s m args below meth c H locs cells slots Z (F0 m (pc + 3) ls rest)) : W p l e R s m args below meth c H locs cells slots Z (F0 m pc ls (.int (iI a) :: rest)) := lv_if_lt G.1 G.2.1 hdg ht (fun h => kt ((iI_lt (a := a) (b := 0) ha (by omega)).mp h)) (fun h => kf (fun q => h ((iI_lt (a := a) (b := 0) ha (by omega)).mpr q)))
theorem g_if_ge (G : gx p s m args meth c cc nL own Ts rt) {a off : Int} {tgt : Nat} (hdg : decode cc pc = .ok (.ifCond .ge off, 3)) (ht : (pc : Int) + off = (tgt : Int)) (ha : -2147483648 ≤ a ∧ a ≤ 2147483647) (kt : 0 ≤ a → W p l e R s m args below meth c H locs cells slots Z (F0 m tgt ls rest)) (kf : ¬ (0 ≤ a) → W p l e R s m args below meth c H locs cells slots Z (F0 m (pc + 3) ls rest)) : W p l e R s m args below meth c H locs cells slots Z (F0 m pc ls (.int (iI a) :: rest)) := lv_if_ge G.1 G.2.1 hdg ht (fun h => kt ((iI_le (a := 0) (b := a) (by omega) ha).mp h)) (fun h => kf (fun q => h ((iI_le (a := 0) (b := a) (by omega) ha).mpr q)))
theorem g_if_gt (G : gx p s m args meth c cc nL own Ts rt) {a off : Int} {tgt : Nat} (hdg : decode cc pc = .ok (.ifCond .gt off, 3)) (ht : (pc : Int) + off = (tgt : Int)) (ha : -2147483648 ≤ a ∧ a ≤ 2147483647) (kt : 0 < a → W p l e R s m args below meth c H locs cells slots Z (F0 m tgt ls rest)) (kf : ¬ (0 < a) → W p l e R s m args below meth c H locs cells slots Z (F0 m (pc + 3) ls rest)) : W p l e R s m args below meth c H locs cells slots Z (F0 m pc ls (.int (iI a) :: rest)) := lv_if_gt G.1 G.2.1 hdg ht (fun h => kt ((iI_lt (a := 0) (b := a) (by omega) ha).mp h)) (fun h => kf (fun q => h ((iI_lt (a := 0) (b := a) (by omega) ha).mpr q)))
theorem g_if_le (G : gx p s m args meth c cc nL own Ts rt) {a off : Int} {tgt : Nat} (hdg : decode cc pc = .ok (.ifCond .le off, 3)) (ht : (pc : Int) + off = (tgt : Int)) (ha : -2147483648 ≤ a ∧ a ≤ 2147483647) (kt : a ≤ 0 → W p l e R s m args below meth c H locs cells slots Z (F0 m tgt ls rest)) (kf : ¬ (a ≤ 0) → W p l e R s m args below meth c H locs cells slots Z (F0 m (pc + 3) ls rest)) : W p l e R s m args below meth c H locs cells slots Z (F0 m pc ls (.int (iI a) :: rest)) := lv_if_le G.1 G.2.1 hdg ht (fun h => kt ((iI_le (a := a) (b := 0) ha (by omega)).mp h)) (fun h => kf (fun q => h ((iI_le (a := a) (b := 0) ha (by omega)).mpr q)))
theorem g_lcmp (G : gx p s m args meth c cc nL own Ts rt) {a b : Int} (hdg : decode cc pc = .ok (.lcmp, 1)) (ha : -9223372036854775808 ≤ a ∧ a ≤ 9223372036854775807) (hb : -9223372036854775808 ≤ b ∧ b ≤ 9223372036854775807) (k : W p l e R s m args below meth c H locs cells slots Z (F0 m (pc + 1) ls (.int (iI (cmpI a b)) :: rest))) : W p l e R s m args below meth c H locs cells slots Z (F0 m pc ls (.long (lI b) :: .long (lI a) :: rest)) := W.lcmp G.1 G.2.1 hdg (by rw [lI_cmp ha hb]; exact k)
theorem g_lif_eq (G : gx p s m args meth c cc nL own Ts rt) {a b off : Int} {tgt : Nat} (hd1 : decode cc pc = .ok (.lcmp, 1)) (hdg : decode cc (pc + 1) = .ok (.ifCond .eq off, 3)) (ht : ((pc + 1 : Nat) : Int) + off = (tgt : Int)) (ha : -9223372036854775808 ≤ a ∧ a ≤ 9223372036854775807) (hb : -9223372036854775808 ≤ b ∧ b ≤ 9223372036854775807) (kt : a = b → W p l e R s m args below meth c H locs cells slots Z (F0 m tgt ls rest)) (kf : ¬ (a = b) → W p l e R s m args below meth c H locs cells slots Z (F0 m (pc + 1 + 3) ls rest)) : W p l e R s m args below meth c H locs cells slots Z (F0 m pc ls (.long (lI b) :: .long (lI a) :: rest)) := by
  refine g_lcmp G hd1 ha hb (g_if_eq G hdg ht ?_ (fun h => kt ?_) (fun h => kf ?_)) <;> rcases cmpI_cases a b with q | q | q <;> omega
theorem g_lif_ne (G : gx p s m args meth c cc nL own Ts rt) {a b off : Int} {tgt : Nat} (hd1 : decode cc pc = .ok (.lcmp, 1)) (hdg : decode cc (pc + 1) = .ok (.ifCond .ne off, 3)) (ht : ((pc + 1 : Nat) : Int) + off = (tgt : Int)) (ha : -9223372036854775808 ≤ a ∧ a ≤ 9223372036854775807) (hb : -9223372036854775808 ≤ b ∧ b ≤ 9223372036854775807) (kt : a ≠ b → W p l e R s m args below meth c H locs cells slots Z (F0 m tgt ls rest)) (kf : a = b → W p l e R s m args below meth c H locs cells slots Z (F0 m (pc + 1 + 3) ls rest)) : W p l e R s m args below meth c H locs cells slots Z (F0 m pc ls (.long (lI b) :: .long (lI a) :: rest)) := by
  refine g_lcmp G hd1 ha hb (g_if_ne G hdg ht ?_ (fun h => kt ?_) (fun h => kf ?_)) <;> rcases cmpI_cases a b with q | q | q <;> omega
theorem g_lif_lt (G : gx p s m args meth c cc nL own Ts rt) {a b off : Int} {tgt : Nat} (hd1 : decode cc pc = .ok (.lcmp, 1)) (hdg : decode cc (pc + 1) = .ok (.ifCond .lt off, 3)) (ht : ((pc + 1 : Nat) : Int) + off = (tgt : Int)) (ha : -9223372036854775808 ≤ a ∧ a ≤ 9223372036854775807) (hb : -9223372036854775808 ≤ b ∧ b ≤ 9223372036854775807) (kt : a < b → W p l e R s m args below meth c H locs cells slots Z (F0 m tgt ls rest)) (kf : ¬ (a < b) → W p l e R s m args below meth c H locs cells slots Z (F0 m (pc + 1 + 3) ls rest)) : W p l e R s m args below meth c H locs cells slots Z (F0 m pc ls (.long (lI b) :: .long (lI a) :: rest)) := by
  refine g_lcmp G hd1 ha hb (g_if_lt G hdg ht ?_ (fun h => kt ?_) (fun h => kf ?_)) <;> rcases cmpI_cases a b with q | q | q <;> omega
theorem g_lif_ge (G : gx p s m args meth c cc nL own Ts rt) {a b off : Int} {tgt : Nat} (hd1 : decode cc pc = .ok (.lcmp, 1)) (hdg : decode cc (pc + 1) = .ok (.ifCond .ge off, 3)) (ht : ((pc + 1 : Nat) : Int) + off = (tgt : Int)) (ha : -9223372036854775808 ≤ a ∧ a ≤ 9223372036854775807) (hb : -9223372036854775808 ≤ b ∧ b ≤ 9223372036854775807) (kt : b ≤ a → W p l e R s m args below meth c H locs cells slots Z (F0 m tgt ls rest)) (kf : ¬ (b ≤ a) → W p l e R s m args below meth c H locs cells slots Z (F0 m (pc + 1 + 3) ls rest)) : W p l e R s m args below meth c H locs cells slots Z (F0 m pc ls (.long (lI b) :: .long (lI a) :: rest)) := by
  refine g_lcmp G hd1 ha hb (g_if_ge G hdg ht ?_ (fun h => kt ?_) (fun h => kf ?_)) <;> rcases cmpI_cases a b with q | q | q <;> omega
theorem g_lif_gt (G : gx p s m args meth c cc nL own Ts rt) {a b off : Int} {tgt : Nat} (hd1 : decode cc pc = .ok (.lcmp, 1)) (hdg : decode cc (pc + 1) = .ok (.ifCond .gt off, 3)) (ht : ((pc + 1 : Nat) : Int) + off = (tgt : Int)) (ha : -9223372036854775808 ≤ a ∧ a ≤ 9223372036854775807) (hb : -9223372036854775808 ≤ b ∧ b ≤ 9223372036854775807) (kt : b < a → W p l e R s m args below meth c H locs cells slots Z (F0 m tgt ls rest)) (kf : ¬ (b < a) → W p l e R s m args below meth c H locs cells slots Z (F0 m (pc + 1 + 3) ls rest)) : W p l e R s m args below meth c H locs cells slots Z (F0 m pc ls (.long (lI b) :: .long (lI a) :: rest)) := by
  refine g_lcmp G hd1 ha hb (g_if_gt G hdg ht ?_ (fun h => kt ?_) (fun h => kf ?_)) <;> rcases cmpI_cases a b with q | q | q <;> omega
theorem g_lif_le (G : gx p s m args meth c cc nL own Ts rt) {a b off : Int} {tgt : Nat} (hd1 : decode cc pc = .ok (.lcmp, 1)) (hdg : decode cc (pc + 1) = .ok (.ifCond .le off, 3)) (ht : ((pc + 1 : Nat) : Int) + off = (tgt : Int)) (ha : -9223372036854775808 ≤ a ∧ a ≤ 9223372036854775807) (hb : -9223372036854775808 ≤ b ∧ b ≤ 9223372036854775807) (kt : a ≤ b → W p l e R s m args below meth c H locs cells slots Z (F0 m tgt ls rest)) (kf : ¬ (a ≤ b) → W p l e R s m args below meth c H locs cells slots Z (F0 m (pc + 1 + 3) ls rest)) : W p l e R s m args below meth c H locs cells slots Z (F0 m pc ls (.long (lI b) :: .long (lI a) :: rest)) := by
  refine g_lcmp G hd1 ha hb (g_if_le G hdg ht ?_ (fun h => kt ?_) (fun h => kf ?_)) <;> rcases cmpI_cases a b with q | q | q <;> omega
end GRows
