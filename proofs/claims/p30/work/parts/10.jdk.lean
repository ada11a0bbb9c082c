/-! rows of the JDK's own, booleans, rows of points -/
theorem nrZ {z : Int} (h : z = 0 ∨ z = 1) : narrow .boolean (.int (iI z)) = .int (iI z) := by rcases h with rfl | rfl <;> rfl
theorem g_mmax {p : Program} {l : Launch} {e : Env} {R : Room} {s : State} {m : MethodId} {args : Array Value} {below : List Frame} {meth : Method} {c : Code} {H : Heap} {locs : List Loc} {cells slots : Nat} {Z : State → Prop} {cc : ByteArray} {nL : Nat} {own : String} {Ts : List Cond} {rt : Option FieldType} {pc : Nat} {ls : Array Slot} {rest : List Value}
    (G : gx p s m args meth c cc nL own Ts rt) {a b : Int} (ha : -2147483648 ≤ a ∧ a ≤ 2147483647) (hb : -2147483648 ≤ b ∧ b ≤ 2147483647) {index : Nat} (hlink : (Cond.methodLink own index Lib.Math.max.name).before args s = true) (hstat : (Cond.static Lib.Math.max.name).before args s = true) (hini : (Cond.initialized "java/lang/Math").before args s = true) (hcode : (Cond.code Lib.Math.max.name Lib.Math.max.code 2 (some .int)).before args s = true)
    (hls : ls.size = nL) (hframes : 1 ≤ R.frames) (hlocals : (rest.map fun v => v.category).sum + 13 ≤ R.locals) (hroom : cells ≤ R.cells ∧ slots ≤ R.slots) (hdg : decode cc pc = .ok (.invokestatic index, 3))
    (kk : W p l e R s m args below meth c H locs cells slots Z (F0 m (pc + 3) ls (.int (iI (if a < b then b else a)) :: rest))) : W p l e R s m args below meth c H locs cells slots Z (F0 m pc ls (.int (iI b) :: .int (iI a) :: rest)) := by
  refine va_mmax G.1 G.2.1 (by rw [G.2.2.1, hls]) G.2.2.2.1 hlink hstat hini hcode hframes hlocals hroom.1 hroom.2 hdg ?_
  by_cases h : a < b
  · rw [if_pos ((iI_lt ha hb).mpr h)]
    rw [if_pos h] at kk
    exact kk
  · rw [if_neg (fun q => h ((iI_lt ha hb).mp q))]
    rw [if_neg h] at kk
    exact kk
theorem g_mabsl {p : Program} {l : Launch} {e : Env} {R : Room} {s : State} {m : MethodId} {args : Array Value} {below : List Frame} {meth : Method} {c : Code} {H : Heap} {locs : List Loc} {cells slots : Nat} {Z : State → Prop} {cc : ByteArray} {nL : Nat} {own : String} {Ts : List Cond} {rt : Option FieldType} {pc : Nat} {ls : Array Slot} {rest : List Value}
    (G : gx p s m args meth c cc nL own Ts rt) {a : Int} (ha : -9223372036854775808 ≤ a ∧ a ≤ 9223372036854775807) {index : Nat} (hlink : (Cond.methodLink own index Lib.MathLoose.abs_long.x).before args s = true) (hstat : (Cond.static Lib.MathLoose.abs_long.x).before args s = true) (hini : (Cond.initialized "java/lang/Math").before args s = true) (hcode : (Cond.code Lib.MathLoose.abs_long.x Lib.MathLoose.abs_long.code 2 (some .long)).before args s = true)
    (hls : ls.size = nL) (hframes : 1 ≤ R.frames) (hlocals : (rest.map fun v => v.category).sum + 13 ≤ R.locals) (hroom : cells ≤ R.cells ∧ slots ≤ R.slots) (hdg : decode cc pc = .ok (.invokestatic index, 3))
    (kk : W p l e R s m args below meth c H locs cells slots Z (F0 m (pc + 3) ls (.long (lI (if 0 < a then a else -a)) :: rest))) : W p l e R s m args below meth c H locs cells slots Z (F0 m pc ls (.long (lI a) :: rest)) := by
  refine va_mabs_long G.1 G.2.1 (by rw [G.2.2.1, hls]) G.2.2.2.1 hlink hstat hini hcode hframes hlocals hroom.1 hroom.2 hdg ?_
  by_cases h : 0 < a
  · rw [if_pos (show (0 : Int64) < lI a from (lI_lt (a := 0) (b := a) (by omega) ha).mpr h)]
    rw [if_pos h] at kk
    exact kk
  · rw [if_neg (fun q : (0 : Int64) < lI a => h ((lI_lt (a := 0) (b := a) (by omega) ha).mp q)), lI_neg]
    rw [if_neg h] at kk
    exact kk
/-- a row of points stands at the places k to k + 3 -/
def isRow (Y : Yt) (k : Nat) : Prop := k + 3 < 78 ∧ (∀ r, cL LX Y k r = .inr (5, fRow k Y r)) ∧ (∀ r, cL LX Y (k + 1) r = eI Y 12 r) ∧ (∀ r, cL LX Y (k + 2) r = eI Y 12 r) ∧ ∀ r, cL LX Y (k + 3) r = eI Y 12 r
theorem isRow_of (Y : Yt) {k : Nat} (h : k = 1 ∨ k = 7 ∨ k = 14 ∨ k = 18 ∨ k = 22 ∨ k = 26 ∨ k = 30 ∨ k = 34) : isRow Y k := by
  rcases h with rfl | rfl | rfl | rfl | rfl | rfl | rfl | rfl <;> exact ⟨by decide, fun _ => rfl, fun _ => rfl, fun _ => rfl, fun _ => rfl⟩
theorem lenX (Y : Yt) : (LX Y).length = 78 := rfl
theorem isRow.k0 {Y : Yt} {k : Nat} (h : isRow Y k) : k < (LX Y).length := by have := h.1; rw [lenX]; omega
theorem isRow.k1 {Y : Yt} {k : Nat} (h : isRow Y k) : k + 1 < (LX Y).length := by have := h.1; rw [lenX]; omega
theorem isRow.k2 {Y : Yt} {k : Nat} (h : isRow Y k) : k + 2 < (LX Y).length := by have := h.1; rw [lenX]; omega
theorem isRow.k3 {Y : Yt} {k : Nat} (h : isRow Y k) : k + 3 < (LX Y).length := by have := h.1; rw [lenX]; omega
