/-! the worlds behind the constructors -/
def s0 : Mem := fun a => match a with
  | 13 => fun j => 14 + 4 * j
  | 45 => fun j => if j = 1 then 1 else 0
  | 47 => fun j => if j = 1 then -1 else 0
  | _ => fun _ => 0
def m0 : Mem := fun _ _ => 0
theorem arrV_ext {c : ClassId} {n : Nat} {f g : Nat → Value} (h : ∀ j, j < n → f j = g j) : arrV c n f = arrV c n g := by
  unfold arrV
  congr 1
  apply congrArg
  funext j
  exact h j.val j.isLt
theorem bornM {D : va_G} {cf : Nat → ClassId} {q : Nat → Nat} {ws : va_W} (h : ws = wL LM (D, q, cf) m0) {s : State} {A : Nat → Prop} {H : Heap} {locs : List Loc} (hP : va_P D vwCl ws H) (hD : va_D A ws) (hS : va_S A s.heap H locs) (hK : va_K D vwCl (tyD cf) s) (hA : ∀ q, s.heap.size ≤ q → A q) : wx LM (D, q, cf) m0 s A H locs := by
  subst h
  exact ⟨hP, hD, hS, hK, hA⟩
theorem minv_0 : MInv m0 [] [] [] [] := ⟨⟨⟨rfl, by simp, fun i h0 h1 => by simp at h1; omega⟩, fun q h => by cases h⟩, ⟨⟨rfl, by simp, fun i h0 h1 => by simp at h1; omega⟩, fun q h => by cases h⟩, ⟨⟨rfl, fun i h0 h1 => by simp at h1; omega⟩, by simp, fun q h => by cases h⟩, ⟨rfl, fun i h0 h1 => by simp at h1; omega⟩, by simp⟩
