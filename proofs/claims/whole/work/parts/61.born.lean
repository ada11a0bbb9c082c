/-! the worlds behind the constructors -/
def s0 : Mem := fun a => match a with
  | 13 => fun j => 14 + 4 * j
  | 45 => fun j => if j = 1 then 1 else 0
  | 47 => fun j => if j = 1 then -1 else 0
  | _ => fun _ => 0
def m0 : Mem := fun _ _ => 0
theorem arrV_ext {c : ClassId} {n : Nat} {f g : Nat → Value} (h : ∀ j, j < n → f j = g j) : arrV c n f = arrV c n g := by
  unfold arrV
  congr 1
  apply congrArg
  funext j
  exact h j.val j.isLt
theorem bornM {D : va_G} {cf : Nat → ClassId} {q : Nat → Nat} {ws : va_W} (h : ws = wL LM (D, q, cf) m0) {s : State} {A : Nat → Prop} {H : Heap} {locs : List Loc} (hP : va_P D vwCl ws H) (hD : va_D A ws) (hS : va_S A s.heap H locs) (hK : va_K D vwCl (tyD cf) s) (hA : ∀ q, s.heap.size ≤ q → A q) : wx LM (D, q, cf) m0 s A H locs := by
  subst h
  exact ⟨hP, hD, hS, hK, hA⟩
theorem minv_0 : MInv m0 [] [] [] [] := ⟨⟨⟨rfl, by simp, fun i h0 h1 => by simp at h1; omega⟩, fun q h => by cases h⟩, ⟨⟨rfl, by simp, fun i h0 h1 => by simp at h1; omega⟩, fun q h => by cases h⟩, ⟨⟨rfl, fun i h0 h1 => by simp at h1; omega⟩, by simp, fun q h => by cases h⟩, ⟨rfl, fun i h0 h1 => by simp at h1; omega⟩, by simp⟩
theorem wM_eq (D : va_G) (cf : Nat → ClassId) (q : Nat → Nat) : [(q 0, (.inr (8, [.ref (q 1), .ref (q 2), .int 0, .ref (q 3), .int 0, .ref (q 4), .int 0, .ref (q 5), .int 0, .ref (q 6), .ref (q 7), .ref (q 8), .int 0, .ref (q 9), .ref (q 10), .ref (q 11), .int 0, .ref (q 12), .long 0, .long 0, .ref (q 13), .ref (q 14), .int 0, .int 0]) : va_E)), (q 1, .inl (cf 0, 37, .inl (fun _ => iI 0))), (q 2, .inl (cf 0, 222, .inl (fun _ => iI 0))), (q 3, .inl (cf 2, 90, .inl (fun _ => iI 0))), (q 4, .inl (cf 0, 3, .inl (fun _ => iI 0))), (q 5, .inl (cf 0, 36, .inl (fun _ => iI 0))), (q 6, .inl (cf 0, 12, .inl (fun _ => iI 0))), (q 7, .inl (cf 0, 12, .inl (fun _ => iI 0))), (q 8, .inl (cf 0, 12, .inl (fun _ => iI 0))), (q 9, .inl (cf 0, 14, .inl (fun _ => iI 0))), (q 10, .inl (cf 0, 13, .inl (fun _ => iI 0))), (q 11, .inl (cf 0, 13, .inl (fun _ => iI 0))), (q 12, .inl (cf 0, 13, .inl (fun _ => iI 0))), (q 13, .inl (cf 1, 169, .inr (.inl (fun _ => lI 0)))), (q 14, .inl (cf 0, 169, .inl (fun _ => iI 0)))] = wL LM (D, q, cf) m0 := rfl
