/-! the worlds behind the constructors -/
def s0 : Mem := fun a => match a with
  | 13 => fun j => 14 + 4 * j
  | 45 => fun j => if j = 1 then 1 else 0
  | 47 => fun j => if j = 1 then -1 else 0
  | _ => fun _ => 0
theorem arrV_ext {c : ClassId} {n : Nat} {f g : Nat → Value} (h : ∀ j, j < n → f j = g j) : arrV c n f = arrV c n g := by
  unfold arrV
  congr 1
  apply congrArg
  funext j
  exact h j.val j.isLt
def WXo (cf : Nat → ClassId) (q : Nat → Nat) : va_W := [(q 0, .inr (7, [.ref (q 1), .ref (q 5), .ref (q 12), .ref (q 38), .ref (q 43), .ref (q 45), .ref (q 47), .ref (q 49)])), (q 1, .inr (5, [.ref (q 2), .ref (q 3), .ref (q 4), .int 0])), (q 2, .inl (cf 0, 12, .inl (fun _ => iI 0))), (q 3, .inl (cf 0, 12, .inl (fun _ => iI 0))), (q 4, .inl (cf 0, 12, .inl (fun _ => iI 0))), (q 5, .inr (6, [.ref (q 6), .ref (q 7), .ref (q 11), .int 0, .int 0, .int 0])), (q 6, .inl (cf 2, 90, .inl (fun _ => iI 0))), (q 7, .inr (5, [.ref (q 8), .ref (q 9), .ref (q 10), .int 0])), (q 8, .inl (cf 0, 12, .inl (fun _ => iI 0))), (q 9, .inl (cf 0, 12, .inl (fun _ => iI 0))), (q 10, .inl (cf 0, 12, .inl (fun _ => iI 0))), (q 11, .inl (cf 0, 3, .inl (fun _ => iI 0))), (q 12, .inr (2, [.ref (q 13), .int 0])), (q 13, .inl (cf 3, 6, .inr (.inr (.inr (.inr (va_up (va_up (va_up (va_up (va_up (va_up (fun _ => none) (iI 0).toNatClampNeg (some (q 14))) (iI 1).toNatClampNeg (some (q 18))) (iI 2).toNatClampNeg (some (q 22))) (iI 3).toNatClampNeg (some (q 26))) (iI 4).toNatClampNeg (some (q 30))) (iI 5).toNatClampNeg (some (q 34)))))))), (q 14, .inr (5, [.ref (q 15), .ref (q 16), .ref (q 17), .int 0])), (q 15, .inl (cf 0, 12, .inl (fun _ => iI 0))), (q 16, .inl (cf 0, 12, .inl (fun _ => iI 0))), (q 17, .inl (cf 0, 12, .inl (fun _ => iI 0))), (q 18, .inr (5, [.ref (q 19), .ref (q 20), .ref (q 21), .int 0])), (q 19, .inl (cf 0, 12, .inl (fun _ => iI 0))), (q 20, .inl (cf 0, 12, .inl (fun _ => iI 0))), (q 21, .inl (cf 0, 12, .inl (fun _ => iI 0))), (q 22, .inr (5, [.ref (q 23), .ref (q 24), .ref (q 25), .int 0])), (q 23, .inl (cf 0, 12, .inl (fun _ => iI 0))), (q 24, .inl (cf 0, 12, .inl (fun _ => iI 0))), (q 25, .inl (cf 0, 12, .inl (fun _ => iI 0))), (q 26, .inr (5, [.ref (q 27), .ref (q 28), .ref (q 29), .int 0])), (q 27, .inl (cf 0, 12, .inl (fun _ => iI 0))), (q 28, .inl (cf 0, 12, .inl (fun _ => iI 0))), (q 29, .inl (cf 0, 12, .inl (fun _ => iI 0))), (q 30, .inr (5, [.ref (q 31), .ref (q 32), .ref (q 33), .int 0])), (q 31, .inl (cf 0, 12, .inl (fun _ => iI 0))), (q 32, .inl (cf 0, 12, .inl (fun _ => iI 0))), (q 33, .inl (cf 0, 12, .inl (fun _ => iI 0))), (q 34, .inr (5, [.ref (q 35), .ref (q 36), .ref (q 37), .int 0])), (q 35, .inl (cf 0, 12, .inl (fun _ => iI 0))), (q 36, .inl (cf 0, 12, .inl (fun _ => iI 0))), (q 37, .inl (cf 0, 12, .inl (fun _ => iI 0))), (q 38, .inr (1, [.ref (q 39), .ref (q 40), .ref (q 41), .ref (q 42), .int 0, .int 0])), (q 39, .inl (cf 0, 12, .inl (fun _ => iI 0))), (q 40, .inl (cf 0, 12, .inl (fun _ => iI 0))), (q 41, .inl (cf 0, 13, .inl (fun _ => iI 0))), (q 42, .inl (cf 0, 13, .inl (fun _ => iI 0))), (q 43, .inr (0, [.ref (q 38), .ref (q 44), .int 0, .int 0, .int 0])), (q 44, .inl (cf 0, 12, .inl (fun _ => iI 0))), (q 45, .inr (3, [.ref (q 38), .int (iI 1), .ref (q 46), .int 0])), (q 46, .inl (cf 0, 12, .inl (fun _ => iI 0))), (q 47, .inr (3, [.ref (q 38), .int (iI (-1)), .ref (q 48), .int 0])), (q 48, .inl (cf 0, 12, .inl (fun _ => iI 0))), (q 49, .inr (4, [.ref (q 38), .ref (q 50), .ref (q 64)])), (q 50, .inl (cf 4, 13, .inr (.inr (.inr (.inr (fun i => if i < 13 then some (q (51 + i)) else none)))))), (q 51, .inl (cf 1, 13, .inr (.inl (fun _ => lI 0)))), (q 52, .inl (cf 1, 13, .inr (.inl (fun _ => lI 0)))), (q 53, .inl (cf 1, 13, .inr (.inl (fun _ => lI 0)))), (q 54, .inl (cf 1, 13, .inr (.inl (fun _ => lI 0)))), (q 55, .inl (cf 1, 13, .inr (.inl (fun _ => lI 0)))), (q 56, .inl (cf 1, 13, .inr (.inl (fun _ => lI 0)))), (q 57, .inl (cf 1, 13, .inr (.inl (fun _ => lI 0)))), (q 58, .inl (cf 1, 13, .inr (.inl (fun _ => lI 0)))), (q 59, .inl (cf 1, 13, .inr (.inl (fun _ => lI 0)))), (q 60, .inl (cf 1, 13, .inr (.inl (fun _ => lI 0)))), (q 61, .inl (cf 1, 13, .inr (.inl (fun _ => lI 0)))), (q 62, .inl (cf 1, 13, .inr (.inl (fun _ => lI 0)))), (q 63, .inl (cf 1, 13, .inr (.inl (fun _ => lI 0)))), (q 64, .inl (cf 5, 13, .inr (.inr (.inr (.inr (fun i => if i < 13 then some (q (65 + i)) else none)))))), (q 65, .inl (cf 0, 13, .inl (fun _ => iI 0))), (q 66, .inl (cf 0, 13, .inl (fun _ => iI 0))), (q 67, .inl (cf 0, 13, .inl (fun _ => iI 0))), (q 68, .inl (cf 0, 13, .inl (fun _ => iI 0))), (q 69, .inl (cf 0, 13, .inl (fun _ => iI 0))), (q 70, .inl (cf 0, 13, .inl (fun _ => iI 0))), (q 71, .inl (cf 0, 13, .inl (fun _ => iI 0))), (q 72, .inl (cf 0, 13, .inl (fun _ => iI 0))), (q 73, .inl (cf 0, 13, .inl (fun _ => iI 0))), (q 74, .inl (cf 0, 13, .inl (fun _ => iI 0))), (q 75, .inl (cf 0, 13, .inl (fun _ => iI 0))), (q 76, .inl (cf 0, 13, .inl (fun _ => iI 0))), (q 77, .inl (cf 0, 13, .inl (fun _ => iI 0)))]
def hrow (cf : Nat → ClassId) (q : Nat → Nat) : va_E := .inl (cf 3, 6, .inr (.inr (.inr (.inr (fun j : Nat => some (q (14 + 4 * (j : Int)).toNat))))))
set_option maxRecDepth 100000 in
theorem wX_eq (D : va_G) (cf : Nat → ClassId) (q : Nat → Nat) : (WXo cf q).set 13 (q 13, hrow cf q) = wL LX (D, q, cf) s0 := rfl
theorem hrow_at {D : va_G} {cf : Nat → ClassId} {q : Nat → Nat} {H : Heap} (hP : va_P D vwCl (WXo cf q) H) : va_at D vwCl (q 13, hrow cf q) H := by
  have h := hP 13 _ rfl
  refine Eq.trans h (congrArg some ?_)
  rw [vp_cell_q, vp_cell_q]
  refine arrV_ext (fun j hj => ?_)
  rcases (show j = 0 ∨ j = 1 ∨ j = 2 ∨ j = 3 ∨ j = 4 ∨ j = 5 by omega) with rfl | rfl | rfl | rfl | rfl | rfl <;> rfl
theorem bornX {D : va_G} {cf : Nat → ClassId} {q : Nat → Nat} {s : State} {A : Nat → Prop} {H : Heap} {locs : List Loc} (hP : va_P D vwCl (WXo cf q) H) (hD : va_D A (WXo cf q)) (hS : va_S A s.heap H locs) (hK : va_K D vwCl (tyD cf) s) (hA : ∀ q, s.heap.size ≤ q → A q) : wx LX (D, q, cf) s0 s A H locs := by
  have hP2 : va_P D vwCl ((WXo cf q).set 13 (q 13, hrow cf q)) H := fun k x hx => by
    rw [List.getElem?_set] at hx
    by_cases e : 13 = k
    · rw [if_pos e] at hx
      split at hx
      · cases hx; exact hrow_at hP
      · cases hx
    · rw [if_neg e] at hx
      exact hP k x hx
  have hD2 : va_D A ((WXo cf q).set 13 (q 13, hrow cf q)) := hD.set (p := 13) rfl
  rw [wX_eq D] at hP2 hD2
  exact ⟨hP2, hD2, hS, hK, hA⟩
theorem gsU_nil : ∀ x : Nat, gsU [] x = [] := by
  intro x
  induction x with
  | zero => rfl
  | succ x ih =>
    show (if ([] : List Pt).any (fun q => q.1 == (x : Int)) = true then gsU [] x ++ [(x : Int)] else gsU [] x) = []
    rw [ih]; rfl
theorem ng_nil : ng [] = 0 := by unfold ng; rw [gsU_nil]; rfl
theorem xinv_0 : XInv s0 [] [] [] [] := by
  refine ⟨⟨⟨rfl, by simp, fun i h0 h1 => by simp at h1; omega⟩, fun q h => by cases h⟩, ⟨?_, rfl, fun g h0 h1 => ?_, fun g h0 h1 => ?_⟩, ⟨⟨rfl, by simp, fun i h0 h1 => ?_, fun i j h0 h1 h2 h3 h => ?_, fun i h0 h1 => by simp at h1; omega⟩, fun q h => by cases h⟩, ⟨⟨rfl, fun i h0 h1 => by simp at h1; omega⟩, by simp, fun q h => by cases h⟩, ⟨⟨rfl, fun i h0 h1 => by simp at h1; omega⟩, by simp⟩, rfl, rfl⟩
  · rw [ng_nil]; rfl
  · rw [ng_nil] at h1; omega
  · rw [ng_nil] at h1
    have e : g = 0 := by omega
    subst e
    exact ⟨rfl, rfl⟩
  · show hRow (14 + 4 * i)
    unfold hRow
    omega
  · have h9 : 14 + 4 * i = 14 + 4 * j := h
    omega
