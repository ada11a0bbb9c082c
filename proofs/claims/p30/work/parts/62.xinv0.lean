theorem ng_nil : ng [] = 0 := (ng_0 (P := []) (fun q h => by cases h)).mpr rfl
theorem xinv_0 : XInv s0 [] [] [] [] := by
  refine ⟨⟨⟨rfl, by simp, fun i h0 h1 => by simp at h1; omega⟩, fun q h => by cases h⟩, ⟨?_, rfl, fun g h0 h1 => ?_, fun g h0 h1 => ?_⟩, ⟨⟨rfl, by simp, fun i h0 h1 => ?_, fun i j h0 h1 h2 h3 h => ?_, fun i h0 h1 => by simp at h1; omega⟩, fun q h => by cases h⟩, ⟨⟨rfl, fun i h0 h1 => by simp at h1; omega⟩, by simp, fun q h => by cases h⟩, ⟨⟨rfl, fun i h0 h1 => by simp at h1; omega⟩, by simp⟩, rfl, rfl⟩
  · rw [ng_nil]; rfl
  · rw [ng_nil] at h1; omega
  · rw [ng_nil] at h1
    have e : g = 0 := by omega
    subst e
    exact ⟨rfl, rfl⟩
  · show hRow (14 + 4 * i)
    unfold hRow
    omega
  · have h9 : 14 + 4 * i = 14 + 4 * j := h
    omega
