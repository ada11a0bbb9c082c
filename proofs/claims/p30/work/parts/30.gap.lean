/-! the gap -/
theorem gap_rg {P : List Pt} (hP : Prof (ng P) (gX P) (gW P) (gM P)) (h1 : HullI (hulD P 1) (ng P) (hulC P 1)) (h2 : HullI (hulD P (-1)) (ng P) (hulC P (-1))) {g : Int} (hg : 0 ≤ g ∧ g < ng P) : 0 < gapD P g ∧ gapD P g ≤ 33177600 ∧ -6569164800 ≤ gapN P g ∧ gapN P g ≤ 6569164800 := by
  obtain ⟨a0, a1, a2, a3⟩ := h_rg hP h1 hg
  obtain ⟨b0, b1, b2, b3⟩ := h_rg hP h2 hg
  unfold gapD gapN
  have k0 := Int.mul_pos b0 a0
  have k1 := mul_rg (a := hDen (gX P) (gW P) (hulC P (-1)) g) (b := hDen (gX P) (gW P) (hulC P 1) g) (A := 5760) (B := 5760) (by omega) (by omega)
  have k2 := mul_rg (a := hNum (gX P) (gW P) (gM P) (hulC P (-1)) g) (b := hDen (gX P) (gW P) (hulC P 1) g) (A := 570240) (B := 5760) (by omega) (by omega)
  have k3 := mul_rg (a := hNum (gX P) (gW P) (gM P) (hulC P 1) g) (b := hDen (gX P) (gW P) (hulC P (-1)) g) (A := 570240) (B := 5760) (by omega) (by omega)
  omega
theorem HulIs.same {σ u : Mem} {k k' : Nat} {C : List Int} (h : HulIs σ k C) (hs : SameK σ u k') (hk : k = 45 ∧ k' = 47 ∨ k = 47 ∧ k' = 45) : HulIs u k C := ⟨by rw [hs.1 k (by omega) (by omega)]; exact h.1, fun j h0 h1 => by rw [hs.1 (k + 1) (by omega) (by omega)]; exact h.2 j h0 h1⟩
theorem wd_keep {N D : Int → Int} {wd g : Int} (hW : ∀ j : Int, 0 ≤ j → j < g → N j * D wd ≤ N wd * D j ∧ (j < wd → N j * D wd < N wd * D j)) (h : (0 ≤ wd ∧ wd < g) ∧ N g * D wd ≤ N wd * D g) : ∀ j : Int, 0 ≤ j → j < g + 1 → N j * D wd ≤ N wd * D j ∧ (j < wd → N j * D wd < N wd * D j) := fun j a b => by
  by_cases e : j = g
  · subst e; exact ⟨h.2, fun q => by omega⟩
  · exact hW j a (by omega)
theorem fr_lt {a b c d e f : Int} (hb : 0 < b) (hd : 0 < d) (hf : 0 < f) (h1 : a * d ≤ c * b) (h2 : c * f < e * d) : a * f < e * b := by
  have k1 : (a * d) * f ≤ (c * b) * f := Int.mul_le_mul_of_nonneg_right h1 (by omega)
  have k2 : (c * f) * b < (e * d) * b := Int.mul_lt_mul_of_pos_right h2 hb
  have e1 : (a * d) * f = d * (a * f) := by grind
  have e2 : (c * b) * f = (c * f) * b := by grind
  have e3 : (e * d) * b = d * (e * b) := by grind
  rw [e1, e2] at k1
  rw [e3] at k2
  exact Int.lt_of_mul_lt_mul_left (Int.lt_of_le_of_lt k1 k2) (by omega)
theorem wd_take {N D : Int → Int} {wd g : Int} (hW : ∀ j : Int, 0 ≤ j → j < g → N j * D wd ≤ N wd * D j ∧ (j < wd → N j * D wd < N wd * D j)) (hg : 0 ≤ wd ∧ wd < g) (hD : ∀ j : Int, 0 ≤ j → j < g + 1 → 0 < D j) (h : N wd * D g < N g * D wd) : ∀ j : Int, 0 ≤ j → j < g + 1 → N j * D g ≤ N g * D j ∧ (j < g → N j * D g < N g * D j) := fun j a b => by
  by_cases e : j = g
  · subst e; exact ⟨Int.le_refl _, fun q => by omega⟩
  · have := fr_lt (hD j a b) (hD wd hg.1 (by omega)) (hD g (by omega) (by omega)) (hW j a (by omega)).1 h
    exact ⟨Int.le_of_lt this, fun _ => this⟩
