/-! the greatest gap -/
theorem fr_cross {a b c d n m n' m' : Int} (h1 : a * m = n * b) (h2 : c * m' = n' * d) : (c * b - a * d) * (m * m') = (n' * m - n * m') * (b * d) := by
  have e : (c * b - a * d) * (m * m') = (c * m') * (b * m) - (a * m) * (d * m') := by grind
  rw [e, h1, h2]
  grind
theorem fr_iff {a b c d n m n' m' : Int} (hb : 0 < b) (hd : 0 < d) (hm : 0 < m) (hm' : 0 < m') (h1 : a * m = n * b) (h2 : c * m' = n' * d) : a * d < c * b ↔ n * m' < n' * m := by
  have h := (sgn_of (Int.mul_pos hm hm') (Int.mul_pos hb hd) (fr_cross h1 h2)).2
  constructor
  · intro q
    have := h.mp (by omega)
    omega
  · intro q
    have := h.mpr (by omega)
    omega
theorem wd_ex {P : List Pt} (hP : ptsOk P) (hl : P.length ≤ 12) (hn : 0 < ng P) : WdIs (ng P) (gapN P) (gapD P) (wdA P) := by
  have hPf := prof_of hP hl
  have hD : ∀ j : Int, 0 ≤ j → j < ng P → 0 < gapD P j := fun j a b => (gap_rg hPf (hulC_ok hP hl 1) (hulC_ok hP hl (-1)) ⟨a, b⟩).1
  have : ∀ k : Int, 0 ≤ k → (k + 1 ≤ ng P → ∃ wd : Int, (0 ≤ wd ∧ wd < k + 1) ∧ ∀ j : Int, 0 ≤ j → j < k + 1 → gapN P j * gapD P wd ≤ gapN P wd * gapD P j ∧ (j < wd → gapN P j * gapD P wd < gapN P wd * gapD P j)) := fun k hk => by
    refine iInd (p := fun k => k + 1 ≤ ng P → ∃ wd : Int, (0 ≤ wd ∧ wd < k + 1) ∧ ∀ j : Int, 0 ≤ j → j < k + 1 → gapN P j * gapD P wd ≤ gapN P wd * gapD P j ∧ (j < wd → gapN P j * gapD P wd < gapN P wd * gapD P j)) (fun _ => ⟨0, by omega, fun j a b => ?_⟩) (fun k hk ih q => ?_) k hk
    · rw [show j = 0 by omega]
      exact ⟨Int.le_refl _, fun q => by omega⟩
    · obtain ⟨wd, h0, h1⟩ := ih (by omega)
      by_cases z : gapN P wd * gapD P (k + 1) < gapN P (k + 1) * gapD P wd
      · exact ⟨k + 1, by omega, wd_take h1 h0 (fun j a b => hD j a (by omega)) z⟩
      · exact ⟨wd, by omega, wd_keep h1 ⟨h0, by omega⟩⟩
  obtain ⟨wd, h0, h1⟩ := this (ng P - 1) (by omega) (by omega)
  rw [show ng P - 1 + 1 = ng P by omega] at h0 h1
  have h : WdIs (ng P) (gapN P) (gapD P) wd := ⟨h0, h1⟩
  rw [wdA_eq h]
  exact h
noncomputable def gpN (P : List Pt) (g : Int) : Int := fitA P 5 g 0 * fitA P 4 g 1 - fitA P 4 g 0 * fitA P 5 g 1
noncomputable def gpD (P : List Pt) (g : Int) : Int := fitA P 5 g 1 * fitA P 4 g 1
theorem gapA_eq {P : List Pt} (hn : 0 < ng P) : gapA P 2 = wdA P ∧ gapA P 0 = low (gapN P (wdA P)) (gapD P (wdA P)) 0 ∧ gapA P 1 = low (gapN P (wdA P)) (gapD P (wdA P)) 1 := by
  unfold gapA
  refine ⟨?_, ?_, ?_⟩
  · rw [if_neg (by omega), if_neg (by omega), if_pos rfl]
  · rw [if_neg (by omega), if_neg (by omega), if_neg (by omega)]
  · rw [if_neg (by omega), if_neg (by omega), if_neg (by omega)]
def gpOk (a b : Int) : Prop := -6569164800 ≤ a ∧ a ≤ 6569164800 ∧ 0 < b ∧ b ≤ 33177600
theorem gp_rg {P : List Pt} (hP : ptsOk P) (hl : P.length ≤ 12) {g : Int} (hg : 0 ≤ g ∧ g < ng P) : gpOk (gpN P g) (gpD P g) := by
  obtain ⟨a0, a1, a2, a3⟩ := fitA_rg hP hl (kind := 5) (by omega) hg
  obtain ⟨b0, b1, b2, b3⟩ := fitA_rg hP hl (kind := 4) (by omega) hg
  have k1 := mul_rg (a := fitA P 5 g 0) (b := fitA P 4 g 1) (A := 570240) (B := 5760) (by omega) (by omega)
  have k2 := mul_rg (a := fitA P 4 g 0) (b := fitA P 5 g 1) (A := 570240) (B := 5760) (by omega) (by omega)
  have k3 := mul_rg (a := fitA P 5 g 1) (b := fitA P 4 g 1) (A := 5760) (B := 5760) (by omega) (by omega)
  have k4 := Int.mul_pos a2 b2
  unfold gpN gpD
  exact ⟨by omega, by omega, k4, by omega⟩
theorem ga_rg {P : List Pt} (hP : ptsOk P) (hl : P.length ≤ 12) (hn : 0 < ng P) : gpOk (gapA P 0) (gapA P 1) ∧ 0 ≤ gapA P 2 ∧ gapA P 2 < ng P := by
  obtain ⟨e2, e0, e1⟩ := gapA_eq hn
  have w := wd_ex hP hl hn
  obtain ⟨a, b, c, d⟩ := gap_rg (prof_of hP hl) (hulC_ok hP hl 1) (hulC_ok hP hl (-1)) w.1
  rw [e0, e1, e2]
  have k := low_le (n := gapN P (wdA P)) a
  have p := low_pos (n := gapN P (wdA P)) a
  refine ⟨⟨?_, ?_, p, by omega⟩, w.1.1, w.1.2⟩
  · have := k.2.1
    split at this <;> omega
  · have := k.2.2
    split at this <;> omega
theorem gp_frac {P : List Pt} (hP : ptsOk P) (hl : P.length ≤ 12) {g : Int} (hg : 0 ≤ g ∧ g < ng P) : gpN P g * gapD P g = gapN P g * gpD P g := by
  have a : fitA P 5 g 0 * fD P 5 g = fN P 5 g * fitA P 5 g 1 := by
    rw [fitA_eq (by omega) hg (by omega), fitA_eq (by omega) hg (by omega)]
    exact low_val (fit_rg hP hl hg).1
  have b : fitA P 4 g 0 * fD P 4 g = fN P 4 g * fitA P 4 g 1 := by
    rw [fitA_eq (by omega) hg (by omega), fitA_eq (by omega) hg (by omega)]
    exact low_val (fit_rg hP hl hg).1
  obtain ⟨n5, d5⟩ := fNh (P := P) (g := g) (kind := 5) (by omega)
  obtain ⟨n4, d4⟩ := fNh (P := P) (g := g) (kind := 4) (by omega)
  have s5 : hSide 5 = -1 := by unfold hSide; rw [if_neg (by omega)]
  have s4 : hSide 4 = 1 := by unfold hSide; rw [if_pos rfl]
  rw [s5] at n5 d5
  rw [s4] at n4 d4
  unfold gpN gpD gapN gapD
  rw [← n5, ← d5, ← n4, ← d4]
  generalize fitA P 5 g 0 = A at *
  generalize fitA P 5 g 1 = B at *
  generalize fitA P 4 g 0 = C at *
  generalize fitA P 4 g 1 = E at *
  generalize fD P 5 g = D5 at *
  generalize fD P 4 g = D4 at *
  have e : (A * E - C * B) * (D5 * D4) = (A * D5) * (E * D4) - (C * D4) * (B * D5) := by grind
  rw [e, a, b]
  grind
theorem gap_law {P : List Pt} (hP : ptsOk P) (hl : P.length ≤ 12) {g : Int} (hg : 0 ≤ g ∧ g < ng P) : ¬ gapA P 0 * gpD P g < gpN P g * gapA P 1 ∧ (g = gapA P 2 → ¬ gpN P g * gapA P 1 < gapA P 0 * gpD P g) ∧ (g < gapA P 2 → gpN P g * gapA P 1 < gapA P 0 * gpD P g) := by
  have hn : 0 < ng P := by omega
  obtain ⟨e2, e0, e1⟩ := gapA_eq hn
  have w := wd_ex hP hl hn
  have a := (gap_rg (prof_of hP hl) (hulC_ok hP hl 1) (hulC_ok hP hl (-1)) w.1).1
  have b := (gap_rg (prof_of hP hl) (hulC_ok hP hl 1) (hulC_ok hP hl (-1)) hg).1
  have p := low_pos (n := gapN P (wdA P)) a
  have q := (gp_rg hP hl hg).2.2.1
  have f := gp_frac hP hl hg
  have v := low_val (n := gapN P (wdA P)) a
  have i1 := fr_iff q p b a f v
  have i2 := fr_iff p q a b v f
  rw [e0, e1, e2]
  have k := w.2 g hg.1 hg.2
  refine ⟨fun h => ?_, fun h h2 => ?_, fun h => i1.mpr (k.2 h)⟩
  · have := i2.mp h; omega
  · have := i1.mp h2
    rw [h] at this
    omega
