/-! the functions below and above all means -/
def isCor (C : List Int) (g : Int) : Prop := ∃ j : Int, 0 ≤ j ∧ j < C.length ∧ at0 C j = g
theorem kind_h {kind : Int} (hk : kind = 4 ∨ kind = 5) : 4 ≤ kind ∧ 0 ≤ kind ∧ kind ≤ 5 := by omega
/-- the line between two corners that follow each other -/
def lnN (X W M : Int → Int) (a b g : Int) : Int := (M (a + 1) - M a) * (W (b + 1) - W b) * (X b - X g) + (M (b + 1) - M b) * (W (a + 1) - W a) * (X g - X a)
def lnD (X W : Int → Int) (a b : Int) : Int := (W (a + 1) - W a) * (W (b + 1) - W b) * (X b - X a)
theorem h_line {D : Int → Int → Int → Int} {n : Int} {X W M : Int → Int} {C : List Int} (h : HullI D n C) {j g : Int} (hj : 0 ≤ j ∧ j + 1 < C.length) (h0 : at0 C j ≤ g) (h1 : g ≤ at0 C (j + 1)) : hNum X W M C g * lnD X W (at0 C j) (at0 C (j + 1)) = hDen X W C g * lnN X W M (at0 C j) (at0 C (j + 1)) g := by
  have nx := h.2.2.1 j hj.1 hj.2
  have r1 := nx.1
  have hg : g < n := by omega
  by_cases q1 : g = at0 C (j + 1)
  · have cj : CorAt C g (j + 1) := ⟨by omega, hj.2, by omega, fun q => by have := hull_asc h (show 0 ≤ j + 1 by omega) (show j + 1 < j + 1 + 1 by omega) q; omega⟩
    have e1 := hA_eq h cj
    have e2 := (hB_eq h hg cj).1 q1.symm
    unfold hNum hDen lnN lnD
    rw [e1, e2, if_pos q1.symm, if_pos q1.symm, ← q1]
    grind
  · have cj : CorAt C g j := ⟨hj.1, by omega, h0, fun q => by omega⟩
    have e1 := hA_eq h cj
    by_cases q2 : at0 C j = g
    · have e2 := (hB_eq h hg cj).1 q2
      unfold hNum hDen lnN lnD
      rw [e1, e2, if_pos q2, if_pos q2, q2]
      grind
    · have e2 := ((hB_eq h hg cj).2 q2).2
      unfold hNum hDen lnN lnD
      rw [e1, e2, if_neg (by omega), if_neg (by omega)]
      grind
theorem h_cor {D : Int → Int → Int → Int} {n : Int} {X W M : Int → Int} {C : List Int} (h : HullI D n C) {g : Int} (hg : g < n) (hc : isCor C g) : hNum X W M C g = M (g + 1) - M g ∧ hDen X W C g = W (g + 1) - W g := by
  obtain ⟨j, j0, j1, j2⟩ := hc
  have cj : CorAt C g j := ⟨j0, j1, by omega, fun q => by have := hull_asc h j0 (show j < j + 1 by omega) q; omega⟩
  have e1 := hA_eq h cj
  have e2 := (hB_eq h hg cj).1 j2
  unfold hNum hDen
  rw [e1, e2, if_pos j2, if_pos j2]
  exact ⟨rfl, rfl⟩
theorem cor_ends {D : Int → Int → Int → Int} {n : Int} {C : List Int} (h : HullI D n C) (hn : 0 < n) : isCor C 0 ∧ isCor C (n - 1) := by
  obtain ⟨a, b, c⟩ := h.2.1 hn
  exact ⟨⟨0, by omega, by omega, b⟩, ⟨(C.length : Int) - 1, by omega, by omega, c⟩⟩
/-- between corners -/
theorem cor_not {D : Int → Int → Int → Int} {n : Int} {C : List Int} (h : HullI D n C) {g : Int} (hg : 0 ≤ g ∧ g < n) (hc : ¬ isCor C g) : ∃ j : Int, (0 ≤ j ∧ j + 1 < C.length) ∧ at0 C j < g ∧ g < at0 C (j + 1) := by
  obtain ⟨j, hj⟩ := corAt_ex h hg
  have q : at0 C j ≠ g := fun e => hc ⟨j, hj.1, hj.2.1, e⟩
  have k := (hB_eq h hg.2 hj).2 q
  exact ⟨j, ⟨hj.1, k.1⟩, by have := hj.2.2.1; omega, hj.2.2.2 k.1⟩
theorem ginA_1 {P : List Pt} {g : Int} (hg : 0 ≤ g ∧ g < ng P) : ginA P g 0 = gX P g ∧ ginA P g 1 = gW P (g + 1) - gW P g ∧ ginA P g 2 = gM P (g + 1) - gM P g := by
  unfold ginA
  refine ⟨?_, ?_, ?_⟩
  · rw [if_neg (by omega), if_pos rfl]
  · rw [if_neg (by omega), if_neg (by omega), if_pos rfl]
  · rw [if_neg (by omega), if_neg (by omega), if_neg (by omega), if_pos rfl]
noncomputable def byA (P : List Pt) (kind g : Int) : Int := fitA P kind g 0 * ginA P g 1 - ginA P g 2 * fitA P kind g 1
theorem fNh {P : List Pt} {kind g : Int} (hk : 4 ≤ kind) : fN P kind g = hNum (gX P) (gW P) (gM P) (hulC P (hSide kind)) g ∧ fD P kind g = hDen (gX P) (gW P) (hulC P (hSide kind)) g := by
  unfold fN fD
  rw [if_pos hk, if_pos hk]
  exact ⟨rfl, rfl⟩
theorem bent_by {P : List Pt} (hP : ptsOk P) (hl : P.length ≤ 12) {kind g : Int} (hk : kind = 4 ∨ kind = 5) (hg : 0 ≤ g ∧ g < ng P) : hSide kind * byA P kind g ≤ 0 ∧ (isCor (hulC P (hSide kind)) g → byA P kind g = 0) := by
  have hPf := prof_of hP hl
  obtain ⟨k4, k05⟩ := kind_h hk
  obtain ⟨e0, e1, e2⟩ := ginA_1 hg
  have hH := hulC_ok hP hl (hSide kind)
  have d0 := (fit_rg hP hl (kind := kind) hg).1
  have f0 := (fitA_rg hP hl (kind := kind) k05 hg).2.2.1
  have lv : fitA P kind g 0 * fD P kind g = fN P kind g * fitA P kind g 1 := by
    rw [fitA_eq k05 hg (by omega), fitA_eq k05 hg (by omega)]
    exact low_val d0
  have c : byA P kind g * fD P kind g = (fN P kind g * (gW P (g + 1) - gW P g) - (gM P (g + 1) - gM P g) * fD P kind g) * fitA P kind g 1 := by
    unfold byA
    rw [e1, e2]
    have : (fitA P kind g 0 * (gW P (g + 1) - gW P g) - (gM P (g + 1) - gM P g) * fitA P kind g 1) * fD P kind g = (fitA P kind g 0 * fD P kind g) * (gW P (g + 1) - gW P g) - (gM P (g + 1) - gM P g) * fitA P kind g 1 * fD P kind g := by grind
    rw [this, lv]
    grind
  obtain ⟨n1, n2⟩ := fNh (P := P) (g := g) k4
  have key : isCor (hulC P (hSide kind)) g → byA P kind g = 0 := fun hc => by
    obtain ⟨a, b⟩ := h_cor (X := gX P) (W := gW P) (M := gM P) hH hg.2 hc
    rw [n1, n2, a, b] at c
    have z : byA P kind g * (gW P (g + 1) - gW P g) = 0 := by
      rw [c]
      have : (gM P (g + 1) - gM P g) * (gW P (g + 1) - gW P g) - (gM P (g + 1) - gM P g) * (gW P (g + 1) - gW P g) = 0 := by omega
      rw [this, Int.zero_mul]
    have w := wt_pos hPf hg.1 (Int.le_refl g) hg.2
    rcases Int.mul_eq_zero.mp z with h | h
    · exact h
    · omega
  refine ⟨?_, key⟩
  by_cases hc : isCor (hulC P (hSide kind)) g
  · rw [key hc]; omega
  · obtain ⟨j, hj, h0, h1⟩ := cor_not hH hg hc
    have nx := hH.2.2.1 j hj.1 hj.2
    have dv := nx.2.2 g h0 h1
    have ln := h_line (X := gX P) (W := gW P) (M := gM P) hH hj (Int.le_of_lt h0) (Int.le_of_lt h1)
    have r := nx.1
    have x1 := hPf.2.2.1 _ _ r.1 r.2.1 r.2.2
    have wa := wt_pos hPf r.1 (Int.le_refl _) (by omega)
    have wb := wt_pos hPf (a := at0 (hulC P (hSide kind)) (j + 1)) (by omega) (Int.le_refl _) r.2.2
    have lp : 0 < lnD (gX P) (gW P) (at0 (hulC P (hSide kind)) j) (at0 (hulC P (hSide kind)) (j + 1)) := Int.mul_pos (Int.mul_pos wa wb) (by omega)
    have dv2 : 0 ≤ hSide kind * sD (gX P) (gW P) (gM P) (at0 (hulC P (hSide kind)) j) g (at0 (hulC P (hSide kind)) (j + 1)) := dv
    rw [n1, n2] at c
    rw [n2] at d0
    generalize at0 (hulC P (hSide kind)) j = a at *
    generalize at0 (hulC P (hSide kind)) (j + 1) = b at *
    generalize hNum (gX P) (gW P) (gM P) (hulC P (hSide kind)) g = N at *
    generalize hDen (gX P) (gW P) (hulC P (hSide kind)) g = Dn at *
    have e3 : (N * (gW P (g + 1) - gW P g) - (gM P (g + 1) - gM P g) * Dn) * lnD (gX P) (gW P) a b = -(Dn * sD (gX P) (gW P) (gM P) a g b) := by
      have : (N * (gW P (g + 1) - gW P g) - (gM P (g + 1) - gM P g) * Dn) * lnD (gX P) (gW P) a b = (N * lnD (gX P) (gW P) a b) * (gW P (g + 1) - gW P g) - (gM P (g + 1) - gM P g) * Dn * lnD (gX P) (gW P) a b := by grind
      rw [this, ln]
      unfold lnN lnD sD
      grind
    have cs : (hSide kind * byA P kind g) * (Dn * lnD (gX P) (gW P) a b) = (-(hSide kind * sD (gX P) (gW P) (gM P) a g b)) * (Dn * fitA P kind g 1) := by
      have : (hSide kind * byA P kind g) * (Dn * lnD (gX P) (gW P) a b) = hSide kind * (byA P kind g * Dn) * lnD (gX P) (gW P) a b := by grind
      rw [this, c]
      have : hSide kind * ((N * (gW P (g + 1) - gW P g) - (gM P (g + 1) - gM P g) * Dn) * fitA P kind g 1) * lnD (gX P) (gW P) a b = hSide kind * ((N * (gW P (g + 1) - gW P g) - (gM P (g + 1) - gM P g) * Dn) * lnD (gX P) (gW P) a b) * fitA P kind g 1 := by grind
      rw [this, e3]
      grind
    exact (sgn_neg (Int.mul_pos d0 lp) (Int.mul_pos d0 f0) cs).1.mpr (by omega)
noncomputable def bdA (P : List Pt) (kind g : Int) : Int := stepA P kind (g - 1) * (ginA P (g + 1) 0 - ginA P g 0) * fitA P kind (g + 1) 1
noncomputable def bdB (P : List Pt) (kind g : Int) : Int := stepA P kind g * (ginA P g 0 - ginA P (g - 1) 0) * fitA P kind (g - 1) 1
/-- how the slope changes at a group, by the fractions as they were drawn -/
noncomputable def phi (P : List Pt) (kind g : Int) : Int := fN P kind (g + 1) * fD P kind g * fD P kind (g - 1) * (gX P g - gX P (g - 1)) + fN P kind (g - 1) * fD P kind g * fD P kind (g + 1) * (gX P (g + 1) - gX P g) - fN P kind g * fD P kind (g - 1) * fD P kind (g + 1) * (gX P (g + 1) - gX P (g - 1))
theorem bd_phi {P : List Pt} (hP : ptsOk P) (hl : P.length ≤ 12) {kind g : Int} (hk : 0 ≤ kind ∧ kind ≤ 5) (h0 : 0 < g) (h1 : g < ng P - 1) : (bdB P kind g - bdA P kind g) * (fD P kind (g - 1) * fD P kind g * fD P kind (g + 1)) = phi P kind g * (fitA P kind (g - 1) 1 * fitA P kind g 1 * fitA P kind (g + 1) 1) := by
  have a1 : fitA P kind (g - 1) 0 * fD P kind (g - 1) = fN P kind (g - 1) * fitA P kind (g - 1) 1 := by
    rw [fitA_eq hk (by omega) (by omega), fitA_eq hk (by omega) (by omega)]
    exact low_val (fit_rg hP hl (by omega)).1
  have a2 : fitA P kind g 0 * fD P kind g = fN P kind g * fitA P kind g 1 := by
    rw [fitA_eq hk (by omega) (by omega), fitA_eq hk (by omega) (by omega)]
    exact low_val (fit_rg hP hl (by omega)).1
  have a3 : fitA P kind (g + 1) 0 * fD P kind (g + 1) = fN P kind (g + 1) * fitA P kind (g + 1) 1 := by
    rw [fitA_eq hk (by omega) (by omega), fitA_eq hk (by omega) (by omega)]
    exact low_val (fit_rg hP hl (by omega)).1
  unfold bdA bdB stepA phi
  rw [(ginA_1 (P := P) (g := g) (by omega)).1, (ginA_1 (P := P) (g := g + 1) (by omega)).1, (ginA_1 (P := P) (g := g - 1) (by omega)).1, show g - 1 + 1 = g by omega]
  generalize fitA P kind (g - 1) 0 = A1 at *
  generalize fitA P kind (g - 1) 1 = B1 at *
  generalize fitA P kind g 0 = A2 at *
  generalize fitA P kind g 1 = B2 at *
  generalize fitA P kind (g + 1) 0 = A3 at *
  generalize fitA P kind (g + 1) 1 = B3 at *
  generalize fN P kind (g - 1) = N1 at *
  generalize fD P kind (g - 1) = D1 at *
  generalize fN P kind g = N2 at *
  generalize fD P kind g = D2 at *
  generalize fN P kind (g + 1) = N3 at *
  generalize fD P kind (g + 1) = D3 at *
  generalize gX P (g - 1) = x1 at *
  generalize gX P g = x2 at *
  generalize gX P (g + 1) = x3 at *
  have e : ((A3 * B2 - A2 * B3) * (x2 - x1) * B1 - (A2 * B1 - A1 * B2) * (x3 - x2) * B3) * (D1 * D2 * D3) = (A3 * D3) * (D1 * D2) * (B1 * B2) * (x2 - x1) + (A1 * D1) * (D2 * D3) * (B2 * B3) * (x3 - x2) - (A2 * D2) * (D1 * D3) * (B1 * B3) * (x3 - x1) := by grind
  rw [e, a1, a2, a3]
  grind
theorem bent_bd {P : List Pt} (hP : ptsOk P) (hl : P.length ≤ 12) {kind g : Int} (hk : kind = 4 ∨ kind = 5) (h0 : 0 < g) (h1 : g < ng P - 1) : (isCor (hulC P (hSide kind)) g → 0 < hSide kind * (bdB P kind g - bdA P kind g)) ∧ (¬ isCor (hulC P (hSide kind)) g → bdB P kind g = bdA P kind g) := by
  have hPf := prof_of hP hl
  obtain ⟨k4, k05⟩ := kind_h hk
  have hH := hulC_ok hP hl (hSide kind)
  have bp := bd_phi hP hl k05 h0 h1
  have d1 := (fit_rg hP hl (kind := kind) (g := g - 1) (by omega)).1
  have d2 := (fit_rg hP hl (kind := kind) (g := g) (by omega)).1
  have d3 := (fit_rg hP hl (kind := kind) (g := g + 1) (by omega)).1
  have f1 := (fitA_rg hP hl (kind := kind) (g := g - 1) k05 (by omega)).2.2.1
  have f2 := (fitA_rg hP hl (kind := kind) (g := g) k05 (by omega)).2.2.1
  have f3 := (fitA_rg hP hl (kind := kind) (g := g + 1) k05 (by omega)).2.2.1
  have dp := Int.mul_pos (Int.mul_pos d1 d2) d3
  have fp := Int.mul_pos (Int.mul_pos f1 f2) f3
  have x1 := hPf.2.2.1 (g - 1) g (by omega) (by omega) (by omega)
  have x2 := hPf.2.2.1 g (g + 1) (by omega) (by omega) (by omega)
  obtain ⟨n1, m1⟩ := fNh (P := P) (g := g - 1) k4
  obtain ⟨n2, m2⟩ := fNh (P := P) (g := g) k4
  obtain ⟨n3, m3⟩ := fNh (P := P) (g := g + 1) k4
  constructor
  · intro hc
    obtain ⟨j, j0, j1, j2⟩ := id hc
    obtain ⟨c1, c2⟩ := h_cor (X := gX P) (W := gW P) (M := gM P) hH (show g < ng P by omega) hc
    obtain ⟨c3, c4, c5⟩ := hH.2.1 (by omega)
    have q0 : j ≠ 0 := fun q => by rw [q] at j2; omega
    have q1 : j ≠ ((hulC P (hSide kind)).length : Int) - 1 := fun q => by rw [q] at j2; omega
    have nx := hH.2.2.1 (j - 1) (by omega) (by omega)
    rw [show j - 1 + 1 = j by omega, j2] at nx
    have nx2 := hH.2.2.1 j j0 (by omega)
    rw [j2] at nx2
    have l1 := h_line (X := gX P) (W := gW P) (M := gM P) hH (j := j - 1) (g := g - 1) (by omega) (by have := nx.1; omega) (by rw [show j - 1 + 1 = j by omega, j2]; omega)
    rw [show j - 1 + 1 = j by omega, j2] at l1
    have l2 := h_line (X := gX P) (W := gW P) (M := gM P) hH (j := j) (g := g + 1) (by omega) (by omega) (by have := nx2.1; omega)
    rw [j2] at l2
    have dn : hSide kind * sD (gX P) (gW P) (gM P) (at0 (hulC P (hSide kind)) (j - 1)) g (at0 (hulC P (hSide kind)) (j + 1)) < 0 := nx.2.1 _ nx2.1.2.1 nx2.1.2.2
    have r1 := nx.1
    have r2 := nx2.1
    have wa := wt_pos hPf r1.1 (Int.le_refl _) (by omega)
    have wg := wt_pos hPf (a := g) (by omega) (Int.le_refl _) (by omega)
    have wb := wt_pos hPf (a := at0 (hulC P (hSide kind)) (j + 1)) (by omega) (Int.le_refl _) r2.2.2
    have xa := hPf.2.2.1 _ _ r1.1 r1.2.1 r1.2.2
    have xb := hPf.2.2.1 _ _ r2.1 r2.2.1 r2.2.2
    have p1 : 0 < lnD (gX P) (gW P) (at0 (hulC P (hSide kind)) (j - 1)) g := Int.mul_pos (Int.mul_pos wa wg) (by omega)
    have p2 : 0 < lnD (gX P) (gW P) g (at0 (hulC P (hSide kind)) (j + 1)) := Int.mul_pos (Int.mul_pos wg wb) (by omega)
    rw [← n1, ← m1] at l1
    rw [← n3, ← m3] at l2
    rw [← n2] at c1
    rw [← m2] at c2
    have ph : phi P kind g * (lnD (gX P) (gW P) (at0 (hulC P (hSide kind)) (j - 1)) g * lnD (gX P) (gW P) g (at0 (hulC P (hSide kind)) (j + 1))) = -sD (gX P) (gW P) (gM P) (at0 (hulC P (hSide kind)) (j - 1)) g (at0 (hulC P (hSide kind)) (j + 1)) * (fD P kind (g - 1) * fD P kind (g + 1) * ((gX P g - gX P (g - 1)) * (gX P (g + 1) - gX P g)) * ((gW P (g + 1) - gW P g) * (gW P (g + 1) - gW P g))) := by
      generalize at0 (hulC P (hSide kind)) (j - 1) = a at *
      generalize at0 (hulC P (hSide kind)) (j + 1) = b at *
      unfold phi
      rw [c1, c2]
      generalize fN P kind (g - 1) = N1 at *
      generalize fD P kind (g - 1) = D1 at *
      generalize fN P kind (g + 1) = N3 at *
      generalize fD P kind (g + 1) = D3 at *
      have e : (N3 * (gW P (g + 1) - gW P g) * D1 * (gX P g - gX P (g - 1)) + N1 * (gW P (g + 1) - gW P g) * D3 * (gX P (g + 1) - gX P g) - (gM P (g + 1) - gM P g) * D1 * D3 * (gX P (g + 1) - gX P (g - 1))) * (lnD (gX P) (gW P) a g * lnD (gX P) (gW P) g b) = (N3 * lnD (gX P) (gW P) g b) * ((gW P (g + 1) - gW P g) * D1 * (gX P g - gX P (g - 1)) * lnD (gX P) (gW P) a g) + (N1 * lnD (gX P) (gW P) a g) * ((gW P (g + 1) - gW P g) * D3 * (gX P (g + 1) - gX P g) * lnD (gX P) (gW P) g b) - (gM P (g + 1) - gM P g) * D1 * D3 * (gX P (g + 1) - gX P (g - 1)) * (lnD (gX P) (gW P) a g * lnD (gX P) (gW P) g b) := by grind
      rw [e, l1, l2]
      unfold lnN lnD sD
      generalize gW P (a + 1) - gW P a = wa at *
      generalize gW P (b + 1) - gW P b = wb at *
      generalize gW P (g + 1) - gW P g = wg at *
      generalize gM P (a + 1) - gM P a = ma at *
      generalize gM P (b + 1) - gM P b = mb at *
      generalize gM P (g + 1) - gM P g = mg at *
      generalize gX P a = xa at *
      generalize gX P b = xb at *
      generalize gX P g = xg at *
      generalize gX P (g - 1) = x1 at *
      generalize gX P (g + 1) = x3 at *
      grind
    have ps : 0 < hSide kind * phi P kind g := by
      have pq : 0 < fD P kind (g - 1) * fD P kind (g + 1) * ((gX P g - gX P (g - 1)) * (gX P (g + 1) - gX P g)) * ((gW P (g + 1) - gW P g) * (gW P (g + 1) - gW P g)) := Int.mul_pos (Int.mul_pos (Int.mul_pos d1 d3) (Int.mul_pos (by omega) (by omega))) (Int.mul_pos wg wg)
      refine (sgn_of (x := hSide kind * phi P kind g) (y := -(hSide kind * sD (gX P) (gW P) (gM P) (at0 (hulC P (hSide kind)) (j - 1)) g (at0 (hulC P (hSide kind)) (j + 1)))) (Int.mul_pos p1 p2) pq ?_).2.mpr (by omega)
      rw [Int.mul_assoc, ph]
      grind
    refine (sgn_of (x := hSide kind * (bdB P kind g - bdA P kind g)) (y := hSide kind * phi P kind g) dp fp ?_).2.mpr ps
    rw [Int.mul_assoc, bp]
    grind
  · intro hc
    obtain ⟨j, hj, h2, h3⟩ := cor_not hH (show 0 ≤ g ∧ g < ng P by omega) hc
    have l1 := h_line (X := gX P) (W := gW P) (M := gM P) hH (g := g - 1) hj (by omega) (by omega)
    have l2 := h_line (X := gX P) (W := gW P) (M := gM P) hH (g := g) hj (by omega) (by omega)
    have l3 := h_line (X := gX P) (W := gW P) (M := gM P) hH (g := g + 1) hj (by omega) (by omega)
    have r := (hH.2.2.1 j hj.1 hj.2).1
    have wa := wt_pos hPf r.1 (Int.le_refl _) (by omega)
    have wb := wt_pos hPf (a := at0 (hulC P (hSide kind)) (j + 1)) (by omega) (Int.le_refl _) r.2.2
    have xa := hPf.2.2.1 _ _ r.1 r.2.1 r.2.2
    have p1 : 0 < lnD (gX P) (gW P) (at0 (hulC P (hSide kind)) j) (at0 (hulC P (hSide kind)) (j + 1)) := Int.mul_pos (Int.mul_pos wa wb) (by omega)
    rw [← n1, ← m1] at l1
    rw [← n2, ← m2] at l2
    rw [← n3, ← m3] at l3
    have ph : phi P kind g * lnD (gX P) (gW P) (at0 (hulC P (hSide kind)) j) (at0 (hulC P (hSide kind)) (j + 1)) = 0 := by
      generalize at0 (hulC P (hSide kind)) j = a at *
      generalize at0 (hulC P (hSide kind)) (j + 1) = b at *
      unfold phi
      generalize fN P kind (g - 1) = N1 at *
      generalize fD P kind (g - 1) = D1 at *
      generalize fN P kind g = N2 at *
      generalize fD P kind g = D2 at *
      generalize fN P kind (g + 1) = N3 at *
      generalize fD P kind (g + 1) = D3 at *
      have e : (N3 * D2 * D1 * (gX P g - gX P (g - 1)) + N1 * D2 * D3 * (gX P (g + 1) - gX P g) - N2 * D1 * D3 * (gX P (g + 1) - gX P (g - 1))) * lnD (gX P) (gW P) a b = (N3 * lnD (gX P) (gW P) a b) * (D2 * D1 * (gX P g - gX P (g - 1))) + (N1 * lnD (gX P) (gW P) a b) * (D2 * D3 * (gX P (g + 1) - gX P g)) - (N2 * lnD (gX P) (gW P) a b) * (D1 * D3 * (gX P (g + 1) - gX P (g - 1))) := by grind
      rw [e, l1, l2, l3]
      unfold lnN
      grind
    have pz : phi P kind g = 0 := by
      rcases Int.mul_eq_zero.mp ph with h | h
      · exact h
      · omega
    rw [pz, Int.zero_mul] at bp
    rcases Int.mul_eq_zero.mp bp with h | h
    · omega
    · omega
/-! the kinks -/
theorem kinksA_eq {P : List Pt} (hP : ptsOk P) (hl : P.length ≤ 12) {kind : Int} (hk : kind = 4 ∨ kind = 5) (hn : 0 < ng P) : 0 ≤ kinksA P kind ∧ kinksA P kind ≤ (if 2 < ng P then ng P - 2 else 0) ∧ kinkAtA P kind (kinksA P kind) = -1000004 ∧ (∀ i : Int, 0 ≤ i → i < kinksA P kind → kinkAtA P kind i = at0 (hulC P (hSide kind)) (i + 1)) ∧ (kinksA P kind = ((hulC P (hSide kind)).length : Int) - 2 ∨ (kinksA P kind = 0 ∧ (hulC P (hSide kind)).length = 1)) := by
  have hH := hulC_ok hP hl (hSide kind)
  obtain ⟨c3, c4, c5⟩ := hH.2.1 hn
  have c6 := hH.2.2.2
  have e : kinksA P kind = if 2 ≤ (hulC P (hSide kind)).length then ((hulC P (hSide kind)).length : Int) - 2 else 0 := by
    unfold kinksA
    rw [if_neg (by omega)]
  by_cases q : 2 ≤ (hulC P (hSide kind)).length
  · rw [if_pos q] at e
    refine ⟨by omega, by split <;> omega, ?_, fun i i0 i1 => ?_, Or.inl e⟩
    · unfold kinkAtA
      rw [if_neg (by omega), if_neg (by omega)]
    · unfold kinkAtA
      rw [if_neg (by omega), if_pos (by omega)]
  · rw [if_neg q] at e
    refine ⟨by omega, by split <;> omega, ?_, fun i i0 i1 => by omega, Or.inr ⟨e, by omega⟩⟩
    unfold kinkAtA
    rw [if_neg (by omega), if_neg (by omega)]
/-- x kinks lie before g -/
def KI (P : List Pt) (kind g x : Int) : Prop := (0 ≤ x ∧ x ≤ kinksA P kind) ∧ (∀ i : Int, 0 ≤ i → i < x → at0 (hulC P (hSide kind)) (i + 1) < g) ∧ ∀ i : Int, x ≤ i → i < kinksA P kind → g ≤ at0 (hulC P (hSide kind)) (i + 1)
section Kinks
variable {P : List Pt} {kind g x : Int}
theorem ki_0 (hP : ptsOk P) (hl : P.length ≤ 12) (hk : kind = 4 ∨ kind = 5) (hn : 0 < ng P) : KI P kind 0 0 := by
  have hH := hulC_ok hP hl (hSide kind)
  obtain ⟨a, -, -, -, b⟩ := kinksA_eq hP hl hk hn
  refine ⟨by omega, fun i i0 i1 => by omega, fun i i0 i1 => ?_⟩
  have := hull_rg hH (i := i + 1) (by omega) (by omega)
  exact this.1
theorem ki_end (hP : ptsOk P) (hl : P.length ≤ 12) (hk : kind = 4 ∨ kind = 5) (hn : 0 < ng P) (h : KI P kind (ng P) x) : x = kinksA P kind := by
  have hH := hulC_ok hP hl (hSide kind)
  obtain ⟨a, -, -, -, b⟩ := kinksA_eq hP hl hk hn
  by_cases q : x = kinksA P kind
  · exact q
  · have h1 := h.1
    have := h.2.2 x (Int.le_refl x) (by omega)
    have := hull_rg hH (i := x + 1) (by omega) (by omega)
    omega
/-- a kink is met -/
theorem ki_hit (hP : ptsOk P) (hl : P.length ≤ 12) (hk : kind = 4 ∨ kind = 5) (hn : 0 < ng P) (h : KI P kind g x) (hx : x < kinksA P kind) (e : kinkAtA P kind x = g) : KI P kind (g + 1) (x + 1) ∧ isCor (hulC P (hSide kind)) g ∧ 0 < g ∧ g < ng P - 1 := by
  have hH := hulC_ok hP hl (hSide kind)
  obtain ⟨a, -, -, c, b⟩ := kinksA_eq hP hl hk hn
  obtain ⟨c3, c4, c5⟩ := hH.2.1 hn
  have h1 := h.1
  rw [c x h1.1 hx] at e
  have s0 := hull_asc hH (i := 0) (j := x + 1) (by omega) (by omega) (by omega)
  have s1 := hull_asc hH (i := x + 1) (j := ((hulC P (hSide kind)).length : Int) - 1) (by omega) (by omega) (by omega)
  refine ⟨⟨by omega, fun i i0 i1 => ?_, fun i i0 i1 => ?_⟩, ⟨x + 1, by omega, by omega, e⟩, by omega, by omega⟩
  · by_cases q : i = x
    · rw [q]; omega
    · have := h.2.1 i i0 (by omega); omega
  · have := hull_asc hH (i := x + 1) (j := i + 1) (by omega) (by omega) (by omega)
    omega
theorem ki_miss (hP : ptsOk P) (hl : P.length ≤ 12) (hk : kind = 4 ∨ kind = 5) (hn : 0 < ng P) (h : KI P kind g x) (hx : ¬ x < kinksA P kind ∨ kinkAtA P kind x ≠ g) : KI P kind (g + 1) x ∧ (0 < g → g < ng P - 1 → ¬ isCor (hulC P (hSide kind)) g) := by
  have hH := hulC_ok hP hl (hSide kind)
  obtain ⟨a, -, -, c, b⟩ := kinksA_eq hP hl hk hn
  obtain ⟨c3, c4, c5⟩ := hH.2.1 hn
  have h1 := h.1
  have key : ∀ i : Int, x ≤ i → i < kinksA P kind → g + 1 ≤ at0 (hulC P (hSide kind)) (i + 1) := fun i i0 i1 => by
    have k0 := h.2.2 x (Int.le_refl x) (by omega)
    have k1 : at0 (hulC P (hSide kind)) (x + 1) ≠ g := fun e => by
      rcases hx with q | q
      · omega
      · exact q ((c x h1.1 (by omega)).trans e)
    by_cases q : i = x
    · rw [q]; omega
    · have := hull_asc hH (i := x + 1) (j := i + 1) (by omega) (by omega) (by omega)
      omega
  refine ⟨⟨h1, fun i i0 i1 => by have := h.2.1 i i0 i1; omega, key⟩, fun g0 g1 hc => ?_⟩
  obtain ⟨j, j0, j1, j2⟩ := hc
  have q0 : j ≠ 0 := fun q => by rw [q] at j2; omega
  have q1 : j ≠ ((hulC P (hSide kind)).length : Int) - 1 := fun q => by rw [q] at j2; omega
  by_cases q : j - 1 < x
  · have := h.2.1 (j - 1) (by omega) q
    rw [show j - 1 + 1 = j by omega] at this
    omega
  · have := key (j - 1) (by omega) (by omega)
    rw [show j - 1 + 1 = j by omega] at this
    omega
end Kinks
