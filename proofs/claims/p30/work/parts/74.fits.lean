/-! fits as fractions -/
theorem hull_ex {D : Int → Int → Int → Int} {n : Int} (hD : DLaw D n) : ∀ g : Int, 0 ≤ g → (g ≤ n → ∃ C : List Int, HullI D g C) := fun g hg => by
  refine iInd (p := fun g => g ≤ n → ∃ C : List Int, HullI D g C) (fun _ => ⟨[], fun _ => rfl, fun q => by omega, fun i h0 h1 => by simp at h1; omega, by simp⟩) (fun g hg ih q => ?_) g hg
  obtain ⟨C, hC⟩ := ih (by omega)
  have : ∀ (m : Nat) (C : List Int), C.length ≤ m → HP D g C → ∃ C' : List Int, HullI D (g + 1) C' := by
    intro m
    induction m with
    | zero => intro C hl h; exact ⟨_, hp_push hD ⟨hg, by omega⟩ h (Or.inl (by omega))⟩
    | succ m ihm =>
      intro C hl h
      by_cases z : C.length ≤ 1 ∨ D (at0 C ((C.length : Int) - 2)) (at0 C ((C.length : Int) - 1)) g < 0
      · exact ⟨_, hp_push hD ⟨hg, by omega⟩ h z⟩
      · exact ihm C.dropLast (by rw [List.length_dropLast]; omega) (hp_pop hD (by omega) h (by omega) (by omega))
  exact this C.length C (Nat.le_refl _) (hp_init hC)
theorem hulC_ok {P : List Pt} (hP : ptsOk P) (hl : P.length ≤ 12) (side : Int) : HullI (hulD P side) (ng P) (hulC P side) := by
  have hPf := prof_of hP hl
  obtain ⟨C, hC⟩ := hull_ex (D := hulD P side) (dLaw hPf side) (ng P) hPf.1.1 (Int.le_refl _)
  rw [hulC_eq hC]
  exact hC
noncomputable def fN (P : List Pt) (kind g : Int) : Int := if 4 ≤ kind then hNum (gX P) (gW P) (gM P) (hulC P (hSide kind)) g else gM P (bEnd (kdB P kind) (ng P) (blkA (kdB P kind) (ng P) g) + 1) - gM P (at0 (kdB P kind) (blkA (kdB P kind) (ng P) g))
noncomputable def fD (P : List Pt) (kind g : Int) : Int := if 4 ≤ kind then hDen (gX P) (gW P) (hulC P (hSide kind)) g else gW P (bEnd (kdB P kind) (ng P) (blkA (kdB P kind) (ng P) g) + 1) - gW P (at0 (kdB P kind) (blkA (kdB P kind) (ng P) g))
theorem fitA_eq {P : List Pt} {kind g w : Int} (hk : 0 ≤ kind ∧ kind ≤ 5) (hg : 0 ≤ g ∧ g < ng P) (hw : 0 ≤ w ∧ w ≤ 1) : fitA P kind g w = low (fN P kind g) (fD P kind g) w := by
  unfold fitA fN fD
  rw [if_neg (by omega)]
  by_cases q : 4 ≤ kind
  · rw [if_pos q, if_pos q, if_pos q]
  · rw [if_neg q, if_neg q, if_neg q]
theorem blkA_at {P : List Pt} (hP : ptsOk P) (hl : P.length ≤ 12) {kind g : Int} (hg : 0 ≤ g ∧ g < ng P) : 0 ≤ blkA (kdB P kind) (ng P) g ∧ blkA (kdB P kind) (ng P) g < (kdB P kind).length ∧ at0 (kdB P kind) (blkA (kdB P kind) (ng P) g) ≤ g ∧ g ≤ bEnd (kdB P kind) (ng P) (blkA (kdB P kind) (ng P) g) := by
  have hA := kdB_asc hP hl (kind := kind) (show 0 < ng P by omega)
  obtain ⟨j, h⟩ := blk_ex hA hg
  rw [blkA_eq hA h]
  exact h
theorem fit_rg {P : List Pt} (hP : ptsOk P) (hl : P.length ≤ 12) {kind g : Int} (hg : 0 ≤ g ∧ g < ng P) : 0 < fD P kind g ∧ fD P kind g ≤ 5760 ∧ -(99 * fD P kind g) ≤ fN P kind g ∧ fN P kind g ≤ 99 * fD P kind g := by
  have hPf := prof_of hP hl
  unfold fN fD
  by_cases q : 4 ≤ kind
  · rw [if_pos q, if_pos q]
    exact h_rg hPf (hulC_ok hP hl _) hg
  · rw [if_neg q, if_neg q]
    have hA := kdB_asc hP hl (kind := kind) (show 0 < ng P by omega)
    obtain ⟨a, b, c, d⟩ := blkA_at hP hl (kind := kind) hg
    have r := bEnd_rg hA a b
    have w1 := prof_rg hPf r.1 (b := bEnd (kdB P kind) (ng P) (blkA (kdB P kind) (ng P) g) + 1) (by omega) (by omega)
    have w2 := prof_w hPf r.1 (b := bEnd (kdB P kind) (ng P) (blkA (kdB P kind) (ng P) g) + 1) (by omega) (by omega)
    omega
def fitOk (a b : Int) : Prop := -570240 ≤ a ∧ a ≤ 570240 ∧ 0 < b ∧ b ≤ 5760
theorem fitA_rg {P : List Pt} (hP : ptsOk P) (hl : P.length ≤ 12) {kind g : Int} (hk : 0 ≤ kind ∧ kind ≤ 5) (hg : 0 ≤ g ∧ g < ng P) : fitOk (fitA P kind g 0) (fitA P kind g 1) := by
  rw [fitA_eq hk hg (by omega), fitA_eq hk hg (by omega)]
  obtain ⟨a, b, c, d⟩ := fit_rg hP hl (kind := kind) hg
  have k := low_le (n := fN P kind g) a
  have p := low_pos (n := fN P kind g) a
  refine ⟨?_, ?_, p, by omega⟩
  · have := k.2.1
    split at this <;> omega
  · have := k.2.2
    split at this <;> omega
noncomputable def stepA (P : List Pt) (kind g : Int) : Int := fitA P kind (g + 1) 0 * fitA P kind g 1 - fitA P kind g 0 * fitA P kind (g + 1) 1
theorem step_cross {P : List Pt} (hP : ptsOk P) (hl : P.length ≤ 12) {kind g : Int} (hk : 0 ≤ kind ∧ kind ≤ 5) (h0 : 0 ≤ g) (h1 : g + 1 < ng P) : stepA P kind g * (fD P kind g * fD P kind (g + 1)) = (fN P kind (g + 1) * fD P kind g - fN P kind g * fD P kind (g + 1)) * (fitA P kind g 1 * fitA P kind (g + 1) 1) := by
  unfold stepA
  rw [fitA_eq hk ⟨h0, by omega⟩ (by omega), fitA_eq hk ⟨h0, by omega⟩ (by omega), fitA_eq hk (g := g + 1) (by omega) (by omega), fitA_eq hk (g := g + 1) (by omega) (by omega)]
  exact low_cross (fit_rg hP hl (by omega)).1 (fit_rg hP hl (by omega)).1
theorem step_rg {P : List Pt} (hP : ptsOk P) (hl : P.length ≤ 12) {kind g : Int} (hk : 0 ≤ kind ∧ kind ≤ 5) (h0 : 0 ≤ g) (h1 : g + 1 < ng P) : -6569164800 ≤ stepA P kind g ∧ stepA P kind g ≤ 6569164800 := by
  obtain ⟨a0, a1, a2, a3⟩ := fitA_rg hP hl hk (g := g) (by omega)
  obtain ⟨b0, b1, b2, b3⟩ := fitA_rg hP hl hk (g := g + 1) (by omega)
  have k1 := mul_rg (a := fitA P kind (g + 1) 0) (b := fitA P kind g 1) (A := 570240) (B := 5760) (by omega) (by omega)
  have k2 := mul_rg (a := fitA P kind g 0) (b := fitA P kind (g + 1) 1) (A := 570240) (B := 5760) (by omega) (by omega)
  unfold stepA
  omega
/-- a peak rises up to its turn and falls from it on -/
theorem turned_step {P : List Pt} (hP : ptsOk P) (hl : P.length ≤ 12) {kind g : Int} (hk : 2 ≤ kind ∧ kind ≤ 3) (h0 : 0 ≤ g) (h1 : g + 1 < ng P) : (g < turnA P kind → 0 ≤ tSide kind * stepA P kind g) ∧ (turnA P kind ≤ g → tSide kind * stepA P kind g ≤ 0) := by
  have hPf := prof_of hP hl
  have hn : 0 < ng P := by omega
  have hA := kdB_asc hP hl (kind := kind) hn
  have tr := turnA_rg hn hk
  have j0 := blkA_at hP hl (kind := kind) (g := g) (by omega)
  have c := step_cross hP hl (kind := kind) (g := g) (by omega) h0 h1
  have d0 := (fit_rg hP hl (kind := kind) (g := g) (by omega)).1
  have d1 := (fit_rg hP hl (kind := kind) (g := g + 1) (by omega)).1
  have f0 := (fitA_rg hP hl (kind := kind) (g := g) (by omega) (by omega)).2.2.1
  have f1 := (fitA_rg hP hl (kind := kind) (g := g + 1) (by omega) (by omega)).2.2.1
  by_cases z : g + 1 ≤ bEnd (kdB P kind) (ng P) (blkA (kdB P kind) (ng P) g)
  · have e : blkA (kdB P kind) (ng P) (g + 1) = blkA (kdB P kind) (ng P) g := blkA_eq hA ⟨j0.1, j0.2.1, by omega, z⟩
    have e1 : fN P kind (g + 1) = fN P kind g := by
      unfold fN
      rw [if_neg (by omega), if_neg (by omega), e]
    have e2 : fD P kind (g + 1) = fD P kind g := by
      unfold fD
      rw [if_neg (by omega), if_neg (by omega), e]
    have e3 : stepA P kind g = 0 := by
      unfold stepA
      rw [fitA_eq (by omega) ⟨h0, by omega⟩ (by omega), fitA_eq (by omega) ⟨h0, by omega⟩ (by omega), fitA_eq (by omega) (g := g + 1) (by omega) (by omega), fitA_eq (by omega) (g := g + 1) (by omega) (by omega), e1, e2]
      omega
    rw [e3]
    exact ⟨fun _ => by omega, fun _ => by omega⟩
  · have b1 : bEnd (kdB P kind) (ng P) (blkA (kdB P kind) (ng P) g) = g := by omega
    have j1 : blkA (kdB P kind) (ng P) g + 1 < (kdB P kind).length := by
      by_cases y : blkA (kdB P kind) (ng P) g + 1 < (kdB P kind).length
      · exact y
      · unfold bEnd at b1
        rw [if_neg (by omega)] at b1
        omega
    have b2 : at0 (kdB P kind) (blkA (kdB P kind) (ng P) g + 1) = g + 1 := by
      unfold bEnd at b1
      rw [if_pos (by omega)] at b1
      omega
    have r := bEnd_rg hA (j := blkA (kdB P kind) (ng P) g + 1) (by omega) j1
    have e : blkA (kdB P kind) (ng P) (g + 1) = blkA (kdB P kind) (ng P) g + 1 := blkA_eq hA ⟨by omega, j1, by omega, by omega⟩
    obtain ⟨F, T, hT⟩ := top_ex hPf (tSide kind) tr
    have hk1 := kdB_hi (P := P) hk.1 hn
    rw [← turnA_eq hn hk] at hk1
    have ps := pk_step hT (j := blkA (kdB P kind) (ng P) g + 1) (by omega) (by rw [← hk1]; exact j1)
    rw [← hk1, b2, show blkA (kdB P kind) (ng P) g + 1 - 1 = blkA (kdB P kind) (ng P) g by omega] at ps
    have e4 : fN P kind (g + 1) * fD P kind g - fN P kind g * fD P kind (g + 1) = -cmpM (gW P) (gM P) (at0 (kdB P kind) (blkA (kdB P kind) (ng P) g)) (g + 1 - 1) (g + 1) (bEnd (kdB P kind) (ng P) (blkA (kdB P kind) (ng P) g + 1) + 1 - 1) := by
      unfold fN fD cmpM
      rw [if_neg (by omega), if_neg (by omega), if_neg (by omega), if_neg (by omega), e, b1, b2, show g + 1 - 1 + 1 = g + 1 by omega, show bEnd (kdB P kind) (ng P) (blkA (kdB P kind) (ng P) g + 1) + 1 - 1 + 1 = bEnd (kdB P kind) (ng P) (blkA (kdB P kind) (ng P) g + 1) + 1 by omega]
      grind
    rw [e4] at c
    obtain ⟨ps1, ps2⟩ := ps
    generalize cmpM (gW P) (gM P) (at0 (kdB P kind) (blkA (kdB P kind) (ng P) g)) (g + 1 - 1) (g + 1) (bEnd (kdB P kind) (ng P) (blkA (kdB P kind) (ng P) g + 1) + 1 - 1) = cm at *
    have cs : (tSide kind * stepA P kind g) * (fD P kind g * fD P kind (g + 1)) = (-(tSide kind * cm)) * (fitA P kind g 1 * fitA P kind (g + 1) 1) := by
      rw [Int.mul_assoc, c]
      grind
    have s1 := (sgn_of (Int.mul_pos d0 d1) (Int.mul_pos f0 f1) cs).1
    have s2 := (sgn_neg (Int.mul_pos d0 d1) (Int.mul_pos f0 f1) cs).1
    have t1 := hT.1
    refine ⟨fun q => s1.mpr ?_, fun q => s2.mpr ?_⟩
    · by_cases y : g + 1 ≤ F
      · have := ps1 y; omega
      · have := ps2 (by omega); omega
    · have := (ps2 (by omega)).2; omega
