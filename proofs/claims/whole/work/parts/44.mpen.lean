/-! the reference's penalty: the greatest of the least -/
def PnI (E : Int → Int) (m f ln ld : Int) : Prop := (f = 1 ∧ ln = -1 ∧ ld = 1) ∨ (1 < f ∧ 0 ≤ ln ∧ 0 < ld ∧ ∃ f0 : Int, (1 ≤ f0 ∧ f0 < f) ∧ ln = E f0 - E m ∧ ld = m - f0 ∧ ∀ j : Int, 1 ≤ j → j < f → ln * (m - j) ≤ (E j - E m) * ld)
theorem pnI_take {E : Int → Int} {m f ln ld d : Int} (h : PnI E m f ln ld) (hf : 1 ≤ f ∧ f < m) (hd : d = E f - E m) (h0 : 0 ≤ d) (hc : ln < 0 ∨ d * ld < ln * (m - f)) : PnI E m (f + 1) d (m - f) := by
  refine Or.inr ⟨by omega, h0, by omega, f, by omega, hd, rfl, fun j a b => ?_⟩
  by_cases q : j = f
  · subst q; rw [← hd]; exact Int.le_refl _
  · rcases h with h | ⟨h1, h2, h3, f0, h4, h5, h6, h7⟩
    · omega
    · have hc2 : d * ld < ln * (m - f) := by rcases hc with hc | hc; (exfalso; omega); exact hc
      exact fr_trans (show 0 < m - f by omega) h3 (show 0 < m - j by omega) (Int.le_of_lt hc2) (h7 j a (by omega))
theorem pnI_keep {E : Int → Int} {m f ln ld d : Int} (h : PnI E m f ln ld) (hd : d = E f - E m) (hc : 0 ≤ ln ∧ ln * (m - f) ≤ d * ld) : PnI E m (f + 1) ln ld := by
  rcases h with h | ⟨h1, h2, h3, f0, h4, h5, h6, h7⟩
  · omega
  · refine Or.inr ⟨by omega, h2, h3, f0, by omega, h5, h6, fun j a b => ?_⟩
    by_cases q : j = f
    · subst q; rw [← hd]; exact hc.2
    · exact h7 j a (by omega)
def PnO (E : Int → Int) (most m bn bd : Int) : Prop := ((0 ≤ bn ∧ 0 < bd) ∧ (m = most + 1 → bn = 0 ∧ bd = 1)) ∧ (∀ k : Int, most < k → k < m → ∃ f : Int, (1 ≤ f ∧ f ≤ most) ∧ (E f - E k) * bd ≤ bn * (k - f)) ∧ (most + 1 < m → ∃ k f : Int, (most < k ∧ k < m) ∧ (1 ≤ f ∧ f ≤ most) ∧ bn * (k - f) = (E f - E k) * bd ∧ ∀ j : Int, 1 ≤ j → j ≤ most → bn * (k - j) ≤ (E j - E k) * bd)
theorem pnO_0 {E : Int → Int} {most : Int} : PnO E most (most + 1) 0 1 := ⟨⟨by omega, fun _ => ⟨rfl, rfl⟩⟩, fun k a b => by omega, fun h => by omega⟩
theorem pnO_take {E : Int → Int} {most m bn bd f ln ld : Int} (h : PnO E most m bn bd) (hm : most + 1 ≤ m ∧ 1 ≤ most) (hf : f = most + 1) (hi : PnI E m f ln ld) (hc : bn * ld < ln * bd) : PnO E most (m + 1) ln ld := by
  subst hf
  obtain ⟨⟨b0, b1⟩, h2, h3⟩ := h
  rcases hi with hi | ⟨i1, i2, i3, f0, i4, i5, i6, i7⟩
  · omega
  · refine ⟨⟨⟨i2, i3⟩, fun q => by omega⟩, fun k a b => ?_, fun _ => ⟨m, f0, by omega, by omega, by rw [i5, i6], fun j a b => i7 j a (by omega)⟩⟩
    by_cases q : k = m
    · subst q; exact ⟨f0, by omega, by rw [i5, i6]; exact Int.le_refl _⟩
    · obtain ⟨f, f1, f2⟩ := h2 k a (by omega)
      exact ⟨f, f1, fr_trans (show 0 < k - f by omega) b0.2 i3 f2 (Int.le_of_lt hc)⟩
theorem pnO_keep {E : Int → Int} {most m bn bd f ln ld : Int} (h : PnO E most m bn bd) (hm : most + 1 ≤ m ∧ 1 ≤ most) (hf : f = most + 1) (hi : PnI E m f ln ld) (hmono : ∀ j : Int, 1 ≤ j → j ≤ most → E m ≤ E j) (hc : ln * bd ≤ bn * ld) : PnO E most (m + 1) bn bd := by
  subst hf
  obtain ⟨⟨b0, b1⟩, h2, h3⟩ := h
  rcases hi with hi | ⟨i1, i2, i3, f0, i4, i5, i6, i7⟩
  · omega
  · refine ⟨⟨b0, fun q => by omega⟩, fun k a b => ?_, fun _ => ?_⟩
    · by_cases q : k = m
      · subst q; exact ⟨f0, by omega, by rw [← i5, ← i6]; exact hc⟩
      · exact h2 k a (by omega)
    · by_cases q : m = most + 1
      · obtain ⟨c1, c2⟩ := b1 q
        rw [c1, c2] at hc
        rw [c1, c2]
        refine ⟨m, f0, by omega, by omega, by omega, fun j a b => ?_⟩
        have := hmono j a b
        omega
      · obtain ⟨k, f, k1, k2⟩ := h3 (by omega)
        exact ⟨k, f, by omega, k2⟩
theorem arg_min (h : Int → Int) : ∀ k : Nat, ∃ f : Int, (1 ≤ f ∧ f ≤ k + 1) ∧ ∀ j : Int, 1 ≤ j → j ≤ k + 1 → h f ≤ h j := by
  intro k
  induction k with
  | zero => exact ⟨1, by omega, fun j a b => by rw [show j = 1 by omega]; exact Int.le_refl _⟩
  | succ k ih =>
    obtain ⟨f, f1, f2⟩ := ih
    by_cases q : h f ≤ h (((k + 1 : Nat) : Int) + 1)
    · refine ⟨f, by omega, fun j a b => ?_⟩
      by_cases r : j = ((k + 1 : Nat) : Int) + 1
      · rw [r]; exact q
      · exact f2 j a (by omega)
    · refine ⟨((k + 1 : Nat) : Int) + 1, by omega, fun j a b => ?_⟩
      by_cases r : j = ((k + 1 : Nat) : Int) + 1
      · rw [r]; exact Int.le_refl _
      · have := f2 j a (by omega); omega
theorem pen_end {E : Int → Int} {most n bn bd : Int} (h : PnO E most (n + 1) bn bd) (hm : 1 ≤ most ∧ most < n) : ∃ q : Int × Int, FPv E most n q ∧ 0 < q.2 ∧ bn * q.2 = q.1 * (5354228880 * bd) := by
  obtain ⟨⟨⟨b0, b2⟩, b1⟩, h2, h3⟩ := h
  obtain ⟨r, f0, r1, r2, r3, r4⟩ := h3 (by omega)
  obtain ⟨f, f1, f2⟩ := arg_min (fun f => E f * bd + bn * f) (most - 1).toNat
  have F : ∀ k : Int, most < k → k ≤ n → (E f - E k) * bd ≤ bn * (k - f) := fun k a b => by
    obtain ⟨j, j1, j2⟩ := h2 k a (by omega)
    have j3 := f2 j (by omega) (by omega)
    rw [Int.sub_mul, Int.mul_sub] at j2 ⊢
    omega
  have g1 := F r r1.1 (by omega)
  have g2 := r4 f (by omega) (by omega)
  have g3 : bn * (r - f) = (E f - E r) * bd := by omega
  have LY : LYis E most n f r := ⟨by omega, fun k a b => fr_trans (show 0 < k - f by omega) b2 (show 0 < r - f by omega) (F k a b) g2⟩
  refine ⟨(E f - E r, 5354228880 * (r - f)), ⟨f, r, by omega, LY, fun j a b r' hr' => ?_, rfl⟩, by show 0 < 5354228880 * (r - f); omega, ?_⟩
  · have k1 := fr_trans (show 0 < r - f by omega) b2 (show 0 < r - j by omega) g1 (r4 j a b)
    have r'1 := hr'.1
    exact fr_trans (show 0 < r - f by omega) (show 0 < r - j by omega) (show 0 < r' - j by omega) k1 (hr'.2 r (by omega) (by omega))
  · show bn * (5354228880 * (r - f)) = (E f - E r) * (5354228880 * bd)
    rw [Int.mul_left_comm, g3, Int.mul_left_comm]
theorem pen_fin {P : List Pt} {most m bn bd w : Int} (h1 : (1 ≤ most ∧ most ≤ 12) ∧ 0 ≤ w ∧ w ≤ 1) (hn : 0 < ng P) (h : PnO (lE P) most m bn bd) (hm : ng P < m ∧ most + 1 ≤ m ∧ (m = most + 1 ∨ m ≤ ng P + 1)) : low bn (5354228880 * bd) w = penA P most w := by
  by_cases q : most < ng P
  · have e : m = ng P + 1 := by omega
    rw [e] at h
    obtain ⟨x, x1, x2, x3⟩ := pen_end h ⟨h1.1.1, q⟩
    rw [penA_eq h1 (by omega) q x1]
    have := h.1.1.2
    exact low_eq (by omega) x2 x3 w
  · have e : m = most + 1 := by omega
    obtain ⟨c1, c2⟩ := h.1.2 e
    rw [c1, c2]
    unfold penA
    rw [if_neg (by omega), if_neg (by omega), if_pos (by omega)]
    exact low_eq (by omega) (by omega) (by omega) w
theorem lE_mono {P : List Pt} (hP : Prof (ng P) (gX P) (gW P) (gM P)) {j k : Int} (hj : 1 ≤ j ∧ j ≤ k ∧ k ≤ ng P) : lE P k ≤ lE P j := by
  have := lvE_mono hP (q := gQ P) hj.1 (k - j) (by omega) (by omega)
  rw [show j + (k - j) = k by omega] at this
  exact this
