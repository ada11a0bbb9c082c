/-! the reference's gap: in lowest terms -/
theorem fr_le_iff {a b n d a' b' n' d' : Int} (hb : 0 < b) (hd : 0 < d) (hb' : 0 < b') (hd' : 0 < d') (h : a * d = n * b) (h' : a' * d' = n' * b') : a * b' ≤ a' * b ↔ n * d' ≤ n' * d := by
  have e1 : (a * b') * (d * d') = (n * d') * (b * b') := by
    rw [show (a * b') * (d * d') = (a * d) * (b' * d') by grind, h]; grind
  have e2 : (a' * b) * (d * d') = (n' * d) * (b * b') := by
    rw [show (a' * b) * (d * d') = (a' * d') * (b * d) by grind, h']; grind
  have p1 := Int.mul_pos hd hd'
  have p2 := Int.mul_pos hb hb'
  constructor
  · intro q
    have k : (a * b') * (d * d') ≤ (a' * b) * (d * d') := Int.mul_le_mul_of_nonneg_right q (by omega)
    rw [e1, e2] at k
    exact Int.le_of_mul_le_mul_right k p2
  · intro q
    have k : (n * d') * (b * b') ≤ (n' * d) * (b * b') := Int.mul_le_mul_of_nonneg_right q (by omega)
    rw [← e1, ← e2] at k
    exact Int.le_of_mul_le_mul_right k p1
theorem low_le_iff {n d n' d' : Int} (hd : 0 < d) (hd' : 0 < d') : low n d 0 * low n' d' 1 ≤ low n' d' 0 * low n d 1 ↔ n * d' ≤ n' * d :=
  fr_le_iff (low_pos hd) hd (low_pos hd') hd' (low_val hd) (low_val hd')
theorem low_rg {n d A B : Int} (hd : 0 < d ∧ d ≤ B) (hn : -A ≤ n ∧ n ≤ A) : (-A ≤ low n d 0 ∧ low n d 0 ≤ A) ∧ 0 < low n d 1 ∧ low n d 1 ≤ B := by
  have h := low_le (n := n) hd.1
  have p := low_pos (n := n) hd.1
  obtain ⟨h1, h2, h3⟩ := h
  split at h2
  · rw [if_pos (by omega)] at h3; omega
  · rw [if_neg (by omega)] at h3; omega
theorem gapN_low {P : List Pt} (hP : Prof (ng P) (gX P) (gW P) (gM P)) (h1 : HullI (hulD P 1) (ng P) (hulC P 1)) (h2 : HullI (hulD P (-1)) (ng P) (hulC P (-1))) {g a b a' b' : Int} (hg : 0 ≤ g ∧ g < ng P) (ha : a = low (hNum (gX P) (gW P) (gM P) (hulC P (-1)) g) (hDen (gX P) (gW P) (hulC P (-1)) g) 0) (hb : b = low (hNum (gX P) (gW P) (gM P) (hulC P (-1)) g) (hDen (gX P) (gW P) (hulC P (-1)) g) 1) (ha' : a' = low (hNum (gX P) (gW P) (gM P) (hulC P 1) g) (hDen (gX P) (gW P) (hulC P 1) g) 0) (hb' : b' = low (hNum (gX P) (gW P) (gM P) (hulC P 1) g) (hDen (gX P) (gW P) (hulC P 1) g) 1) :
    ((-9223372036854775807 ≤ a * b' - a' * b ∧ a * b' - a' * b ≤ 9223372036854775807) ∧ 0 < b * b' ∧ b * b' ≤ 9223372036854775807) ∧ ∀ w : Int, low (a * b' - a' * b) (b * b') w = low (gapN P g) (gapD P g) w := by
  obtain ⟨a0, a1, a2, a3⟩ := h_rg hP h1 hg
  obtain ⟨b0, b1, b2, b3⟩ := h_rg hP h2 hg
  have v1 := low_val (n := hNum (gX P) (gW P) (gM P) (hulC P 1) g) a0
  have v2 := low_val (n := hNum (gX P) (gW P) (gM P) (hulC P (-1)) g) b0
  have r1 := low_rg (n := hNum (gX P) (gW P) (gM P) (hulC P 1) g) (A := 570240) ⟨a0, a1⟩ (by omega)
  have r2 := low_rg (n := hNum (gX P) (gW P) (gM P) (hulC P (-1)) g) (A := 570240) ⟨b0, b1⟩ (by omega)
  have gr := gap_rg hP h1 h2 hg
  unfold gapN gapD at *
  rw [← ha', ← hb'] at v1 r1
  rw [← ha, ← hb] at v2 r2
  generalize hNum (gX P) (gW P) (gM P) (hulC P 1) g = N1 at *
  generalize hNum (gX P) (gW P) (gM P) (hulC P (-1)) g = N2 at *
  generalize hDen (gX P) (gW P) (hulC P 1) g = D1 at *
  generalize hDen (gX P) (gW P) (hulC P (-1)) g = D2 at *
  have k1 := mul_rg (a := a) (b := b') (A := 570240) (B := 5760) (by omega) (by omega)
  have k2 := mul_rg (a := a') (b := b) (A := 570240) (B := 5760) (by omega) (by omega)
  have k3 := mul_rg (a := b) (b := b') (A := 5760) (B := 5760) (by omega) (by omega)
  have k4 := Int.mul_pos r2.2.1 r1.2.1
  refine ⟨by omega, fun w => low_eq k4 gr.1 ?_ w⟩
  have e1 : (a * b' - a' * b) * (D2 * D1) = (a * D2) * (b' * D1) - (a' * D1) * (b * D2) := by grind
  rw [e1, v1, v2]
  grind
theorem gap_0 {P : List Pt} (h1 : HullI (hulD P 1) (ng P) (hulC P 1)) (h2 : HullI (hulD P (-1)) (ng P) (hulC P (-1))) (hn : 0 < ng P) : gapN P 0 = 0 := by
  have key : ∀ s : Int, HullI (hulD P s) (ng P) (hulC P s) → hNum (gX P) (gW P) (gM P) (hulC P s) 0 = gM P (0 + 1) - gM P 0 ∧ hDen (gX P) (gW P) (hulC P s) 0 = gW P (0 + 1) - gW P 0 := fun s h => by
    have e := h.2.1 hn
    have c : CorAt (hulC P s) 0 0 := ⟨Int.le_refl 0, by omega, by omega, fun q => by have := hull_asc h (i := 0) (j := 0 + 1) (Int.le_refl 0) (by omega) q; omega⟩
    exact (hnum_at (X := gX P) (W := gW P) (M := gM P) h ⟨Int.le_refl 0, hn⟩ c).1 e.2.1
  have e1 := key 1 h1
  have e2 := key (-1) h2
  unfold gapN
  rw [e1.1, e1.2, e2.1, e2.2]
  grind
/-- what the widest group so far is -/
def WdL (P : List Pt) (g bw bn bd : Int) : Prop := (0 ≤ bw ∧ bw < g) ∧ bn = low (gapN P bw) (gapD P bw) 0 ∧ bd = low (gapN P bw) (gapD P bw) 1 ∧ ∀ j : Int, 0 ≤ j → j < g → gapN P j * gapD P bw ≤ gapN P bw * gapD P j ∧ (j < bw → gapN P j * gapD P bw < gapN P bw * gapD P j)
theorem wdL_keep {P : List Pt} {g bw bn bd n2 d2 : Int} (hD : ∀ j : Int, 0 ≤ j → j < g + 1 → 0 < gapD P j) (hg : 0 ≤ g) (h0 : g = 0 → gapN P g = 0 ∧ bn = -1 ∧ bd = 1) (h : 0 < g → WdL P g bw bn bd) (hn : n2 = low (gapN P g) (gapD P g) 0) (hd : d2 = low (gapN P g) (gapD P g) 1) (hc : n2 * bd ≤ bn * d2) : WdL P (g + 1) bw bn bd := by
  have hp := low_pos (n := gapN P g) (hD g hg (by omega))
  by_cases q : g = 0
  · obtain ⟨e0, e1, e2⟩ := h0 q
    have e3 : n2 = 0 := by rw [hn, e0]; unfold low; rw [if_pos rfl]; exact Int.zero_ediv _
    rw [e1, e2, e3] at hc
    omega
  · obtain ⟨a, b, c, d⟩ := h (by omega)
    refine ⟨by omega, b, c, wd_keep d ⟨a, ?_⟩⟩
    rw [hn, hd, b, c] at hc
    exact (low_le_iff (hD g hg (by omega)) (hD bw a.1 (by omega))).mp hc
theorem wdL_take {P : List Pt} {g bw bn bd n2 d2 : Int} (hD : ∀ j : Int, 0 ≤ j → j < g + 1 → 0 < gapD P j) (hg : 0 ≤ g) (h : 0 < g → WdL P g bw bn bd) (hn : n2 = low (gapN P g) (gapD P g) 0) (hd : d2 = low (gapN P g) (gapD P g) 1) (hc : bn * d2 < n2 * bd) : WdL P (g + 1) g n2 d2 := by
  refine ⟨by omega, hn, hd, ?_⟩
  by_cases q : g = 0
  · intro j a b
    have e : j = g := by omega
    subst e
    exact ⟨Int.le_refl _, fun h => by omega⟩
  · obtain ⟨a, b, c, d⟩ := h (by omega)
    refine wd_take d a hD ?_
    rw [hn, hd, b, c] at hc
    have k := low_le_iff (n := gapN P g) (n' := gapN P bw) (hD g hg (by omega)) (hD bw a.1 (by omega))
    by_cases r : gapN P bw * gapD P g < gapN P g * gapD P bw
    · exact r
    · have := k.mpr (by omega); omega
theorem gapA_eq {P : List Pt} {bw bn bd g w : Int} (h : WdL P g bw bn bd) (hg : g = ng P) (hw : 0 ≤ w ∧ w ≤ 2) (hn : 0 < ng P) : (w = 0 → gapA P w = bn) ∧ (w = 1 → gapA P w = bd) ∧ (w = 2 → gapA P w = bw) := by
  subst hg
  obtain ⟨a, b, c, d⟩ := h
  have e : wdA P = bw := wdA_eq ⟨a, d⟩
  unfold gapA
  rw [if_neg (by omega), if_neg (by omega), e]
  refine ⟨fun q => ?_, fun q => ?_, fun q => ?_⟩
  · rw [if_neg (by omega), q, b]
  · rw [if_neg (by omega), q, c]
  · rw [if_pos q]
