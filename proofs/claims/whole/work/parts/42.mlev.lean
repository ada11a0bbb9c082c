/-! the reference's levels -/
theorem scU_top {f : Int → Int} {a : Int} : ∀ m : Nat, (∀ i : Int, 0 ≤ i → i < m → 0 ≤ f (a + i)) → ∀ l : Int, a ≤ l → l < a + m → (∀ i : Int, a ≤ i → i < a + m → f i ≤ f l ∧ (l < i → f i < f l)) → scU f a m = (f l, l + 1) := by
  intro m
  induction m with
  | zero => intro _ l h0 h1 _; omega
  | succ m ih =>
    intro h0 l h1 h2 h3
    have e := scU_s (f := f) (a := a) (m := m) (by omega)
    rw [show ((m : Int) + 1).toNat = m + 1 by omega, show (m : Int).toNat = m by omega] at e
    rw [e]
    have r := scU_rg (f := f) (a := a) m (fun i a0 a1 => h0 i a0 (by omega))
    by_cases q : l = a + m
    · subst q
      rw [if_pos]
      by_cases z : 0 < m
      · obtain ⟨r1, r2, r3, r4⟩ := r.2 z
        rw [r4]
        exact (h3 _ (by omega) (by omega)).1
      · have z0 : m = 0 := by omega
        subst z0
        show -1 ≤ _
        have := h0 0 (by omega) (by omega)
        rw [show a + ((0 : Nat) : Int) = a + 0 by omega]
        omega
    · rw [ih (fun i a0 a1 => h0 i a0 (by omega)) l h1 (by omega) (fun i a0 a1 => h3 i a0 (by omega)), if_neg]
      have := (h3 (a + m) (by omega) (by omega)).2 (by omega)
      show ¬ f l ≤ f (a + m)
      omega
theorem scU_ge {f : Int → Int} {a : Int} : ∀ m : Nat, ∀ i : Int, 0 ≤ i → i < m → f (a + i) ≤ (scU f a m).1 := by
  intro m
  induction m with
  | zero => intro i h0 h1; omega
  | succ m ih =>
    intro i h0 h1
    have e := scU_s (f := f) (a := a) (m := m) (by omega)
    rw [show ((m : Int) + 1).toNat = m + 1 by omega, show (m : Int).toNat = m by omega] at e
    rw [e]
    by_cases q : i = m
    · subst q
      split
      · exact Int.le_refl _
      · omega
    · have := ih i h0 (by omega)
      split
      · exact Int.le_trans this (by assumption)
      · exact this
def lvA (k n g : Int) : Int := if k = 1 then n - 1 else g
theorem lvF_rg {n : Int} {X W M : Int → Int} (h : Prof n X W M) {k g l : Int} (hk : 1 ≤ k) (hg : 0 ≤ g) (hl : g ≤ l ∧ l + k ≤ n) : 0 ≤ lvF n W M k g l ∧ lvF n W M k g l ≤ 40000000000000000 := by
  have a := gain_rg h (a := g) (b := l) (by omega)
  have hp := prof_w h (a := 0) (b := n) (by omega) (by omega) (by omega)
  unfold lvF
  split
  · omega
  · have b := lvG_rg h (k - 1).toNat (l + 1) (by omega) (by omega) (by omega)
    have c := prof_w h (a := l + 1) (b := n) (by omega) (by omega) (by omega)
    omega
theorem lvG_top {n : Int} {X W M : Int → Int} (h : Prof n X W M) {k g l : Int} (hk : 1 ≤ k) (hg : 0 ≤ g ∧ g + k ≤ n) (hl : g ≤ l ∧ l + k ≤ n ∧ (k = 1 → l = n - 1)) (ht : ∀ i : Int, g ≤ i → i + k ≤ n → (k = 1 → i = n - 1) → lvF n W M k g i ≤ lvF n W M k g l ∧ (l < i → lvF n W M k g i < lvF n W M k g l)) : lvG n W M k.toNat g = (lvF n W M k g l, l + 1) := by
  rw [lvG_eq hk]
  by_cases q : k = 1
  · rw [if_pos q]
    refine scU_top _ (fun i a0 a1 => (lvF_rg h hk hg.1 (by omega)).1) l (by omega) (by omega) (fun i a0 a1 => ht i (by omega) (by omega) (by omega))
  · rw [if_neg q]
    refine scU_top _ (fun i a0 a1 => (lvF_rg h hk hg.1 (by omega)).1) l (by omega) (by omega) (fun i a0 a1 => ht i (by omega) (by omega) (by omega))
theorem lvG_ge {n : Int} {W M : Int → Int} {k g l : Int} (hk : 1 ≤ k) (hl : g ≤ l ∧ l + k ≤ n ∧ (k = 1 → l = n - 1)) : lvF n W M k g l ≤ (lvG n W M k.toNat g).1 := by
  rw [lvG_eq hk]
  by_cases q : k = 1
  · rw [if_pos q]
    have := scU_ge (f := lvF n W M k g) (a := n - 1) (n - (k - 1) - (n - 1)).toNat 0 (by omega) (by omega)
    rw [show n - 1 + 0 = l by omega] at this
    exact this
  · rw [if_neg q]
    have := scU_ge (f := lvF n W M k g) (a := g) (n - (k - 1) - g).toNat (l - g) (by omega) (by omega)
    rw [show g + (l - g) = l by omega] at this
    exact this
theorem lvG_at {n : Int} {X W M : Int → Int} (h : Prof n X W M) {k g : Int} (hk : 1 ≤ k) (hg : 0 ≤ g ∧ g + k ≤ n) : ∃ l : Int, (g ≤ l ∧ l + k ≤ n ∧ (k = 1 → l = n - 1)) ∧ (lvG n W M k.toNat g).1 = lvF n W M k g l := by
  rw [lvG_eq hk]
  by_cases q : k = 1
  · rw [if_pos q]
    obtain ⟨-, r⟩ := scU_rg (f := lvF n W M k g) (a := n - 1) (n - (k - 1) - (n - 1)).toNat (fun i a0 a1 => (lvF_rg h hk hg.1 (by omega)).1)
    obtain ⟨r1, r2, r3, r4⟩ := r (by omega)
    exact ⟨_, by omega, r4⟩
  · rw [if_neg q]
    obtain ⟨-, r⟩ := scU_rg (f := lvF n W M k g) (a := g) (n - (k - 1) - g).toNat (fun i a0 a1 => (lvF_rg h hk hg.1 (by omega)).1)
    obtain ⟨r1, r2, r3, r4⟩ := r (by omega)
    exact ⟨_, by omega, r4⟩
theorem lvF_1 (n : Int) (W M : Int → Int) (g l : Int) : lvF n W M 1 g l = gain W M g l := by unfold lvF; rw [if_pos rfl]; omega
theorem lvF_k {n : Int} {W M : Int → Int} {k g l : Int} (h : k ≠ 1) : lvF n W M k g l = gain W M g l + (lvG n W M (k - 1).toNat (l + 1)).1 := by unfold lvF; rw [if_neg h]
theorem c_div : ∀ w : Fin 25, 0 < w.val → ((w.val : Nat) : Int) * (5354228880 / ((w.val : Nat) : Int)) = 5354228880 := by decide +kernel
theorem c_divI {w : Int} (h : 1 ≤ w ∧ w ≤ 24) : w * (5354228880 / w) = 5354228880 := by
  have e := c_div ⟨w.toNat, by omega⟩ (by show 0 < w.toNat; omega)
  have e2 : ((w.toNat : Nat) : Int) = w := by omega
  rw [← e2]
  exact e
theorem gain_split {n : Int} {X W M : Int → Int} (h : Prof n X W M) {a b c : Int} (ha : 0 ≤ a ∧ a ≤ c ∧ c < b ∧ b < n) : gain W M a b ≤ gain W M a c + gain W M (c + 1) b := by
  have p1 := wt_pos h ha.1 ha.2.1 (show c < n by omega)
  have p2 := wt_pos h (show 0 ≤ c + 1 by omega) (show c + 1 ≤ b by omega) ha.2.2.2
  have p3 := prof_w h (a := a) (b := b + 1) (by omega) (by omega) (by omega)
  unfold gain
  obtain ⟨w1, e1⟩ : ∃ x : Int, x = W (c + 1) - W a := ⟨_, rfl⟩
  obtain ⟨w2, e2⟩ : ∃ x : Int, x = W (b + 1) - W (c + 1) := ⟨_, rfl⟩
  obtain ⟨m1, f1⟩ : ∃ x : Int, x = M (c + 1) - M a := ⟨_, rfl⟩
  obtain ⟨m2, f2⟩ : ∃ x : Int, x = M (b + 1) - M (c + 1) := ⟨_, rfl⟩
  rw [show W (b + 1) - W a = w1 + w2 by omega, show M (b + 1) - M a = m1 + m2 by omega, ← e1, ← e2, ← f1, ← f2]
  have d1 := c_divI (w := w1) (by omega)
  have d2 := c_divI (w := w2) (by omega)
  have d3 := c_divI (w := w1 + w2) (by omega)
  generalize 5354228880 / w1 = q1 at *
  generalize 5354228880 / w2 = q2 at *
  generalize 5354228880 / (w1 + w2) = q3 at *
  have pw : 0 < w1 * w2 * (w1 + w2) := Int.mul_pos (Int.mul_pos (by omega) (by omega)) (by omega)
  have key : w1 * w2 * (w1 + w2) * (m1 * m1 * q1 + m2 * m2 * q2 - (m1 + m2) * (m1 + m2) * q3) = 5354228880 * ((m1 * w2 - m2 * w1) * (m1 * w2 - m2 * w1)) := by
    have t1 : w1 * w2 * (w1 + w2) * (m1 * m1 * q1) = (w1 * q1) * (m1 * m1 * w2 * (w1 + w2)) := by grind
    have t2 : w1 * w2 * (w1 + w2) * (m2 * m2 * q2) = (w2 * q2) * (m2 * m2 * w1 * (w1 + w2)) := by grind
    have t3 : w1 * w2 * (w1 + w2) * ((m1 + m2) * (m1 + m2) * q3) = ((w1 + w2) * q3) * ((m1 + m2) * (m1 + m2) * w1 * w2) := by grind
    rw [Int.mul_sub, Int.mul_add, t1, t2, t3, d1, d2, d3]
    grind
  have sq : 0 ≤ (m1 * w2 - m2 * w1) * (m1 * w2 - m2 * w1) := by
    rcases Int.le_total 0 (m1 * w2 - m2 * w1) with q | q
    · exact Int.mul_nonneg q q
    · have := Int.mul_nonneg (show 0 ≤ -(m1 * w2 - m2 * w1) by omega) (show 0 ≤ -(m1 * w2 - m2 * w1) by omega)
      rw [Int.neg_mul_neg] at this
      exact this
  by_cases r : 0 ≤ m1 * m1 * q1 + m2 * m2 * q2 - (m1 + m2) * (m1 + m2) * q3
  · omega
  · have := Int.mul_neg_of_pos_of_neg pw (show m1 * m1 * q1 + m2 * m2 * q2 - (m1 + m2) * (m1 + m2) * q3 < 0 by omega)
    rw [key] at this
    omega
theorem lvG_mono {n : Int} {X W M : Int → Int} (h : Prof n X W M) : ∀ (k : Nat) (g : Int), 1 ≤ k → 0 ≤ g → g + k + 1 ≤ n → (lvG n W M k g).1 ≤ (lvG n W M (k + 1) g).1 := by
  intro k
  induction k with
  | zero => intro g h1; omega
  | succ k ih =>
    intro g h1 h2 h3
    obtain ⟨l, hl, e⟩ := lvG_at h (k := ((k + 1 : Nat) : Int)) (g := g) (by omega) (by omega)
    rw [show ((k + 1 : Nat) : Int).toNat = k + 1 by omega] at e
    rw [e]
    have G : ∀ l' : Int, g ≤ l' → l' + k + 2 ≤ n → gain W M g l' + (lvG n W M (k + 1) (l' + 1)).1 ≤ (lvG n W M (k + 1 + 1) g).1 := fun l' a b => by
      have := lvG_ge (n := n) (W := W) (M := M) (k := ((k + 1 + 1 : Nat) : Int)) (g := g) (l := l') (by omega) ⟨by omega, by omega, fun q => by omega⟩
      rw [lvF_k (by omega), show (((k + 1 + 1 : Nat) : Int) - 1).toNat = k + 1 by omega, show ((k + 1 + 1 : Nat) : Int).toNat = k + 1 + 1 by omega] at this
      exact this
    by_cases k0 : k = 0
    · subst k0
      have e0 : lvF n W M ((0 + 1 : Nat) : Int) g l = gain W M g l := lvF_1 n W M g l
      have g1 := G g (Int.le_refl _) (by omega)
      have g2 := lvG_ge (n := n) (W := W) (M := M) (k := 1) (g := g + 1) (l := n - 1) (by omega) (by omega)
      rw [lvF_1, show (1 : Int).toNat = 0 + 1 by omega] at g2
      have e3 : l = n - 1 := by omega
      have g3 := gain_split h (a := g) (b := n - 1) (c := g) (by omega)
      rw [e0, e3]
      omega
    · have e0 : lvF n W M ((k + 1 : Nat) : Int) g l = gain W M g l + (lvG n W M k (l + 1)).1 := by
        rw [lvF_k (by omega), show (((k + 1 : Nat) : Int) - 1).toNat = k by omega]
      rw [e0]
      by_cases q : l + k + 2 ≤ n
      · have i1 := ih (l + 1) (by omega) (by omega) (by omega)
        have g1 := G l hl.1 q
        omega
      · have g1 := G g (Int.le_refl _) (by omega)
        have g2 := lvG_ge (n := n) (W := W) (M := M) (k := ((k + 1 : Nat) : Int)) (g := g + 1) (l := l) (by omega) ⟨by omega, by omega, fun q => by omega⟩
        rw [lvF_k (by omega), show (((k + 1 : Nat) : Int) - 1).toNat = k by omega, show ((k + 1 : Nat) : Int).toNat = k + 1 by omega] at g2
        have g3 := gain_split h (a := g) (b := l) (c := g) (by omega)
        omega
theorem lvE_mono {n : Int} {X W M : Int → Int} (h : Prof n X W M) {q : Int} {j : Int} (hj : 1 ≤ j) : ∀ d : Int, 0 ≤ d → j + d ≤ n → lvE n W M q (j + d) ≤ lvE n W M q j := by
  intro d hd
  revert d
  refine iInd (fun _ => by rw [show j + 0 = j by omega]; exact Int.le_refl _) (fun i hi ih hn => ?_)
  have a := ih (by omega)
  have b := lvG_mono h (j + i).toNat 0 (by omega) (Int.le_refl 0) (by omega)
  unfold lvE at *
  rw [show (j + (i + 1)).toNat = (j + i).toNat + 1 by omega]
  omega
/-! the reference's scan for one begin -/
def DvI (f : Int → Int) (k n tp g e cv ln : Int) : Prop := (e = tp ∧ cv = 1) ∨ (e < tp ∧ ∃ l : Int, (e ≤ l ∧ l < tp ∧ (k = 1 → l = n - 1)) ∧ cv = -f l ∧ ln = l + 1 - g ∧ ∀ i : Int, e ≤ i → i < tp → (k = 1 → i = n - 1) → f i ≤ f l ∧ (l < i → f i < f l))
theorem dvI_skip {f : Int → Int} {k n tp g e cv ln : Int} (h : DvI f k n tp g e cv ln) (hk : k = 1 ∧ e ≠ n) (ht : tp = n) : DvI f k n tp g (e - 1) cv ln := by
  rcases h with h | ⟨h0, l, a, b, c, d⟩
  · omega
  · exact Or.inr ⟨by omega, l, by omega, b, c, fun i i0 i1 i2 => d i (by have := i2 hk.1; omega) i1 i2⟩
theorem dvI_take {f : Int → Int} {k n tp g e cv ln ev : Int} (h : DvI f k n tp g e cv ln) (hk : k = 1 → e = n) (he : e ≤ tp ∧ (k = 1 → tp = n)) (hev : ev = -f (e - 1)) (hf : ∀ i : Int, e ≤ i → i < tp → 0 ≤ f i) (hc : 0 < cv ∨ ev < cv) : DvI f k n tp g (e - 1) ev (e - g) := by
  refine Or.inr ⟨by omega, e - 1, by omega, hev, by omega, fun i i0 i1 i2 => ?_⟩
  by_cases q : i = e - 1
  · subst q; exact ⟨Int.le_refl _, fun h => by omega⟩
  · rcases h with h | ⟨h0, l, a, b, c, d⟩
    · omega
    · have f0 := hf l a.1 a.2.1
      have := d i (by omega) i1 i2
      have := this.1
      refine ⟨by omega, fun _ => by omega⟩
theorem dvI_keep {f : Int → Int} {k n tp g e cv ln ev : Int} (h : DvI f k n tp g e cv ln) (hev : ev = -f (e - 1)) (hc : cv ≤ 0 ∧ cv ≤ ev) : DvI f k n tp g (e - 1) cv ln := by
  rcases h with h | ⟨h0, l, a, b, c, d⟩
  · omega
  · refine Or.inr ⟨by omega, l, by omega, b, c, fun i i0 i1 i2 => ?_⟩
    by_cases q : i = e - 1
    · subst q; exact ⟨by omega, fun h => by omega⟩
    · exact d i (by omega) i1 i2
theorem dvI_end {n : Int} {X W M : Int → Int} (hP : Prof n X W M) {k g tp e cv ln : Int} (hk : 1 ≤ k) (hg : 0 ≤ g ∧ g + k ≤ n) (ht : tp = if k = 1 then n else n - k + 1) (he : e = g) (h : DvI (lvF n W M k g) k n tp g e cv ln) : cv = -(lvG n W M k.toNat g).1 ∧ ln = (lvG n W M k.toNat g).2 - g := by
  subst he
  have t2 : tp = n - k + 1 := by rw [ht]; split <;> omega
  rcases h with h | ⟨h0, l, a, b, c, d⟩
  · omega
  · rw [lvG_top hP hk hg (l := l) (by omega) (fun i i0 i1 i2 => d i i0 (by omega) i2)]
    exact ⟨b, c⟩
def DivP (τ : Mem) (P : List Pt) (k g : Int) : Prop := ∀ k' g' : Int, 1 ≤ k' → 0 ≤ g' → g' + k' ≤ ng P → (k' < k ∨ (k' = k ∧ g < g')) → τ 13 (13 * k' + g') = -(lvG (ng P) (gW P) (gM P) k'.toNat g').1 ∧ τ 14 (13 * k' + g') = (lvG (ng P) (gW P) (gM P) k'.toNat g').2 - g'
theorem divP_0 {τ : Mem} {P : List Pt} {g : Int} (hg : ng P - 1 ≤ g) : DivP τ P 1 g := fun k' g' h0 h1 h2 h3 => by omega
theorem divP_n {τ : Mem} {P : List Pt} {k g g2 : Int} (h : DivP τ P k g) (hg : g < 0) (h2 : ng P - (k + 1) ≤ g2) : DivP τ P (k + 1) g2 := fun k' g' a0 a1 a2 a3 => h k' g' a0 a1 a2 (by omega)
theorem divP_up {τ : Mem} {P : List Pt} {k g ix : Int} (h : DivP τ P k g) (hn : ng P ≤ 12) (hg : 0 ≤ g ∧ g < 13) (hx : ix = 13 * k + g) (v w : Int) : DivP (up τ 13 ix v) P k g ∧ DivP (up (up τ 13 ix v) 14 ix w) P k g := by
  constructor
  · intro k' g' a0 a1 a2 a3
    rw [up_nj (by omega), up_ne (by omega)]
    exact h k' g' a0 a1 a2 a3
  · intro k' g' a0 a1 a2 a3
    rw [up_ne (by omega), up_nj (by omega), up_nj (by omega), up_ne (by omega)]
    exact h k' g' a0 a1 a2 a3
theorem divP_s {τ : Mem} {P : List Pt} {k g ix : Int} (h : DivP τ P k g) (hx : ix = 13 * k + g) (hv : τ 13 ix = -(lvG (ng P) (gW P) (gM P) k.toNat g).1 ∧ τ 14 ix = (lvG (ng P) (gW P) (gM P) k.toNat g).2 - g) : DivP τ P k (g - 1) := fun k' g' a0 a1 a2 a3 => by
  by_cases q : k' = k ∧ g' = g
  · obtain ⟨rfl, rfl⟩ := q
    rw [← hx]; exact hv
  · exact h k' g' a0 a1 a2 (by omega)
theorem DivP.fr {σ u : Mem} {P : List Pt} {k g : Int} (h : DivP σ P k g) {lo hi : Nat} {f1 f2 : Int} (hF : Fr lo hi f1 f2 σ u) (h1 : 14 < lo ∨ hi < 13) : DivP u P k g := fun k' g' a0 a1 a2 a3 => by
  rw [hF.1 13 (by omega) (by omega), hF.1 14 (by omega) (by omega)]
  exact h k' g' a0 a1 a2 a3
/-- the cheapest so far, and the next -/
theorem ch_first {c : Int → Int} {k : Int} (hk : k = 1) : ChIs k c k := by
  subst hk
  exact ⟨by omega, fun j a b => by rw [show j = 1 by omega]; exact ⟨Int.le_refl _, fun h => by omega⟩⟩
theorem ch_take {c : Int → Int} {k z le cv : Int} (hk : 1 < k) (h : ChIs (k - 1) c z ∧ le = c z) (hcv : cv = c k) (hl : cv < le) : ChIs k c k ∧ cv = c k := by
  obtain ⟨⟨h1, h2⟩, h3⟩ := h
  refine ⟨⟨by omega, fun j a b => ?_⟩, hcv⟩
  by_cases q : j = k
  · subst q; exact ⟨Int.le_refl _, fun h => by omega⟩
  · have := (h2 j a (by omega)).1
    exact ⟨by omega, fun _ => by omega⟩
theorem ch_keep {c : Int → Int} {k z le cv : Int} (hk : 1 < k) (h : ChIs (k - 1) c z ∧ le = c z) (hcv : cv = c k) (hl : le ≤ cv) : ChIs k c z ∧ le = c z := by
  obtain ⟨⟨h1, h2⟩, h3⟩ := h
  refine ⟨⟨by omega, fun j a b => ?_⟩, h3⟩
  by_cases q : j = k
  · subst q; exact ⟨by omega, fun h => by omega⟩
  · exact h2 j a (by omega)
