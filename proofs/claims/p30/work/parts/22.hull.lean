/-! hulls -/
def sD (X W M : Int → Int) (i j k : Int) : Int := ((M (j + 1) - M j) * (W (i + 1) - W i) - (M (i + 1) - M i) * (W (j + 1) - W j)) * (W (k + 1) - W k) * (X k - X i) - ((M (k + 1) - M k) * (W (i + 1) - W i) - (M (i + 1) - M i) * (W (k + 1) - W k)) * (W (j + 1) - W j) * (X j - X i)
theorem sD_bd (X W M : Int → Int) (l m r : Int) : cmpM W M m m l l * (W (r + 1) - W r) * (X r - X m) - cmpM W M r r m m * (W (l + 1) - W l) * (X m - X l) = sD X W M l m r := by
  unfold cmpM sD
  grind
def Nx (D : Int → Int → Int → Int) (N a b : Int) : Prop := (0 ≤ a ∧ a < b ∧ b < N) ∧ (∀ g : Int, b < g → g < N → D a b g < 0) ∧ ∀ g : Int, a < g → g < b → 0 ≤ D a g b
theorem Nx.uniq {D : Int → Int → Int → Int} {N a b b' : Int} (h : Nx D N a b) (h' : Nx D N a b') : b = b' := by
  by_cases q : b < b'
  · have := h.2.1 b' q h'.1.2.2; have := h'.2.2 b h.1.2.1 q; omega
  · by_cases r : b' < b
    · have := h'.2.1 b r h.1.2.2; have := h.2.2 b' h'.1.2.1 r; omega
    · omega
/-- the corners, ascending -/
def HullI (D : Int → Int → Int → Int) (N : Int) (C : List Int) : Prop := (N = 0 → C = []) ∧ (0 < N → 0 < C.length ∧ at0 C 0 = 0 ∧ at0 C ((C.length : Int) - 1) = N - 1) ∧ (∀ i : Int, 0 ≤ i → i + 1 < C.length → Nx D N (at0 C i) (at0 C (i + 1))) ∧ (C.length : Int) ≤ N
theorem at0_ext {A B : List Int} (hl : A.length = B.length) (h : ∀ i : Int, 0 ≤ i → i < A.length → at0 A i = at0 B i) : A = B := by
  apply List.ext_getElem hl
  intro i h1 h2
  have := h i (by omega) (by omega)
  unfold at0 at this
  simp only [Int.toNat_natCast, List.getD_eq_getElem?_getD, List.getElem?_eq_getElem h1, List.getElem?_eq_getElem h2, Option.getD_some] at this
  exact this
theorem HullI.uniq {D : Int → Int → Int → Int} {N : Int} {C C' : List Int} (h : HullI D N C) (h' : HullI D N C') : C = C' := by
  by_cases hN : N = 0
  · rw [h.1 hN, h'.1 hN]
  · by_cases hN2 : 0 < N
    · obtain ⟨a1, a2, a3⟩ := h.2.1 hN2
      obtain ⟨b1, b2, b3⟩ := h'.2.1 hN2
      have e : ∀ i : Int, 0 ≤ i → (i < C.length → i < C'.length → at0 C i = at0 C' i) := fun i hi => by
        refine iInd (p := fun i => i < C.length → i < C'.length → at0 C i = at0 C' i) (fun _ _ => by omega) (fun i hi ih h1 h2 => ?_) i hi
        have u := h.2.2.1 i hi (by omega)
        have v := h'.2.2.1 i hi (by omega)
        rw [← ih (by omega) (by omega)] at v
        exact u.uniq v
      have hl : C.length = C'.length := by
        by_cases q : C.length < C'.length
        · have := e ((C.length : Int) - 1) (by omega) (by omega) (by omega)
          have v := (h'.2.2.1 ((C.length : Int) - 1) (by omega) (by omega)).1
          omega
        · by_cases r : C'.length < C.length
          · have := e ((C'.length : Int) - 1) (by omega) (by omega) (by omega)
            have v := (h.2.2.1 ((C'.length : Int) - 1) (by omega) (by omega)).1
            omega
          · omega
      exact at0_ext hl (fun i h0 h1 => e i h0 h1 (by omega))
    · have : C.length = 0 := by have := h.2.2.2; omega
      have : C'.length = 0 := by have := h'.2.2.2; omega
      rw [List.length_eq_zero_iff.mp (by assumption : C.length = 0), List.length_eq_zero_iff.mp (by assumption : C'.length = 0)]
/-- the laws of slopes -/
def DLaw (D : Int → Int → Int → Int) (n : Int) : Prop := (∀ a b c d : Int, 0 ≤ a → a < b → b < c → c < d → d < n → D a b c < 0 → D b c d < 0 → D a b d < 0) ∧ (∀ a b c d : Int, 0 ≤ a → a < b → b < c → c < d → d < n → 0 ≤ D a b c → 0 ≤ D a c d → 0 ≤ D a b d) ∧ (∀ a b c d : Int, 0 ≤ a → a < b → b < c → c < d → d < n → 0 ≤ D a b d → 0 ≤ D b c d → 0 ≤ D a c d)
theorem pos3 {k x u v y z : Int} (hk : 0 < k) (hu : 0 < u) (hv : 0 < v) (e : k * x = u * y + v * z) : (y < 0 → z < 0 → x < 0) ∧ (0 ≤ y → 0 ≤ z → 0 ≤ x) := by
  constructor
  · intro a b
    have p1 := Int.mul_neg_of_pos_of_neg hu a
    have p2 := Int.mul_neg_of_pos_of_neg hv b
    by_cases q : x < 0
    · exact q
    · have := Int.mul_nonneg (show 0 ≤ k by omega) (show 0 ≤ x by omega)
      omega
  · intro a b
    have p1 := Int.mul_nonneg (show 0 ≤ u by omega) a
    have p2 := Int.mul_nonneg (show 0 ≤ v by omega) b
    by_cases q : 0 ≤ x
    · exact q
    · have := Int.mul_neg_of_pos_of_neg hk (show x < 0 by omega)
      omega
theorem dLaw {n : Int} {X W M : Int → Int} (hP : Prof n X W M) (side : Int) : DLaw (fun i j k => side * sD X W M i j k) n := by
  have hw : ∀ g : Int, 0 ≤ g → g < n → 0 < W (g + 1) - W g := fun g a b => wt_pos hP a (Int.le_refl g) b
  have hx : ∀ g h : Int, 0 ≤ g → g < h → h < n → 0 < X h - X g := fun g h a b c => by have := hP.2.2.1 g h a b c; omega
  refine ⟨fun a b c d h0 h1 h2 h3 h4 p q => ?_, fun a b c d h0 h1 h2 h3 h4 p q => ?_, fun a b c d h0 h1 h2 h3 h4 p q => ?_⟩
  · have e : ((X c - X b) * (W (c + 1) - W c)) * (side * sD X W M a b d) = ((X d - X b) * (W (d + 1) - W d)) * (side * sD X W M a b c) + ((X b - X a) * (W (a + 1) - W a)) * (side * sD X W M b c d) := by
      unfold sD
      grind
    exact (pos3 (Int.mul_pos (hx b c (by omega) h2 (by omega)) (hw c (by omega) (by omega))) (Int.mul_pos (hx b d (by omega) (by omega) h4) (hw d (by omega) h4)) (Int.mul_pos (hx a b h0 h1 (by omega)) (hw a h0 (by omega))) e).1 p q
  · have e : ((X c - X a) * (W (c + 1) - W c)) * (side * sD X W M a b d) = ((X d - X a) * (W (d + 1) - W d)) * (side * sD X W M a b c) + ((X b - X a) * (W (b + 1) - W b)) * (side * sD X W M a c d) := by
      unfold sD
      grind
    exact (pos3 (Int.mul_pos (hx a c (by omega) (by omega) (by omega)) (hw c (by omega) (by omega))) (Int.mul_pos (hx a d (by omega) (by omega) h4) (hw d (by omega) h4)) (Int.mul_pos (hx a b h0 h1 (by omega)) (hw b (by omega) (by omega))) e).2 p q
  · have e : ((X d - X b) * (W (b + 1) - W b)) * (side * sD X W M a c d) = ((X d - X c) * (W (c + 1) - W c)) * (side * sD X W M a b d) + ((X d - X a) * (W (a + 1) - W a)) * (side * sD X W M b c d) := by
      unfold sD
      grind
    exact (pos3 (Int.mul_pos (hx b d (by omega) (by omega) h4) (hw b (by omega) (by omega))) (Int.mul_pos (hx c d (by omega) (by omega) h4) (hw c (by omega) (by omega))) (Int.mul_pos (hx a d h0 (by omega) h4) (hw a h0 (by omega))) e).2 p q
/-- while corners are dropped for group g -/
def HP (D : Int → Int → Int → Int) (g : Int) (C : List Int) : Prop := (g = 0 → C = []) ∧ (0 < g → (0 < C.length ∧ at0 C 0 = 0) ∧ (0 ≤ at0 C ((C.length : Int) - 1) ∧ at0 C ((C.length : Int) - 1) < g) ∧ ∀ h : Int, at0 C ((C.length : Int) - 1) < h → h < g → 0 ≤ D (at0 C ((C.length : Int) - 1)) h g) ∧ (∀ i : Int, 0 ≤ i → i + 1 < C.length → Nx D g (at0 C i) (at0 C (i + 1))) ∧ (C.length : Int) ≤ g
theorem hp_init {D : Int → Int → Int → Int} {g : Int} {C : List Int} (h : HullI D g C) : HP D g C := ⟨h.1, fun q => ⟨⟨(h.2.1 q).1, (h.2.1 q).2.1⟩, by have := (h.2.1 q).2.2; omega, fun x a b => by have := (h.2.1 q).2.2; omega⟩, h.2.2⟩
theorem at0_drop {C : List Int} {i : Int} (h0 : 0 ≤ i) (h1 : i < (C.length : Int) - 1) : at0 C.dropLast i = at0 C i := by
  unfold at0
  rw [List.getD_eq_getElem?_getD, List.getD_eq_getElem?_getD, List.getElem?_dropLast, if_pos (by omega)]
theorem hp_pop {D : Int → Int → Int → Int} {n g : Int} {C : List Int} (hD : DLaw D n) (hg : g < n) (h : HP D g C) (hl : 2 ≤ C.length) (hb : 0 ≤ D (at0 C ((C.length : Int) - 2)) (at0 C ((C.length : Int) - 1)) g) : HP D g C.dropLast := by
  obtain ⟨a, b, c, d⟩ := h
  have hg0 : 0 < g := by
    by_cases q : 0 < g
    · exact q
    · omega
  obtain ⟨⟨b1, b2⟩, b3, b4⟩ := b hg0
  have hlen : (C.dropLast.length : Int) = (C.length : Int) - 1 := by rw [List.length_dropLast]; omega
  have nx := c ((C.length : Int) - 2) (by omega) (by omega)
  rw [show (C.length : Int) - 2 + 1 = (C.length : Int) - 1 by omega] at nx
  refine ⟨fun q => by omega, fun _ => ⟨⟨by omega, by rw [at0_drop (by omega) (by omega)]; exact b2⟩, ?_⟩, fun i h0 h1 => ?_, by omega⟩
  · rw [hlen, show (C.length : Int) - 1 - 1 = (C.length : Int) - 2 by omega, at0_drop (by omega) (by omega)]
    have n1 := nx.1
    refine ⟨by omega, fun x h1 h2 => ?_⟩
    by_cases q : x < at0 C ((C.length : Int) - 1)
    · exact hD.2.1 _ x _ g n1.1 h1 q b3.2 hg (nx.2.2 x h1 q) hb
    · by_cases r : x = at0 C ((C.length : Int) - 1)
      · rw [r]; exact hb
      · exact hD.2.2 _ _ x g n1.1 n1.2.1 (by omega) h2 hg hb (b4 x (by omega) h2)
  · rw [at0_drop h0 (by omega), at0_drop (by omega) (by omega)]; exact c i h0 (by omega)
theorem hp_push {D : Int → Int → Int → Int} {n g : Int} {C : List Int} (hD : DLaw D n) (hg : 0 ≤ g ∧ g < n) (h : HP D g C) (hb : C.length ≤ 1 ∨ D (at0 C ((C.length : Int) - 2)) (at0 C ((C.length : Int) - 1)) g < 0) : HullI D (g + 1) (C ++ [g]) := by
  obtain ⟨a, b, c, d⟩ := h
  have ha : ∀ i : Int, 0 ≤ i → (i < C.length → at0 (C ++ [g]) i = at0 C i) ∧ (i = C.length → at0 (C ++ [g]) i = g) := fun i hi => at0_app hi
  have hlen : ((C ++ [g]).length : Int) = (C.length : Int) + 1 := by simp
  by_cases hg0 : g = 0
  · subst hg0
    rw [a rfl]
    refine ⟨fun q => by omega, fun _ => ⟨by simp, rfl, rfl⟩, fun i h0 h1 => by simp at h1; omega, by simp⟩
  · obtain ⟨⟨b1, b2⟩, b3, b4⟩ := b (by omega)
    -- below every pair the new group bends
    have low : ∀ j : Int, 0 ≤ j → (j + 1 < C.length → D (at0 C ((C.length : Int) - 2 - j)) (at0 C ((C.length : Int) - 1 - j)) g < 0) := fun j hj => by
      refine iInd (p := fun j => j + 1 < C.length → D (at0 C ((C.length : Int) - 2 - j)) (at0 C ((C.length : Int) - 1 - j)) g < 0) (fun q => ?_) (fun j hj ih q => ?_) j hj
      · rw [show (C.length : Int) - 2 - 0 = (C.length : Int) - 2 by omega, show (C.length : Int) - 1 - 0 = (C.length : Int) - 1 by omega]
        rcases hb with r | r
        · omega
        · exact r
      · have i1 := ih (by omega)
        have n1 := c ((C.length : Int) - 2 - (j + 1)) (by omega) (by omega)
        have n2 := c ((C.length : Int) - 2 - j) (by omega) (by omega)
        rw [show (C.length : Int) - 2 - (j + 1) + 1 = (C.length : Int) - 2 - j by omega] at n1
        rw [show (C.length : Int) - 2 - j + 1 = (C.length : Int) - 1 - j by omega] at n2
        rw [show (C.length : Int) - 1 - (j + 1) = (C.length : Int) - 2 - j by omega]
        exact hD.1 _ _ _ g n1.1.1 n1.1.2.1 n2.1.2.1 n2.1.2.2 hg.2 (n1.2.1 _ n2.1.2.1 n2.1.2.2) i1
    refine ⟨fun q => by omega, fun _ => ⟨by omega, by rw [(ha 0 (by omega)).1 (by omega)]; exact b2, by rw [hlen, show (C.length : Int) + 1 - 1 = C.length by omega, (ha _ (by omega)).2 rfl]; omega⟩, fun i h0 h1 => ?_, by omega⟩
    by_cases q : i + 1 < C.length
    · rw [(ha i h0).1 (by omega), (ha (i + 1) (by omega)).1 q]
      have n1 := c i h0 q
      have l1 := low ((C.length : Int) - 2 - i) (by omega) (by omega)
      rw [show (C.length : Int) - 2 - ((C.length : Int) - 2 - i) = i by omega, show (C.length : Int) - 1 - ((C.length : Int) - 2 - i) = i + 1 by omega] at l1
      refine ⟨by have := n1.1; omega, fun x h2 h3 => ?_, n1.2.2⟩
      by_cases r : x = g
      · rw [r]; exact l1
      · exact n1.2.1 x h2 (by omega)
    · have hi : i = (C.length : Int) - 1 := by omega
      rw [(ha i h0).1 (by omega), (ha (i + 1) (by omega)).2 (by omega), hi]
      exact ⟨by omega, fun x h2 h3 => by omega, fun x h2 h3 => b4 x h2 h3⟩
/-! where the function is read -/
def uT (C : List Int) (g : Int) : Nat → Int
  | 0 => g
  | k + 1 => if at0 C k ≤ g then at0 C k else uT C g k
def dF (C : List Int) (g : Int) : Nat → Int
  | 0 => g
  | k + 1 => if g ≤ at0 C ((C.length : Int) - 1 - k) then at0 C ((C.length : Int) - 1 - k) else dF C g k
theorem uT_s {C : List Int} {g k : Int} (h : 0 ≤ k) : uT C g (k + 1).toNat = if at0 C k ≤ g then at0 C k else uT C g k.toNat := by
  rw [show (k + 1).toNat = k.toNat + 1 by omega]
  show (if at0 C ((k.toNat : Nat) : Int) ≤ g then at0 C ((k.toNat : Nat) : Int) else uT C g k.toNat) = _
  rw [show ((k.toNat : Nat) : Int) = k by omega]
theorem dF_s {C : List Int} {g k : Int} (h : 0 ≤ k) : dF C g (k + 1).toNat = if g ≤ at0 C ((C.length : Int) - 1 - k) then at0 C ((C.length : Int) - 1 - k) else dF C g k.toNat := by
  rw [show (k + 1).toNat = k.toNat + 1 by omega]
  show (if g ≤ at0 C ((C.length : Int) - 1 - ((k.toNat : Nat) : Int)) then at0 C ((C.length : Int) - 1 - ((k.toNat : Nat) : Int)) else dF C g k.toNat) = _
  rw [show ((k.toNat : Nat) : Int) = k by omega]
def hA (C : List Int) (g : Int) : Int := uT C g C.length
def hB (C : List Int) (g : Int) : Int := dF C g C.length
theorem hull_asc {D : Int → Int → Int → Int} {N : Int} {C : List Int} (h : HullI D N C) {i j : Int} (h0 : 0 ≤ i) (h1 : i < j) (h2 : j < C.length) : at0 C i < at0 C j := by
  have : ∀ d : Int, 0 ≤ d → (i + 1 + d < C.length → at0 C i < at0 C (i + 1 + d)) := fun d hd => by
    refine iInd (p := fun d => i + 1 + d < C.length → at0 C i < at0 C (i + 1 + d)) (fun q => ?_) (fun d hd ih q => ?_) d hd
    · rw [show i + 1 + 0 = i + 1 by omega] at q ⊢
      exact (h.2.2.1 i h0 q).1.2.1
    · have := ih (by omega)
      have := (h.2.2.1 (i + 1 + d) (by omega) (by omega)).1.2.1
      rw [show i + 1 + (d + 1) = i + 1 + d + 1 by omega]
      omega
  have := this (j - (i + 1)) (by omega) (by omega)
  rw [show i + 1 + (j - (i + 1)) = j by omega] at this
  exact this
theorem hull_rg {D : Int → Int → Int → Int} {N : Int} {C : List Int} (h : HullI D N C) {i : Int} (h0 : 0 ≤ i) (h1 : i < C.length) : 0 ≤ at0 C i ∧ at0 C i < N := by
  have hN : 0 < N := by have := h.2.2.2; omega
  obtain ⟨a, b, c⟩ := h.2.1 hN
  constructor
  · by_cases q : i = 0
    · subst q; omega
    · have := hull_asc h (Int.le_refl 0) (show 0 < i by omega) h1; omega
  · by_cases q : i = (C.length : Int) - 1
    · rw [q]; omega
    · have := hull_asc h h0 (show i < (C.length : Int) - 1 by omega) (by omega); omega
/-- the corner j is the last one up to g -/
def CorAt (C : List Int) (g j : Int) : Prop := 0 ≤ j ∧ j < C.length ∧ at0 C j ≤ g ∧ (j + 1 < C.length → g < at0 C (j + 1))
theorem corAt_ex {D : Int → Int → Int → Int} {N : Int} {C : List Int} (h : HullI D N C) {g : Int} (hg : 0 ≤ g ∧ g < N) : ∃ j, CorAt C g j := by
  obtain ⟨a, b, c⟩ := h.2.1 (by omega)
  have : ∀ k : Int, 0 ≤ k → (k < C.length → (∃ j, 0 ≤ j ∧ j ≤ k ∧ at0 C j ≤ g ∧ (j < k → g < at0 C (j + 1)))) := fun k hk => by
    refine iInd (p := fun k => k < C.length → (∃ j, 0 ≤ j ∧ j ≤ k ∧ at0 C j ≤ g ∧ (j < k → g < at0 C (j + 1)))) (fun _ => ⟨0, by omega, by omega, by omega, fun q => by omega⟩) (fun k hk ih q => ?_) k hk
    by_cases r : at0 C (k + 1) ≤ g
    · exact ⟨k + 1, by omega, by omega, r, fun q => by omega⟩
    · obtain ⟨j, j0, j1, j2, j3⟩ := ih (by omega)
      refine ⟨j, j0, by omega, j2, fun _ => ?_⟩
      by_cases e : j = k
      · subst e; omega
      · exact j3 (by omega)
  obtain ⟨j, j0, j1, j2, j3⟩ := this ((C.length : Int) - 1) (by omega) (by omega)
  exact ⟨j, j0, by omega, j2, fun q => j3 (by omega)⟩
theorem hA_eq {D : Int → Int → Int → Int} {N : Int} {C : List Int} (h : HullI D N C) {g j : Int} (hj : CorAt C g j) : hA C g = at0 C j := by
  obtain ⟨j0, j1, j2, j3⟩ := hj
  have : ∀ d : Int, 0 ≤ d → (j + 1 + d ≤ C.length → uT C g (j + 1 + d).toNat = at0 C j) := fun d hd => by
    refine iInd (p := fun d => j + 1 + d ≤ C.length → uT C g (j + 1 + d).toNat = at0 C j) (fun q => ?_) (fun d hd ih q => ?_) d hd
    · rw [show j + 1 + 0 = j + 1 by omega, uT_s j0, if_pos j2]
    · rw [show j + 1 + (d + 1) = (j + 1 + d) + 1 by omega, uT_s (by omega), if_neg, ih (by omega)]
      have := j3 (by omega)
      by_cases e : d = 0
      · subst e; rw [show j + 1 + 0 = j + 1 by omega]; omega
      · have := hull_asc h (show 0 ≤ j + 1 by omega) (show j + 1 < j + 1 + d by omega) (by omega); omega
  have := this ((C.length : Int) - (j + 1)) (by omega) (by omega)
  rw [show (j + 1 + ((C.length : Int) - (j + 1))).toNat = C.length by omega] at this
  exact this
theorem hB_eq {D : Int → Int → Int → Int} {N : Int} {C : List Int} (h : HullI D N C) {g j : Int} (hg : g < N) (hj : CorAt C g j) : (at0 C j = g → hB C g = g) ∧ (at0 C j ≠ g → j + 1 < C.length ∧ hB C g = at0 C (j + 1)) := by
  obtain ⟨j0, j1, j2, j3⟩ := hj
  have hN : 0 < N := by have := h.2.2.2; omega
  obtain ⟨a, b, c⟩ := h.2.1 hN
  -- from the end down to a corner m from g on, with those below it less than g
  have key : ∀ m : Int, 0 ≤ m → m < C.length → g ≤ at0 C m → (∀ i : Int, 0 ≤ i → i < m → at0 C i < g) → hB C g = at0 C m := fun m m0 m1 m2 m3 => by
    have : ∀ d : Int, 0 ≤ d → ((C.length : Int) - m + d ≤ C.length → dF C g ((C.length : Int) - m + d).toNat = at0 C m) := fun d hd => by
      refine iInd (p := fun d => (C.length : Int) - m + d ≤ C.length → dF C g ((C.length : Int) - m + d).toNat = at0 C m) (fun q => ?_) (fun d hd ih q => ?_) d hd
      · rw [show (C.length : Int) - m + 0 = ((C.length : Int) - m - 1) + 1 by omega, dF_s (by omega), show (C.length : Int) - 1 - ((C.length : Int) - m - 1) = m by omega, if_pos m2]
      · rw [show (C.length : Int) - m + (d + 1) = ((C.length : Int) - m + d) + 1 by omega, dF_s (by omega), if_neg, ih (by omega)]
        have := m3 ((C.length : Int) - 1 - ((C.length : Int) - m + d)) (by omega) (by omega)
        omega
    have := this m m0 (by omega)
    rw [show ((C.length : Int) - m + m).toNat = C.length by omega] at this
    exact this
  constructor
  · intro e
    rw [key j j0 j1 (by omega) (fun i i0 i1 => by have := hull_asc h i0 i1 j1; omega), e]
  · intro e
    have q : j + 1 < C.length := by
      by_cases q : j = (C.length : Int) - 1
      · rw [q] at e j2; omega
      · omega
    refine ⟨q, key (j + 1) (by omega) q (by have := j3 q; omega) (fun i i0 i1 => ?_)⟩
    by_cases r : i = j
    · subst r; omega
    · have := hull_asc h i0 (show i < j by omega) j1; omega
def hNum (X W M : Int → Int) (C : List Int) (g : Int) : Int := if hA C g = hB C g then M (g + 1) - M g else (M (hA C g + 1) - M (hA C g)) * (W (hB C g + 1) - W (hB C g)) * (X (hB C g) - X g) + (M (hB C g + 1) - M (hB C g)) * (W (hA C g + 1) - W (hA C g)) * (X g - X (hA C g))
def hDen (X W : Int → Int) (C : List Int) (g : Int) : Int := if hA C g = hB C g then W (g + 1) - W g else (W (hA C g + 1) - W (hA C g)) * (W (hB C g + 1) - W (hB C g)) * (X (hB C g) - X (hA C g))
theorem hAB_rg {D : Int → Int → Int → Int} {N : Int} {C : List Int} (h : HullI D N C) {g : Int} (hg : 0 ≤ g ∧ g < N) : 0 ≤ hA C g ∧ hA C g ≤ g ∧ g ≤ hB C g ∧ hB C g < N ∧ (hA C g = hB C g → hA C g = g) ∧ (hA C g ≠ hB C g → hA C g < g ∧ g < hB C g) := by
  obtain ⟨j, hj⟩ := corAt_ex h hg
  have e1 := hA_eq h hj
  obtain ⟨e2, e3⟩ := hB_eq h hg.2 hj
  have r1 := hull_rg h hj.1 hj.2.1
  by_cases q : at0 C j = g
  · have := e2 q; omega
  · obtain ⟨k1, k2⟩ := e3 q
    have := hj.2.2.2 k1
    have := hull_rg h (show 0 ≤ j + 1 by have := hj.1; omega) k1
    have := hj.2.2.1
    omega
theorem mul_144 {u v : Int} (h0 : 0 < u) (h1 : 0 < v) (h : u + v ≤ 24) : 0 < u * v ∧ u * v ≤ 144 := by
  refine ⟨Int.mul_pos h0 h1, ?_⟩
  have : 0 ≤ (u - v) * (u - v) := by
    rcases Int.le_total 0 (u - v) with q | q
    · exact Int.mul_nonneg q q
    · exact Int.mul_nonneg_of_nonpos_of_nonpos q q
  have e : (u - v) * (u - v) + 4 * (u * v) = (u + v) * (u + v) := by grind
  have := mul_rg (a := u + v) (b := u + v) (A := 24) (B := 24) (by omega) (by omega)
  omega
theorem h_rg {D : Int → Int → Int → Int} {n : Int} {X W M : Int → Int} (hP : Prof n X W M) {C : List Int} (h : HullI D n C) {g : Int} (hg : 0 ≤ g ∧ g < n) : 0 < hDen X W C g ∧ hDen X W C g ≤ 5760 ∧ -(99 * hDen X W C g) ≤ hNum X W M C g ∧ hNum X W M C g ≤ 99 * hDen X W C g := by
  obtain ⟨a0, a1, a2, a3, a4, a5⟩ := hAB_rg h hg
  unfold hDen hNum
  by_cases q : hA C g = hB C g
  · rw [if_pos q, if_pos q]
    have := prof_rg hP hg.1 (b := g + 1) (by omega) (by omega)
    have := prof_w hP hg.1 (b := g + 1) (by omega) (by omega)
    omega
  · rw [if_neg q, if_neg q]
    obtain ⟨b0, b1⟩ := a5 q
    generalize hA C g = a at *
    generalize hB C g = b at *
    have w1 := prof_rg hP a0 (b := a + 1) (by omega) (by omega)
    have w2 := prof_rg hP (a := b) (by omega) (b := b + 1) (by omega) (by omega)
    have w3 := prof_rg hP (a := a + 1) (by omega) (b := b) (by omega) (by omega)
    have w4 := prof_w hP a0 (b := b + 1) (by omega) (by omega)
    have x1 := hP.2.2.1 a g a0 b0 hg.2
    have x2 := hP.2.2.1 g b hg.1 b1 a3
    have x3 := hP.2.2.2 a a0 (by omega)
    have x4 := hP.2.2.2 b (by omega) a3
    have k := mul_144 (u := W (a + 1) - W a) (v := W (b + 1) - W b) (by omega) (by omega) (by omega)
    generalize W (a + 1) - W a = u at *
    generalize W (b + 1) - W b = v at *
    generalize M (a + 1) - M a = m at *
    generalize M (b + 1) - M b = r at *
    have k2 := mul_rg (a := u * v) (b := X b - X a) (A := 144) (B := 40) (by omega) (by omega)
    have k3 := Int.mul_pos k.1 (show 0 < X b - X a by omega)
    -- 99 den - num and 99 den + num are sums of products of what isn't negative
    have e1 : 99 * (u * v * (X b - X a)) - (m * v * (X b - X g) + r * u * (X g - X a)) = (99 * u - m) * v * (X b - X g) + (99 * v - r) * u * (X g - X a) := by grind
    have e2 : 99 * (u * v * (X b - X a)) + (m * v * (X b - X g) + r * u * (X g - X a)) = (99 * u + m) * v * (X b - X g) + (99 * v + r) * u * (X g - X a) := by grind
    have p1 := Int.mul_nonneg (Int.mul_nonneg (show 0 ≤ 99 * u - m by omega) (show 0 ≤ v by omega)) (show 0 ≤ X b - X g by omega)
    have p2 := Int.mul_nonneg (Int.mul_nonneg (show 0 ≤ 99 * v - r by omega) (show 0 ≤ u by omega)) (show 0 ≤ X g - X a by omega)
    have p3 := Int.mul_nonneg (Int.mul_nonneg (show 0 ≤ 99 * u + m by omega) (show 0 ≤ v by omega)) (show 0 ≤ X b - X g by omega)
    have p4 := Int.mul_nonneg (Int.mul_nonneg (show 0 ≤ 99 * v + r by omega) (show 0 ≤ u by omega)) (show 0 ≤ X g - X a by omega)
    omega
/-! how the class's object holds corners -/
def HulIs (σ : Mem) (k : Nat) (C : List Int) : Prop := σ k 3 = C.length ∧ ∀ j : Int, 0 ≤ j → j < C.length → σ (k + 1) j = at0 C j
def SameK (σ u : Mem) (k : Nat) : Prop := (∀ a : Nat, a ≠ k → a ≠ k + 1 → u a = σ a) ∧ u k 1 = σ k 1
def isHull (Y : Yt) (k : Nat) : Prop := (k = 45 ∨ k = 47) ∧ (∀ r, cL LX Y k r = .inr (3, fHull k Y r)) ∧ ∀ r, cL LX Y (k + 1) r = eI Y 12 r
theorem isHull_of (Y : Yt) {k : Nat} (h : k = 45 ∨ k = 47) : isHull Y k := by
  rcases h with rfl | rfl
  · exact ⟨Or.inl rfl, fun _ => rfl, fun _ => rfl⟩
  · exact ⟨Or.inr rfl, fun _ => rfl, fun _ => rfl⟩
theorem isHull.k0 {Y : Yt} {k : Nat} (h : isHull Y k) : k < (LX Y).length := by have := h.1; rw [lenX]; omega
theorem isHull.k1 {Y : Yt} {k : Nat} (h : isHull Y k) : k + 1 < (LX Y).length := by have := h.1; rw [lenX]; omega
theorem Tb.sameK {σ u : Mem} {k : Nat} {n : Int} {X C W M : Int → Int} {q : Int} (h : Tb σ n X C W M q) (hk : k = 45 ∨ k = 47) (hs : ∀ a : Nat, a ≠ k → a ≠ k + 1 → u a = σ a) : Tb u n X C W M q := h.eq (hs 38 (by omega) (by omega)) (hs 39 (by omega) (by omega)) (hs 40 (by omega) (by omega)) (hs 41 (by omega) (by omega)) (hs 42 (by omega) (by omega))
theorem hul_push {σ : Mem} {k : Nat} {C : List Int} {g : Int} (h : HulIs σ k C) : HulIs (up (up σ (k + 1) (σ k 3) g) k 3 (σ k 3 + 1)) k (C ++ [g]) := by
  refine ⟨by rw [up_same, h.1]; simp, fun j h0 h1 => ?_⟩
  rw [List.length_append, List.length_singleton] at h1
  rw [up_ne (by omega), up_at, h.1]
  by_cases q : j = C.length
  · rw [if_pos ⟨rfl, q⟩, (at0_app h0).2 q]
  · rw [if_neg (by omega), (at0_app h0).1 (by omega)]; exact h.2 j h0 (by omega)
theorem hul_pop {σ : Mem} {k : Nat} {C : List Int} {x : Int} (h : HulIs σ k C) (hx : x = (C.length : Int) - 1) (h0 : 0 < C.length) : HulIs (up σ k 3 x) k C.dropLast := by
  subst hx
  have hlen : (C.dropLast.length : Int) = (C.length : Int) - 1 := by rw [List.length_dropLast]; omega
  refine ⟨by rw [up_same, hlen], fun j h0 h1 => ?_⟩
  rw [up_ne (by omega), at0_drop h0 (by omega)]
  exact h.2 j h0 (by omega)
