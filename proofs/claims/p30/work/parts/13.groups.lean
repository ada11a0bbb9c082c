/-! sums, and the groups of points -/
def smN (f : Int → Int) : Nat → Int
  | 0 => 0
  | n + 1 => smN f n + f n
def smI (f : Int → Int) (i : Int) : Int := smN f i.toNat
theorem smI_0 (f : Int → Int) : smI f 0 = 0 := rfl
theorem smI_s (f : Int → Int) {i : Int} (h : 0 ≤ i) : smI f (i + 1) = smI f i + f i := by
  unfold smI
  rw [show (i + 1).toNat = i.toNat + 1 by omega]
  show smN f i.toNat + f ((i.toNat : Nat) : Int) = _
  rw [Int.toNat_of_nonneg h]
theorem iInd {p : Int → Prop} (h0 : p 0) (hs : ∀ i, 0 ≤ i → p i → p (i + 1)) : ∀ i, 0 ≤ i → p i := by
  intro i hi
  obtain ⟨n, rfl⟩ : ∃ n : Nat, i = (n : Int) := ⟨i.toNat, by omega⟩
  clear hi
  induction n with
  | zero => exact h0
  | succ n ih => exact hs n (by omega) ih
theorem smI_congr {f g : Int → Int} {n : Int} (hn : 0 ≤ n) (h : ∀ i, 0 ≤ i → i < n → f i = g i) : smI f n = smI g n := by
  have : ∀ j, 0 ≤ j → j ≤ n → smI f j = smI g j := fun j hj => by
    refine iInd (p := fun j => j ≤ n → smI f j = smI g j) (fun _ => rfl) (fun i hi ih hle => ?_) j hj
    rw [smI_s f hi, smI_s g hi, ih (by omega), h i hi (by omega)]
  exact this n hn (Int.le_refl n)
theorem smI_add (f g : Int → Int) {n : Int} (hn : 0 ≤ n) : smI (fun i => f i + g i) n = smI f n + smI g n := by
  refine iInd (p := fun j => smI (fun i => f i + g i) j = smI f j + smI g j) rfl (fun i hi ih => ?_) n hn
  rw [smI_s _ hi, smI_s f hi, smI_s g hi, ih]; omega
theorem smI_le {f g : Int → Int} {n : Int} (hn : 0 ≤ n) (h : ∀ i, 0 ≤ i → i < n → f i ≤ g i) : smI f n ≤ smI g n := by
  have : ∀ j, 0 ≤ j → j ≤ n → smI f j ≤ smI g j := fun j hj => by
    refine iInd (p := fun j => j ≤ n → smI f j ≤ smI g j) (fun _ => Int.le_refl _) (fun i hi ih hle => ?_) j hj
    rw [smI_s f hi, smI_s g hi]
    have := ih (by omega); have := h i hi (by omega); omega
  exact this n hn (Int.le_refl n)
theorem smI_const (c : Int) {n : Int} (hn : 0 ≤ n) : smI (fun _ => c) n = c * n := by
  refine iInd (p := fun j => smI (fun _ => c) j = c * j) (by simp [smI_0]) (fun i hi ih => ?_) n hn
  rw [smI_s _ hi, ih, Int.mul_add, Int.mul_one]
theorem smI_neg (f : Int → Int) {n : Int} (hn : 0 ≤ n) : smI (fun i => -f i) n = -smI f n := by
  refine iInd (p := fun j => smI (fun i => -f i) j = -smI f j) rfl (fun i hi ih => ?_) n hn
  rw [smI_s _ hi, smI_s f hi, ih]; omega
theorem smI_mul (c : Int) (f : Int → Int) {n : Int} (hn : 0 ≤ n) : smI (fun i => c * f i) n = c * smI f n := by
  refine iInd (p := fun j => smI (fun i => c * f i) j = c * smI f j) (by simp [smI_0]) (fun i hi ih => ?_) n hn
  rw [smI_s _ hi, smI_s f hi, ih, Int.mul_add]
/-- a list's number at a whole-number place -/
def at0 (l : List Int) (i : Int) : Int := l.getD i.toNat 0
theorem at0_app {l : List Int} {q i : Int} (h0 : 0 ≤ i) : (i < l.length → at0 (l ++ [q]) i = at0 l i) ∧ (i = l.length → at0 (l ++ [q]) i = q) := by
  unfold at0
  constructor
  · intro h
    rw [List.getD_eq_getElem?_getD, List.getD_eq_getElem?_getD, List.getElem?_append_left (by omega)]
  · intro h
    subst h
    simp [List.getD_eq_getElem?_getD]
theorem at0_mem {l : List Int} {i : Int} (h0 : 0 ≤ i) (h : i < l.length) : at0 l i ∈ l := by
  have h1 : i.toNat < l.length := by omega
  unfold at0
  rw [List.getD_eq_getElem?_getD, List.getElem?_eq_getElem h1]
  exact List.getElem_mem h1
theorem at0_of_mem {l : List Int} {x : Int} (h : x ∈ l) : ∃ i : Int, 0 ≤ i ∧ i < l.length ∧ at0 l i = x := by
  obtain ⟨n, hn, he⟩ := List.getElem_of_mem h
  refine ⟨n, by omega, by omega, ?_⟩
  unfold at0
  rw [List.getD_eq_getElem?_getD, Int.toNat_natCast, List.getElem?_eq_getElem hn, he]
  rfl
/-- a point stands at x -/
def occ (P : List Pt) (x : Int) : Prop := ∃ i : Int, 0 ≤ i ∧ i < P.length ∧ px P i = x
/-- the occupied positions below X, ascending -/
noncomputable def gsU (P : List Pt) : Nat → List Int
  | 0 => []
  | x + 1 => if P.any (fun q => q.1 == (x : Int)) = true then gsU P x ++ [(x : Int)] else gsU P x
theorem occ_any {P : List Pt} {x : Int} : P.any (fun q => q.1 == x) = true ↔ occ P x := by
  rw [List.any_eq_true]
  constructor
  · rintro ⟨q, hq, h⟩
    obtain ⟨n, hn, he⟩ := List.getElem_of_mem hq
    refine ⟨n, by omega, by omega, ?_⟩
    unfold px
    rw [List.getD_eq_getElem?_getD, Int.toNat_natCast, List.getElem?_eq_getElem hn, he]
    simpa using h
  · rintro ⟨i, h0, h1, h⟩
    exact ⟨_, p_mem h0 h1, by unfold px at h; simpa using h⟩
theorem gsU_s (P : List Pt) (x : Nat) : (occ P x → gsU P (x + 1) = gsU P x ++ [(x : Int)]) ∧ (¬ occ P x → gsU P (x + 1) = gsU P x) := by
  constructor
  · intro h
    show (if _ then _ else _) = _
    rw [if_pos (occ_any.mpr h)]
  · intro h
    show (if _ then _ else _) = _
    rw [if_neg (fun q => h (occ_any.mp q))]
theorem gsU_mem {P : List Pt} : ∀ (X : Nat) (y : Int), y ∈ gsU P X ↔ 0 ≤ y ∧ y < X ∧ occ P y := by
  intro X
  induction X with
  | zero => intro y; constructor
            · intro h; cases h
            · rintro ⟨a, b, -⟩; omega
  | succ X ih =>
    intro y
    by_cases h : occ P X
    · rw [(gsU_s P X).1 h, List.mem_append, ih y, List.mem_singleton]
      constructor
      · rintro (⟨a, b, c⟩ | rfl)
        · exact ⟨a, by omega, c⟩
        · exact ⟨by omega, by omega, h⟩
      · rintro ⟨a, b, c⟩
        by_cases q : y = X
        · exact Or.inr q
        · exact Or.inl ⟨a, by omega, c⟩
    · rw [(gsU_s P X).2 h, ih y]
      constructor
      · rintro ⟨a, b, c⟩; exact ⟨a, by omega, c⟩
      · rintro ⟨a, b, c⟩
        by_cases q : y = X
        · subst q; exact absurd c h
        · exact ⟨a, by omega, c⟩
theorem gsU_asc {P : List Pt} : ∀ (X : Nat) (i j : Int), 0 ≤ i → i < j → j < (gsU P X).length → at0 (gsU P X) i < at0 (gsU P X) j := by
  intro X
  induction X with
  | zero => intro i j _ _ h; simp [gsU] at h; omega
  | succ X ih =>
    intro i j h0 h1 h2
    by_cases h : occ P X
    · rw [(gsU_s P X).1 h] at h2 ⊢
      rw [List.length_append, List.length_singleton] at h2
      by_cases q : j < (gsU P X).length
      · rw [(at0_app (by omega)).1 q, (at0_app h0).1 (by omega)]
        exact ih i j h0 h1 q
      · rw [(at0_app (i := j) (by omega)).2 (by omega), (at0_app (i := i) h0).1 (by omega)]
        exact ((gsU_mem X _).mp (at0_mem h0 (by omega))).2.1
    · rw [(gsU_s P X).2 h] at h2 ⊢
      exact ih i j h0 h1 h2
/-- what the points at x have together of f -/
def fAt (P : List Pt) (f : Int → Int) (x : Int) : Int := smI (fun i => if px P i = x then f i else 0) P.length
theorem fAt_none {P : List Pt} {f : Int → Int} {x : Int} (h : ¬ occ P x) : fAt P f x = 0 := by
  unfold fAt
  rw [smI_congr (g := fun _ => 0) (by omega) (fun i h0 h1 => if_neg (fun q => h ⟨i, h0, h1, q⟩)), smI_const 0 (by omega)]
  omega
theorem fAt_below {P : List Pt} {f : Int → Int} (X : Int) : smI (fun i => if px P i < X + 1 then f i else 0) P.length = smI (fun i => if px P i < X then f i else 0) P.length + fAt P f X := by
  unfold fAt
  rw [← smI_add _ _ (by omega)]
  refine smI_congr (by omega) (fun i h0 h1 => ?_)
  by_cases a : px P i < X
  · rw [if_pos (by omega), if_pos a, if_neg (by omega)]; omega
  · by_cases b : px P i = X
    · rw [if_pos (by omega), if_neg a, if_pos b]; omega
    · rw [if_neg (by omega), if_neg a, if_neg b]; omega
theorem fAt_pre {P : List Pt} {f : Int → Int} (hP : ptsOk P) : ∀ X : Nat, smI (fun g => fAt P f (at0 (gsU P X) g)) (gsU P X).length = smI (fun i => if px P i < X then f i else 0) P.length := by
  intro X
  induction X with
  | zero =>
    show smI _ 0 = _
    rw [smI_0, smI_congr (g := fun _ => 0) (by omega) (fun i h0 h1 => if_neg (by have := px_ok hP h0 h1; omega)), smI_const 0 (by omega)]
    omega
  | succ X ih =>
    rw [show ((X + 1 : Nat) : Int) = (X : Int) + 1 by omega, fAt_below]
    by_cases h : occ P X
    · rw [(gsU_s P X).1 h, List.length_append, List.length_singleton]
      rw [show (((gsU P X).length + 1 : Nat) : Int) = ((gsU P X).length : Int) + 1 by omega, smI_s _ (by omega), (at0_app (by omega)).2 rfl, ← ih]
      congr 1
      refine smI_congr (by omega) (fun i h0 h1 => ?_)
      rw [(at0_app h0).1 h1]
    · rw [(gsU_s P X).2 h, fAt_none h, ih]; omega
/-! the profile of the groups: how many, where, weights and moments summed from the left -/
noncomputable def ng (P : List Pt) : Int := (gsU P 41).length
noncomputable def gX (P : List Pt) (g : Int) : Int := at0 (gsU P 41) g
noncomputable def gW (P : List Pt) (g : Int) : Int := smI (fun h => fAt P (pw P) (gX P h)) g
noncomputable def gM (P : List Pt) (g : Int) : Int := smI (fun h => fAt P (fun i => pw P i * pv P i) (gX P h)) g
noncomputable def gC (P : List Pt) (g : Int) : Int := fAt P (fun _ => 1) (gX P g)
noncomputable def gQ (P : List Pt) : Int := smI (fun i => pw P i * pv P i * pv P i) P.length
def Prof (n : Int) (X W M : Int → Int) : Prop := (0 ≤ n ∧ n ≤ 12 ∧ W 0 = 0 ∧ M 0 = 0 ∧ W n ≤ 24) ∧ (∀ g, 0 ≤ g → g < n → W g + 1 ≤ W (g + 1) ∧ -(99 * (W (g + 1) - W g)) ≤ M (g + 1) - M g ∧ M (g + 1) - M g ≤ 99 * (W (g + 1) - W g)) ∧ (∀ g h, 0 ≤ g → g < h → h < n → X g < X h) ∧ ∀ g, 0 ≤ g → g < n → 0 ≤ X g ∧ X g ≤ 40
theorem gX_occ {P : List Pt} {g : Int} (h0 : 0 ≤ g) (h1 : g < ng P) : 0 ≤ gX P g ∧ gX P g ≤ 40 ∧ occ P (gX P g) := by
  have := (gsU_mem 41 _).mp (at0_mem (l := gsU P 41) h0 h1)
  exact ⟨this.1, by have := this.2.1; unfold gX; omega, this.2.2⟩
theorem fAt_pos {P : List Pt} {f : Int → Int} {x : Int} (hf : ∀ i : Int, 0 ≤ i → i < P.length → 1 ≤ f i) (h : occ P x) : 1 ≤ fAt P f x := by
  obtain ⟨j, j0, j1, hj⟩ := h
  have : smI (fun i => if i = j then 1 else 0) P.length ≤ fAt P f x := by
    refine smI_le (by omega) (fun i h0 h1 => ?_)
    by_cases q : i = j
    · subst q; rw [if_pos rfl, if_pos hj]; exact hf i h0 h1
    · rw [if_neg q]
      split
      · have := hf i h0 h1; omega
      · omega
  have e : ∀ n, 0 ≤ n → (n ≤ j → smI (fun i => if i = j then (1 : Int) else 0) n = 0) ∧ (j < n → smI (fun i => if i = j then (1 : Int) else 0) n = 1) := fun n hn => by
    refine iInd (p := fun n => (n ≤ j → smI (fun i => if i = j then (1 : Int) else 0) n = 0) ∧ (j < n → smI (fun i => if i = j then (1 : Int) else 0) n = 1)) ⟨fun _ => rfl, fun h => by omega⟩ (fun i hi ih => ⟨fun h => ?_, fun h => ?_⟩) n hn
    · rw [smI_s _ hi, ih.1 (by omega), if_neg (by omega)]; rfl
    · rw [smI_s _ hi]
      by_cases q : i = j
      · rw [ih.1 (by omega), if_pos q]; rfl
      · rw [ih.2 (by omega), if_neg q]; rfl
  have := (e P.length (by omega)).2 j1
  omega
theorem fAt_le {P : List Pt} {f g : Int → Int} {x : Int} (h : ∀ i : Int, 0 ≤ i → i < P.length → f i ≤ g i) : fAt P f x ≤ fAt P g x := by
  refine smI_le (by omega) (fun i h0 h1 => ?_)
  split
  · exact h i h0 h1
  · omega
theorem fAt_mul {P : List Pt} {f : Int → Int} {c x : Int} : fAt P (fun i => c * f i) x = c * fAt P f x := by
  unfold fAt
  rw [← smI_mul c _ (by omega)]
  refine smI_congr (by omega) (fun i h0 h1 => ?_)
  split <;> simp
theorem prof_of {P : List Pt} (hP : ptsOk P) (hl : P.length ≤ 12) : Prof (ng P) (gX P) (gW P) (gM P) := by
  have hw : ∀ i : Int, 0 ≤ i → i < P.length → 1 ≤ pw P i ∧ pw P i ≤ 2 := fun i h0 h1 => pw_ok hP h0 h1
  have all : ∀ f : Int → Int, smI (fun h => fAt P f (gX P h)) (ng P) = smI f P.length := fun f => by
    have := fAt_pre (f := f) hP 41
    refine this.trans (smI_congr (by omega) (fun i h0 h1 => if_pos (by have := px_ok hP h0 h1; omega)))
  have hn0 : 0 ≤ ng P := by unfold ng; omega
  refine ⟨⟨hn0, ?_, rfl, rfl, ?_⟩, fun g h0 h1 => ?_, fun g h h0 h1 h2 => gsU_asc 41 g h h0 h1 h2, fun g h0 h1 => ⟨(gX_occ h0 h1).1, (gX_occ h0 h1).2.1⟩⟩
  · have h1 := all (fun _ => 1)
    rw [smI_const 1 (by omega)] at h1
    have h2 : smI (fun _ => (1 : Int)) (ng P) ≤ smI (fun h => fAt P (fun _ => 1) (gX P h)) (ng P) := smI_le hn0 (fun i a b => fAt_pos (fun _ _ _ => Int.le_refl 1) (gX_occ a b).2.2)
    rw [smI_const 1 hn0, h1] at h2
    omega
  · have h1 : gW P (ng P) = smI (pw P) P.length := all (pw P)
    have h2 : smI (pw P) P.length ≤ smI (fun _ => 2) P.length := smI_le (by omega) (fun i a b => (hw i a b).2)
    rw [smI_const 2 (by omega)] at h2
    omega
  · have e1 : gW P (g + 1) = gW P g + fAt P (pw P) (gX P g) := smI_s _ h0
    have e2 : gM P (g + 1) = gM P g + fAt P (fun i => pw P i * pv P i) (gX P g) := smI_s _ h0
    have h3 := fAt_pos (f := pw P) (fun i a b => (hw i a b).1) (gX_occ h0 h1).2.2
    have h4 : fAt P (fun i => pw P i * pv P i) (gX P g) ≤ fAt P (fun i => 99 * pw P i) (gX P g) := fAt_le (fun i a b => by
      rw [Int.mul_comm 99]
      exact Int.mul_le_mul_of_nonneg_left (pv_ok hP a b).2 (by have := hw i a b; omega))
    have h5 : fAt P (fun i => -99 * pw P i) (gX P g) ≤ fAt P (fun i => pw P i * pv P i) (gX P g) := fAt_le (fun i a b => by
      rw [Int.mul_comm (-99)]
      exact Int.mul_le_mul_of_nonneg_left (pv_ok hP a b).1 (by have := hw i a b; omega))
    rw [fAt_mul] at h4 h5
    omega
