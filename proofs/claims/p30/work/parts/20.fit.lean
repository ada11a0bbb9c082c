/-! blocks: begins of blocks, the latest first -/
def popL (side : Int) (W M : Int → Int) : List Int → Int → Int → List Int
  | [], s, _ => [s]
  | b :: bs, s, g => if side * cmpM W M b (s - 1) s g < 0 then s :: b :: bs else popL side W M bs b g
theorem popL_stop {side : Int} {W M : Int → Int} {b s g : Int} {bs : List Int} (h : side * cmpM W M b (s - 1) s g < 0) : popL side W M (b :: bs) s g = s :: b :: bs := by
  show (if _ then _ else _) = _
  rw [if_pos h]
theorem popL_go {side : Int} {W M : Int → Int} {b s g : Int} {bs : List Int} (h : ¬ side * cmpM W M b (s - 1) s g < 0) : popL side W M (b :: bs) s g = popL side W M bs b g := by
  show (if _ then _ else _) = _
  rw [if_neg h]
def poolL (side : Int) (W M : Int → Int) (a : Int) : Nat → List Int
  | 0 => []
  | k + 1 => popL side W M (poolL side W M a k) (a + k) (a + k)
def Stk (a : Int) : Int → List Int → Prop
  | s, [] => s = a
  | s, b :: bs => a ≤ b ∧ b < s ∧ Stk a b bs
theorem popL_stk {side : Int} {W M : Int → Int} {a g : Int} : ∀ (stk : List Int) (s : Int), Stk a s stk → s ≤ g → a ≤ s → Stk a (g + 1) (popL side W M stk s g) := by
  intro stk
  induction stk with
  | nil => intro s h h1 h2; exact ⟨h2, by omega, h⟩
  | cons b bs ih =>
    intro s h h1 h2
    by_cases q : side * cmpM W M b (s - 1) s g < 0
    · rw [popL_stop q]; exact ⟨h2, by omega, h⟩
    · rw [popL_go q]; exact ih b h.2.2 (by have := h.2.1; omega) h.1
theorem poolL_stk {side : Int} {W M : Int → Int} {a : Int} : ∀ k : Nat, Stk a (a + k) (poolL side W M a k) := by
  intro k
  induction k with
  | zero => show a + ((0 : Nat) : Int) = a; omega
  | succ k ih =>
    have := popL_stk (side := side) (W := W) (M := M) (g := a + k) _ _ ih (Int.le_refl _) (by omega)
    rw [show a + ((k + 1 : Nat) : Int) = a + k + 1 by omega]
    exact this
theorem Stk.len {a : Int} : ∀ {stk : List Int} {s : Int}, Stk a s stk → (stk.length : Int) ≤ s - a ∧ a ≤ s := by
  intro stk
  induction stk with
  | nil => intro s h; have : s = a := h; simp; omega
  | cons b bs ih =>
    intro s h
    have := ih h.2.2
    have := h.2.1
    simp; omega
theorem Stk.app {a c : Int} {l2 : List Int} (h2 : Stk a c l2) : ∀ {l1 : List Int} {s : Int}, Stk c s l1 → Stk a s (l1 ++ l2) := by
  intro l1
  induction l1 with
  | nil => intro s h; have : s = c := h; subst this; exact h2
  | cons b bs ih =>
    intro s h
    have := h2.len
    exact ⟨by have := h.1; omega, h.2.1, ih h.2.2⟩
/-- begins of blocks, ascending -/
def Asc (n : Int) (B : List Int) : Prop := (0 < n → 0 < B.length ∧ at0 B 0 = 0) ∧ (∀ j : Int, 0 ≤ j → j < B.length → 0 ≤ at0 B j ∧ at0 B j < n) ∧ (∀ i j : Int, 0 ≤ i → i < j → j < B.length → at0 B i < at0 B j) ∧ (B.length : Int) ≤ n
theorem Stk.asc {a : Int} : ∀ {stk : List Int} {s : Int}, Stk a s stk → (a < s → 0 < stk.length ∧ at0 stk.reverse 0 = a) ∧ (∀ j : Int, 0 ≤ j → j < stk.length → a ≤ at0 stk.reverse j ∧ at0 stk.reverse j < s) ∧ ∀ i j : Int, 0 ≤ i → i < j → j < stk.length → at0 stk.reverse i < at0 stk.reverse j := by
  intro stk
  induction stk with
  | nil => intro s h; have : s = a := h; exact ⟨fun q => by omega, fun j h0 h1 => by simp at h1; omega, fun i j h0 h1 h2 => by simp at h2; omega⟩
  | cons b bs ih =>
    intro s h
    obtain ⟨i1, i2, i3⟩ := ih h.2.2
    have hb := h.1
    have hb2 := h.2.1
    have hl := h.2.2.len
    have e : ∀ j : Int, 0 ≤ j → (j < bs.length → at0 (b :: bs).reverse j = at0 bs.reverse j) ∧ (j = bs.length → at0 (b :: bs).reverse j = b) := fun j hj => by
      rw [List.reverse_cons]
      have := at0_app (l := bs.reverse) (q := b) hj
      rw [List.length_reverse] at this
      exact this
    refine ⟨fun _ => ⟨by simp, ?_⟩, fun j h0 h1 => ?_, fun i j h0 h1 h2 => ?_⟩
    · by_cases q : a < b
      · have := i1 q
        rw [(e 0 (Int.le_refl 0)).1 (by omega)]; exact this.2
      · rw [(e 0 (Int.le_refl 0)).2 (by omega)]; omega
    · simp at h1
      by_cases q : j < bs.length
      · rw [(e j h0).1 q]; have := i2 j h0 q; omega
      · rw [(e j h0).2 (by omega)]; omega
    · simp at h2
      by_cases q : j < bs.length
      · rw [(e j (by omega)).1 q, (e i h0).1 (by omega)]; exact i3 i j h0 h1 q
      · rw [(e j (by omega)).2 (by omega), (e i h0).1 (by omega)]; exact (i2 i h0 (by omega)).2
theorem Stk.toAsc {n : Int} {stk : List Int} (h : Stk 0 n stk) : Asc n stk.reverse := by
  obtain ⟨a, b, c⟩ := h.asc
  have := h.len
  have e : stk.reverse.length = stk.length := List.length_reverse
  exact ⟨fun q => by rw [e]; exact a q, fun j h0 h1 => b j h0 (by rw [e] at h1; exact h1), fun i j h0 h1 h2 => c i j h0 h1 (by rw [e] at h2; exact h2), by rw [e]; omega⟩
def bEnd (B : List Int) (n j : Int) : Int := if j < (B.length : Int) - 1 then at0 B (j + 1) - 1 else n - 1
theorem bEnd_rg {n : Int} {B : List Int} (h : Asc n B) {j : Int} (h0 : 0 ≤ j) (h1 : j < B.length) : 0 ≤ at0 B j ∧ at0 B j ≤ bEnd B n j ∧ bEnd B n j < n := by
  obtain ⟨-, b, c, -⟩ := h
  have := b j h0 h1
  unfold bEnd
  split
  · have := c j (j + 1) h0 (by omega) (by omega); have := b (j + 1) (by omega) (by omega); omega
  · omega
noncomputable def Err (n : Int) (W M : Int → Int) (q : Int) (B : List Int) : Int := 5354228880 * q - smI (fun j => gain W M (at0 B j) (bEnd B n j)) B.length
theorem gsum_rg {n : Int} {X W M : Int → Int} (hP : Prof n X W M) {B : List Int} (h : Asc n B) {k : Int} (h0 : 0 ≤ k) (h1 : k ≤ B.length) : 0 ≤ smI (fun j => gain W M (at0 B j) (bEnd B n j)) k ∧ smI (fun j => gain W M (at0 B j) (bEnd B n j)) k ≤ 30226687408834560 * k := by
  have a := smI_le (f := fun _ => 0) (g := fun j => gain W M (at0 B j) (bEnd B n j)) h0 (fun i a b => (gain_rg hP (bEnd_rg h a (by omega))).1)
  have b := smI_le (g := fun _ => 30226687408834560) (f := fun j => gain W M (at0 B j) (bEnd B n j)) h0 (fun i a b => (gain_rg hP (bEnd_rg h a (by omega))).2)
  rw [smI_const _ h0] at a b
  omega
theorem Err_rg {n : Int} {X W M : Int → Int} (hP : Prof n X W M) {q : Int} (hq : 0 ≤ q ∧ q ≤ 235224) {B : List Int} (h : Asc n B) : -400000000000000000 ≤ Err n W M q B ∧ Err n W M q B ≤ 1300000000000000 := by
  have := gsum_rg hP h (k := B.length) (by omega) (Int.le_refl _)
  have := h.2.2.2
  have := hP.1
  unfold Err
  omega
/-! the place of a turn -/
def TopIs (n : Int) (W M : Int → Int) (side t F T : Int) : Prop := (0 ≤ F ∧ F ≤ t ∧ t ≤ T ∧ T < n) ∧ ∀ f l : Int, 0 ≤ f → f ≤ t → t ≤ l → l < n → side * cmpM W M f l F T ≤ 0 ∧ (side * cmpM W M f l F T = 0 → F ≤ f ∧ l ≤ T)
theorem cmpM_anti (W M : Int → Int) (a b c d : Int) : cmpM W M a b c d = -cmpM W M c d a b := by unfold cmpM; omega
theorem TopIs.uniq {n : Int} {W M : Int → Int} {side t F T F' T' : Int} (h : TopIs n W M side t F T) (h' : TopIs n W M side t F' T') : F = F' ∧ T = T' := by
  obtain ⟨a1, a2⟩ := h.2 F' T' h'.1.1 h'.1.2.1 h'.1.2.2.1 h'.1.2.2.2
  obtain ⟨b1, b2⟩ := h'.2 F T h.1.1 h.1.2.1 h.1.2.2.1 h.1.2.2.2
  rw [cmpM_anti, Int.mul_neg] at b1 b2
  have e : side * cmpM W M F' T' F T = 0 := by omega
  have := a2 e; have := b2 (by omega); omega
noncomputable def topFT (n : Int) (W M : Int → Int) (side t : Int) : Int × Int := Classical.epsilon (fun q : Int × Int => TopIs n W M side t q.1 q.2)
theorem topFT_eq {n : Int} {W M : Int → Int} {side t F T : Int} (h : TopIs n W M side t F T) : topFT n W M side t = (F, T) := by
  have := Classical.epsilon_spec (p := fun q : Int × Int => TopIs n W M side t q.1 q.2) ⟨(F, T), h⟩
  obtain ⟨a, b⟩ := TopIs.uniq this h
  exact Prod.ext a b
def peakS (side : Int) (W M : Int → Int) (n F T : Int) : List Int := poolL (-side) W M (T + 1) (n - T - 1).toNat ++ (F :: poolL side W M 0 F.toNat)
noncomputable def pkB (n : Int) (W M : Int → Int) (side t : Int) : List Int := (peakS side W M n (topFT n W M side t).1 (topFT n W M side t).2).reverse
theorem peakS_stk {side : Int} {W M : Int → Int} {n F T : Int} (h : 0 ≤ F ∧ F ≤ T ∧ T < n) : Stk 0 n (peakS side W M n F T) := by
  have h1 := poolL_stk (side := side) (W := W) (M := M) (a := 0) F.toNat
  have h2 := poolL_stk (side := -side) (W := W) (M := M) (a := T + 1) (n - T - 1).toNat
  rw [show (0 : Int) + (F.toNat : Int) = F by omega] at h1
  rw [show T + 1 + ((n - T - 1).toNat : Int) = n by omega] at h2
  have h3 : Stk 0 (T + 1) (F :: poolL side W M 0 F.toNat) := ⟨h.1, by omega, h1⟩
  exact Stk.app h3 h2
/-- the first of the least -/
def amin (f : Int → Int) : Nat → Int
  | 0 => 0
  | k + 1 => if k = 0 then 0 else if f k < f (amin f k) then k else amin f k
theorem amin_rg (f : Int → Int) : ∀ k : Nat, 0 ≤ amin f k ∧ (0 < k → amin f k < k) := by
  intro k
  induction k with
  | zero => exact ⟨Int.le_refl 0, fun h => by omega⟩
  | succ k ih =>
    unfold amin
    split
    · exact ⟨Int.le_refl 0, fun _ => by omega⟩
    · split
      · exact ⟨by omega, fun _ => by omega⟩
      · exact ⟨ih.1, fun _ => by have := ih.2 (by omega); omega⟩
theorem amin_s {f : Int → Int} {k : Int} (h : 0 ≤ k) : amin f (k + 1).toNat = if k = 0 then 0 else if f k < f (amin f k.toNat) then k else amin f k.toNat := by
  rw [show (k + 1).toNat = k.toNat + 1 by omega]
  show (if k.toNat = 0 then (0 : Int) else if f (k.toNat : Int) < f (amin f k.toNat) then (k.toNat : Int) else amin f k.toNat) = _
  rw [show ((k.toNat : Nat) : Int) = k by omega]
  by_cases q : k = 0
  · rw [if_pos (by omega), if_pos q]
  · rw [if_neg (by omega), if_neg q]
noncomputable def turnE (n : Int) (W M : Int → Int) (q side t : Int) : Int := Err n W M q (pkB n W M side t)
noncomputable def bTurn (n : Int) (W M : Int → Int) (q side : Int) : Int := amin (turnE n W M q side) n.toNat
noncomputable def kB (n : Int) (W M : Int → Int) (q kind : Int) : List Int :=
  if 2 ≤ kind then (if 0 < n then pkB n W M (if kind = 2 then 1 else -1) (bTurn n W M q (if kind = 2 then 1 else -1)) else [])
  else (poolL (if kind = 0 then 1 else -1) W M 0 n.toNat).reverse
theorem Asc_nil {n : Int} (h : n = 0) : Asc n [] := by subst h; exact ⟨fun h => by omega, fun j h0 h1 => by simp at h1; omega, fun i j h0 h1 h2 => by simp at h2; omega, by simp⟩
theorem pool_asc {side : Int} {W M : Int → Int} {n : Int} (hn : 0 ≤ n) : Asc n (poolL side W M 0 n.toNat).reverse := by
  have := poolL_stk (side := side) (W := W) (M := M) (a := 0) n.toNat
  rw [show (0 : Int) + (n.toNat : Int) = n by omega] at this
  exact this.toAsc
/-! finding the place of a turn -/
theorem cmp_trans {s m1 w1 m2 w2 m3 w3 : Int} (h1 : 0 < w1) (h2 : 0 < w2) (h3 : 0 < w3) (a : s * (m1 * w2 - m2 * w1) ≤ 0) (b : s * (m2 * w3 - m3 * w2) ≤ 0) : s * (m1 * w3 - m3 * w1) ≤ 0 := by
  have e : w2 * (s * (m1 * w3 - m3 * w1)) = w3 * (s * (m1 * w2 - m2 * w1)) + w1 * (s * (m2 * w3 - m3 * w2)) := by grind
  have p1 : w3 * (s * (m1 * w2 - m2 * w1)) ≤ 0 := Int.mul_nonpos_of_nonneg_of_nonpos (by omega) a
  have p2 : w1 * (s * (m2 * w3 - m3 * w2)) ≤ 0 := Int.mul_nonpos_of_nonneg_of_nonpos (by omega) b
  by_cases q : s * (m1 * w3 - m3 * w1) ≤ 0
  · exact q
  · have := Int.mul_pos h2 (show 0 < s * (m1 * w3 - m3 * w1) by omega)
    omega
theorem wt_pos {n : Int} {X W M : Int → Int} (h : Prof n X W M) {a b : Int} (ha : 0 ≤ a) (hb : a ≤ b) (hn : b < n) : 0 < W (b + 1) - W a := by
  have := prof_rg h ha (b := b + 1) (by omega) (by omega)
  omega
theorem cmpM_trans {n : Int} {X W M : Int → Int} (h : Prof n X W M) {s a b c d e f : Int} (h1 : 0 ≤ a ∧ a ≤ b ∧ b < n) (h2 : 0 ≤ c ∧ c ≤ d ∧ d < n) (h3 : 0 ≤ e ∧ e ≤ f ∧ f < n) (p : s * cmpM W M a b c d ≤ 0) (q : s * cmpM W M c d e f ≤ 0) : s * cmpM W M a b e f ≤ 0 :=
  cmp_trans (wt_pos h h1.1 h1.2.1 h1.2.2) (wt_pos h h2.1 h2.2.1 h2.2.2) (wt_pos h h3.1 h3.2.1 h3.2.2) p q
/-- ties of the greatest mean: unions of two of them are ties -/
theorem cmp_union (W M : Int → Int) (s f l f' l' F T : Int) : s * cmpM W M f l F T + s * cmpM W M f' l' F T = s * cmpM W M f l' F T + s * cmpM W M f' l F T := by
  unfold cmpM
  grind
def FTI (n : Int) (W M : Int → Int) (side t f l F T : Int) : Prop := (0 ≤ F ∧ F ≤ t ∧ t ≤ T ∧ T < n) ∧ ∀ f' l' : Int, 0 ≤ f' → f' ≤ t → t ≤ l' → l' < n → (f < f' ∨ (f' = f ∧ l' < l)) → side * cmpM W M f' l' F T ≤ 0 ∧ (side * cmpM W M f' l' F T = 0 → F < f' ∨ (F = f' ∧ l' ≤ T))
theorem FTI_keep {n : Int} {W M : Int → Int} {side t f l F T : Int} (h : FTI n W M side t f l F T) (hc : side * cmpM W M f l F T < 0) : FTI n W M side t f (l + 1) F T := ⟨h.1, fun f' l' h0 h1 h2 h3 hv => by
  by_cases q : f' = f ∧ l' = l
  · obtain ⟨rfl, rfl⟩ := q; exact ⟨by omega, fun e => by omega⟩
  · exact h.2 f' l' h0 h1 h2 h3 (by omega)⟩
theorem FTI_take {n : Int} {X W M : Int → Int} (hP : Prof n X W M) {side t f l F T : Int} (h : FTI n W M side t f l F T) (hf : 0 ≤ f ∧ f ≤ t ∧ t ≤ l ∧ l < n) (hc : 0 ≤ side * cmpM W M f l F T) : FTI n W M side t f (l + 1) f l := ⟨hf, fun f' l' h0 h1 h2 h3 hv => by
  by_cases q : f' = f ∧ l' = l
  · obtain ⟨rfl, rfl⟩ := q
    have e : cmpM W M f' l' f' l' = 0 := by unfold cmpM; omega
    rw [e]
    exact ⟨by omega, fun _ => by omega⟩
  · have hk := h.2 f' l' h0 h1 h2 h3 (by omega)
    have hF := h.1
    refine ⟨cmpM_trans hP (c := F) (d := T) (by omega) (by omega) (by omega) hk.1 ?_, fun _ => by omega⟩
    rw [cmpM_anti, Int.mul_neg]; omega⟩
theorem FTI_next {n : Int} {W M : Int → Int} {side t f l F T : Int} (h : FTI n W M side t f l F T) (hl : n ≤ l) : FTI n W M side t (f - 1) t F T := ⟨h.1, fun f' l' h0 h1 h2 h3 hv => h.2 f' l' h0 h1 h2 h3 (by omega)⟩
theorem FTI_0 {n : Int} {W M : Int → Int} {side t : Int} (ht : 0 ≤ t ∧ t < n) : FTI n W M side t t t t t := ⟨by omega, fun f' l' h0 h1 h2 h3 hv => by omega⟩
theorem FTI_end {n : Int} {W M : Int → Int} {side t f l F T : Int} (h : FTI n W M side t f l F T) (hf : f < 0) : TopIs n W M side t F T := ⟨h.1, fun f' l' h0 h1 h2 h3 => by
  have hk := h.2 f' l' h0 h1 h2 h3 (by omega)
  refine ⟨hk.1, fun e => ?_⟩
  have hF := h.1
  rcases hk.2 e with q | q
  · refine ⟨by omega, ?_⟩
    by_cases r : l' ≤ T
    · exact r
    · -- the union [F, l'] is a tie, too
      have u := cmp_union W M side F T f' l' F T
      have e0 : cmpM W M F T F T = 0 := by unfold cmpM; omega
      have k1 := h.2 F l' (by omega) (by omega) h2 h3 (by omega)
      have k2 := h.2 f' T h0 h1 (by omega) (by omega) (by omega)
      rw [e0] at u
      have := k1.2 (by omega)
      omega
  · omega⟩
/-! how the class's object holds blocks -/
def BlkIs (σ : Mem) (B : List Int) : Prop := σ 43 2 = B.length ∧ ∀ j : Int, 0 ≤ j → j < B.length → σ 44 j = at0 B j
def SameB (σ u : Mem) : Prop := ∀ a : Nat, a ≠ 43 → a ≠ 44 → u a = σ a
theorem Tb.eq {σ u : Mem} {n : Int} {X C W M : Int → Int} {q : Int} (h : Tb σ n X C W M q) (h0 : u 38 = σ 38) (h1 : u 39 = σ 39) (h2 : u 40 = σ 40) (h3 : u 41 = σ 41) (h4 : u 42 = σ 42) : Tb u n X C W M q := by
  unfold Tb
  rw [h0, h1, h2, h3, h4]
  exact h
theorem Tb.same {σ u : Mem} {n : Int} {X C W M : Int → Int} {q : Int} (h : Tb σ n X C W M q) (hs : SameB σ u) : Tb u n X C W M q := h.eq (hs 38 (by omega) (by omega)) (hs 39 (by omega) (by omega)) (hs 40 (by omega) (by omega)) (hs 41 (by omega) (by omega)) (hs 42 (by omega) (by omega))
theorem SameB.trans {σ τ u : Mem} (h : SameB σ τ) (h' : SameB τ u) : SameB σ u := fun a h0 h1 => (h' a h0 h1).trans (h a h0 h1)
theorem SameB.rf {σ : Mem} : SameB σ σ := fun _ _ _ => rfl
theorem blk_open {σ : Mem} {B : List Int} {s : Int} (h : BlkIs σ B) : BlkIs (up (up σ 44 (σ 43 2) s) 43 2 (σ 43 2 + 1)) (B ++ [s]) := by
  obtain ⟨a, b⟩ := h
  refine ⟨by rw [up_same, a]; simp, fun j h0 h1 => ?_⟩
  rw [List.length_append, List.length_singleton] at h1
  rw [up_ne (by omega), up_at, a]
  by_cases q : j = B.length
  · rw [if_pos ⟨rfl, q⟩, (at0_app h0).2 q]
  · rw [if_neg (by omega), (at0_app h0).1 (by omega)]; exact b j h0 (by omega)
theorem blk_split (B : List Int) (b : Int) (bs : List Int) : B ++ (b :: bs).reverse = (B ++ bs.reverse) ++ [b] := by rw [List.reverse_cons, List.append_assoc]
theorem blk_top {σ : Mem} {B : List Int} {b : Int} {bs : List Int} (h : BlkIs σ (B ++ (b :: bs).reverse)) : σ 44 ((B.length : Int) + bs.length) = b := by
  rw [h.2 _ (by omega) (by simp; omega), blk_split]
  refine (at0_app (by omega)).2 ?_
  simp
theorem blk_pop {σ : Mem} {B : List Int} {b : Int} {bs : List Int} {x : Int} (h : BlkIs σ (B ++ (b :: bs).reverse)) (hx : x = (B.length : Int) + bs.length) : BlkIs (up σ 43 2 x) (B ++ bs.reverse) := by
  subst hx
  refine ⟨by rw [up_same]; simp, fun j h0 h1 => ?_⟩
  rw [up_ne (by omega), h.2 j h0 (by simp at h1 ⊢; omega), blk_split]
  exact (at0_app h0).1 h1
theorem at0_nil (i : Int) : at0 [] i = 0 := by simp [at0]
theorem up_ft (σ : Mem) (F T f l : Int) : up (up (up (up σ 43 3 F) 43 4 T) 43 3 f) 43 4 l = up (up σ 43 3 f) 43 4 l := by
  funext a b
  simp only [up_at]
  by_cases h : a = 43 ∧ b = 4
  · simp [h]
  · by_cases g : a = 43 ∧ b = 3
    · simp [g]
    · simp [h, g]
theorem pkB_eq {n : Int} {W M : Int → Int} {side t F T : Int} (h : TopIs n W M side t F T) : pkB n W M side t = (([] ++ (poolL side W M 0 (F - 1 + 1 - 0).toNat).reverse) ++ [F]) ++ (poolL (-side) W M (T + 1) (n - 1 + 1 - (T + 1)).toNat).reverse := by
  unfold pkB
  rw [topFT_eq h]
  unfold peakS
  rw [List.reverse_append, List.reverse_cons, List.nil_append, show F - 1 + 1 - 0 = F by omega, show n - 1 + 1 - (T + 1) = n - T - 1 by omega]
theorem shp0 {σ u : Mem} {n : Int} {W M : Int → Int} {q kind : Int} (hn : 0 ≤ n) (hk : kind = 0) (hl : BlkIs u (poolL 1 W M 0 n.toNat).reverse) (hs : SameB σ u) : BlkIs u (kB n W M q kind) ∧ Asc n (kB n W M q kind) ∧ SameB σ u := by
  have e : kB n W M q kind = (poolL 1 W M 0 n.toNat).reverse := by
    unfold kB
    rw [if_neg (by omega), if_pos hk]
  rw [e]
  exact ⟨hl, pool_asc hn, hs⟩
theorem shp1 {σ u : Mem} {n : Int} {W M : Int → Int} {q kind : Int} (hn : 0 ≤ n) (hk : kind = 1) (hl : BlkIs u (poolL (-1) W M 0 n.toNat).reverse) (hs : SameB σ u) : BlkIs u (kB n W M q kind) ∧ Asc n (kB n W M q kind) ∧ SameB σ u := by
  have e : kB n W M q kind = (poolL (-1) W M 0 n.toNat).reverse := by
    unfold kB
    rw [if_neg (by omega), if_neg (by omega)]
  rw [e]
  exact ⟨hl, pool_asc hn, hs⟩
theorem shp2 {σ u : Mem} {n : Int} {W M : Int → Int} {q kind side : Int} (hn : n = 0) (hk : 2 ≤ kind) (hl : BlkIs u (poolL side W M 0 n.toNat).reverse) (hs : SameB σ u) : BlkIs u (kB n W M q kind) ∧ Asc n (kB n W M q kind) ∧ SameB σ u := by
  have e : kB n W M q kind = [] := by
    unfold kB
    rw [if_pos hk, if_neg (by omega)]
  rw [e]
  rw [show n.toNat = 0 by omega] at hl
  exact ⟨hl, Asc_nil hn, hs⟩
