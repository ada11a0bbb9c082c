/-! the reference's blocks -/
def MBlk (τ : Mem) (W M : Int → Int) (B : List Int) (e : Int) : Prop := τ 0 12 = B.length ∧ ∀ j : Int, 0 ≤ j → j < B.length → τ 9 j = at0 B j ∧ τ 10 j = W (bEnd B e j + 1) - W (at0 B j) ∧ τ 11 j = M (bEnd B e j + 1) - M (at0 B j)
theorem MBlk.eq {σ u : Mem} {W M : Int → Int} {B : List Int} {e : Int} (h : MBlk σ W M B e) (h0 : u 0 12 = σ 0 12) (h9 : u 9 = σ 9) (h10 : u 10 = σ 10) (h11 : u 11 = σ 11) : MBlk u W M B e := by
  unfold MBlk
  rw [h0, h9, h10, h11]
  exact h
theorem mblk_0 {σ : Mem} {W M : Int → Int} {e : Int} : MBlk (up σ 0 12 0) W M [] e := ⟨by rw [up_same]; rfl, fun j h0 h1 => by simp at h1; omega⟩
theorem bEnd_app {B : List Int} {s e j : Int} (h0 : 0 ≤ j) : (j < B.length → bEnd (B ++ [s]) e j = bEnd B s j) ∧ (j = B.length → bEnd (B ++ [s]) e j = e - 1) := by
  unfold bEnd
  rw [List.length_append, List.length_singleton]
  constructor
  · intro h
    rw [if_pos (by omega)]
    by_cases q : j + 1 = B.length
    · rw [(at0_app (by omega)).2 q, if_neg (by omega)]
    · rw [(at0_app (by omega)).1 (by omega), if_pos (by omega)]
  · intro h
    rw [if_neg (by omega)]
theorem mblk_push {τ : Mem} {W M : Int → Int} {B : List Int} {s e w m : Int} (h : MBlk τ W M B s) (hw : w = W e - W s) (hm : m = M e - M s) : MBlk (up (up (up (up τ 9 (B.length : Int) s) 11 (B.length : Int) m) 10 (B.length : Int) w) 0 12 ((B.length : Int) + 1)) W M (B ++ [s]) e := by
  refine ⟨by rw [up_same]; simp, fun j h0 h1 => ?_⟩
  rw [List.length_append, List.length_singleton] at h1
  simp only [up_at]
  by_cases q : j = B.length
  · rw [(at0_app h0).2 q, (bEnd_app h0).2 q, show e - 1 + 1 = e by omega, ← hw, ← hm, q]
    exact ⟨by simp, by simp, by simp⟩
  · rw [(at0_app h0).1 (by omega), (bEnd_app h0).1 (by omega)]
    have := h.2 j h0 (by omega)
    simp [q]
    exact this
theorem mblk_top {τ : Mem} {W M : Int → Int} {B : List Int} {b : Int} {bs : List Int} {s x : Int} (h : MBlk τ W M (B ++ (b :: bs).reverse) s) (hx : x = (B.length : Int) + bs.length) : (τ 9 x = b ∧ τ 10 x = W s - W b ∧ τ 11 x = M s - M b) ∧ MBlk (up τ 0 12 x) W M (B ++ bs.reverse) b := by
  rw [blk_split] at h
  have hl : ((B ++ bs.reverse).length : Int) = x := by rw [hx]; simp
  generalize hC : B ++ bs.reverse = C at h hl
  refine ⟨?_, ⟨by rw [up_same, hl], fun j h0 h1 => ?_⟩⟩
  · have e := h.2 x (by omega) (by simp; omega)
    rw [(at0_app (by omega)).2 hl.symm, (bEnd_app (by omega)).2 hl.symm, show s - 1 + 1 = s by omega] at e
    exact e
  · have e := h.2 j h0 (by simp; omega)
    rw [(at0_app h0).1 h1, (bEnd_app h0).1 h1] at e
    rw [up_ne (by omega), up_ne (by omega), up_ne (by omega)]
    exact e
/-! neighbours differ in mean -/
def AdjN (W M : Int → Int) : Int → List Int → Prop
  | _, [] => True
  | _, [_] => True
  | e, b :: c :: bs => cmpM W M c (b - 1) b (e - 1) ≠ 0 ∧ AdjN W M b (c :: bs)
theorem AdjN.tail {W M : Int → Int} {e b : Int} {bs : List Int} (h : AdjN W M e (b :: bs)) : AdjN W M b bs := by
  cases bs with
  | nil => trivial
  | cons c bs => exact h.2
theorem popL_adj {side : Int} {W M : Int → Int} {g : Int} : ∀ (stk : List Int) (s : Int), AdjN W M s stk → AdjN W M (g + 1) (popL side W M stk s g) := by
  intro stk
  induction stk with
  | nil => intro s h; trivial
  | cons b bs ih =>
    intro s h
    by_cases q : side * cmpM W M b (s - 1) s g < 0
    · rw [popL_stop q]
      refine ⟨?_, h⟩
      rw [show g + 1 - 1 = g by omega]
      intro e
      rw [e, Int.mul_zero] at q
      omega
    · rw [popL_go q]; exact ih b h.tail
theorem poolL_adj {side : Int} {W M : Int → Int} {a : Int} : ∀ k : Nat, AdjN W M (a + k) (poolL side W M a k) := by
  intro k
  induction k with
  | zero => trivial
  | succ k ih =>
    rw [show a + ((k + 1 : Nat) : Int) = a + k + 1 by omega]
    exact popL_adj _ _ ih
theorem adj_app {W M : Int → Int} {F T1 : Int} {l2 : List Int} (h2 : AdjN W M T1 (F :: l2)) : ∀ (l1 : List Int) (n : Int), Stk T1 n l1 → AdjN W M n l1 → (∀ e : Int, T1 < e → e ≤ n → cmpM W M F (T1 - 1) T1 (e - 1) ≠ 0) → AdjN W M n (l1 ++ F :: l2) := by
  intro l1
  induction l1 with
  | nil => intro n h _ _; have : n = T1 := h; subst this; exact h2
  | cons b bs ih =>
    intro n h ha hb
    cases bs with
    | nil =>
      have e : b = T1 := h.2.2
      subst e
      exact ⟨hb n h.2.1 (Int.le_refl _), h2⟩
    | cons c bs => exact ⟨ha.1, ih b h.2.2 ha.2 (fun e h0 h1 => hb e h0 (by have := h.2.1; omega))⟩
theorem adj_at {W M : Int → Int} : ∀ (stk : List Int) (n : Int), AdjN W M n stk → ∀ j : Int, 1 ≤ j → j < stk.length → cmpM W M (at0 stk.reverse (j - 1)) (at0 stk.reverse j - 1) (at0 stk.reverse j) (bEnd stk.reverse n j) ≠ 0 := by
  intro stk
  induction stk with
  | nil => intro n _ j h0 h1; simp at h1; omega
  | cons b bs ih =>
    intro n h j h0 h1
    have hl : ((bs.reverse).length : Int) = bs.length := by simp
    rw [List.reverse_cons]
    rw [List.length_cons] at h1
    by_cases q : j = bs.length
    · cases bs with
      | nil => simp at q; omega
      | cons c bs =>
        rw [(at0_app (i := j) (by omega)).2 (by omega), (at0_app (i := j - 1) (by omega)).1 (by omega), (bEnd_app (by omega)).2 (by omega)]
        have e : at0 (c :: bs).reverse (j - 1) = c := by
          rw [List.reverse_cons]
          exact (at0_app (by omega)).2 (by rw [q]; simp)
        rw [e]
        exact h.1
    · rw [(at0_app (i := j) (by omega)).1 (by omega), (at0_app (i := j - 1) (by omega)).1 (by omega), (bEnd_app (by omega)).1 (by omega)]
      exact ih b h.tail j h0 (by omega)
def AdjB (W M : Int → Int) (B : List Int) (n : Int) : Prop := ∀ j : Int, 1 ≤ j → j < B.length → cmpM W M (at0 B (j - 1)) (at0 B j - 1) (at0 B j) (bEnd B n j) ≠ 0
theorem adj_pool {side : Int} {W M : Int → Int} {n : Int} (hn : 0 ≤ n) : AdjB W M (poolL side W M 0 n.toNat).reverse n := fun j h0 h1 => by
  have h := poolL_adj (side := side) (W := W) (M := M) (a := 0) n.toNat
  rw [show (0 : Int) + (n.toNat : Int) = n by omega] at h
  exact adj_at _ n h j h0 (by simpa using h1)
theorem adj_peak {n : Int} {X W M : Int → Int} (hP : Prof n X W M) {side t F T : Int} (h : TopIs n W M side t F T) : AdjB W M (pkB n W M side t) n ∧ Asc n (pkB n W M side t) := by
  obtain ⟨h1, h2⟩ := id h
  unfold pkB
  rw [topFT_eq h]
  refine ⟨fun j h0 h3 => adj_at _ n ?_ j h0 (by simpa using h3), (peakS_stk (by omega)).toAsc⟩
  unfold peakS
  have s1 := poolL_stk (side := side) (W := W) (M := M) (a := 0) F.toNat
  have s2 := poolL_stk (side := -side) (W := W) (M := M) (a := T + 1) (n - T - 1).toNat
  have a1 := poolL_adj (side := side) (W := W) (M := M) (a := 0) F.toNat
  have a2 := poolL_adj (side := -side) (W := W) (M := M) (a := T + 1) (n - T - 1).toNat
  rw [show (0 : Int) + (F.toNat : Int) = F by omega] at s1 a1
  rw [show T + 1 + ((n - T - 1).toNat : Int) = n by omega] at s2 a2
  refine adj_app ?_ _ n s2 a2 (fun e h3 h4 hz => ?_)
  · generalize poolL side W M 0 F.toNat = l2 at *
    cases l2 with
    | nil => trivial
    | cons c bs =>
      refine ⟨fun hz => ?_, a1⟩
      have hc := s1.1
      have hc2 := s1.2.1
      have e : cmpM W M c T F T = 0 := by
        have e2 : cmpM W M c T F T = cmpM W M c (F - 1) F (T + 1 - 1) := by
          unfold cmpM
          rw [show T + 1 - 1 = T by omega, show F - 1 + 1 = F by omega]
          grind
        rw [e2, hz]
      have := (h2 c T hc (by omega) (by omega) (by omega)).2 (by rw [e]; omega)
      omega
  · have e2 : cmpM W M F (e - 1) F T = 0 := by
      have e3 : cmpM W M F (e - 1) F T = -cmpM W M F (T + 1 - 1) (T + 1) (e - 1) := by
        unfold cmpM
        rw [show T + 1 - 1 = T by omega]
        grind
      rw [e3, hz]; rfl
    have := (h2 F (e - 1) h1.1 h1.2.1 (by omega) (by omega)).2 (by rw [e2]; omega)
    omega
/-! the reference's search of the turn's block: the longest of the greatest -/
def FTL (n : Int) (W M : Int → Int) (side t f l F T : Int) : Prop := (0 ≤ F ∧ F ≤ t ∧ t ≤ T ∧ T < n) ∧ ∀ f' l' : Int, 0 ≤ f' → f' ≤ t → t ≤ l' → l' < n → (f < f' ∨ (f' = f ∧ l' < l)) → side * cmpM W M f' l' F T ≤ 0 ∧ (side * cmpM W M f' l' F T = 0 → l' - f' ≤ T - F)
theorem FTL_0 {n : Int} {W M : Int → Int} {side t : Int} (ht : 0 ≤ t ∧ t < n) : FTL n W M side t t t t t := ⟨by omega, fun f' l' h0 h1 h2 h3 hv => by omega⟩
theorem FTL_next {n : Int} {W M : Int → Int} {side t f l F T : Int} (h : FTL n W M side t f l F T) (hl : n ≤ l) : FTL n W M side t (f - 1) t F T := ⟨h.1, fun f' l' h0 h1 h2 h3 hv => h.2 f' l' h0 h1 h2 h3 (by omega)⟩
theorem FTL_keep {n : Int} {W M : Int → Int} {side t f l F T c : Int} (h : FTL n W M side t f l F T) (hc : c = side * cmpM W M f l F T) (hk : c < 0 ∨ (c = 0 ∧ l - f ≤ T - F)) : FTL n W M side t f (l + 1) F T := ⟨h.1, fun f' l' h0 h1 h2 h3 hv => by
  by_cases q : f' = f ∧ l' = l
  · obtain ⟨rfl, rfl⟩ := q; exact ⟨by omega, fun e => by omega⟩
  · exact h.2 f' l' h0 h1 h2 h3 (by omega)⟩
theorem FTL_take {n : Int} {X W M : Int → Int} (hP : Prof n X W M) {side t f l F T c : Int} (h : FTL n W M side t f l F T) (hf : 0 ≤ f ∧ f ≤ t ∧ t ≤ l ∧ l < n) (hc : c = side * cmpM W M f l F T) (hk : 0 < c ∨ (c = 0 ∧ T - F < l - f)) : FTL n W M side t f (l + 1) f l := ⟨hf, fun f' l' h0 h1 h2 h3 hv => by
  by_cases q : f' = f ∧ l' = l
  · obtain ⟨rfl, rfl⟩ := q
    have e : cmpM W M f' l' f' l' = 0 := by unfold cmpM; omega
    rw [e]
    exact ⟨by omega, fun _ => by omega⟩
  · have hk2 := h.2 f' l' h0 h1 h2 h3 (by omega)
    have hF := h.1
    have a1 : side * cmpM W M F T f l ≤ 0 := by rw [cmpM_anti, Int.mul_neg]; omega
    refine ⟨cmpM_trans hP (c := F) (d := T) (by omega) (by omega) (by omega) hk2.1 a1, fun e => ?_⟩
    have a2 : side * cmpM W M f l f' l' ≤ 0 := by rw [cmpM_anti, Int.mul_neg]; omega
    have a3 := cmpM_trans hP (c := f') (d := l') (by omega) (by omega) (by omega) a2 hk2.1
    have a4 : side * cmpM W M F T f' l' ≤ 0 := cmpM_trans hP (c := f) (d := l) (by omega) (by omega) (by omega) a1 a2
    rw [cmpM_anti, Int.mul_neg] at a4
    have := hk2.2 (by omega)
    omega⟩
theorem FTL_end {n : Int} {W M : Int → Int} {side t f l F T : Int} (h : FTL n W M side t f l F T) (hf : f < 0) : TopIs n W M side t F T := ⟨h.1, fun f' l' h0 h1 h2 h3 => by
  have hk := h.2 f' l' h0 h1 h2 h3 (by omega)
  refine ⟨hk.1, fun e => ?_⟩
  have hF := h.1
  have u := cmp_union W M side F T f' l' F T
  have e0 : cmpM W M F T F T = 0 := by unfold cmpM; omega
  have k1 := h.2 F l' (by omega) (by omega) h2 h3 (by omega)
  have k2 := h.2 f' T h0 h1 (by omega) (by omega) (by omega)
  rw [e0] at u
  have := k1.2 (by omega)
  have := k2.2 (by omega)
  omega⟩
/-- blocks with the end behind them -/
def MBlE (τ : Mem) (W M : Int → Int) (B : List Int) (n : Int) : Prop := MBlk τ W M B n ∧ τ 9 (B.length : Int) = n
theorem MBlE.fr {σ u : Mem} {W M : Int → Int} {B : List Int} {n : Int} (h : MBlE σ W M B n) {lo hi : Nat} {f1 f2 : Int} (hF : Fr lo hi f1 f2 σ u) (h1 : 11 < lo ∨ hi < 9) (hf : f1 ≠ 12 ∧ f2 ≠ 12) : MBlE u W M B n :=
  ⟨h.1.eq (hF.2 12 (by omega) (by omega)) (hF.1 9 (by omega) (by omega)) (hF.1 10 (by omega) (by omega)) (hF.1 11 (by omega) (by omega)), by rw [hF.1 9 (by omega) (by omega)]; exact h.2⟩
theorem mble_first {τ : Mem} {W M : Int → Int} {B : List Int} {n : Int} (h : MBlE τ W M B n) {j : Int} (h0 : 0 ≤ j) (h1 : j < B.length) : τ 9 (j + 1) = bEnd B n j + 1 := by
  unfold bEnd
  split
  · rw [(h.1.2 (j + 1) (by omega) (by omega)).1]; omega
  · rw [show j + 1 = (B.length : Int) by omega, h.2]; omega
theorem mble_set {σ : Mem} {W M : Int → Int} {B : List Int} {n k : Int} (h : MBlk σ W M B n) (hk : k = B.length) : MBlE (up σ 9 k n) W M B n := by
  subst hk
  exact ⟨⟨h.1, fun j h0 h1 => by
    rw [up_nj (by omega)]
    exact h.2 j h0 h1⟩, up_same _ _ _ _⟩
/-- what the reference's reckoning reads -/
def MG (σ : Mem) (P : List Pt) : Prop := PtsAt σ 1 0 P ∧ ptsOk P ∧ GrIs σ P
theorem MG.fr {σ u : Mem} {P : List Pt} (h : MG σ P) {lo hi : Nat} {f1 f2 : Int} (hF : Fr lo hi f1 f2 σ u) (h1 : 8 < lo ∨ hi < 1) (hf : f1 ≠ 8 ∧ f2 ≠ 8) : MG u P :=
  ⟨h.1.eq (hF.1 1 (by omega) (by omega)), h.2.1, h.2.2.fr hF (by omega) hf⟩
theorem MG.prof {σ : Mem} {P : List Pt} (h : MG σ P) : Prof (ng P) (gX P) (gW P) (gM P) := prof_of h.2.1 h.1.2.1
theorem mblk_len {τ : Mem} {W M : Int → Int} {B stk : List Int} {e : Int} (h : MBlk τ W M (B ++ stk.reverse) e) : τ 0 12 = (B.length : Int) + stk.length := by rw [h.1]; simp
theorem gain_tdiv {W M : Int → Int} {a b w m : Int} (hw : w = W (b + 1) - W a) (hm : m = M (b + 1) - M a) : (5354228880 : Int).tdiv w * m * m = gain W M a b := by
  subst hw hm
  rw [Int.tdiv_eq_ediv_of_nonneg (by omega)]
  unfold gain
  grind
theorem kdB_low {P : List Pt} {kind : Int} (h : kind < 2) : kdB P kind = (poolL (if kind = 0 then 1 else -1) (gW P) (gM P) 0 (ng P).toNat).reverse := by
  unfold kdB kB
  rw [if_neg (by omega)]
theorem kdB_high {P : List Pt} {kind : Int} (h : 2 ≤ kind) (hn : 0 < ng P) : kdB P kind = pkB (ng P) (gW P) (gM P) (if kind = 2 then 1 else -1) (bTurn (ng P) (gW P) (gM P) (gQ P) (if kind = 2 then 1 else -1)) := by
  unfold kdB kB
  rw [if_pos h, if_pos hn]
