/-! the table of groups -/
def fS (P : List Pt) (f : Int → Int) (x i : Int) : Int := smI (fun i => if px P i = x then f i else 0) i
theorem fS_all (P : List Pt) (f : Int → Int) (x : Int) : fS P f x P.length = fAt P f x := rfl
theorem fS_0 (P : List Pt) (f : Int → Int) (x : Int) : fS P f x 0 = 0 := rfl
theorem fS_hit {P : List Pt} {f : Int → Int} {x i : Int} (h0 : 0 ≤ i) (h : px P i = x) : fS P f x (i + 1) = fS P f x i + f i := by
  unfold fS
  rw [smI_s _ h0, if_pos h]
theorem fS_miss {P : List Pt} {f : Int → Int} {x i : Int} (h0 : 0 ≤ i) (h : px P i ≠ x) : fS P f x (i + 1) = fS P f x i := by
  unfold fS
  rw [smI_s _ h0, if_neg h]; omega
def fq (P : List Pt) (i : Int) : Int := pw P i * pv P i * pv P i
def fm (P : List Pt) (i : Int) : Int := pw P i * pv P i
def Tb (σ : Mem) (n : Int) (X C W M : Int → Int) (q : Int) : Prop := σ 38 4 = n ∧ σ 38 5 = q ∧ (∀ g : Int, 0 ≤ g → g < n → σ 39 g = X g ∧ σ 40 g = C g) ∧ ∀ g : Int, 0 ≤ g → g ≤ n → σ 41 g = W g ∧ σ 42 g = M g
def TabIs (σ : Mem) (P : List Pt) : Prop := Tb σ (ng P) (gX P) (gC P) (gW P) (gM P) (gQ P)
def SameT (σ u : Mem) : Prop := ∀ a : Nat, (a < 38 ∨ 42 < a) → u a = σ a
theorem gs_all {P : List Pt} (hP : ptsOk P) (f : Int → Int) : smI (fun h => fAt P f (gX P h)) (ng P) = smI f P.length :=
  (fAt_pre (f := f) hP 41).trans (smI_congr (by omega) (fun i h0 h1 => if_pos (by have := px_ok hP h0 h1; omega)))
theorem gX_all {P : List Pt} (hP : ptsOk P) {i : Int} (h0 : 0 ≤ i) (h1 : i < P.length) : ∃ g : Int, 0 ≤ g ∧ g < ng P ∧ gX P g = px P i :=
  at0_of_mem (l := gsU P 41) ((gsU_mem 41 _).mpr ⟨(px_ok hP h0 h1).1, by have := (px_ok hP h0 h1).2; omega, i, h0, h1, rfl⟩)
theorem behind_next {P : List Pt} (hP : ptsOk P) {x z g : Int} (hg : 0 ≤ g ∧ g ≤ ng P) (ha : ∀ h : Int, 0 ≤ h → h < g → gX P h ≤ x) (hb : ∀ h : Int, g ≤ h → h < ng P → x < gX P h) (hB : Behind P x P.length z) : (z = -1 ∧ g = ng P) ∨ (g < ng P ∧ z = gX P g) := by
  rcases hB with ⟨a, b⟩ | ⟨a, ⟨i, b, c, d⟩, e⟩
  · refine Or.inl ⟨a, ?_⟩
    by_cases q : g < ng P
    · obtain ⟨-, -, i, i0, i1, i2⟩ := gX_occ hg.1 q
      have := b i i0 i1; have := hb g (Int.le_refl g) q; omega
    · omega
  · obtain ⟨h, h0, h1, h2⟩ := gX_all hP b c
    have hgh : g ≤ h := by
      by_cases q : h < g
      · have := ha h h0 q; omega
      · omega
    have q : g < ng P := by omega
    refine Or.inr ⟨q, ?_⟩
    obtain ⟨-, -, i', i0, i1, i2⟩ := gX_occ hg.1 q
    have h3 := e i' i0 i1 (by rw [i2]; exact hb g (Int.le_refl g) q)
    by_cases r : g = h
    · subst r; omega
    · have := gsU_asc (P := P) 41 g h hg.1 (by omega) h1
      unfold gX at *; omega
def TabPart (σ τ : Mem) (P : List Pt) (g : Int) : Prop := τ 38 4 = g ∧ τ 38 5 = smI (fun h => fAt P (fq P) (gX P h)) g ∧ (∀ h : Int, 0 ≤ h → h < g → τ 39 h = gX P h ∧ τ 40 h = gC P h) ∧ (∀ h : Int, 0 ≤ h → h ≤ g → τ 41 h = gW P h ∧ τ 42 h = gM P h) ∧ SameT σ τ
def gUp (σ : Mem) (P : List Pt) (g x : Int) : Mem := up (up (up (up (up (up σ 38 5 (σ 38 5 + fAt P (fq P) x)) 39 g x) 40 g (fAt P (fun _ => 1) x)) 41 (g + 1) (σ 41 g + fAt P (pw P) x)) 42 (g + 1) (σ 42 g + fAt P (fm P) x)) 38 4 (g + 1)
theorem tabPart_0 {σ : Mem} {P : List Pt} (h1 : σ 41 0 = 0) (h2 : σ 42 0 = 0) : TabPart σ (up (up σ 38 4 0) 38 5 0) P 0 := by
  refine ⟨rfl, rfl, fun h a b => by omega, fun h a b => ?_, fun a h => by rw [up_ne (by omega), up_ne (by omega)]⟩
  have e : h = 0 := by omega
  subst e
  exact ⟨h1, h2⟩
theorem tabPart_s {σ τ : Mem} {P : List Pt} {g x : Int} (h : TabPart σ τ P g) (hg : 0 ≤ g) (hx : x = gX P g) : TabPart σ (gUp τ P g x) P (g + 1) := by
  obtain ⟨a, b, c, d, e⟩ := h
  obtain ⟨d1, d2⟩ := d g hg (Int.le_refl g)
  have w1 : gW P (g + 1) = gW P g + fAt P (pw P) (gX P g) := smI_s _ hg
  have w2 : gM P (g + 1) = gM P g + fAt P (fm P) (gX P g) := smI_s _ hg
  refine ⟨rfl, ?_, fun h h0 h1 => ?_, fun h h0 h1 => ?_, fun a h => ?_⟩
  · show τ 38 5 + fAt P (fq P) x = _
    rw [smI_s _ hg, b, hx]
  · show (if h = g then x else τ 39 h) = _ ∧ (if h = g then fAt P (fun _ => 1) x else τ 40 h) = _
    by_cases q : h = g
    · subst q; rw [if_pos rfl, if_pos rfl, hx]; exact ⟨rfl, rfl⟩
    · rw [if_neg q, if_neg q]; exact c h h0 (by omega)
  · show (if h = g + 1 then τ 41 g + fAt P (pw P) x else τ 41 h) = _ ∧ (if h = g + 1 then τ 42 g + fAt P (fm P) x else τ 42 h) = _
    by_cases q : h = g + 1
    · subst q; rw [if_pos rfl, if_pos rfl, hx, w1, w2, d1, d2]; exact ⟨rfl, rfl⟩
    · rw [if_neg q, if_neg q]; exact d h h0 (by omega)
  · unfold gUp
    rw [up_ne (by omega), up_ne (by omega), up_ne (by omega), up_ne (by omega), up_ne (by omega), up_ne (by omega)]
    exact e a h
theorem tabPart_e {σ τ : Mem} {P : List Pt} {g : Int} (hP : ptsOk P) (h : TabPart σ τ P g) (hg : g = ng P) : TabIs τ P ∧ SameT σ τ := by
  subst hg
  obtain ⟨a, b, c, d, e⟩ := h
  exact ⟨⟨a, b.trans (gs_all hP (fq P)), c, d⟩, e⟩
/-! what is read off it -/
def cmpM (W M : Int → Int) (a b c d : Int) : Int := (M (b + 1) - M a) * (W (d + 1) - W c) - (M (d + 1) - M c) * (W (b + 1) - W a)
def gain (W M : Int → Int) (a b : Int) : Int := (M (b + 1) - M a) * (M (b + 1) - M a) * (5354228880 / (W (b + 1) - W a))
theorem mul_rg {a b A B : Int} (ha : -A ≤ a ∧ a ≤ A) (hb : -B ≤ b ∧ b ≤ B) : -(A * B) ≤ a * b ∧ a * b ≤ A * B := by
  have h1 : 0 ≤ (A - a) * (B - b) := Int.mul_nonneg (by omega) (by omega)
  have h2 : 0 ≤ (A + a) * (B + b) := Int.mul_nonneg (by omega) (by omega)
  have h3 : 0 ≤ (A - a) * (B + b) := Int.mul_nonneg (by omega) (by omega)
  have h4 : 0 ≤ (A + a) * (B - b) := Int.mul_nonneg (by omega) (by omega)
  rw [Int.sub_mul, Int.mul_sub, Int.mul_sub] at h1
  rw [Int.add_mul, Int.mul_add, Int.mul_add] at h2
  rw [Int.sub_mul, Int.mul_add, Int.mul_add] at h3
  rw [Int.add_mul, Int.mul_sub, Int.mul_sub] at h4
  omega
theorem prof_rg {n : Int} {X W M : Int → Int} (h : Prof n X W M) {a b : Int} (h0 : 0 ≤ a) (h1 : a ≤ b) (h2 : b ≤ n) : b - a ≤ W b - W a ∧ -(99 * (W b - W a)) ≤ M b - M a ∧ M b - M a ≤ 99 * (W b - W a) := by
  obtain ⟨⟨hn0, hn12, hW0, hM0, hW24⟩, hstep, -⟩ := h
  have : ∀ d : Int, 0 ≤ d → (a + d ≤ n → d ≤ W (a + d) - W a ∧ -(99 * (W (a + d) - W a)) ≤ M (a + d) - M a ∧ M (a + d) - M a ≤ 99 * (W (a + d) - W a)) := fun d hd => by
    refine iInd (p := fun d => a + d ≤ n → d ≤ W (a + d) - W a ∧ -(99 * (W (a + d) - W a)) ≤ M (a + d) - M a ∧ M (a + d) - M a ≤ 99 * (W (a + d) - W a)) (fun _ => ?_) (fun i hi ih hle => ?_) d hd
    · rw [show a + 0 = a by omega]; omega
    · have h3 := ih (by omega)
      have h4 := hstep (a + i) (by omega) (by omega)
      rw [show a + (i + 1) = a + i + 1 by omega]
      omega
  have := this (b - a) (by omega)
  rw [show a + (b - a) = b by omega] at this
  exact this h2
theorem prof_w {n : Int} {X W M : Int → Int} (h : Prof n X W M) {a b : Int} (h0 : 0 ≤ a) (h1 : a ≤ b) (h2 : b ≤ n) : 0 ≤ W b - W a ∧ W b - W a ≤ 24 ∧ -2376 ≤ M b - M a ∧ M b - M a ≤ 2376 ∧ 0 ≤ W a ∧ W b ≤ 24 := by
  have e1 := prof_rg h h0 h1 h2
  have e2 := prof_rg h (Int.le_refl 0) h0 (by omega)
  have e3 := prof_rg h (by omega) h2 (Int.le_refl n)
  have := h.1
  omega
theorem cmpM_rg {n : Int} {X W M : Int → Int} (h : Prof n X W M) {a b c d : Int} (ha : 0 ≤ a ∧ a ≤ b ∧ b < n) (hc : 0 ≤ c ∧ c ≤ d ∧ d < n) : -114048 ≤ cmpM W M a b c d ∧ cmpM W M a b c d ≤ 114048 := by
  have e1 := prof_w h ha.1 (b := b + 1) (by omega) (by omega)
  have e2 := prof_w h hc.1 (b := d + 1) (by omega) (by omega)
  have f1 := mul_rg (a := M (b + 1) - M a) (b := W (d + 1) - W c) (A := 2376) (B := 24) (by omega) (by omega)
  have f2 := mul_rg (a := M (d + 1) - M c) (b := W (b + 1) - W a) (A := 2376) (B := 24) (by omega) (by omega)
  unfold cmpM
  omega
theorem gain_rg {n : Int} {X W M : Int → Int} (h : Prof n X W M) {a b : Int} (ha : 0 ≤ a ∧ a ≤ b ∧ b < n) : 0 ≤ gain W M a b ∧ gain W M a b ≤ 30226687408834560 := by
  have e1 := prof_w h ha.1 (b := b + 1) (by omega) (by omega)
  have e2 := prof_rg h ha.1 (b := b + 1) (by omega) (by omega)
  have f1 := mul_rg (a := M (b + 1) - M a) (b := M (b + 1) - M a) (A := 2376) (B := 2376) (by omega) (by omega)
  have f2 : 0 ≤ (M (b + 1) - M a) * (M (b + 1) - M a) := by
    rcases Int.le_total 0 (M (b + 1) - M a) with q | q
    · exact Int.mul_nonneg q q
    · exact Int.mul_nonneg_of_nonpos_of_nonpos q q
  have f3 : 0 ≤ 5354228880 / (W (b + 1) - W a) := Int.ediv_nonneg (by omega) (by omega)
  have f4 : 5354228880 / (W (b + 1) - W a) ≤ 5354228880 := Int.ediv_le_self _ (by omega)
  have f5 := mul_rg (a := (M (b + 1) - M a) * (M (b + 1) - M a)) (b := 5354228880 / (W (b + 1) - W a)) (A := 5645376) (B := 5354228880) (by omega) (by omega)
  have f6 := Int.mul_nonneg f2 f3
  unfold gain
  omega
theorem gQ_rg {P : List Pt} (hP : ptsOk P) (hl : P.length ≤ 12) : 0 ≤ gQ P ∧ gQ P ≤ 235224 := by
  have h1 : ∀ i : Int, 0 ≤ i → i < P.length → 0 ≤ pw P i * pv P i * pv P i ∧ pw P i * pv P i * pv P i ≤ 19602 := fun i h0 h1 => by
    have a := pv_ok hP h0 h1
    have b := pw_ok hP h0 h1
    have c : 0 ≤ pv P i * pv P i := by
      rcases Int.le_total 0 (pv P i) with q | q
      · exact Int.mul_nonneg q q
      · exact Int.mul_nonneg_of_nonpos_of_nonpos q q
    have d := mul_rg (a := pv P i) (b := pv P i) (A := 99) (B := 99) (by omega) (by omega)
    have e := mul_rg (a := pw P i) (b := pv P i * pv P i) (A := 2) (B := 9801) (by omega) (by omega)
    have f := Int.mul_nonneg (a := pw P i) (by omega) c
    rw [Int.mul_assoc]
    omega
  have h2 : smI (fun _ => 0) P.length ≤ gQ P := smI_le (by omega) (fun i a b => (h1 i a b).1)
  have h3 : gQ P ≤ smI (fun _ => 19602) P.length := smI_le (by omega) (fun i a b => (h1 i a b).2)
  rw [smI_const _ (by omega)] at h2 h3
  omega
theorem up_up (σ : Mem) (k : Nat) (j z z' : Int) : up (up σ k j z) k j z' = up σ k j z' := by
  funext a b
  rw [up_at, up_at, up_at]
  split <;> rfl
