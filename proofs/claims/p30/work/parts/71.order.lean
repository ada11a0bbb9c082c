/-! blocks in order -/
def AdjR (R : Int → Int → Int → Prop) : Int → List Int → Prop
  | _, [] => True
  | _, [_] => True
  | e, b :: c :: bs => R c b e ∧ AdjR R b (c :: bs)
theorem AdjR.tail {R : Int → Int → Int → Prop} {e b : Int} {bs : List Int} (h : AdjR R e (b :: bs)) : AdjR R b bs := by
  cases bs with
  | nil => trivial
  | cons c bs => exact h.2
theorem AdjR.mono {R R' : Int → Int → Int → Prop} {a : Int} : ∀ (stk : List Int) (e : Int), Stk a e stk → (∀ c b e' : Int, a ≤ c → c < b → b < e' → e' ≤ e → R c b e' → R' c b e') → AdjR R e stk → AdjR R' e stk := by
  intro stk
  induction stk with
  | nil => intro e _ _ _; trivial
  | cons b bs ih =>
    intro e hs hm h
    cases bs with
    | nil => trivial
    | cons c bs =>
      have h1 := hs.2.1
      have h2 := hs.2.2.2.1
      exact ⟨hm c b e hs.2.2.1 h2 h1 (Int.le_refl e) h.1, ih b hs.2.2 (fun c b' e' q0 q1 q2 q3 => hm c b' e' q0 q1 q2 (by omega)) h.2⟩
theorem popL_adjR {s : Int} {W M : Int → Int} {g : Int} : ∀ (stk : List Int) (x : Int), AdjR (fun c b e => s * cmpM W M c (b - 1) b (e - 1) < 0) x stk → AdjR (fun c b e => s * cmpM W M c (b - 1) b (e - 1) < 0) (g + 1) (popL s W M stk x g) := by
  intro stk
  induction stk with
  | nil => intro x h; trivial
  | cons b bs ih =>
    intro x h
    by_cases q : s * cmpM W M b (x - 1) x g < 0
    · rw [popL_stop q]
      refine ⟨?_, h⟩
      show s * cmpM W M b (x - 1) x (g + 1 - 1) < 0
      rw [show g + 1 - 1 = g by omega]
      exact q
    · rw [popL_go q]; exact ih b h.tail
theorem poolL_adjR {s : Int} {W M : Int → Int} {a : Int} : ∀ k : Nat, AdjR (fun c b e => s * cmpM W M c (b - 1) b (e - 1) < 0) (a + k) (poolL s W M a k) := by
  intro k
  induction k with
  | zero => trivial
  | succ k ih =>
    rw [show a + ((k + 1 : Nat) : Int) = a + k + 1 by omega]
    exact popL_adjR _ _ ih
theorem adjR_app {R : Int → Int → Int → Prop} {F T1 : Int} {l2 : List Int} (h2 : AdjR R T1 (F :: l2)) : ∀ (l1 : List Int) (n : Int), Stk T1 n l1 → AdjR R n l1 → (∀ e : Int, T1 < e → e ≤ n → R F T1 e) → AdjR R n (l1 ++ F :: l2) := by
  intro l1
  induction l1 with
  | nil => intro n h _ _; have : n = T1 := h; subst this; exact h2
  | cons b bs ih =>
    intro n h ha hb
    cases bs with
    | nil =>
      have e : b = T1 := h.2.2
      subst e
      exact ⟨hb n h.2.1 (Int.le_refl _), h2⟩
    | cons c bs => exact ⟨ha.1, ih b h.2.2 ha.2 (fun e h0 h1 => hb e h0 (by have := h.2.1; omega))⟩
theorem bEnd_push {B : List Int} {s e j : Int} (h0 : 0 ≤ j) : (j < B.length → bEnd (B ++ [s]) e j = bEnd B s j) ∧ (j = B.length → bEnd (B ++ [s]) e j = e - 1) := by
  unfold bEnd
  rw [List.length_append, List.length_singleton]
  constructor
  · intro h
    rw [if_pos (by omega)]
    by_cases q : j + 1 = B.length
    · rw [(at0_app (by omega)).2 q, if_neg (by omega)]
    · rw [(at0_app (by omega)).1 (by omega), if_pos (by omega)]
  · intro h
    rw [if_neg (by omega)]
theorem adjR_at {R : Int → Int → Int → Prop} : ∀ (stk : List Int) (n : Int), AdjR R n stk → ∀ j : Int, 1 ≤ j → j < stk.length → R (at0 stk.reverse (j - 1)) (at0 stk.reverse j) (bEnd stk.reverse n j + 1) := by
  intro stk
  induction stk with
  | nil => intro n _ j h0 h1; simp at h1; omega
  | cons b bs ih =>
    intro n h j h0 h1
    have hl : ((bs.reverse).length : Int) = bs.length := by simp
    rw [List.reverse_cons]
    rw [List.length_cons] at h1
    by_cases q : j = bs.length
    · cases bs with
      | nil => simp at q; omega
      | cons c bs =>
        rw [(at0_app (i := j) (by omega)).2 (by omega), (at0_app (i := j - 1) (by omega)).1 (by omega), (bEnd_push (by omega)).2 (by omega)]
        have e : at0 (c :: bs).reverse (j - 1) = c := by
          rw [List.reverse_cons]
          exact (at0_app (by omega)).2 (by rw [q]; simp)
        rw [e, show n - 1 + 1 = n by omega]
        exact h.1
    · rw [(at0_app (i := j) (by omega)).1 (by omega), (at0_app (i := j - 1) (by omega)).1 (by omega), (bEnd_push (by omega)).1 (by omega)]
      exact ih b h.tail j h0 (by omega)
/-- sides of a peak: up to its block, and behind it -/
def Rpk (s : Int) (W M : Int → Int) (F T : Int) : Int → Int → Int → Prop := fun c b e => (b ≤ F → s * cmpM W M c (b - 1) b (e - 1) < 0) ∧ (F < b → T < b ∧ 0 < s * cmpM W M c (b - 1) b (e - 1))
theorem cmp_in (W M : Int → Int) (c b e : Int) : cmpM W M c (e - 1) b (e - 1) = cmpM W M c (b - 1) b (e - 1) := by
  unfold cmpM
  rw [show b - 1 + 1 = b by omega]
  grind
theorem cmp_out (W M : Int → Int) (c b e : Int) : cmpM W M c (e - 1) c (b - 1) = -cmpM W M c (b - 1) b (e - 1) := by
  unfold cmpM
  rw [show b - 1 + 1 = b by omega]
  grind
theorem pk_adj {n : Int} {W M : Int → Int} {s t F T : Int} (h : TopIs n W M s t F T) : AdjR (Rpk s W M F T) n (peakS s W M n F T) := by
  obtain ⟨h1, h2⟩ := id h
  unfold peakS
  have s1 := poolL_stk (side := s) (W := W) (M := M) (a := 0) F.toNat
  have s2 := poolL_stk (side := -s) (W := W) (M := M) (a := T + 1) (n - T - 1).toNat
  have a1 := poolL_adjR (s := s) (W := W) (M := M) (a := 0) F.toNat
  have a2 := poolL_adjR (s := -s) (W := W) (M := M) (a := T + 1) (n - T - 1).toNat
  rw [show (0 : Int) + (F.toNat : Int) = F by omega] at s1 a1
  rw [show T + 1 + ((n - T - 1).toNat : Int) = n by omega] at s2 a2
  have a1' : AdjR (Rpk s W M F T) F (poolL s W M 0 F.toNat) := AdjR.mono _ _ s1 (fun c b e q0 q1 q2 q3 r => ⟨fun _ => r, fun q => by omega⟩) a1
  have a2' : AdjR (Rpk s W M F T) n (poolL (-s) W M (T + 1) (n - T - 1).toNat) := AdjR.mono _ _ s2 (fun c b e q0 q1 q2 q3 r => ⟨fun q => by omega, fun _ => ⟨by omega, by
    have r' : -s * cmpM W M c (b - 1) b (e - 1) < 0 := r
    rw [Int.neg_mul] at r'
    omega⟩⟩) a2
  refine adjR_app ?_ _ n s2 a2' (fun e h3 h4 => ⟨fun q => by omega, fun _ => ⟨by omega, ?_⟩⟩)
  · generalize poolL s W M 0 F.toNat = l2 at *
    cases l2 with
    | nil => trivial
    | cons c bs =>
      refine ⟨⟨fun _ => ?_, fun q => by omega⟩, a1'⟩
      have hc := s1.1
      have hc2 := s1.2.1
      have k := h2 c T hc (by omega) (by omega) (by omega)
      have e := cmp_in W M c F (T + 1)
      rw [show T + 1 - 1 = T by omega] at e ⊢
      rw [← e]
      by_cases z : s * cmpM W M c T F T = 0
      · have := k.2 z; omega
      · omega
  · have k := h2 F (e - 1) h1.1 h1.2.1 (by omega) (by omega)
    have e3 := cmp_out W M F (T + 1) e
    rw [show T + 1 - 1 = T by omega] at e3 ⊢
    by_cases z : s * cmpM W M F (e - 1) F T = 0
    · have := k.2 z; omega
    · have k1 := k.1
      rw [e3, Int.mul_neg] at z k1
      omega
theorem pk_step {n : Int} {W M : Int → Int} {s t F T : Int} (h : TopIs n W M s t F T) {j : Int} (h0 : 1 ≤ j) (h1 : j < (pkB n W M s t).length) : Rpk s W M F T (at0 (pkB n W M s t) (j - 1)) (at0 (pkB n W M s t) j) (bEnd (pkB n W M s t) n j + 1) := by
  unfold pkB at *
  rw [topFT_eq h] at *
  exact adjR_at _ n (pk_adj h) j h0 (by simpa using h1)
/-- there is a block of the greatest mean around each turn -/
theorem top_ex {n : Int} {X W M : Int → Int} (hP : Prof n X W M) (s : Int) {t : Int} (ht : 0 ≤ t ∧ t < n) : ∃ F T : Int, TopIs n W M s t F T := by
  have inner : ∀ f : Int, 0 ≤ f → f ≤ t → (∃ F T : Int, FTI n W M s t f t F T) → ∀ d : Int, 0 ≤ d → (t + d ≤ n → ∃ F T : Int, FTI n W M s t f (t + d) F T) := fun f f0 f1 h0 d hd => by
    refine iInd (p := fun d => t + d ≤ n → ∃ F T : Int, FTI n W M s t f (t + d) F T) (fun _ => by rw [show t + 0 = t by omega]; exact h0) (fun d hd ih q => ?_) d hd
    obtain ⟨F, T, h⟩ := ih (by omega)
    rw [show t + (d + 1) = t + d + 1 by omega]
    by_cases z : s * cmpM W M f (t + d) F T < 0
    · exact ⟨F, T, FTI_keep h z⟩
    · exact ⟨f, t + d, FTI_take hP h (by omega) (by omega)⟩
  have outer : ∀ d : Int, 0 ≤ d → (d ≤ t + 1 → ∃ F T : Int, FTI n W M s t (t - d) t F T) := fun d hd => by
    refine iInd (p := fun d => d ≤ t + 1 → ∃ F T : Int, FTI n W M s t (t - d) t F T) (fun _ => ⟨t, t, by rw [show t - 0 = t by omega]; exact FTI_0 ht⟩) (fun d hd ih q => ?_) d hd
    obtain ⟨F, T, h⟩ := inner (t - d) (by omega) (by omega) (ih (by omega)) (n - t) (by omega) (by omega)
    rw [show t + (n - t) = n by omega] at h
    rw [show t - (d + 1) = t - d - 1 by omega]
    exact ⟨F, T, FTI_next h (Int.le_refl n)⟩
  obtain ⟨F, T, h⟩ := outer (t + 1) (by omega) (by omega)
  exact ⟨F, T, FTI_end h (by omega)⟩
theorem blk_ex {n : Int} {B : List Int} (h : Asc n B) {g : Int} (hg : 0 ≤ g ∧ g < n) : ∃ j : Int, 0 ≤ j ∧ j < B.length ∧ at0 B j ≤ g ∧ g ≤ bEnd B n j := by
  obtain ⟨a, b⟩ := h.1 (by omega)
  have : ∀ k : Int, 0 ≤ k → (k < B.length → ∃ j : Int, 0 ≤ j ∧ j ≤ k ∧ at0 B j ≤ g ∧ (j < k → g < at0 B (j + 1))) := fun k hk => by
    refine iInd (p := fun k => k < B.length → ∃ j : Int, 0 ≤ j ∧ j ≤ k ∧ at0 B j ≤ g ∧ (j < k → g < at0 B (j + 1))) (fun _ => ⟨0, by omega, by omega, by omega, fun q => by omega⟩) (fun k hk ih q => ?_) k hk
    by_cases r : at0 B (k + 1) ≤ g
    · exact ⟨k + 1, by omega, by omega, r, fun q => by omega⟩
    · obtain ⟨j, j0, j1, j2, j3⟩ := ih (by omega)
      refine ⟨j, j0, by omega, j2, fun _ => ?_⟩
      by_cases e : j = k
      · subst e; omega
      · exact j3 (by omega)
  obtain ⟨j, j0, j1, j2, j3⟩ := this ((B.length : Int) - 1) (by omega) (by omega)
  refine ⟨j, j0, by omega, j2, ?_⟩
  unfold bEnd
  split
  · have := j3 (by omega); omega
  · omega
