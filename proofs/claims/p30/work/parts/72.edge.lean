/-! pooled blocks are the blocks of a turn at an end -/
theorem cmp_trans_lt {s m1 w1 m2 w2 m3 w3 : Int} (h1 : 0 < w1) (h2 : 0 < w2) (h3 : 0 < w3) (a : s * (m1 * w2 - m2 * w1) ≤ 0) (b : s * (m2 * w3 - m3 * w2) < 0) : s * (m1 * w3 - m3 * w1) < 0 := by
  have e : w2 * (s * (m1 * w3 - m3 * w1)) = w3 * (s * (m1 * w2 - m2 * w1)) + w1 * (s * (m2 * w3 - m3 * w2)) := by grind
  have p1 : w3 * (s * (m1 * w2 - m2 * w1)) ≤ 0 := Int.mul_nonpos_of_nonneg_of_nonpos (by omega) a
  have p2 : w1 * (s * (m2 * w3 - m3 * w2)) < 0 := Int.mul_neg_of_pos_of_neg h1 b
  by_cases q : s * (m1 * w3 - m3 * w1) < 0
  · exact q
  · have := Int.mul_nonneg (Int.le_of_lt h2) (show 0 ≤ s * (m1 * w3 - m3 * w1) by omega)
    omega
theorem cmpM_trans_lt {n : Int} {X W M : Int → Int} (h : Prof n X W M) {s a b c d e f : Int} (h1 : 0 ≤ a ∧ a ≤ b ∧ b < n) (h2 : 0 ≤ c ∧ c ≤ d ∧ d < n) (h3 : 0 ≤ e ∧ e ≤ f ∧ f < n) (p : s * cmpM W M a b c d ≤ 0) (q : s * cmpM W M c d e f < 0) : s * cmpM W M a b e f < 0 :=
  cmp_trans_lt (wt_pos h h1.1 h1.2.1 h1.2.2) (wt_pos h h2.1 h2.2.1 h2.2.2) (wt_pos h h3.1 h3.2.1 h3.2.2) p q
/-- the block on top has the greatest mean of all that end there, and is the longest of them -/
def DomS (s : Int) (W M : Int → Int) (a : Int) : Int → List Int → Prop
  | _, [] => True
  | e, b :: bs => (∀ f : Int, a ≤ f → f < e → s * cmpM W M f (e - 1) b (e - 1) ≤ 0 ∧ (f < b → s * cmpM W M f (e - 1) b (e - 1) < 0)) ∧ DomS s W M a b bs
theorem cmp_self (W M : Int → Int) (a b : Int) : cmpM W M a b a b = 0 := by unfold cmpM; omega
theorem popL_dom {n : Int} {X W M : Int → Int} (hP : Prof n X W M) {s a g : Int} (ha : 0 ≤ a) (hg : g < n) : ∀ (stk : List Int) (x : Int), Stk a x stk → DomS s W M a x stk → a ≤ x → x ≤ g → (∀ f : Int, x ≤ f → f ≤ g → s * cmpM W M f g x g ≤ 0) → DomS s W M a (g + 1) (popL s W M stk x g) := by
  intro stk
  induction stk with
  | nil =>
    intro x hs hd hax hx hc
    refine ⟨fun f f0 f1 => ?_, trivial⟩
    have e : x = a := hs
    rw [show g + 1 - 1 = g by omega]
    exact ⟨hc f (by omega) (by omega), fun q => by omega⟩
  | cons b bs ih =>
    intro x hs hd hax hx hc
    have hb := hs.1
    have hb2 := hs.2.1
    by_cases q : s * cmpM W M b (x - 1) x g < 0
    · rw [popL_stop q]
      refine ⟨fun f f0 f1 => ?_, hd⟩
      rw [show g + 1 - 1 = g by omega]
      by_cases z : f < x
      · have d1 := (hd.1 f f0 z).1
        have k : s * cmpM W M f (x - 1) x g < 0 := cmpM_trans_lt hP (by omega) (by omega) (by omega) d1 q
        have e := cmp_in W M f x (g + 1)
        rw [show g + 1 - 1 = g by omega] at e
        rw [e]
        exact ⟨by omega, fun _ => k⟩
      · exact ⟨hc f (by omega) (by omega), fun q => by omega⟩
    · rw [popL_go q]
      have e1 := cmp_out W M b x (g + 1)
      have e1' := cmp_in W M b x (g + 1)
      rw [show g + 1 - 1 = g by omega] at e1 e1'
      -- the new group's block is no greater than the block before, so no greater than the two together
      have q1 : s * cmpM W M x g b (x - 1) ≤ 0 := by rw [cmpM_anti, Int.mul_neg]; omega
      have q2 : s * cmpM W M x g b g ≤ 0 := by rw [cmpM_anti, e1', Int.mul_neg]; omega
      refine ih b hs.2.2 hd.2 hb (by omega) (fun f f0 f1 => ?_)
      by_cases z : x ≤ f
      · exact cmpM_trans hP (c := x) (d := g) (by omega) (by omega) (by omega) (hc f z f1) q2
      · by_cases y : f = b
        · rw [y, cmp_self]; omega
        · have d1 := (hd.1 f (by omega) (by omega)).1
          have e2 : cmpM W M f (x - 1) b (x - 1) = cmpM W M f (x - 1) b (f - 1) := by
            unfold cmpM
            rw [show f - 1 + 1 = f by omega]
            grind
          have e3 : cmpM W M b (x - 1) b (f - 1) = cmpM W M f (x - 1) b (f - 1) := by
            unfold cmpM
            rw [show f - 1 + 1 = f by omega]
            grind
          have e4 : cmpM W M f g b g = cmpM W M f (x - 1) b (f - 1) + cmpM W M x g b (f - 1) := by
            unfold cmpM
            rw [show f - 1 + 1 = f by omega, show x - 1 + 1 = x by omega]
            grind
          have k : s * cmpM W M x g b (f - 1) ≤ 0 := cmpM_trans hP (c := b) (d := x - 1) (by omega) (by omega) (by omega) q1 (by rw [e3, ← e2]; exact d1)
          rw [e2] at d1
          rw [e4, Int.mul_add]
          omega
theorem poolL_dom {n : Int} {X W M : Int → Int} (hP : Prof n X W M) {s a : Int} (ha : 0 ≤ a) : ∀ k : Nat, a + k ≤ n → DomS s W M a (a + k) (poolL s W M a k) := by
  intro k
  induction k with
  | zero => intro _; trivial
  | succ k ih =>
    intro hk
    rw [show a + ((k + 1 : Nat) : Int) = a + k + 1 by omega]
    refine popL_dom hP ha (by omega) _ _ (poolL_stk k) (ih (by omega)) (by omega) (Int.le_refl _) (fun f f0 f1 => ?_)
    rw [show f = a + k by omega, cmp_self]
    omega
/-- below a block lies what was pooled before it -/
def Nest (s : Int) (W M : Int → Int) (a : Int) : List Int → Prop
  | [] => True
  | b :: bs => bs = poolL s W M a (b - a).toNat ∧ Nest s W M a bs
theorem popL_nest {s : Int} {W M : Int → Int} {a g : Int} : ∀ (stk : List Int) (x : Int), stk = poolL s W M a (x - a).toNat → Nest s W M a stk → Nest s W M a (popL s W M stk x g) := by
  intro stk
  induction stk with
  | nil => intro x h _; exact ⟨h, trivial⟩
  | cons b bs ih =>
    intro x h hn
    by_cases q : s * cmpM W M b (x - 1) x g < 0
    · rw [popL_stop q]; exact ⟨h, hn⟩
    · rw [popL_go q]; exact ih b hn.1 hn.2
theorem poolL_nest {s : Int} {W M : Int → Int} {a : Int} : ∀ k : Nat, Nest s W M a (poolL s W M a k) := by
  intro k
  induction k with
  | zero => trivial
  | succ k ih => exact popL_nest _ _ (by rw [show (a + (k : Int) - a).toNat = k by omega]) ih
theorem poolL_ne {s : Int} {W M : Int → Int} {a : Int} {k : Nat} (h : 0 < k) : ∃ b bs, poolL s W M a k = b :: bs := by
  have hs := poolL_stk (side := s) (W := W) (M := M) (a := a) k
  cases hp : poolL s W M a k with
  | nil =>
    rw [hp] at hs
    have : a + (k : Int) = a := hs
    omega
  | cons b bs => exact ⟨b, bs, rfl⟩
theorem pool_last {n : Int} {X W M : Int → Int} (hP : Prof n X W M) (s : Int) (hn : 0 < n) : (poolL s W M 0 n.toNat).reverse = pkB n W M s (n - 1) := by
  obtain ⟨b, bs, hp⟩ := poolL_ne (s := s) (W := W) (M := M) (a := 0) (k := n.toNat) (by omega)
  have hs := poolL_stk (side := s) (W := W) (M := M) (a := 0) n.toNat
  have hd := poolL_dom hP (s := s) (Int.le_refl 0) n.toNat (by omega)
  have hn2 := poolL_nest (s := s) (W := W) (M := M) (a := 0) n.toNat
  rw [show (0 : Int) + (n.toNat : Int) = n by omega] at hs hd
  rw [hp] at hs hd hn2
  have hT : TopIs n W M s (n - 1) b (n - 1) := by
    refine ⟨⟨hs.1, by have := hs.2.1; omega, by omega, by omega⟩, fun f l f0 f1 l0 l1 => ?_⟩
    have e : l = n - 1 := by omega
    subst e
    obtain ⟨d1, d2⟩ := hd.1 f f0 (by omega)
    refine ⟨d1, fun z => ⟨?_, by omega⟩⟩
    by_cases y : f < b
    · have := d2 y; omega
    · omega
  unfold pkB
  rw [topFT_eq hT, hp]
  unfold peakS
  rw [show n - (n - 1) - 1 = 0 by omega]
  show (b :: bs).reverse = ([] ++ (b :: poolL s W M 0 b.toNat)).reverse
  rw [List.nil_append, hn2.1, show b - 0 = b by omega]
theorem popL_app {s : Int} {W M : Int → Int} {c g : Int} (h : s * cmpM W M 0 (c - 1) c g < 0) : ∀ (stk : List Int) (x : Int), Stk c x stk → popL s W M (stk ++ [0]) x g = popL s W M stk x g ++ [0] := by
  intro stk
  induction stk with
  | nil =>
    intro x hs
    have e : x = c := hs
    subst e
    show popL s W M [0] x g = _
    rw [popL_stop h]; rfl
  | cons b bs ih =>
    intro x hs
    by_cases q : s * cmpM W M b (x - 1) x g < 0
    · rw [popL_stop q]
      show popL s W M (b :: (bs ++ [0])) x g = _
      rw [popL_stop q]; rfl
    · rw [popL_go q]
      show popL s W M (b :: (bs ++ [0])) x g = _
      rw [popL_go q]; exact ih b hs.2.2
theorem pool_first {n : Int} {X W M : Int → Int} (hP : Prof n X W M) (s : Int) (hn : 0 < n) : (poolL (-s) W M 0 n.toNat).reverse = pkB n W M s 0 := by
  obtain ⟨F, T, hT⟩ := top_ex hP s (t := 0) (by omega)
  have hF : F = 0 := by have := hT.1; omega
  subst hF
  obtain ⟨h1, h2⟩ := id hT
  -- the first block is the turn's
  have b1 : poolL (-s) W M 0 (T + 1).toNat = [0] := by
    obtain ⟨b, bs, hp⟩ := poolL_ne (s := -s) (W := W) (M := M) (a := 0) (k := (T + 1).toNat) (by omega)
    have hs := poolL_stk (side := -s) (W := W) (M := M) (a := 0) (T + 1).toNat
    have hd := poolL_dom hP (s := -s) (Int.le_refl 0) (T + 1).toNat (by omega)
    rw [show (0 : Int) + ((T + 1).toNat : Int) = T + 1 by omega] at hs hd
    rw [hp] at hs hd ⊢
    by_cases z : b = 0
    · subst z
      cases bs with
      | nil => rfl
      | cons c cs =>
        have := hs.2.2.1
        have := hs.2.2.2.1
        omega
    · exfalso
      have hb := hs.1
      have hb2 := hs.2.1
      have d := (hd.1 0 (Int.le_refl 0) (by omega)).2 (by omega)
      have k := (h2 0 (b - 1) (Int.le_refl 0) (Int.le_refl 0) (by omega) (by omega)).1
      have e1 := cmp_in W M 0 b (T + 1)
      have e2 : cmpM W M 0 (b - 1) 0 T = cmpM W M 0 (b - 1) b T := by
        unfold cmpM
        rw [show b - 1 + 1 = b by omega]
        grind
      rw [show T + 1 - 1 = T by omega] at e1 d
      rw [e1, Int.neg_mul] at d
      rw [e2] at k
      omega
  have b2 : ∀ k : Nat, T + 1 + k ≤ n → poolL (-s) W M 0 ((T + 1).toNat + k) = poolL (-s) W M (T + 1) k ++ [0] := by
    intro k
    induction k with
    | zero => intro _; exact b1
    | succ k ih =>
      intro hk
      show popL (-s) W M (poolL (-s) W M 0 ((T + 1).toNat + k)) (0 + (((T + 1).toNat + k : Nat) : Int)) (0 + (((T + 1).toNat + k : Nat) : Int)) = popL (-s) W M (poolL (-s) W M (T + 1) k) (T + 1 + (k : Int)) (T + 1 + (k : Int)) ++ [0]
      rw [ih (by omega), show (0 : Int) + (((T + 1).toNat + k : Nat) : Int) = T + 1 + (k : Int) by omega]
      refine popL_app ?_ _ _ (poolL_stk k)
      have k1 := h2 0 (T + 1 + k) (Int.le_refl 0) (Int.le_refl 0) (by omega) (by omega)
      have e3 := cmp_out W M 0 (T + 1) (T + 1 + k + 1)
      rw [show T + 1 - 1 = T by omega, show T + 1 + (k : Int) + 1 - 1 = T + 1 + k by omega] at e3
      rw [show T + 1 - 1 = T by omega, Int.neg_mul]
      by_cases z : s * cmpM W M 0 (T + 1 + k) 0 T = 0
      · have := k1.2 z; omega
      · have k2 := k1.1
        rw [e3, Int.mul_neg] at z k2
        omega
  have b3 := b2 (n - T - 1).toNat (by omega)
  rw [show (T + 1).toNat + (n - T - 1).toNat = n.toNat by omega] at b3
  rw [b3]
  unfold pkB
  rw [topFT_eq hT]
  rfl
