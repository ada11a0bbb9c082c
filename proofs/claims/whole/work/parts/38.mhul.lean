/-! the reference's hulls -/
def MHul (τ : Mem) (C : List Int) : Prop := τ 0 16 = C.length ∧ ∀ j : Int, 0 ≤ j → j < C.length → τ 12 j = at0 C j
theorem MHul.fr {σ u : Mem} {C : List Int} (h : MHul σ C) {lo hi : Nat} {f1 f2 : Int} (hF : Fr lo hi f1 f2 σ u) (h1 : 12 < lo ∨ hi < 12) (hf : f1 ≠ 16 ∧ f2 ≠ 16) : MHul u C :=
  ⟨by rw [hF.2 16 (by omega) (by omega)]; exact h.1, fun j a b => by rw [hF.1 12 (by omega) (by omega)]; exact h.2 j a b⟩
theorem mhul_push {τ : Mem} {C : List Int} {x : Int} (h : MHul τ C) : MHul (up (up τ 12 (C.length : Int) x) 0 16 ((C.length : Int) + 1)) (C ++ [x]) := by
  refine ⟨by rw [up_same]; simp, fun j h0 h1 => ?_⟩
  rw [List.length_append, List.length_singleton] at h1
  simp only [up_at]
  by_cases q : j = C.length
  · rw [(at0_app h0).2 q, q]; simp
  · rw [(at0_app h0).1 (by omega)]
    simp [q]
    exact h.2 j h0 (by omega)
/-- the next corner is sought: the groups below g have been seen -/
def NxI (D : Int → Int → Int → Int) (a b g : Int) : Prop := (∀ h : Int, b < h → h < g → D a b h < 0) ∧ ∀ h : Int, a < h → h < b → 0 ≤ D a h b
theorem sD_anti (X W M : Int → Int) (i j k : Int) : sD X W M i j k = -sD X W M i k j := by unfold sD; omega
theorem nxI_take {n : Int} {X W M : Int → Int} (hP : Prof n X W M) {s a b g : Int} (ha : 0 ≤ a ∧ a < b ∧ b < g ∧ g < n) (h : NxI (fun i j k => s * sD X W M i j k) a b g) (hc : ¬ 0 < s * sD X W M a g b) : NxI (fun i j k => s * sD X W M i j k) a g (g + 1) := by
  have hc2 : 0 ≤ s * sD X W M a b g := by rw [sD_anti, Int.mul_neg]; omega
  obtain ⟨⟨hn0, hn12, hW0, hM0, hW24⟩, hstep, hXa, hXr⟩ := id hP
  refine ⟨fun h h0 h1 => by omega, fun k h0 h1 => ?_⟩
  show 0 ≤ s * sD X W M a k g
  by_cases q : k = b
  · rw [q]; exact hc2
  · have q1 : ∀ x : Int, a < x → x < n → 0 < (W (x + 1) - W x) * (X x - X a) := fun x e1 e2 => by
      have e3 := hstep x (by omega) e2
      have e4 := hXa a x ha.1 e1 e2
      exact Int.mul_pos (by omega) (by omega)
    have hk : 0 ≤ s * sD X W M a k b := by
      by_cases r : k < b
      · exact h.2 k h0 r
      · have e := h.1 k (by omega) h1
        dsimp only at e
        rw [sD_anti, Int.mul_neg]; omega
    exact (pos3 (q1 b ha.2.1 (by omega)) (q1 g (by omega) ha.2.2.2) (q1 k h0 (by omega)) (x := s * sD X W M a k g) (y := s * sD X W M a k b) (z := s * sD X W M a b g) (by unfold sD; grind)).2 hk hc2
theorem nxI_keep {X W M : Int → Int} {s a b g : Int} (h : NxI (fun i j k => s * sD X W M i j k) a b g) (hc : 0 < s * sD X W M a g b) : NxI (fun i j k => s * sD X W M i j k) a b (g + 1) := ⟨fun k h0 h1 => by
  by_cases q : k = g
  · subst q
    show s * sD X W M a b k < 0
    rw [sD_anti, Int.mul_neg]; omega
  · exact h.1 k h0 (by omega), h.2⟩
def HBI (D : Int → Int → Int → Int) (n a : Int) (C : List Int) : Prop := (0 < C.length ∧ at0 C 0 = 0 ∧ at0 C ((C.length : Int) - 1) = a) ∧ (∀ i : Int, 0 ≤ i → i + 1 < C.length → Nx D n (at0 C i) (at0 C (i + 1))) ∧ (C.length : Int) ≤ a + 1
theorem hbi_0 {D : Int → Int → Int → Int} {n : Int} : HBI D n 0 [0] := ⟨⟨by simp, rfl, rfl⟩, fun i h0 h1 => by simp at h1; omega, by simp⟩
theorem hbi_s {D : Int → Int → Int → Int} {n a b g : Int} {C : List Int} (h : HBI D n a C) (ha : 0 ≤ a ∧ a < b ∧ b < n) (hn : NxI D a b g) (hg : n ≤ g) : HBI D n b (C ++ [b]) := by
  obtain ⟨⟨h1, h2, h3⟩, h4, h5⟩ := h
  refine ⟨⟨by simp, by rw [(at0_app (Int.le_refl 0)).1 (by omega)]; exact h2, ?_⟩, fun i i0 i1 => ?_, by rw [List.length_append, List.length_singleton]; omega⟩
  · rw [List.length_append, List.length_singleton]
    exact (at0_app (by omega)).2 (by omega)
  · rw [List.length_append, List.length_singleton] at i1
    by_cases q : i + 1 = C.length
    · rw [(at0_app (i := i + 1) (by omega)).2 q, (at0_app (i := i) i0).1 (by omega), show i = (C.length : Int) - 1 by omega, h3]
      exact ⟨by omega, fun k e1 e2 => hn.1 k e1 (by omega), hn.2⟩
    · rw [(at0_app (i := i + 1) (by omega)).1 (by omega), (at0_app (i := i) i0).1 (by omega)]
      exact h4 i i0 (by omega)
theorem hbi_e {D : Int → Int → Int → Int} {n a : Int} {C : List Int} (h : HBI D n a C) (ha : a = n - 1) (hn : 0 < n) : HullI D n C := by
  subst ha
  exact ⟨fun q => by omega, fun _ => h.1, h.2.1, by have := h.2.2; omega⟩
theorem hull_0 {D : Int → Int → Int → Int} {n : Int} (hn : n = 0) : HullI D n [] := by
  subst hn
  exact ⟨fun _ => rfl, fun h => by omega, fun i h0 h1 => by simp at h1; omega, by simp⟩
theorem tells_low {u : Mem} {n d w : Int} (hw : 0 ≤ w ∧ w ≤ 1) (h0 : u 0 18 = low n d 0) (h1 : u 0 19 = low n d 1) : (if w = 0 then u 0 18 else u 0 19) = low n d w := by
  rw [h0, h1]
  split
  · rw [show w = 0 by omega]
  · rw [show w = 1 by omega]
/-- a group's weight and moment, in range -/
theorem gr_rg {n : Int} {X W M : Int → Int} (hP : Prof n X W M) {g : Int} (hg : 0 ≤ g ∧ g < n) : (1 ≤ W (g + 1) - W g ∧ W (g + 1) - W g ≤ 24) ∧ -2376 ≤ M (g + 1) - M g ∧ M (g + 1) - M g ≤ 2376 := by
  have a := prof_w hP hg.1 (b := g + 1) (by omega) (by omega)
  have b := hP.2.1 g hg.1 hg.2
  omega
theorem hnum_at {n : Int} {D : Int → Int → Int → Int} {X W M : Int → Int} {C : List Int} {g i : Int} (h : HullI D n C) (hg : 0 ≤ g ∧ g < n) (hi : CorAt C g i) : (at0 C i = g → hNum X W M C g = M (g + 1) - M g ∧ hDen X W C g = W (g + 1) - W g) ∧ (at0 C i ≠ g → ∀ a b : Int, a = at0 C i → b = at0 C (i + 1) → hNum X W M C g = (M (a + 1) - M a) * (W (b + 1) - W b) * (X b - X a) + (X g - X a) * ((M (b + 1) - M b) * (W (a + 1) - W a) - (M (a + 1) - M a) * (W (b + 1) - W b)) ∧ hDen X W C g = (W (a + 1) - W a) * (W (b + 1) - W b) * (X b - X a)) := by
  have eA := hA_eq h hi
  have eB := hB_eq h hg.2 hi
  have er := hAB_rg h hg
  constructor
  · intro q
    unfold hNum hDen
    rw [if_pos (by rw [eA, (eB.1 q)]; exact q), if_pos (by rw [eA, (eB.1 q)]; exact q)]
    exact ⟨rfl, rfl⟩
  · intro q a b ha hb
    have e2 := (eB.2 q).2
    unfold hNum hDen
    rw [if_neg (by omega), if_neg (by omega), eA, e2, ← ha, ← hb]
    exact ⟨by grind, rfl⟩
theorem kdB_0 {P : List Pt} {kind : Int} (h : ng P = 0) : kdB P kind = [] := by
  unfold kdB kB
  rw [h]
  split
  · rfl
  · rfl
