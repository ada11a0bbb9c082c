/-! the law's own row of longs, beside the class's object -/
def LT : Lt := fun Y => [eJ Y 12]
abbrev yT (Y : Yt) (q : Nat) : Yt := (Y.1, fun _ => q, Y.2.2)
theorem lenT (Y : Yt) : (LT Y).length = 1 := rfl
theorem wl_split {D : va_G} {cl : List vw_C} {a b : va_W} {H : Heap} (hP : va_P D cl (a ++ b) H) : va_P D cl a H ∧ va_P D cl b H :=
  ⟨fun k x hx => hP k x (by rw [List.getElem?_append_left (List.getElem?_eq_some_iff.mp hx).1]; exact hx), fun k x hx => hP (a.length + k) x (by rw [List.getElem?_append_right (Nat.le_add_right _ _), Nat.add_sub_cancel_left]; exact hx)⟩
theorem wd_split {A : Nat → Prop} {a b : va_W} (hD : va_D A (a ++ b)) : va_D A a ∧ va_D A b ∧ ∀ (i j : Nat) (p q : Nat × va_E), a[i]? = some p → b[j]? = some q → p.1 ≠ q.1 := by
  have l : ∀ (k : Nat) (x : Nat × va_E), a[k]? = some x → (a ++ b)[k]? = some x := fun k x hx => by rw [List.getElem?_append_left (List.getElem?_eq_some_iff.mp hx).1]; exact hx
  have r : ∀ (k : Nat) (x : Nat × va_E), b[k]? = some x → (a ++ b)[a.length + k]? = some x := fun k x hx => by rw [List.getElem?_append_right (Nat.le_add_right _ _), Nat.add_sub_cancel_left]; exact hx
  refine ⟨⟨fun i j p q hp hq e => hD.1 i j p q (l _ _ hp) (l _ _ hq) e, fun k q hq => hD.2 k q (l _ _ hq)⟩, ⟨fun i j p q hp hq e => ?_, fun k q hq => hD.2 _ q (r _ _ hq)⟩, fun i j p q hp hq e => ?_⟩
  · have := hD.1 _ _ p q (r _ _ hp) (r _ _ hq) e
    omega
  · have h1 := hD.1 _ _ p q (l _ _ hp) (r _ _ hq) e
    have h2 := (List.getElem?_eq_some_iff.mp hp).1
    omega
theorem wl_join {D : va_G} {cl : List vw_C} {a b : va_W} {H : Heap} (h1 : va_P D cl a H) (h2 : va_P D cl b H) : va_P D cl (a ++ b) H := fun k x hx => by
  by_cases q : k < a.length
  · rw [List.getElem?_append_left q] at hx
    exact h1 k x hx
  · rw [List.getElem?_append_right (by omega)] at hx
    exact h2 _ x hx
theorem wd_join {A : Nat → Prop} {a b : va_W} (h1 : va_D A a) (h2 : va_D A b) (h : ∀ (i j : Nat) (p q : Nat × va_E), a[i]? = some p → b[j]? = some q → p.1 ≠ q.1) : va_D A (a ++ b) := by
  have sp : ∀ (k : Nat) (x : Nat × va_E), (a ++ b)[k]? = some x → (k < a.length ∧ a[k]? = some x) ∨ (a.length ≤ k ∧ b[k - a.length]? = some x) := fun k x hx => by
    by_cases q : k < a.length
    · rw [List.getElem?_append_left q] at hx
      exact Or.inl ⟨q, hx⟩
    · rw [List.getElem?_append_right (by omega)] at hx
      exact Or.inr ⟨by omega, hx⟩
  refine ⟨fun i j p q hp hq e => ?_, fun k q hq => ?_⟩
  · rcases sp i p hp with ⟨a1, a2⟩ | ⟨a1, a2⟩ <;> rcases sp j q hq with ⟨b1, b2⟩ | ⟨b1, b2⟩
    · exact h1.1 i j p q a2 b2 e
    · exact absurd e (h _ _ p q a2 b2)
    · exact absurd e.symm (h _ _ q p b2 a2)
    · have := h2.1 _ _ p q a2 b2 e
      omega
  · rcases sp k q hq with ⟨a1, a2⟩ | ⟨a1, a2⟩
    · exact h1.2 k q a2
    · exact h2.2 _ q a2
section Told
variable {p : Program} {l : Launch} {e : Env} {R : Room} {s : State} {m : MethodId} {args : Array Value} {below : List Frame} {meth : Method} {c : Code} {H : Heap} {locs : List Loc} {cells slots : Nat} {Z : State → Prop}
variable {cc : ByteArray} {nL : Nat} {own : String} {Ts : List Cond} {rt : Option FieldType} {pc : Nat} {ls : Array Slot} {rest : List Value}
variable {Y : Yt} {σ τ : Mem} {A : Nat → Prop} {q : Nat}
theorem t_new (G : gx p s m args meth c cc nL own Ts rt) (X : wx LX Y σ s A H locs) (harr : (Cond.arrayClass .long).before args s = true) (hcells : cells + 1 ≤ R.cells) (hslots : slots + 12 ≤ R.slots) (hdg : decode cc pc = .ok (.newarray .long, 2)) (kk : ∀ (q : Nat) (H1 : Heap), apart LX LT Y (yT Y q) → wx LX Y σ s A H1 locs → wx LT (yT Y q) (fun _ _ => 0) s A H1 locs → W p l e R s m args below meth c H1 locs (cells + 1) (slots + 12) Z (F0 m (pc + 2) ls (.ref q :: rest))) : W p l e R s m args below meth c H locs cells slots Z (F0 m pc ls (.int (iI 12) :: rest)) := by
  refine c_newa (atype := .long) G.1 G.2.1 harr rfl X.2.2.2.1 X.1 X.2.1 X.2.2.1 X.2.2.2.2 1 rfl (a0 := (12, .inr (.inl (fun _ => lI 0)))) (fun _ => rfl) (by decide +kernel) (by decide +kernel) (by decide +kernel) hcells hslots hdg (fun q H1 hP hD hS => ?_)
  obtain ⟨hP1, hP2⟩ := wl_split hP
  obtain ⟨hD1, hD2, hap⟩ := wd_split hD
  have e2 : wL LT (yT Y q) (fun _ _ => 0) = [(q, .inl (Y.2.2 1, 12, .inr (.inl (fun _ => lI 0))))] := rfl
  refine kk q H1 (fun i j hi hj => ?_) ⟨hP1, hD1, hS, X.2.2.2⟩ ⟨by rw [e2]; exact hP2, by rw [e2]; exact hD2, hS, X.2.2.2⟩
  have hj0 : j = 0 := by rw [lenT] at hj; omega
  subst hj0
  exact hap i 0 _ _ (wL_at hi) rfl
theorem t_last (G : gx p s m args meth c cc nL own Ts rt) (X : wx LX Y σ s A H locs) (X2 : wx LT (yT Y q) τ s A H locs) (hap : apart LX LT Y (yT Y q)) {z v : Int} (hz : 0 ≤ z ∧ z < 12) (hdg : decode cc pc = .ok (.lastore, 1)) (kk : ∀ H1 locs1, wx LX Y σ s A H1 locs1 → wx LT (yT Y q) (up τ 0 z v) s A H1 locs1 → W p l e R s m args below meth c H1 locs1 cells slots Z (F0 m (pc + 1) ls rest)) : W p l e R s m args below meth c H locs cells slots Z (F0 m pc ls (.long (lI v) :: .int (iI z) :: .ref q :: rest)) := by
  have e2 : ∀ τ : Mem, wL LT (yT Y q) τ = [(q, eJ (yT Y q) 12 (τ 0))] := fun _ => rfl
  have hP := wl_join X.1 X2.1
  have hD := wd_join X.2.1 X2.2.1 (fun i j x y hx hy e => by
    obtain ⟨g1, g2⟩ := wL_mem hx
    obtain ⟨g3, g4⟩ := wL_mem hy
    exact hap i j g1 g3 (by rw [← g2, ← g4]; exact e))
  rw [e2] at hP hD
  have hl : (wL LX Y σ).length = 78 := wL_len
  refine va_last G.1 G.2.1 X.2.2.2.1 hP hD X.2.2.1 78 1 (a := q) (cA := Y.2.2 1) (n := 12) (f := fun j : Nat => lI (τ 0 (j : Int))) (by rw [List.getElem?_append_right (by omega), hl]; rfl) rfl (iI_in hz (by decide)) hdg (fun H1 locs1 hP1 hD1 hS1 => ?_)
  have e3 : (wL LX Y σ ++ [(q, eJ (yT Y q) 12 (τ 0))]).set 78 (q, .inl (Y.2.2 1, 12, .inr (.inl (vp_updL (fun j : Nat => lI (τ 0 (j : Int))) (iI z).toNatClampNeg (lI v))))) = wL LX Y σ ++ wL LT (yT Y q) (up τ 0 z v) := by
    rw [List.set_append_right _ _ (by omega), hl, e2]
    show wL LX Y σ ++ [(q, .inl (Y.2.2 1, 12, .inr (.inl (vp_updL (fun j : Nat => lI (τ 0 (j : Int))) (iI z).toNatClampNeg (lI v)))))] = _
    rw [iI_cl hz (by decide)]
    have e4 := e_upJ (yT Y q) 12 (τ 0) hz.1 v
    have e5 : up τ 0 z v 0 = fun b => if b = z then v else τ 0 b := by funext b; simp [up]
    rw [e5, ← e4]
  rw [e3] at hP1 hD1
  obtain ⟨a1, a2⟩ := wl_split hP1
  obtain ⟨b1, b2, -⟩ := wd_split hD1
  exact kk H1 locs1 ⟨a1, b1, hS1, X.2.2.2⟩ ⟨a2, b2, hS1, X2.2.2.2⟩
theorem t_lald (G : gx p s m args meth c cc nL own Ts rt) (X2 : wx LT (yT Y q) τ s A H locs) {z : Int} (hz : 0 ≤ z ∧ z < 12) (hdg : decode cc pc = .ok (.laload, 1)) (kk : W p l e R s m args below meth c H locs cells slots Z (F0 m (pc + 1) ls (.long (lI (τ 0 z)) :: rest))) : W p l e R s m args below meth c H locs cells slots Z (F0 m pc ls (.int (iI z) :: .ref q :: rest)) :=
  g_lald G X2 (k := 0) (n := 12) (by rw [lenT]; omega) (fun _ => rfl) (by decide) hz hdg kk
end Told
/-! what the law's loop reads off the answers -/
noncomputable def toldA (P : List Pt) (g : Int) : Int := fitA P 2 g 0 + 1000003 * fitA P 4 g 0 + 7 * fitA P 0 g 0
theorem toldA_eq (P : List Pt) (g : Int) : toldA P g = fitA P 2 g 0 + 1000003 * fitA P 4 g 0 + 7 * fitA P 0 g 0 := rfl
theorem told_s {P : List Pt} {τ : Mem} {g : Int} (h : ∀ j : Int, 0 ≤ j → j < g → τ 0 j = toldA P j) : ∀ j : Int, 0 ≤ j → j < g + 1 → up τ 0 g (toldA P g) 0 j = toldA P j := fun j h0 h1 => by
  rw [up_at]
  by_cases q : j = g
  · rw [if_pos ⟨rfl, q⟩, q]
  · rw [if_neg (by omega)]; exact h j h0 (by omega)
theorem ng_pos {P : List Pt} (hP : ptsOk P) (h : 0 < P.length) : 0 < ng P := by
  obtain ⟨g, a, b, -⟩ := gX_all hP (i := 0) (Int.le_refl 0) (by omega)
  omega
theorem stRem_ok {P : List Pt} {hs : List (List Pt)} (h : 0 < P.length) : stRem P hs 0 = ((P.length : Int) - 1, P.eraseIdx 0, recd hs P) := by
  unfold stRem
  rw [if_neg (by omega)]
  rfl
theorem stMir_1 (P : List Pt) (hs : List (List Pt)) : stMir P hs 1 = ((P.length : Int), mirV P, recd hs P) := by
  unfold stMir
  rw [if_neg (by omega), if_neg (by omega)]
theorem stMir_0 (P : List Pt) (hs : List (List Pt)) : stMir P hs 0 = ((P.length : Int), mirP P, recd hs P) := by
  unfold stMir
  rw [if_neg (by omega), if_pos rfl]
theorem bad_ans (P : List Pt) : turnA P 4 = -1000001 ∧ kinksA P 3 = -1000001 ∧ kinkAtA P 4 (-1) = -1000001 ∧ gapA P 3 = -1000001 ∧ fitA P 4 0 2 = -1000001 := by
  unfold turnA kinksA kinkAtA gapA fitA
  exact ⟨if_pos (by omega), if_pos (by omega), if_pos (by omega), if_pos (by omega), if_pos (by omega)⟩
theorem nil_ans : turnA [] 2 = -1000002 ∧ gapA [] 0 = -1000002 ∧ kinksA [] 4 = 0 ∧ blocksA [] 2 = 0 := by
  have hn := ng_nil
  have hC := (hulC_ok (P := []) (fun q h => by cases h) (by simp) (hSide 4)).1 hn
  refine ⟨?_, ?_, ?_, ?_⟩
  · unfold turnA
    rw [if_neg (by omega), if_pos hn]
  · unfold gapA
    rw [if_neg (by omega), if_pos hn]
  · unfold kinksA
    rw [if_neg (by omega), hC]
    rfl
  · unfold blocksA kdB kB
    rw [if_neg (by omega), if_pos (by omega), if_neg (by omega)]
    rfl
theorem fit_ans {P : List Pt} (hP : ptsOk P) (hl : P.length ≤ 12) {g : Int} (hg : 0 ≤ g ∧ g < ng P) : (-570240 ≤ fitA P 2 g 0 ∧ fitA P 2 g 0 ≤ 570240) ∧ (-570240 ≤ fitA P 4 g 0 ∧ fitA P 4 g 0 ≤ 570240) ∧ (-570240 ≤ fitA P 0 g 0 ∧ fitA P 0 g 0 ≤ 570240) ∧ fitA (mirV P) 3 g 0 = -fitA P 2 g 0 ∧ fitA (mirV P) 5 g 0 = -fitA P 4 g 0 ∧ fitA (mirV P) 1 g 0 = -fitA P 0 g 0 := by
  have a := fitA_rg hP hl (kind := 2) (by omega) hg
  have b := fitA_rg hP hl (kind := 4) (by omega) hg
  have c := fitA_rg hP hl (kind := 0) (by omega) hg
  exact ⟨⟨a.1, a.2.1⟩, ⟨b.1, b.2.1⟩, ⟨c.1, c.2.1⟩, fit_mir (Or.inr (Or.inl ⟨rfl, rfl⟩)) hg, fit_mir (Or.inr (Or.inr ⟨rfl, rfl⟩)) hg, fit_mir (Or.inl ⟨rfl, rfl⟩) hg⟩
theorem near_mirV {P : List Pt} (h : near P) : near (mirV P) := fun i h0 h1 => by
  rw [mirV_len] at h1
  rw [(mirV_at h0 h1).1]
  exact h i h0 h1
theorem far_ans {P : List Pt} (h : near P) {g : Int} (h0 : 0 ≤ g) (h1 : g < ng (mirP (mirV P))) : 15 < ginA (mirP (mirV P)) g 0 ∧ ginA (mirP (mirV P)) g 0 ≤ 40 ∧ (0 < g → ginA (mirP (mirV P)) (g - 1) 0 < ginA (mirP (mirV P)) g 0) := by
  obtain ⟨a, b⟩ := mirP_far (near_mirV h) ⟨h0, h1⟩
  rw [(ginA_1 ⟨h0, h1⟩).1]
  refine ⟨a, b, fun q => ?_⟩
  rw [(ginA_1 (g := g - 1) (by omega)).1]
  exact gsU_asc 41 (g - 1) g (by omega) (by omega) h1
