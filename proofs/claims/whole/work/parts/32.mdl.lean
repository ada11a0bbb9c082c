/-! how the reference holds points, history, text and chain -/
def PtsAt (τ : Mem) (a : Nat) (o : Int) (P : List Pt) : Prop := τ a o = P.length ∧ P.length ≤ 12 ∧ ∀ i : Int, 0 ≤ i → i < P.length → τ a (o + 1 + i) = px P i ∧ τ a (o + 13 + i) = pv P i ∧ τ a (o + 25 + i) = pw P i
def WasIs (τ : Mem) (hs : List (List Pt)) : Prop := τ 0 2 = hs.length ∧ hs.length ≤ 6 ∧ ∀ j : Int, 0 ≤ j → j < hs.length → PtsAt τ 2 (37 * j) (hAt hs j)
def SameR (σ u : Mem) : Prop := (∀ a : Nat, a ≠ 0 → a ≠ 2 → u a = σ a) ∧ ∀ j : Int, j ≠ 2 → u 0 j = σ 0 j
def MText (τ : Mem) (tx : List Int) : Prop := τ 0 4 = tx.length ∧ ∀ i : Int, 0 ≤ i → i < tx.length → τ 3 i = at0 tx i
def MChain (τ : Mem) (ch : List Int) : Prop := τ 0 6 = ch.length ∧ ∀ i : Int, 0 ≤ i → i < ch.length → τ 4 i = at0 ch i
def MInv (τ : Mem) (P : List Pt) (hs : List (List Pt)) (tx ch : List Int) : Prop := (PtsAt τ 1 0 P ∧ ptsOk P) ∧ (WasIs τ hs ∧ ∀ Q ∈ hs, ptsOk Q) ∧ (MText τ tx ∧ txOk tx) ∧ MChain τ ch ∧ ch.length ≤ 3
/-- what no scratch of the reference touches -/
def SameC (σ u : Mem) : Prop := (∀ a : Nat, 1 ≤ a → a ≤ 4 → u a = σ a) ∧ u 0 2 = σ 0 2 ∧ u 0 4 = σ 0 4 ∧ u 0 6 = σ 0 6
theorem SameC.rf {σ : Mem} : SameC σ σ := ⟨fun _ _ _ => rfl, rfl, rfl, rfl⟩
theorem SameC.trans {σ τ u : Mem} (h : SameC σ τ) (h' : SameC τ u) : SameC σ u := ⟨fun a h0 h1 => (h'.1 a h0 h1).trans (h.1 a h0 h1), h'.2.1.trans h.2.1, h'.2.2.1.trans h.2.2.1, h'.2.2.2.trans h.2.2.2⟩
theorem PtsAt.eq {σ u : Mem} {a : Nat} {o : Int} {P : List Pt} (h : PtsAt σ a o P) (he : u a = σ a) : PtsAt u a o P := by
  unfold PtsAt
  rw [he]
  exact h
theorem PtsAt.d {σ : Mem} {P : List Pt} (h : PtsAt σ 1 0 P) : σ 1 0 = P.length ∧ P.length ≤ 12 ∧ ∀ i : Int, 0 ≤ i → i < P.length → σ 1 (1 + i) = px P i ∧ σ 1 (13 + i) = pv P i ∧ σ 1 (25 + i) = pw P i :=
  ⟨h.1, h.2.1, fun i h0 h1 => by
    have := h.2.2 i h0 h1
    rw [show (0 : Int) + 1 + i = 1 + i by omega, show (0 : Int) + 13 + i = 13 + i by omega, show (0 : Int) + 25 + i = 25 + i by omega] at this
    exact this⟩
theorem PtsAt.of_d {σ : Mem} {P : List Pt} (h : σ 1 0 = P.length ∧ P.length ≤ 12 ∧ ∀ i : Int, 0 ≤ i → i < P.length → σ 1 (1 + i) = px P i ∧ σ 1 (13 + i) = pv P i ∧ σ 1 (25 + i) = pw P i) : PtsAt σ 1 0 P :=
  ⟨h.1, h.2.1, fun i h0 h1 => by
    rw [show (0 : Int) + 1 + i = 1 + i by omega, show (0 : Int) + 13 + i = 13 + i by omega, show (0 : Int) + 25 + i = 25 + i by omega]
    exact h.2.2 i h0 h1⟩
theorem WasIs.eq {σ u : Mem} {hs : List (List Pt)} (h : WasIs σ hs) (h2 : u 2 = σ 2) (h0 : u 0 2 = σ 0 2) : WasIs u hs := ⟨by rw [h0]; exact h.1, h.2.1, fun j a b => (h.2.2 j a b).eq h2⟩
theorem MText.eq {σ u : Mem} {tx : List Int} (h : MText σ tx) (h3 : u 3 = σ 3) (h0 : u 0 4 = σ 0 4) : MText u tx := ⟨by rw [h0]; exact h.1, fun i a b => by rw [h3]; exact h.2 i a b⟩
theorem MChain.eq {σ u : Mem} {ch : List Int} (h : MChain σ ch) (h4 : u 4 = σ 4) (h0 : u 0 6 = σ 0 6) : MChain u ch := ⟨by rw [h0]; exact h.1, fun i a b => by rw [h4]; exact h.2 i a b⟩
theorem MInv.keep {σ u : Mem} {P : List Pt} {hs : List (List Pt)} {tx ch : List Int} (h : MInv σ P hs tx ch) (hu : SameC σ u) : MInv u P hs tx ch := by
  obtain ⟨⟨a, b⟩, ⟨c, d⟩, ⟨e, f⟩, g, i⟩ := h
  exact ⟨⟨a.eq (hu.1 1 (by omega) (by omega)), b⟩, ⟨c.eq (hu.1 2 (by omega) (by omega)) hu.2.1, d⟩, ⟨e.eq (hu.1 3 (by omega) (by omega)) hu.2.2.1, f⟩, g.eq (hu.1 4 (by omega) (by omega)) hu.2.2.2, i⟩
/-- j cells of the array at place a, from o on, are g; all else as before -/
def MapO (σ τ : Mem) (a : Nat) (o : Int) (g : Int → Int) (j : Int) : Prop := (∀ i : Int, 0 ≤ i → i < j → τ a (o + i) = g i) ∧ (∀ i : Int, (i < o ∨ o + j ≤ i) → τ a i = σ a i) ∧ ∀ b : Nat, b ≠ a → τ b = σ b
theorem mapO_0 {σ : Mem} {a : Nat} {o : Int} {g : Int → Int} : MapO σ σ a o g 0 := ⟨fun i h0 h1 => by omega, fun _ _ => rfl, fun _ _ => rfl⟩
theorem mapO_s {σ τ : Mem} {a : Nat} {o : Int} {g : Int → Int} {j x v : Int} (h : MapO σ τ a o g j) (hj : 0 ≤ j) (hx : x = o + j) (hv : v = g j) : MapO σ (up τ a x v) a o g (j + 1) := by
  subst hx
  obtain ⟨h1, h2, h3⟩ := h
  refine ⟨fun i a0 a1 => ?_, fun i a0 => ?_, fun b hb => by rw [up_ne hb]; exact h3 b hb⟩
  · rw [up_at]
    by_cases q : i = j
    · rw [if_pos ⟨rfl, by omega⟩, hv, q]
    · rw [if_neg (by omega)]; exact h1 i a0 (by omega)
  · rw [up_at, if_neg (by omega)]; exact h2 i (by omega)
theorem was_shift {σ τ : Mem} {hs : List (List Pt)} {k : Int} (h : WasIs σ hs) (hl : hs.length = 6) (hM : MapInv σ τ 2 (fun i => σ 2 (i + 37)) k) (hk : k = 185) : WasIs (up τ 0 2 (τ 0 2 - 1)) hs.tail ∧ SameR σ (up τ 0 2 (τ 0 2 - 1)) := by
  obtain ⟨m1, m2, m3⟩ := hM
  have e0 : τ 0 2 = 6 := by rw [m3 0 (by omega), h.1, hl]; rfl
  refine ⟨⟨by rw [up_same, e0]; simp; omega, by simp; omega, fun j h0 h1 => ?_⟩, fun a h0 h2 => by rw [up_ne h0]; exact m3 a h2, fun j hj => by rw [up_nj hj, m3 0 (by omega)]⟩
  rw [List.length_tail] at h1
  rw [hAt_tail h0]
  obtain ⟨q1, q2, q3⟩ := h.2.2 (j + 1) (by omega) (by omega)
  have hv : ∀ x : Int, 0 ≤ x → x < 185 → (up τ 0 2 (τ 0 2 - 1)) 2 x = σ 2 (x + 37) := fun x a b => by rw [up_ne (by omega)]; exact m1 x a (by omega)
  refine ⟨by rw [hv _ (by omega) (by omega), show 37 * j + 37 = 37 * (j + 1) by omega]; exact q1, q2, fun i a b => ?_⟩
  obtain ⟨r1, r2, r3⟩ := q3 i a b
  rw [hv _ (by omega) (by omega), hv _ (by omega) (by omega), hv _ (by omega) (by omega), show 37 * j + 1 + i + 37 = 37 * (j + 1) + 1 + i by omega, show 37 * j + 13 + i + 37 = 37 * (j + 1) + 13 + i by omega, show 37 * j + 25 + i + 37 = 37 * (j + 1) + 25 + i by omega]
  exact ⟨r1, r2, r3⟩
theorem was_push {σ τ : Mem} {hs : List (List Pt)} {P : List Pt} {k : Int} (h : WasIs σ hs) (hl : hs.length < 6) (hP : PtsAt σ 1 0 P) (hM : MapO σ τ 2 (37 * (hs.length : Int)) (fun i => σ 1 i) k) (hk : k = 37) : WasIs (up τ 0 2 (τ 0 2 + 1)) (hs ++ [P]) ∧ SameR σ (up τ 0 2 (τ 0 2 + 1)) := by
  obtain ⟨m1, m2, m3⟩ := hM
  have e0 : τ 0 2 = hs.length := by rw [m3 0 (by omega), h.1]
  refine ⟨⟨by rw [up_same, e0]; simp, by simp; omega, fun j h0 h1 => ?_⟩, fun a h0 h2 => by rw [up_ne h0]; exact m3 a h2, fun j hj => by rw [up_nj hj, m3 0 (by omega)]⟩
  rw [List.length_append, List.length_singleton] at h1
  by_cases q : j = hs.length
  · rw [(hAt_app h0).2 q]
    obtain ⟨d1, d2, d3⟩ := hP.d
    have hv : ∀ x : Int, 0 ≤ x → x < 37 → (up τ 0 2 (τ 0 2 + 1)) 2 (37 * j + x) = σ 1 x := fun x a b => by rw [up_ne (by omega), q]; exact m1 x a (by omega)
    refine ⟨by rw [show 37 * j = 37 * j + 0 by omega, hv 0 (by omega) (by omega)]; exact d1, d2, fun i a b => ?_⟩
    obtain ⟨r1, r2, r3⟩ := d3 i a b
    rw [show 37 * j + 1 + i = 37 * j + (1 + i) by omega, show 37 * j + 13 + i = 37 * j + (13 + i) by omega, show 37 * j + 25 + i = 37 * j + (25 + i) by omega, hv _ (by omega) (by omega), hv _ (by omega) (by omega), hv _ (by omega) (by omega)]
    exact ⟨r1, r2, r3⟩
  · rw [(hAt_app h0).1 (by omega)]
    obtain ⟨q1, q2, q3⟩ := h.2.2 j h0 (by omega)
    have hv : ∀ x : Int, x < 37 * (hs.length : Int) → (up τ 0 2 (τ 0 2 + 1)) 2 x = σ 2 x := fun x a => by rw [up_ne (by omega)]; exact m2 x (by omega)
    refine ⟨by rw [hv _ (by omega)]; exact q1, q2, fun i a b => ?_⟩
    rw [hv _ (by omega), hv _ (by omega), hv _ (by omega)]
    exact q3 i a b
theorem SameR.C {σ u : Mem} (h : SameR σ u) {a : Nat} (h1 : a ≠ 0) (h2 : a ≠ 2) : u a = σ a := h.1 a h1 h2
/-- the points have been changed, and recorded before -/
theorem minv_change {σ u1 u2 : Mem} {P P' : List Pt} {hs : List (List Pt)} {tx ch : List Int} (h : MInv σ P hs tx ch) (h1 : WasIs u1 (recd hs P) ∧ SameR σ u1) (hP : PtsAt u2 1 0 P') (hu : ∀ b : Nat, b ≠ 1 → u2 b = u1 b) (hok : ptsOk P') : MInv u2 P' (recd hs P) tx ch := by
  obtain ⟨⟨a, b⟩, ⟨c, d⟩, ⟨e, f⟩, g, i⟩ := h
  exact ⟨⟨hP, hok⟩, ⟨h1.1.eq (hu 2 (by omega)) (by rw [hu 0 (by omega)]), recd_ok d b⟩, ⟨e.eq (by rw [hu 3 (by omega)]; exact h1.2.C (by omega) (by omega)) (by rw [hu 0 (by omega)]; exact h1.2.2 4 (by omega)), f⟩, g.eq (by rw [hu 4 (by omega)]; exact h1.2.C (by omega) (by omega)) (by rw [hu 0 (by omega)]; exact h1.2.2 6 (by omega)), i⟩
theorem m_add {σ : Mem} {P : List Pt} {x v w : Int} (h : PtsAt σ 1 0 P) (hl : P.length < 12) : PtsAt (up (up (up (up σ 1 (1 + (P.length : Int)) x) 1 (13 + (P.length : Int)) v) 1 (25 + (P.length : Int)) w) 1 0 ((P.length : Int) + 1)) 1 0 (P ++ [(x, v, w)]) := by
  obtain ⟨d1, d2, d3⟩ := h.d
  refine PtsAt.of_d ⟨by rw [up_same]; simp, by simp; omega, fun i h0 h1 => ?_⟩
  rw [List.length_append, List.length_singleton] at h1
  simp only [up_at]
  by_cases q : i = P.length
  · obtain ⟨e1, e2, e3⟩ := (px_app (q := (x, v, w)) h0).2 q
    rw [e1, e2, e3]
    refine ⟨?_, ?_, ?_⟩ <;> simp <;> omega
  · obtain ⟨e1, e2, e3⟩ := (px_app (q := (x, v, w)) h0).1 (show i < P.length by omega)
    obtain ⟨f1, f2, f3⟩ := d3 i h0 (by omega)
    rw [e1, e2, e3, ← f1, ← f2, ← f3]
    refine ⟨?_, ?_, ?_⟩ <;> simp <;> omega
def DropM (σ τ : Mem) (P : List Pt) (p k : Int) : Prop := τ 1 0 = (P.length : Int) - 1 ∧ (∀ i : Int, 0 ≤ i → i < P.length → ((i < p ∨ k ≤ i) → τ 1 (1 + i) = px P i ∧ τ 1 (13 + i) = pv P i ∧ τ 1 (25 + i) = pw P i) ∧ ((p ≤ i ∧ i < k) → τ 1 (1 + i) = px P (i + 1) ∧ τ 1 (13 + i) = pv P (i + 1) ∧ τ 1 (25 + i) = pw P (i + 1))) ∧ ∀ b : Nat, b ≠ 1 → τ b = σ b
theorem dropM_0 {σ : Mem} {P : List Pt} {p : Int} (h : PtsAt σ 1 0 P) : DropM σ (up σ 1 0 ((P.length : Int) - 1)) P p p := by
  obtain ⟨d1, d2, d3⟩ := h.d
  refine ⟨up_same _ _ _ _, fun i h0 h1 => ⟨fun _ => ?_, fun q => by omega⟩, fun b hb => up_ne hb⟩
  rw [up_nj (by omega), up_nj (by omega), up_nj (by omega)]
  exact d3 i h0 h1
theorem dropM_s {σ τ : Mem} {P : List Pt} {p k : Int} (h : DropM σ τ P p k) (hp : 0 ≤ p ∧ p ≤ k) (hl : P.length ≤ 12) (hk : k + 1 < P.length) : DropM σ (up (up (up τ 1 (1 + k) (px P (k + 1))) 1 (13 + k) (pv P (k + 1))) 1 (25 + k) (pw P (k + 1))) P p (k + 1) := by
  obtain ⟨a, b, c⟩ := h
  refine ⟨?_, fun i h0 h1 => ?_, fun x hx => by rw [up_ne hx, up_ne hx, up_ne hx]; exact c x hx⟩
  · rw [up_nj (by omega), up_nj (by omega), up_nj (by omega)]; exact a
  · obtain ⟨b1, b2⟩ := b i h0 h1
    simp only [up_at]
    by_cases q : i = k
    · subst q
      refine ⟨fun h => by omega, fun h => ?_⟩
      refine ⟨?_, ?_, ?_⟩ <;> simp <;> omega
    · refine ⟨fun h => ?_, fun h => ?_⟩
      · obtain ⟨e1, e2, e3⟩ := b1 (by omega)
        rw [← e1, ← e2, ← e3]
        refine ⟨?_, ?_, ?_⟩ <;> simp <;> omega
      · obtain ⟨e1, e2, e3⟩ := b2 (by omega)
        rw [← e1, ← e2, ← e3]
        refine ⟨?_, ?_, ?_⟩ <;> simp <;> omega
theorem dropM_e {σ τ : Mem} {P : List Pt} {p k : Int} (h : DropM σ τ P p k) (hp : 0 ≤ p ∧ p < P.length) (hl : P.length ≤ 12) (hk : (P.length : Int) - 1 ≤ k) : PtsAt τ 1 0 (P.eraseIdx p.toNat) := by
  obtain ⟨a, b, c⟩ := h
  have hl2 : (P.eraseIdx p.toNat).length = P.length - 1 := List.length_eraseIdx_of_lt (by omega)
  refine PtsAt.of_d ⟨by rw [a, hl2]; omega, by omega, fun i h0 h1 => ?_⟩
  rw [hl2] at h1
  obtain ⟨b1, b2⟩ := b i h0 (by omega)
  by_cases q : i < p
  · obtain ⟨e1, e2, e3⟩ := (px_era (P := P) hp.1 h0).1 q
    rw [e1, e2, e3]; exact b1 (Or.inl q)
  · obtain ⟨e1, e2, e3⟩ := (px_era (P := P) hp.1 h0).2 (by omega)
    rw [e1, e2, e3]; exact b2 (by omega)
theorem m_set {σ : Mem} {P : List Pt} {p v w : Int} (h : PtsAt σ 1 0 P) (hp : 0 ≤ p ∧ p < P.length) : PtsAt (up (up σ 1 (13 + p) v) 1 (25 + p) w) 1 0 (P.set p.toNat (px P p, v, w)) := by
  obtain ⟨d1, d2, d3⟩ := h.d
  refine PtsAt.of_d ⟨by rw [up_nj (by omega), up_nj (by omega), d1]; simp, by simp; omega, fun i h0 h1 => ?_⟩
  rw [List.length_set] at h1
  obtain ⟨e1, e2⟩ := px_set (q := (px P p, v, w)) hp.1 h0 h1
  obtain ⟨f1, f2, f3⟩ := d3 i h0 h1
  simp only [up_at]
  by_cases q : i = p
  · obtain ⟨g1, g2, g3⟩ := e1 q
    rw [g1, g2, g3]
    subst q
    refine ⟨?_, ?_, ?_⟩ <;> simp <;> omega
  · obtain ⟨g1, g2, g3⟩ := e2 q
    rw [g1, g2, g3, ← f1, ← f2, ← f3]
    refine ⟨?_, ?_, ?_⟩ <;> simp <;> omega
def MirM (σ τ : Mem) (P P2 : List Pt) (p : Int) : Prop := τ 1 0 = P.length ∧ (∀ i : Int, 0 ≤ i → i < P.length → (i < p → τ 1 (1 + i) = px P2 i ∧ τ 1 (13 + i) = pv P2 i ∧ τ 1 (25 + i) = pw P2 i) ∧ (p ≤ i → τ 1 (1 + i) = px P i ∧ τ 1 (13 + i) = pv P i ∧ τ 1 (25 + i) = pw P i)) ∧ ∀ b : Nat, b ≠ 1 → τ b = σ b
theorem mirM_0 {σ : Mem} {P P2 : List Pt} (h : PtsAt σ 1 0 P) : MirM σ σ P P2 0 := ⟨h.d.1, fun i h0 h1 => ⟨fun q => by omega, fun _ => h.d.2.2 i h0 h1⟩, fun _ _ => rfl⟩
theorem mirM_s {σ τ : Mem} {P P2 : List Pt} {p : Int} (h : MirM σ τ P P2 p) (hp : 0 ≤ p ∧ p < P.length) (hl : P.length ≤ 12) (hw : pw P2 p = pw P p) : MirM σ (up (up τ 1 (1 + p) (px P2 p)) 1 (13 + p) (pv P2 p)) P P2 (p + 1) := by
  obtain ⟨a, b, c⟩ := h
  refine ⟨by rw [up_nj (by omega), up_nj (by omega)]; exact a, fun i h0 h1 => ?_, fun x hx => by rw [up_ne hx, up_ne hx]; exact c x hx⟩
  obtain ⟨b1, b2⟩ := b i h0 h1
  simp only [up_at]
  by_cases q : i = p
  · subst q
    obtain ⟨e1, e2, e3⟩ := b2 (Int.le_refl _)
    refine ⟨fun _ => ?_, fun h => by omega⟩
    rw [hw, ← e3]
    refine ⟨?_, ?_, ?_⟩ <;> simp <;> omega
  · refine ⟨fun h => ?_, fun h => ?_⟩
    · obtain ⟨e1, e2, e3⟩ := b1 (by omega)
      rw [← e1, ← e2, ← e3]
      refine ⟨?_, ?_, ?_⟩ <;> simp <;> omega
    · obtain ⟨e1, e2, e3⟩ := b2 (by omega)
      rw [← e1, ← e2, ← e3]
      refine ⟨?_, ?_, ?_⟩ <;> simp <;> omega
theorem mirM_e {σ τ : Mem} {P P2 : List Pt} {p : Int} (h : MirM σ τ P P2 p) (hp : P.length ≤ p) (hl : P.length ≤ 12) (h2 : P2.length = P.length) : PtsAt τ 1 0 P2 :=
  PtsAt.of_d ⟨by rw [h.1, h2], by omega, fun i h0 h1 => (h.2.1 i h0 (by omega)).1 (by omega)⟩
theorem undo_e {σ τ : Mem} {P : List Pt} {o k : Int} (h : PtsAt σ 2 o P) (hM : MapO σ τ 1 0 (fun i => σ 2 (o + i)) k) (hk : k = 37) : PtsAt τ 1 0 P := by
  obtain ⟨m1, m2, m3⟩ := hM
  obtain ⟨q1, q2, q3⟩ := h
  have hv : ∀ x : Int, 0 ≤ x → x < 37 → τ 1 x = σ 2 (o + x) := fun x a b => by
    have := m1 x a (by omega)
    rw [show (0 : Int) + x = x by omega] at this
    exact this
  refine PtsAt.of_d ⟨by rw [hv 0 (by omega) (by omega), show o + 0 = o by omega]; exact q1, q2, fun i a b => ?_⟩
  obtain ⟨r1, r2, r3⟩ := q3 i a b
  rw [hv _ (by omega) (by omega), hv _ (by omega) (by omega), hv _ (by omega) (by omega), show o + (1 + i) = o + 1 + i by omega, show o + (13 + i) = o + 13 + i by omega, show o + (25 + i) = o + 25 + i by omega]
  exact ⟨r1, r2, r3⟩
theorem minv_undo {σ ρ τ : Mem} {P : List Pt} {hs : List (List Pt)} {tx ch : List Int} (h : MInv σ P hs tx ch) (hl : 0 < hs.length) (hρ : ρ = up σ 0 2 ((hs.length : Int) - 1)) (hk : ρ 0 2 = (hs.length : Int) - 1) (hu : ∀ b : Nat, b ≠ 1 → τ b = ρ b) (hP : PtsAt τ 1 0 (hAt hs ((hs.length : Int) - 1))) : MInv τ (hAt hs ((hs.length : Int) - 1)) hs.dropLast tx ch := by
  obtain ⟨⟨a, b⟩, ⟨c, d⟩, ⟨e, f⟩, g, i⟩ := h
  refine ⟨⟨hP, hAt_ok d (by omega) (by omega)⟩, ⟨⟨by rw [hu 0 (by omega), hk, List.length_dropLast]; omega, by simp; have := c.2.1; omega, fun j h0 h1 => ?_⟩, fun Q hQ => d Q (List.dropLast_subset hs hQ)⟩, ⟨e.eq (by rw [hu 3 (by omega), hρ]; rfl) (by rw [hu 0 (by omega), hρ]; rfl), f⟩, g.eq (by rw [hu 4 (by omega), hρ]; rfl) (by rw [hu 0 (by omega), hρ]; rfl), i⟩
  rw [List.length_dropLast] at h1
  rw [hAt_drop h0 (by omega)]
  exact (c.2.2 j h0 (by omega)).eq (by rw [hu 2 (by omega), hρ]; rfl)
