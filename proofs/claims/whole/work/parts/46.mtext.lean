/-! the reference reads texts -/
def SameF (σ u : Mem) : Prop := (∀ a : Nat, a ≠ 0 → a ≠ 4 → a ≠ 5 → u a = σ a) ∧ ∀ j : Int, j ≠ 6 → j ≠ 22 → j ≠ 23 → u 0 j = σ 0 j
theorem SameF.rf {σ : Mem} : SameF σ σ := ⟨fun _ _ _ _ => rfl, fun _ _ _ _ => rfl⟩
theorem SameF.trans {σ τ u : Mem} (h : SameF σ τ) (h' : SameF τ u) : SameF σ u := ⟨fun a h0 h1 h2 => (h'.1 a h0 h1 h2).trans (h.1 a h0 h1 h2), fun j h0 h1 h2 => (h'.2 j h0 h1 h2).trans (h.2 j h0 h1 h2)⟩
theorem SameF.pl {σ τ : Mem} (h : SameF σ τ) {a : Nat} {i v : Int} (ha : a = 4 ∨ a = 5) : SameF σ (up τ a i v) := ⟨fun b h0 h1 h2 => by rw [up_ne (by omega)]; exact h.1 b h0 h1 h2, fun j h0 h1 h2 => by rw [up_ne (by omega)]; exact h.2 j h0 h1 h2⟩
theorem SameF.fl {σ τ : Mem} (h : SameF σ τ) {j v : Int} (hj : j = 6 ∨ j = 22 ∨ j = 23) : SameF σ (up τ 0 j v) := ⟨fun b h0 h1 h2 => by rw [up_ne h0]; exact h.1 b h0 h1 h2, fun i h0 h1 h2 => by rw [up_nj (by omega)]; exact h.2 i h0 h1 h2⟩
theorem MText.f {σ u : Mem} {tx : List Int} (h : MText σ tx) (hF : SameF σ u) : MText u tx := h.eq (hF.1 3 (by omega) (by omega) (by omega)) (hF.2 4 (by omega) (by omega) (by omega))
theorem mchain_put {σ : Mem} {n part det m : Int} (hd : 0 ≤ det) (hm : m = if det = 0 then 2 else 3) : MChain (up (up (up (up σ 4 0 (10 + n)) 4 1 part) 4 2 det) 0 6 m) (chn n part (if det = 0 then -1 else det)) := by
  unfold chn
  by_cases q : det = 0
  · rw [if_pos q, if_pos rfl]
    rw [if_pos q] at hm
    refine ⟨by rw [up_same, hm]; rfl, fun i h0 h1 => ?_⟩
    have h2 : i = 0 ∨ i = 1 := by simp at h1; omega
    rcases h2 with rfl | rfl
    · rfl
    · rfl
  · rw [if_neg q, if_neg (by omega)]
    rw [if_neg q] at hm
    refine ⟨by rw [up_same, hm]; rfl, fun i h0 h1 => ?_⟩
    have h2 : i = 0 ∨ i = 1 ∨ i = 2 := by simp at h1; omega
    rcases h2 with rfl | rfl | rfl
    · rfl
    · rfl
    · rfl
def RdS (tx : List Int) (what p sg q0 : Int) : Prop := (what = 2 ∧ p < tx.length ∧ at0 tx p = 45 ∧ sg = 1 ∧ q0 = p + 1) ∨ (¬ (what = 2 ∧ p < tx.length ∧ at0 tx p = 45) ∧ sg = 0 ∧ q0 = p)
def RdsPost (σ u : Mem) (tx : List Int) (mN : Nat) (pt what le mo p z : Int) : Prop := ∃ sg q0 n q1 : Int, RdS tx what p sg q0 ∧ rd tx mN (-1) q0 = (n, q1) ∧ ((¬ (le ≤ n ∧ n ≤ mo) ∧ z = 0 ∧ MChain u (chn pt what (if n = -1 then 6 else 7)) ∧ SameF σ u ∧ u 0 23 = σ 0 23) ∨ ((le ≤ n ∧ n ≤ mo) ∧ z = 1 ∧ u = up (up σ 0 22 q1) 5 (12 * (what - 1) + pt) (if sg = 1 then -n else n)))
theorem RdsPost.z {σ u : Mem} {tx : List Int} {mN : Nat} {pt what le mo p z : Int} (h : RdsPost σ u tx mN pt what le mo p z) : z = 0 ∨ z = 1 := by
  obtain ⟨sg, q0, n, q1, -, -, (⟨-, h, -⟩ | ⟨-, h, -⟩)⟩ := h
  · exact Or.inl h
  · exact Or.inr h
theorem rd_mN {tx : List Int} {mN : Nat} {p : Int} (hm : mN = 1 ∨ mN = 2) (h0 : 0 ≤ p) (h1 : p ≤ tx.length) : -1 ≤ (rd tx mN (-1) p).1 ∧ (rd tx mN (-1) p).1 ≤ 99 ∧ p ≤ (rd tx mN (-1) p).2 ∧ (rd tx mN (-1) p).2 ≤ tx.length := by
  rcases hm with rfl | rfl
  · have := rd1_rg h0 h1; omega
  · exact rd2_rg h0 h1
/-- the points read so far -/
def RdIs (τ : Mem) (acc : List Pt) : Prop := ∀ i : Int, 0 ≤ i → i < acc.length → τ 5 i = px acc i ∧ τ 5 (12 + i) = pv acc i ∧ τ 5 (24 + i) = pw acc i
def RQ (σ u : Mem) (i q x v w : Int) : Prop := (u 0 22 = q ∧ u 5 i = x ∧ u 5 (12 + i) = v ∧ u 5 (24 + i) = w) ∧ (∀ a : Nat, a ≠ 0 → a ≠ 5 → u a = σ a) ∧ (∀ j : Int, j ≠ 22 → u 0 j = σ 0 j) ∧ ∀ j : Int, j ≠ i → j ≠ 12 + i → j ≠ 24 + i → u 5 j = σ 5 j
theorem rq_0 {σ : Mem} {i p : Int} (h : σ 0 22 = p) : RQ σ (up σ 5 (24 + i) 1) i p (σ 5 i) (σ 5 (12 + i)) 1 :=
  ⟨⟨h, up_nj (by omega), up_nj (by omega), up_same _ _ _ _⟩, fun a h0 h1 => up_ne h1, fun j hj => rfl, fun j h0 h1 h2 => up_nj h2⟩
theorem RQ.at {σ u : Mem} {i q x v w : Int} (h : RQ σ u i q x v w) (q' : Int) : RQ σ (up u 0 22 q') i q' x v w := by
  obtain ⟨⟨a, b, c, d⟩, e, f, g⟩ := h
  exact ⟨⟨up_same _ _ _ _, b, c, d⟩, fun a h0 h1 => by rw [up_ne h0]; exact e a h0 h1, fun j hj => by rw [up_nj hj]; exact f j hj, g⟩
theorem RQ.px {σ u : Mem} {i q x v w o : Int} (h : RQ σ u i q x v w) (x' : Int) (ho : o = i) : RQ σ (up u 5 o x') i q x' v w := by
  subst ho
  obtain ⟨⟨a, b, c, d⟩, e, f, g⟩ := h
  exact ⟨⟨a, up_same _ _ _ _, by rw [up_nj (by omega)]; exact c, by rw [up_nj (by omega)]; exact d⟩, fun a h0 h1 => by rw [up_ne h1]; exact e a h0 h1, f, fun j h0 h1 h2 => by rw [up_nj h0]; exact g j h0 h1 h2⟩
theorem RQ.pv {σ u : Mem} {i q x v w o : Int} (h : RQ σ u i q x v w) (x' : Int) (ho : o = 12 + i) : RQ σ (up u 5 o x') i q x x' w := by
  subst ho
  obtain ⟨⟨a, b, c, d⟩, e, f, g⟩ := h
  exact ⟨⟨a, by rw [up_nj (by omega)]; exact b, up_same _ _ _ _, by rw [up_nj (by omega)]; exact d⟩, fun a h0 h1 => by rw [up_ne h1]; exact e a h0 h1, f, fun j h0 h1 h2 => by rw [up_nj h1]; exact g j h0 h1 h2⟩
theorem RQ.pw {σ u : Mem} {i q x v w o : Int} (h : RQ σ u i q x v w) (x' : Int) (ho : o = 24 + i) : RQ σ (up u 5 o x') i q x v x' := by
  subst ho
  obtain ⟨⟨a, b, c, d⟩, e, f, g⟩ := h
  exact ⟨⟨a, by rw [up_nj (by omega)]; exact b, by rw [up_nj (by omega)]; exact c, up_same _ _ _ _⟩, fun a h0 h1 => by rw [up_ne h1]; exact e a h0 h1, f, fun j h0 h1 h2 => by rw [up_nj h2]; exact g j h0 h1 h2⟩
theorem RQ.f {σ u : Mem} {i q x v w : Int} (h : RQ σ u i q x v w) : SameF σ u := ⟨fun a h0 h1 h2 => h.2.1 a h0 h2, fun j h0 h1 h2 => h.2.2.1 j h1⟩
theorem RQ.acc {σ u : Mem} {i q x v w : Int} {acc : List Pt} (h : RQ σ u i q x v w) (hA : RdIs σ acc) (hi : i = acc.length) (h12 : acc.length < 12) : RdIs u (acc ++ [(x, v, w)]) := fun j h0 h1 => by
  rw [List.length_append, List.length_singleton] at h1
  obtain ⟨⟨a, b, c, d⟩, e, f, g⟩ := h
  by_cases q : j = acc.length
  · obtain ⟨e1, e2, e3⟩ := (px_app (P := acc) (q := (x, v, w)) h0).2 q
    rw [e1, e2, e3, q, ← hi]
    exact ⟨b, c, d⟩
  · obtain ⟨e1, e2, e3⟩ := (px_app (P := acc) (q := (x, v, w)) h0).1 (by omega)
    rw [e1, e2, e3, g j (by omega) (by omega) (by omega), g (12 + j) (by omega) (by omega) (by omega), g (24 + j) (by omega) (by omega) (by omega)]
    exact hA j h0 (by omega)
def RPm (σ u : Mem) (tx : List Int) (p : Int) (acc : List Pt) (z : Int) : Prop := ((∃ d : Int × Int, ((acc.length = 12 ∧ d = (5, -1)) ∨ (acc.length < 12 ∧ pR1 tx p = .inl d)) ∧ z = 0 ∧ MChain u (chn acc.length d.1 d.2)) ∨ (∃ r : Pt × Int, acc.length < 12 ∧ pR1 tx p = .inr r ∧ z = 1 ∧ RdIs u (acc ++ [r.1]) ∧ u 0 22 = r.2 ∧ u 0 6 = σ 0 6)) ∧ SameF σ u ∧ u 0 23 = σ 0 23
theorem RPm.z {σ u : Mem} {tx : List Int} {p : Int} {acc : List Pt} {z : Int} (h : RPm σ u tx p acc z) : z = 0 ∨ z = 1 := by
  rcases h.1 with ⟨d, -, h, -⟩ | ⟨r, -, -, h, -⟩
  · exact Or.inl h
  · exact Or.inr h
theorem rpm_fail {σ τ u : Mem} {tx : List Int} {p i z : Int} {acc : List Pt} {d : Int × Int} (hr : pR1 tx p = .inl d) (h12 : acc.length < 12) (hi : i = acc.length) (hz : z = 0) (hC : MChain u (chn i d.1 d.2)) (h0 : SameF σ τ) (h1 : SameF τ u) (h2 : u 0 23 = τ 0 23) (h3 : τ 0 23 = σ 0 23) : RPm σ u tx p acc z :=
  ⟨Or.inl ⟨d, Or.inr ⟨h12, hr⟩, hz, by rw [← hi]; exact hC⟩, h0.trans h1, h2.trans h3⟩
theorem rpm_good {σ u : Mem} {tx : List Int} {p i z x v w q : Int} {acc : List Pt} (hr : pR1 tx p = .inr ((x, v, w), q)) (h12 : acc.length < 12) (hi : i = acc.length) (hz : z = 1) (hQ : RQ σ u i q x v w) (hA : RdIs σ acc) : RPm σ u tx p acc z :=
  ⟨Or.inr ⟨((x, v, w), q), h12, hr, hz, hQ.acc hA hi h12, hQ.1.1, hQ.2.2.1 6 (by omega)⟩, hQ.f, hQ.2.2.1 23 (by omega)⟩
theorem pr2_eq {tx : List Int} {x p s q0 : Int} (hS : RdS tx 2 p s q0) : pR2 tx x p = pR3 tx x s q0 := by
  unfold pR2
  rcases hS with ⟨-, a, b, rfl, rfl⟩ | ⟨h, rfl, rfl⟩
  · rw [if_pos ⟨a, b⟩]
  · rw [if_neg (fun q => h ⟨rfl, q.1, q.2⟩)]
theorem pr2_bad {tx : List Int} {x p s q0 n q1 : Int} (hS : RdS tx 2 p s q0) (he : rd tx 2 (-1) q0 = (n, q1)) (hn : n = -1) : pR2 tx x p = .inl (2, 6) := by
  rw [pr2_eq hS]
  unfold pR3
  rw [he]
  exact if_pos hn
theorem pr2_good {tx : List Int} {x p s q0 n q1 v : Int} (hS : RdS tx 2 p s q0) (he : rd tx 2 (-1) q0 = (n, q1)) (hn : n ≠ -1) (hv : v = if s = 1 then -n else n) : pR2 tx x p = if q1 < tx.length ∧ at0 tx q1 = 42 then pR4 tx x v (q1 + 1) else pR5 tx x v 1 q1 := by
  rw [pr2_eq hS, hv]
  unfold pR3
  rw [he]
  exact if_neg hn
theorem minv_f {σ u : Mem} {P : List Pt} {hs : List (List Pt)} {tx ch ch' : List Int} (h : MInv σ P hs tx ch) (hF : SameF σ u) (hC : MChain u ch') (h3 : ch'.length ≤ 3) : MInv u P hs tx ch' := by
  obtain ⟨⟨a, b⟩, ⟨c, d⟩, ⟨e, f⟩, -, -⟩ := h
  exact ⟨⟨a.eq (hF.1 1 (by omega) (by omega) (by omega)), b⟩, ⟨c.eq (hF.1 2 (by omega) (by omega) (by omega)) (hF.2 2 (by omega) (by omega) (by omega)), d⟩, ⟨e.f hF, f⟩, hC, h3⟩
theorem mtext_app {σ : Mem} {tx : List Int} {c : Int} (h : MText σ tx) : MText (up (up σ 3 (tx.length : Int) c) 0 4 ((tx.length : Int) + 1)) (tx ++ [c]) := by
  refine ⟨by rw [up_same]; simp, fun i h0 h1 => ?_⟩
  rw [List.length_append, List.length_singleton] at h1
  rw [up_ne (by omega), up_at]
  by_cases q : i = tx.length
  · rw [if_pos ⟨rfl, q⟩, (at0_app h0).2 q]
  · rw [if_neg (by omega), (at0_app h0).1 (by omega)]; exact h.2 i h0 (by omega)
theorem minv_text {σ u : Mem} {P : List Pt} {hs : List (List Pt)} {tx tx' ch : List Int} (h : MInv σ P hs tx ch) (hT : MText u tx' ∧ txOk tx') (hu : (∀ a : Nat, a ≠ 0 → a ≠ 3 → u a = σ a) ∧ ∀ j : Int, j ≠ 4 → u 0 j = σ 0 j) : MInv u P hs tx' ch := by
  obtain ⟨⟨a, b⟩, ⟨c, d⟩, -, g, i⟩ := h
  exact ⟨⟨a.eq (hu.1 1 (by omega) (by omega)), b⟩, ⟨c.eq (hu.1 2 (by omega) (by omega)) (hu.2 2 (by omega)), d⟩, hT, g.eq (hu.1 4 (by omega) (by omega)) (hu.2 6 (by omega)), i⟩
theorem lay_pts {σ τ : Mem} {acc : List Pt} {k : Int} (hA : RdIs σ acc) (h12 : acc.length ≤ 12) (hM : MapO (up σ 1 0 (acc.length : Int)) τ 1 1 (fun i => σ 5 i) k) (hk : k = 36) : PtsAt τ 1 0 acc := by
  obtain ⟨m1, m2, m3⟩ := hM
  subst hk
  refine PtsAt.of_d ⟨by rw [m2 0 (by omega), up_same], h12, fun i h0 h1 => ?_⟩
  obtain ⟨e1, e2, e3⟩ := hA i h0 h1
  have f1 := m1 i h0 (by omega)
  have f2 := m1 (12 + i) (by omega) (by omega)
  have f3 := m1 (24 + i) (by omega) (by omega)
  dsimp only at f1 f2 f3
  rw [show 1 + (12 + i) = 13 + i by omega] at f2
  rw [show 1 + (24 + i) = 25 + i by omega] at f3
  exact ⟨f1.trans e1, f2.trans e2, f3.trans e3⟩
theorem txOk_app {tx : List Int} {c : Int} (h : txOk tx) (hl : tx.length < 90) (hc : 32 ≤ c ∧ c ≤ 126) : txOk (tx ++ [c]) := ⟨by rw [List.length_append, List.length_singleton]; omega, fun x hx => by
  rcases List.mem_append.mp hx with h9 | h9
  · exact h.2 x h9
  · rw [List.mem_singleton.mp h9]; omega⟩
