/-! points as lists, and rows that hold them -/
abbrev Pt : Type := Int × Int × Int
def px (P : List Pt) (i : Int) : Int := (P.getD i.toNat (0, 0, 0)).1
def pv (P : List Pt) (i : Int) : Int := (P.getD i.toNat (0, 0, 0)).2.1
def pw (P : List Pt) (i : Int) : Int := (P.getD i.toNat (0, 0, 0)).2.2
def RowIs (σ : Mem) (k : Nat) (P : List Pt) : Prop := σ k 3 = (P.length : Int) ∧ P.length ≤ 12 ∧ ∀ i : Int, 0 ≤ i → i < P.length → σ (k + 1) i = px P i ∧ σ (k + 2) i = pv P i ∧ σ (k + 3) i = pw P i
def Same4 (σ u : Mem) (k : Nat) : Prop := ∀ a : Nat, a ≠ k → a ≠ k + 1 → a ≠ k + 2 → a ≠ k + 3 → u a = σ a
def ptOk (q : Pt) : Prop := 0 ≤ q.1 ∧ q.1 ≤ 40 ∧ -99 ≤ q.2.1 ∧ q.2.1 ≤ 99 ∧ 1 ≤ q.2.2 ∧ q.2.2 ≤ 2
def ptsOk (P : List Pt) : Prop := ∀ q ∈ P, ptOk q
theorem p_mem {P : List Pt} {i : Int} (h0 : 0 ≤ i) (h : i < P.length) : P.getD i.toNat (0, 0, 0) ∈ P := by
  have h1 : i.toNat < P.length := by omega
  rw [List.getD_eq_getElem?_getD, List.getElem?_eq_getElem h1]
  exact List.getElem_mem h1
theorem px_ok {P : List Pt} (hP : ptsOk P) {i : Int} (h0 : 0 ≤ i) (h : i < P.length) : 0 ≤ px P i ∧ px P i ≤ 40 := ⟨(hP _ (p_mem h0 h)).1, (hP _ (p_mem h0 h)).2.1⟩
theorem pv_ok {P : List Pt} (hP : ptsOk P) {i : Int} (h0 : 0 ≤ i) (h : i < P.length) : -99 ≤ pv P i ∧ pv P i ≤ 99 := ⟨(hP _ (p_mem h0 h)).2.2.1, (hP _ (p_mem h0 h)).2.2.2.1⟩
theorem pw_ok {P : List Pt} (hP : ptsOk P) {i : Int} (h0 : 0 ≤ i) (h : i < P.length) : 1 ≤ pw P i ∧ pw P i ≤ 2 := ⟨(hP _ (p_mem h0 h)).2.2.2.2.1, (hP _ (p_mem h0 h)).2.2.2.2.2⟩
theorem p_ext {P P' : List Pt} (hl : P.length = P'.length) (h : ∀ i : Int, 0 ≤ i → i < P.length → px P i = px P' i ∧ pv P i = pv P' i ∧ pw P i = pw P' i) : P = P' := by
  apply List.ext_getElem hl
  intro i h1 h2
  obtain ⟨a, b, c⟩ := h i (by omega) (by omega)
  unfold px pv pw at *
  simp only [Int.toNat_natCast, List.getD_eq_getElem?_getD, List.getElem?_eq_getElem h1, List.getElem?_eq_getElem h2, Option.getD_some] at a b c
  exact Prod.ext a (Prod.ext b c)
theorem p_app {P : List Pt} {q : Pt} {i : Int} (h0 : 0 ≤ i) : (i < P.length → (P ++ [q]).getD i.toNat (0, 0, 0) = P.getD i.toNat (0, 0, 0)) ∧ (i = P.length → (P ++ [q]).getD i.toNat (0, 0, 0) = q) := by
  constructor
  · intro h
    rw [List.getD_eq_getElem?_getD, List.getD_eq_getElem?_getD, List.getElem?_append_left (by omega)]
  · intro h
    subst h
    simp [List.getD_eq_getElem?_getD]
theorem p_set {P : List Pt} {q : Pt} {x i : Int} (hx : 0 ≤ x) (h0 : 0 ≤ i) (h1 : i < P.length) : (P.set x.toNat q).getD i.toNat (0, 0, 0) = if i = x then q else P.getD i.toNat (0, 0, 0) := by
  rw [List.getD_eq_getElem?_getD, List.getD_eq_getElem?_getD, List.getElem?_set]
  by_cases h : i = x
  · subst h
    rw [if_pos rfl, if_pos rfl, if_pos (by omega)]; rfl
  · rw [if_neg (by omega), if_neg h]
theorem p_era {P : List Pt} {x i : Int} (hx : 0 ≤ x) (h0 : 0 ≤ i) : (P.eraseIdx x.toNat).getD i.toNat (0, 0, 0) = if i < x then P.getD i.toNat (0, 0, 0) else P.getD (i + 1).toNat (0, 0, 0) := by
  rw [List.getD_eq_getElem?_getD, List.getElem?_eraseIdx]
  by_cases h : i < x
  · rw [if_pos (by omega), if_pos h, List.getD_eq_getElem?_getD]
  · rw [if_neg (by omega), if_neg h, List.getD_eq_getElem?_getD, show (i + 1).toNat = i.toNat + 1 by omega]
theorem p_map {P : List Pt} {f : Pt → Pt} {i : Int} (h0 : 0 ≤ i) (h1 : i < P.length) : (P.map f).getD i.toNat (0, 0, 0) = f (P.getD i.toNat (0, 0, 0)) := by
  have h : i.toNat < P.length := by omega
  rw [List.getD_eq_getElem?_getD, List.getD_eq_getElem?_getD, List.getElem?_map, List.getElem?_eq_getElem h]; rfl
theorem RowIs.val {σ : Mem} {k : Nat} {P : List Pt} (h : RowIs σ k P) (hP : ptsOk P) {i : Int} (h0 : 0 ≤ i) (h1 : i < P.length) : (0 ≤ σ (k + 1) i ∧ σ (k + 1) i ≤ 40) ∧ (-99 ≤ σ (k + 2) i ∧ σ (k + 2) i ≤ 99) ∧ 1 ≤ σ (k + 3) i ∧ σ (k + 3) i ≤ 2 := by
  obtain ⟨a, b, c⟩ := h.2.2 i h0 h1
  rw [a, b, c]
  exact ⟨px_ok hP h0 h1, pv_ok hP h0 h1, pw_ok hP h0 h1⟩
theorem RowIs.of_same {σ u : Mem} {k k' : Nat} {P : List Pt} (h : RowIs σ k P) (hs : Same4 σ u k') (hd : k + 3 < k' ∨ k' + 3 < k) : RowIs u k P := by
  unfold RowIs
  rw [hs k (by omega) (by omega) (by omega) (by omega), hs (k + 1) (by omega) (by omega) (by omega) (by omega), hs (k + 2) (by omega) (by omega) (by omega) (by omega), hs (k + 3) (by omega) (by omega) (by omega) (by omega)]
  exact h
theorem RowIs.eq {σ u : Mem} {k : Nat} {P : List Pt} (h : RowIs σ k P) (h0 : u k = σ k) (h1 : u (k + 1) = σ (k + 1)) (h2 : u (k + 2) = σ (k + 2)) (h3 : u (k + 3) = σ (k + 3)) : RowIs u k P := by
  unfold RowIs
  rw [h0, h1, h2, h3]
  exact h
theorem RowIs.uniq {σ : Mem} {k : Nat} {P P' : List Pt} (h : RowIs σ k P) (h' : RowIs σ k P') : P = P' := by
  have hl : P.length = P'.length := by have := h.1; have := h'.1; omega
  refine p_ext hl (fun i h0 h1 => ?_)
  obtain ⟨a, b, c⟩ := h.2.2 i h0 h1
  obtain ⟨a', b', c'⟩ := h'.2.2 i h0 (by omega)
  exact ⟨by rw [← a, a'], by rw [← b, b'], by rw [← c, c']⟩
theorem px_app {P : List Pt} {q : Pt} {i : Int} (h0 : 0 ≤ i) : (i < P.length → px (P ++ [q]) i = px P i ∧ pv (P ++ [q]) i = pv P i ∧ pw (P ++ [q]) i = pw P i) ∧ (i = P.length → px (P ++ [q]) i = q.1 ∧ pv (P ++ [q]) i = q.2.1 ∧ pw (P ++ [q]) i = q.2.2) := by
  unfold px pv pw
  exact ⟨fun h => by rw [(p_app h0).1 h]; exact ⟨rfl, rfl, rfl⟩, fun h => by rw [(p_app h0).2 h]; exact ⟨rfl, rfl, rfl⟩⟩
theorem px_era {P : List Pt} {x i : Int} (hx : 0 ≤ x) (h0 : 0 ≤ i) : (i < x → px (P.eraseIdx x.toNat) i = px P i ∧ pv (P.eraseIdx x.toNat) i = pv P i ∧ pw (P.eraseIdx x.toNat) i = pw P i) ∧ (x ≤ i → px (P.eraseIdx x.toNat) i = px P (i + 1) ∧ pv (P.eraseIdx x.toNat) i = pv P (i + 1) ∧ pw (P.eraseIdx x.toNat) i = pw P (i + 1)) := by
  unfold px pv pw
  rw [p_era hx h0]
  exact ⟨fun h => by rw [if_pos h]; exact ⟨rfl, rfl, rfl⟩, fun h => by rw [if_neg (by omega)]; exact ⟨rfl, rfl, rfl⟩⟩
theorem px_set {P : List Pt} {q : Pt} {x i : Int} (hx : 0 ≤ x) (h0 : 0 ≤ i) (h1 : i < P.length) : (i = x → px (P.set x.toNat q) i = q.1 ∧ pv (P.set x.toNat q) i = q.2.1 ∧ pw (P.set x.toNat q) i = q.2.2) ∧ (i ≠ x → px (P.set x.toNat q) i = px P i ∧ pv (P.set x.toNat q) i = pv P i ∧ pw (P.set x.toNat q) i = pw P i) := by
  unfold px pv pw
  rw [p_set hx h0 h1]
  exact ⟨fun h => by rw [if_pos h]; exact ⟨rfl, rfl, rfl⟩, fun h => by rw [if_neg h]; exact ⟨rfl, rfl, rfl⟩⟩
theorem rowEmpty {σ : Mem} {k : Nat} : RowIs (up σ k 3 0) k [] ∧ Same4 σ (up σ k 3 0) k := by
  refine ⟨⟨by simp [up], by simp, fun i h0 h1 => ?_⟩, fun a h0 h1 h2 h3 => up_ne h0⟩
  simp at h1; omega
theorem rowAppend {σ : Mem} {k : Nat} {P : List Pt} {x y w : Int} (hR : RowIs σ k P) (hlen : P.length < 12) : RowIs (up (up (up (up σ (k + 1) (σ k 3) x) (k + 2) (σ k 3) y) (k + 3) (σ k 3) w) k 3 (σ k 3 + 1)) k (P ++ [(x, y, w)]) ∧ Same4 σ (up (up (up (up σ (k + 1) (σ k 3) x) (k + 2) (σ k 3) y) (k + 3) (σ k 3) w) k 3 (σ k 3 + 1)) k := by
  obtain ⟨hn, h12, hP⟩ := hR
  refine ⟨⟨?_, by simp; omega, fun i h0 h1 => ?_⟩, fun a h0 h1 h2 h3 => by rw [up_ne h0, up_ne h3, up_ne h2, up_ne h1]⟩
  · rw [up_same, hn]; simp
  · have h1 : i < P.length ∨ i = P.length := by simp at h1; omega
    simp only [up_at]
    rcases h1 with h1 | h1
    · obtain ⟨a, b, c⟩ := (px_app (q := (x, y, w)) h0).1 h1
      obtain ⟨a', b', c'⟩ := hP i h0 h1
      rw [a, b, c, ← a', ← b', ← c']
      refine ⟨?_, ?_, ?_⟩ <;> simp <;> omega
    · obtain ⟨a, b, c⟩ := (px_app (q := (x, y, w)) h0).2 h1
      rw [a, b, c]
      refine ⟨?_, ?_, ?_⟩ <;> simp <;> omega
/-- z: the least position of the first n points that is above x, or -1 -/
def Behind (P : List Pt) (x n z : Int) : Prop := (z = -1 ∧ ∀ i : Int, 0 ≤ i → i < n → px P i ≤ x) ∨ (x < z ∧ (∃ i : Int, 0 ≤ i ∧ i < n ∧ px P i = z) ∧ ∀ i : Int, 0 ≤ i → i < n → x < px P i → z ≤ px P i)
theorem behind_skip {P : List Pt} {x j z : Int} (h : Behind P x j z) (hz : -1 ≤ z) (hp : 0 ≤ px P j) (hs : px P j ≤ x ∨ (z ≠ -1 ∧ z ≤ px P j)) : Behind P x (j + 1) z := by
  rcases h with ⟨a, b⟩ | ⟨a, ⟨i0, b, c, d⟩, e⟩
  · refine Or.inl ⟨a, fun i h0 h1 => ?_⟩
    by_cases q : i = j
    · subst q; omega
    · exact b i h0 (by omega)
  · refine Or.inr ⟨a, ⟨i0, b, by omega, d⟩, fun i h0 h1 h2 => ?_⟩
    by_cases q : i = j
    · subst q; omega
    · exact e i h0 (by omega) h2
theorem behind_take {P : List Pt} {x j z : Int} (h : Behind P x j z) (hp : ∀ i : Int, 0 ≤ i → i < j → 0 ≤ px P i) (hj : 0 ≤ j) (h1 : x < px P j) (hs : z = -1 ∨ px P j < z) : Behind P x (j + 1) (px P j) := by
  refine Or.inr ⟨h1, ⟨j, hj, by omega, rfl⟩, fun i h0 h2 h3 => ?_⟩
  by_cases q : i = j
  · subst q; omega
  · rcases h with ⟨a, b⟩ | ⟨a, ⟨i0, f1, f2, f3⟩, e⟩
    · have := b i h0 (by omega); omega
    · have := e i h0 (by omega) h3; have := hp i0 f1 f2; omega
def DropInv (σ τ : Mem) (k : Nat) (P : List Pt) (x j : Int) : Prop := τ k = σ k ∧ Same4 σ τ k ∧ ∀ i : Int, 0 ≤ i → i < P.length → ((i < x ∨ j - 1 ≤ i) → τ (k + 1) i = px P i ∧ τ (k + 2) i = pv P i ∧ τ (k + 3) i = pw P i) ∧ ((x ≤ i ∧ i < j - 1) → τ (k + 1) i = px P (i + 1) ∧ τ (k + 2) i = pv P (i + 1) ∧ τ (k + 3) i = pw P (i + 1))
theorem drop_0 {σ : Mem} {k : Nat} {P : List Pt} {x : Int} (hR : RowIs σ k P) : DropInv σ σ k P x (x + 1) := ⟨rfl, fun _ _ _ _ _ => rfl, fun i h0 h1 => ⟨fun _ => hR.2.2 i h0 h1, fun h => by omega⟩⟩
theorem drop_s {σ τ : Mem} {k : Nat} {P : List Pt} {x j : Int} (h : DropInv σ τ k P x j) (hx : 0 ≤ x) (hj : x < j) (hj2 : j < P.length) : DropInv σ (up (up (up τ (k + 1) (j - 1) (τ (k + 1) j)) (k + 2) (j - 1) (τ (k + 2) j)) (k + 3) (j - 1) (τ (k + 3) j)) k P x (j + 1) := by
  obtain ⟨a, b, c⟩ := h
  refine ⟨?_, fun y h0 h1 h2 h3 => ?_, fun i h0 h1 => ?_⟩
  · rw [up_ne (by omega), up_ne (by omega), up_ne (by omega), a]
  · rw [up_ne h3, up_ne h2, up_ne h1]; exact b y h0 h1 h2 h3
  · obtain ⟨c1, c2⟩ := c i h0 h1
    obtain ⟨d1, -⟩ := c j (by omega) hj2
    obtain ⟨d1, d2, d3⟩ := d1 (by omega)
    simp only [up_at]
    by_cases q : i = j - 1
    · have e : i + 1 = j := by omega
      subst q
      refine ⟨fun h => by omega, fun h => ?_⟩
      simp [d1, d2, d3]
    · refine ⟨fun h => ?_, fun h => ?_⟩
      · obtain ⟨e1, e2, e3⟩ := c1 (by omega)
        simp [q, e1, e2, e3]
      · obtain ⟨e1, e2, e3⟩ := c2 (by omega)
        simp [q, e1, e2, e3]
theorem drop_e {σ τ : Mem} {k : Nat} {P : List Pt} {x j : Int} (hR : RowIs σ k P) (h : DropInv σ τ k P x j) (hx : 0 ≤ x) (hx2 : x < P.length) (hj : P.length ≤ j) : RowIs (up τ k 3 (τ k 3 - 1)) k (P.eraseIdx x.toNat) ∧ Same4 σ (up τ k 3 (τ k 3 - 1)) k := by
  obtain ⟨a, b, c⟩ := h
  obtain ⟨hn, h12, hP⟩ := hR
  have hl : (P.eraseIdx x.toNat).length = P.length - 1 := List.length_eraseIdx_of_lt (by omega)
  refine ⟨⟨?_, by omega, fun i h0 h1 => ?_⟩, fun y h0 h1 h2 h3 => by rw [up_ne h0]; exact b y h0 h1 h2 h3⟩
  · rw [up_same, a, hn, hl]; omega
  · rw [hl] at h1
    obtain ⟨c1, c2⟩ := c i h0 (by omega)
    rw [up_ne (by omega), up_ne (by omega), up_ne (by omega)]
    by_cases q : i < x
    · obtain ⟨e1, e2, e3⟩ := (px_era (P := P) hx h0).1 q
      rw [e1, e2, e3]; exact c1 (Or.inl q)
    · obtain ⟨e1, e2, e3⟩ := (px_era (P := P) hx h0).2 (by omega)
      rw [e1, e2, e3]; exact c2 (by omega)
theorem rowChange {σ : Mem} {k : Nat} {P : List Pt} {x y w : Int} (hR : RowIs σ k P) (hx : 0 ≤ x) (hx2 : x < P.length) : RowIs (up (up σ (k + 2) x y) (k + 3) x w) k (P.set x.toNat (px P x, y, w)) ∧ Same4 σ (up (up σ (k + 2) x y) (k + 3) x w) k := by
  obtain ⟨hn, h12, hP⟩ := hR
  refine ⟨⟨?_, by simp; omega, fun i h0 h1 => ?_⟩, fun a h0 h1 h2 h3 => by rw [up_ne h3, up_ne h2]⟩
  · rw [up_ne (by omega), up_ne (by omega), hn]; simp
  · rw [List.length_set] at h1
    obtain ⟨a, b, c⟩ := hP i h0 h1
    obtain ⟨e1, e2⟩ := px_set (q := (px P x, y, w)) hx h0 h1
    simp only [up_at]
    by_cases q : i = x
    · obtain ⟨f1, f2, f3⟩ := e1 q
      rw [f1, f2, f3]; subst q; simp [a]
    · obtain ⟨f1, f2, f3⟩ := e2 q
      rw [f1, f2, f3]; simp [q, a, b, c]
def mirP (P : List Pt) : List Pt := P.map (fun q => (40 - q.1, q.2))
def mirV (P : List Pt) : List Pt := P.map (fun q => (q.1, -q.2.1, q.2.2))
theorem mirP_at {P : List Pt} {i : Int} (h0 : 0 ≤ i) (h1 : i < P.length) : px (mirP P) i = 40 - px P i ∧ pv (mirP P) i = pv P i ∧ pw (mirP P) i = pw P i := by
  unfold px pv pw mirP
  rw [p_map h0 h1]; exact ⟨rfl, rfl, rfl⟩
theorem mirV_at {P : List Pt} {i : Int} (h0 : 0 ≤ i) (h1 : i < P.length) : px (mirV P) i = px P i ∧ pv (mirV P) i = -pv P i ∧ pw (mirV P) i = pw P i := by
  unfold px pv pw mirV
  rw [p_map h0 h1]; exact ⟨rfl, rfl, rfl⟩
theorem mirP_len (P : List Pt) : (mirP P).length = P.length := by simp [mirP]
theorem mirV_len (P : List Pt) : (mirV P).length = P.length := by simp [mirV]
/-- the first j cells of the array at place a are g, the others as before; nothing else has changed -/
def MapInv (σ τ : Mem) (a : Nat) (g : Int → Int) (j : Int) : Prop := (∀ i : Int, 0 ≤ i → i < j → τ a i = g i) ∧ (∀ i : Int, j ≤ i → τ a i = σ a i) ∧ ∀ b, b ≠ a → τ b = σ b
theorem map_0 {σ : Mem} {a : Nat} {g : Int → Int} : MapInv σ σ a g 0 := ⟨fun i h0 h1 => by omega, fun _ _ => rfl, fun _ _ => rfl⟩
theorem map_s {σ τ : Mem} {a : Nat} {g : Int → Int} {j v : Int} (h : MapInv σ τ a g j) (hv : v = g j) : MapInv σ (up τ a j v) a g (j + 1) := by
  obtain ⟨h1, h2, h3⟩ := h
  refine ⟨fun i a0 a1 => ?_, fun i a0 => ?_, fun b hb => by rw [up_ne hb]; exact h3 b hb⟩
  · rw [up_at]
    by_cases q : i = j
    · rw [if_pos ⟨rfl, q⟩, hv, q]
    · rw [if_neg (by omega)]; exact h1 i a0 (by omega)
  · rw [up_at, if_neg (by omega)]; exact h2 i (by omega)
theorem rowMirP {σ τ : Mem} {k : Nat} {P : List Pt} {j : Int} (hR : RowIs σ k P) (h : MapInv σ τ (k + 1) (fun i => 40 - σ (k + 1) i) j) (hj : P.length ≤ j) : RowIs τ k (mirP P) ∧ Same4 σ τ k := by
  obtain ⟨hn, h12, hP⟩ := hR
  obtain ⟨h1, h2, h3⟩ := h
  refine ⟨⟨?_, by rw [mirP_len]; exact h12, fun i a0 a1 => ?_⟩, fun a q0 q1 q2 q3 => h3 a q1⟩
  · rw [h3 k (by omega), hn, mirP_len]
  · rw [mirP_len] at a1
    obtain ⟨e1, e2, e3⟩ := mirP_at a0 a1
    obtain ⟨f1, f2, f3⟩ := hP i a0 a1
    rw [h1 i a0 (by omega), h3 (k + 2) (by omega), h3 (k + 3) (by omega), e1, e2, e3]
    dsimp only
    rw [f1, f2, f3]
    exact ⟨rfl, rfl, rfl⟩
theorem rowMirV {σ τ : Mem} {k : Nat} {P : List Pt} {j : Int} (hR : RowIs σ k P) (h : MapInv σ τ (k + 2) (fun i => -σ (k + 2) i) j) (hj : P.length ≤ j) : RowIs τ k (mirV P) ∧ Same4 σ τ k := by
  obtain ⟨hn, h12, hP⟩ := hR
  obtain ⟨h1, h2, h3⟩ := h
  refine ⟨⟨?_, by rw [mirV_len]; exact h12, fun i a0 a1 => ?_⟩, fun a q0 q1 q2 q3 => h3 a q2⟩
  · rw [h3 k (by omega), hn, mirV_len]
  · rw [mirV_len] at a1
    obtain ⟨e1, e2, e3⟩ := mirV_at a0 a1
    obtain ⟨f1, f2, f3⟩ := hP i a0 a1
    rw [h1 i a0 (by omega), h3 (k + 1) (by omega), h3 (k + 3) (by omega), e1, e2, e3]
    dsimp only
    rw [f1, f2, f3]
    exact ⟨rfl, rfl, rfl⟩
theorem take_succ {P : List Pt} {j : Int} (h0 : 0 ≤ j) (h1 : j < P.length) : P.take j.toNat ++ [(px P j, pv P j, pw P j)] = P.take (j + 1).toNat := by
  have h : j.toNat < P.length := by omega
  rw [show (j + 1).toNat = j.toNat + 1 by omega, List.take_add_one, List.getElem?_eq_getElem h]
  unfold px pv pw
  rw [List.getD_eq_getElem?_getD, List.getElem?_eq_getElem h]
  rfl
