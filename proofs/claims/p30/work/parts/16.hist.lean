/-! the history: six rows, used again -/
theorem g_topr {p : Program} {l : Launch} {e : Env} {R : Room} {s : State} {m : MethodId} {args : Array Value} {below : List Frame} {meth : Method} {c : Code} {H : Heap} {locs : List Loc} {cells slots : Nat} {Z : State → Prop} {pc : Nat} {ls : Array Slot} {rest : List Value} {Y : Yt} {k k' : Nat} (h : k = k') (kk : W p l e R s m args below meth c H locs cells slots Z (F0 m pc ls (.ref (Y.2.1 k') :: rest))) : W p l e R s m args below meth c H locs cells slots Z (F0 m pc ls (.ref (Y.2.1 k) :: rest)) := by subst h; exact kk
def hRow (x : Int) : Prop := x = 14 ∨ x = 18 ∨ x = 22 ∨ x = 26 ∨ x = 30 ∨ x = 34
theorem hRow.is {x : Int} (h : hRow x) (Y : Yt) : isRow Y x.toNat := isRow_of Y (by unfold hRow at h; omega)
def hAt (hs : List (List Pt)) (i : Int) : List Pt := hs.getD i.toNat []
def HistIs (σ : Mem) (hs : List (List Pt)) : Prop := σ 12 1 = hs.length ∧ hs.length ≤ 6 ∧ (∀ i : Int, 0 ≤ i → i < 6 → hRow (σ 13 i)) ∧ (∀ i j : Int, 0 ≤ i → i < 6 → 0 ≤ j → j < 6 → σ 13 i = σ 13 j → i = j) ∧ ∀ i : Int, 0 ≤ i → i < hs.length → RowIs σ (σ 13 i).toNat (hAt hs i)
def SameH (σ u : Mem) : Prop := ∀ a : Nat, (a < 12 ∨ 37 < a) → u a = σ a
noncomputable def recd (hs : List (List Pt)) (P : List Pt) : List (List Pt) := (if hs.length = 6 then hs.tail else hs) ++ [P]
theorem recd_lt {hs : List (List Pt)} {P : List Pt} (h : hs.length < 6) : recd hs P = hs ++ [P] := by unfold recd; rw [if_neg (by omega)]
theorem recd_6 {hs : List (List Pt)} {P : List Pt} (h : hs.length = 6) : recd hs P = hs.tail ++ [P] := by unfold recd; rw [if_pos h]
theorem recd_len {hs : List (List Pt)} {P : List Pt} (h : hs.length ≤ 6) : (recd hs P).length ≤ 6 ∧ 0 < (recd hs P).length := by
  unfold recd
  split
  · simp; omega
  · simp; omega
theorem hAt_app {hs : List (List Pt)} {P : List Pt} {i : Int} (h0 : 0 ≤ i) : (i < hs.length → hAt (hs ++ [P]) i = hAt hs i) ∧ (i = hs.length → hAt (hs ++ [P]) i = P) := by
  unfold hAt
  constructor
  · intro h
    rw [List.getD_eq_getElem?_getD, List.getD_eq_getElem?_getD, List.getElem?_append_left (by omega)]
  · intro h
    subst h
    simp [List.getD_eq_getElem?_getD]
theorem hAt_tail {hs : List (List Pt)} {i : Int} (h0 : 0 ≤ i) : hAt hs.tail i = hAt hs (i + 1) := by
  unfold hAt
  rw [List.getD_eq_getElem?_getD, List.getD_eq_getElem?_getD, List.getElem?_tail, show (i + 1).toNat = i.toNat + 1 by omega]
theorem hAt_drop {hs : List (List Pt)} {i : Int} (h0 : 0 ≤ i) (h1 : i < hs.length - 1) : hAt hs.dropLast i = hAt hs i := by
  unfold hAt
  rw [List.getD_eq_getElem?_getD, List.getD_eq_getElem?_getD, List.getElem?_dropLast, if_pos (by omega)]
theorem HistIs.row {σ : Mem} {hs : List (List Pt)} (h : HistIs σ hs) {i : Int} (h0 : 0 ≤ i) (h1 : i < 6) : 14 ≤ σ 13 i ∧ σ 13 i ≤ 34 ∧ (σ 13 i - 14) % 4 = 0 := by
  have := h.2.2.1 i h0 h1
  unfold hRow at this
  omega
theorem hist_push {σ u : Mem} {hs : List (List Pt)} {P : List Pt} {kk : Nat} (h : HistIs σ hs) (hl : hs.length < 6) (hk : (σ 13 (σ 12 1)).toNat = kk) (hR : RowIs u kk P) (hS : Same4 σ u kk) : HistIs (up u 12 1 (u 12 1 + 1)) (hs ++ [P]) ∧ SameH σ (up u 12 1 (u 12 1 + 1)) := by
  have hk1 := h.row (i := σ 12 1) (by have := h.1; omega) (by have := h.1; omega)
  have e12 : u 12 = σ 12 := hS 12 (by omega) (by omega) (by omega) (by omega)
  have e13 : u 13 = σ 13 := hS 13 (by omega) (by omega) (by omega) (by omega)
  obtain ⟨a, b, c, d, e⟩ := id h
  refine ⟨⟨?_, by simp; omega, fun i h0 h1 => ?_, fun i j h0 h1 h2 h3 hij => ?_, fun i h0 h1 => ?_⟩, fun x hx => ?_⟩
  · rw [up_same, e12, a]; simp
  · rw [up_ne (by omega), e13]; exact c i h0 h1
  · rw [up_ne (by omega), e13] at hij; exact d i j h0 h1 h2 h3 hij
  · rw [List.length_append, List.length_singleton] at h1
    rw [up_ne (k' := 13) (by omega), e13]
    by_cases q : i = hs.length
    · have : (σ 13 i).toNat = kk := by rw [q, ← a, hk]
      rw [this, (hAt_app h0).2 q]
      exact hR.eq (up_ne (by omega)) (up_ne (by omega)) (up_ne (by omega)) (up_ne (by omega))
    · rw [(hAt_app h0).1 (by omega)]
      have r1 := h.row (i := i) h0 (by omega)
      have ne : σ 13 i ≠ σ 13 (σ 12 1) := fun q2 => by have := d i (σ 12 1) h0 (by omega) (by omega) (by omega) q2; omega
      exact ((e i h0 (by omega)).of_same hS (by omega)).eq (up_ne (by omega)) (up_ne (by omega)) (up_ne (by omega)) (up_ne (by omega))
  · rw [up_ne (by omega)]; exact hS x (by omega) (by omega) (by omega) (by omega)
theorem hist_forget {σ τ : Mem} {hs : List (List Pt)} {st : Int} (h : HistIs σ hs) (hl : hs.length = 6) (hM : MapInv σ τ 13 (fun i => σ 13 (i + 1)) (st - 1)) (hst : st = 6) : HistIs (up (up τ 13 5 (((σ 13 0).toNat : Nat) : Int)) 12 1 5) hs.tail ∧ SameH σ (up (up τ 13 5 (((σ 13 0).toNat : Nat) : Int)) 12 1 5) := by
  obtain ⟨a, b, c, d, e⟩ := id h
  obtain ⟨m1, m2, m3⟩ := hM
  have hv : ∀ i : Int, 0 ≤ i → i < 6 → (up (up τ 13 5 (((σ 13 0).toNat : Nat) : Int)) 12 1 5) 13 i = σ 13 (if i = 5 then 0 else i + 1) := fun i h0 h1 => by
    rw [up_ne (by omega), up_at]
    by_cases q : i = 5
    · rw [if_pos ⟨rfl, q⟩, if_pos q]; have := h.row (i := 0) (by omega) (by omega); omega
    · rw [if_neg (by omega), if_neg q, m1 i h0 (by omega)]
  refine ⟨⟨?_, by simp; omega, fun i h0 h1 => ?_, fun i j h0 h1 h2 h3 hij => ?_, fun i h0 h1 => ?_⟩, fun x hx => ?_⟩
  · rw [up_same]; simp; omega
  · rw [hv i h0 h1]
    split
    · exact c 0 (by omega) (by omega)
    · exact c (i + 1) (by omega) (by omega)
  · rw [hv i h0 h1, hv j h2 h3] at hij
    have := d _ _ (by split <;> omega) (by split <;> omega) (by split <;> omega) (by split <;> omega) hij
    split at this <;> split at this <;> omega
  · rw [List.length_tail] at h1
    rw [hv i h0 (by omega), if_neg (by omega), hAt_tail h0]
    have r1 := h.row (i := i + 1) (by omega) (by omega)
    have k := e (i + 1) (by omega) (by omega)
    refine k.eq ?_ ?_ ?_ ?_ <;> (rw [up_ne (by omega), up_ne (by omega)]; exact m3 _ (by omega))
  · rw [up_ne (by omega), up_ne (by omega)]; exact m3 x (by omega)
def SameU (σ u : Mem) : Prop := ∀ a : Nat, (a < 1 ∨ (4 < a ∧ a < 12) ∨ 37 < a) → u a = σ a
theorem hist_pop {σ u : Mem} {hs : List (List Pt)} (h : HistIs σ hs) (hl : 0 < hs.length) {P : List Pt} (hR : RowIs u 1 P) (hS : Same4 (up σ 12 1 (σ 12 1 - 1)) u 1) : HistIs u hs.dropLast ∧ SameU σ u := by
  obtain ⟨a, b, c, d, e⟩ := id h
  have e12 : u 12 = (up σ 12 1 (σ 12 1 - 1)) 12 := hS 12 (by omega) (by omega) (by omega) (by omega)
  have e13 : u 13 = σ 13 := by rw [hS 13 (by omega) (by omega) (by omega) (by omega)]; exact up_ne (by omega)
  refine ⟨⟨?_, by simp; omega, fun i h0 h1 => ?_, fun i j h0 h1 h2 h3 hij => ?_, fun i h0 h1 => ?_⟩, fun x hx => ?_⟩
  · rw [e12, up_same, a]; simp; omega
  · rw [e13]; exact c i h0 h1
  · rw [e13] at hij; exact d i j h0 h1 h2 h3 hij
  · rw [List.length_dropLast] at h1
    rw [e13, hAt_drop h0 (by omega)]
    have r1 := h.row (i := i) h0 (by omega)
    have k := e i h0 (by omega)
    refine k.eq ?_ ?_ ?_ ?_ <;> (rw [hS _ (by omega) (by omega) (by omega) (by omega)]; exact up_ne (by omega))
  · rw [hS x (by omega) (by omega) (by omega) (by omega)]; exact up_ne (by omega)
