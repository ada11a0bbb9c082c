/-! texts: reading points -/
def txOk (tx : List Int) : Prop := tx.length ≤ 90 ∧ ∀ c ∈ tx, 32 ≤ c ∧ c ≤ 126
theorem tx_at {tx : List Int} (h : txOk tx) {p : Int} (h0 : 0 ≤ p) (h1 : p < tx.length) : 32 ≤ at0 tx p ∧ at0 tx p ≤ 126 := h.2 _ (at0_mem h0 h1)
def rd (tx : List Int) : Nat → Int → Int → Int × Int
  | 0, v, p => (v, p)
  | k + 1, v, p => if 0 ≤ p ∧ p < tx.length ∧ 48 ≤ at0 tx p ∧ at0 tx p ≤ 57 then rd tx k ((if v < 0 then 0 else v) * 10 + (at0 tx p - 48)) (p + 1) else (v, p)
theorem rd_dig {tx : List Int} {k : Nat} {v p : Int} (h : 0 ≤ p ∧ p < tx.length ∧ 48 ≤ at0 tx p ∧ at0 tx p ≤ 57) : rd tx (k + 1) v p = rd tx k ((if v < 0 then 0 else v) * 10 + (at0 tx p - 48)) (p + 1) := by
  show (if _ then _ else _) = _
  rw [if_pos h]
theorem rd_stop {tx : List Int} {k : Nat} {v p : Int} (h : ¬ (0 ≤ p ∧ p < tx.length ∧ 48 ≤ at0 tx p ∧ at0 tx p ≤ 57)) : rd tx k v p = (v, p) := by
  cases k with
  | zero => rfl
  | succ k =>
    show (if _ then _ else _) = _
    rw [if_neg h]
theorem rd2_rg {tx : List Int} {p : Int} (h0 : 0 ≤ p) (h1 : p ≤ tx.length) : -1 ≤ (rd tx 2 (-1) p).1 ∧ (rd tx 2 (-1) p).1 ≤ 99 ∧ p ≤ (rd tx 2 (-1) p).2 ∧ (rd tx 2 (-1) p).2 ≤ tx.length := by
  by_cases h : 0 ≤ p ∧ p < tx.length ∧ 48 ≤ at0 tx p ∧ at0 tx p ≤ 57
  · rw [rd_dig (k := 1) h, show (if (-1 : Int) < 0 then (0 : Int) else -1) = 0 from rfl]
    by_cases g : 0 ≤ p + 1 ∧ p + 1 < tx.length ∧ 48 ≤ at0 tx (p + 1) ∧ at0 tx (p + 1) ≤ 57
    · rw [rd_dig (k := 0) g, if_neg (show ¬ (0 * 10 + (at0 tx p - 48) < 0) by omega)]
      show -1 ≤ (0 * 10 + (at0 tx p - 48)) * 10 + (at0 tx (p + 1) - 48) ∧ (0 * 10 + (at0 tx p - 48)) * 10 + (at0 tx (p + 1) - 48) ≤ 99 ∧ p ≤ p + 1 + 1 ∧ p + 1 + 1 ≤ (tx.length : Int)
      omega
    · rw [rd_stop g]
      show -1 ≤ 0 * 10 + (at0 tx p - 48) ∧ 0 * 10 + (at0 tx p - 48) ≤ 99 ∧ p ≤ p + 1 ∧ p + 1 ≤ (tx.length : Int)
      omega
  · rw [rd_stop h]
    show (-1 : Int) ≤ -1 ∧ (-1 : Int) ≤ 99 ∧ p ≤ p ∧ p ≤ (tx.length : Int)
    omega
theorem rd1_rg {tx : List Int} {p : Int} (h0 : 0 ≤ p) (h1 : p ≤ tx.length) : -1 ≤ (rd tx 1 (-1) p).1 ∧ (rd tx 1 (-1) p).1 ≤ 9 ∧ p ≤ (rd tx 1 (-1) p).2 ∧ (rd tx 1 (-1) p).2 ≤ tx.length := by
  by_cases h : 0 ≤ p ∧ p < tx.length ∧ 48 ≤ at0 tx p ∧ at0 tx p ≤ 57
  · rw [rd_dig (k := 0) h, show (if (-1 : Int) < 0 then (0 : Int) else -1) = 0 from rfl]
    show -1 ≤ 0 * 10 + (at0 tx p - 48) ∧ 0 * 10 + (at0 tx p - 48) ≤ 9 ∧ p ≤ p + 1 ∧ p + 1 ≤ (tx.length : Int)
    omega
  · rw [rd_stop h]
    show (-1 : Int) ≤ -1 ∧ (-1 : Int) ≤ 9 ∧ p ≤ p ∧ p ≤ (tx.length : Int)
    omega
/-- reading a point: its fault (the part, 6 or 7 or -1), or the point and where it ends -/
abbrev PRes : Type := (Int × Int) ⊕ (Pt × Int)
def pR5 (tx : List Int) (x v w q : Int) : PRes := if q < tx.length ∧ at0 tx q = 59 then .inr ((x, v, w), q + 1) else .inl (4, -1)
def pR4 (tx : List Int) (x v q : Int) : PRes := if (rd tx 1 (-1) q).1 < 1 ∨ 2 < (rd tx 1 (-1) q).1 then .inl (3, if (rd tx 1 (-1) q).1 = -1 then 6 else 7) else pR5 tx x v (rd tx 1 (-1) q).1 (rd tx 1 (-1) q).2
def pR3 (tx : List Int) (x s q : Int) : PRes := if (rd tx 2 (-1) q).1 = -1 then .inl (2, 6) else if (rd tx 2 (-1) q).2 < tx.length ∧ at0 tx (rd tx 2 (-1) q).2 = 42 then pR4 tx x (if s = 1 then -(rd tx 2 (-1) q).1 else (rd tx 2 (-1) q).1) ((rd tx 2 (-1) q).2 + 1) else pR5 tx x (if s = 1 then -(rd tx 2 (-1) q).1 else (rd tx 2 (-1) q).1) 1 (rd tx 2 (-1) q).2
def pR2 (tx : List Int) (x q : Int) : PRes := if q < tx.length ∧ at0 tx q = 45 then pR3 tx x 1 (q + 1) else pR3 tx x 0 q
def pR1 (tx : List Int) (p : Int) : PRes := if (rd tx 2 (-1) p).1 = -1 ∨ 40 < (rd tx 2 (-1) p).1 then .inl (1, if (rd tx 2 (-1) p).1 = -1 then 6 else 7) else if (rd tx 2 (-1) p).2 < tx.length ∧ at0 tx (rd tx 2 (-1) p).2 = 58 then pR2 tx (rd tx 2 (-1) p).1 ((rd tx 2 (-1) p).2 + 1) else .inl (4, -1)
def chn (n part det : Int) : List Int := (10 + n) :: part :: (if det = -1 then [] else [det])
/-- the whole text: the fault or -1, the chain, the points -/
noncomputable def exam (tx : List Int) : Nat → List Pt → Int → Int × List Int × List Pt
  | 0, acc, p => if p < tx.length then (p, chn acc.length 5 (-1), acc) else (-1, [], acc)
  | k + 1, acc, p => if p < tx.length then (match pR1 tx p with
      | .inl d => (p, chn acc.length d.1 d.2, acc)
      | .inr r => exam tx k (acc ++ [r.1]) r.2) else (-1, [], acc)
theorem exam_end {tx : List Int} {k : Nat} {acc : List Pt} {p : Int} (h : ¬ p < tx.length) : exam tx k acc p = (-1, [], acc) := by
  cases k with
  | zero => show (if _ then _ else _) = _; rw [if_neg h]
  | succ k => show (if _ then _ else _) = _; rw [if_neg h]
theorem exam_12 {tx : List Int} {acc : List Pt} {p : Int} (h : p < tx.length) : exam tx 0 acc p = (p, chn acc.length 5 (-1), acc) := by
  show (if _ then _ else _) = _
  rw [if_pos h]
theorem exam_l {tx : List Int} {k : Nat} {acc : List Pt} {p : Int} {d : Int × Int} (h : p < tx.length) (hr : pR1 tx p = .inl d) : exam tx (k + 1) acc p = (p, chn acc.length d.1 d.2, acc) := by
  show (if _ then _ else _) = _
  rw [if_pos h, hr]
theorem exam_r {tx : List Int} {k : Nat} {acc : List Pt} {p : Int} {r : Pt × Int} (h : p < tx.length) (hr : pR1 tx p = .inr r) : exam tx (k + 1) acc p = exam tx k (acc ++ [r.1]) r.2 := by
  show (if _ then _ else _) = _
  rw [if_pos h, hr]
theorem ptOk_mk {x v w : Int} (hx : 0 ≤ x ∧ x ≤ 40) (hv : -99 ≤ v ∧ v ≤ 99) (hw : 1 ≤ w ∧ w ≤ 2) : ptOk (x, v, w) := ⟨hx.1, hx.2, hv.1, hv.2, hw.1, hw.2⟩
theorem pR5_ok {tx : List Int} {x v w q : Int} {r : Pt × Int} (hp : ptOk (x, v, w)) (hq : 0 ≤ q) (h : pR5 tx x v w q = .inr r) : ptOk r.1 ∧ 0 ≤ r.2 ∧ r.2 ≤ tx.length := by
  unfold pR5 at h
  split at h
  · cases h; exact ⟨hp, by show 0 ≤ q + 1; omega, by show q + 1 ≤ (tx.length : Int); omega⟩
  · cases h
theorem pR4_ok {tx : List Int} {x v q : Int} {r : Pt × Int} (hx : 0 ≤ x ∧ x ≤ 40) (hv : -99 ≤ v ∧ v ≤ 99) (hq : 0 ≤ q ∧ q ≤ tx.length) (h : pR4 tx x v q = .inr r) : ptOk r.1 ∧ 0 ≤ r.2 ∧ r.2 ≤ tx.length := by
  unfold pR4 at h
  have := rd1_rg hq.1 hq.2
  split at h
  · cases h
  · exact pR5_ok (ptOk_mk hx hv (by omega)) (by omega) h
theorem pR3_ok {tx : List Int} {x s q : Int} {r : Pt × Int} (hx : 0 ≤ x ∧ x ≤ 40) (hq : 0 ≤ q ∧ q ≤ tx.length) (h : pR3 tx x s q = .inr r) : ptOk r.1 ∧ 0 ≤ r.2 ∧ r.2 ≤ tx.length := by
  unfold pR3 at h
  have := rd2_rg hq.1 hq.2
  have hv : -99 ≤ (if s = 1 then -(rd tx 2 (-1) q).1 else (rd tx 2 (-1) q).1) ∧ (if s = 1 then -(rd tx 2 (-1) q).1 else (rd tx 2 (-1) q).1) ≤ 99 := by split <;> omega
  split at h
  · cases h
  · split at h
    · exact pR4_ok hx hv (by omega) h
    · exact pR5_ok (ptOk_mk hx hv (by omega)) (by omega) h
theorem pR1_ok {tx : List Int} {p : Int} {r : Pt × Int} (hq : 0 ≤ p ∧ p ≤ tx.length) (h : pR1 tx p = .inr r) : ptOk r.1 ∧ 0 ≤ r.2 ∧ r.2 ≤ tx.length := by
  unfold pR1 at h
  have := rd2_rg hq.1 hq.2
  split at h
  · cases h
  · split at h
    · unfold pR2 at h
      split at h
      · exact pR3_ok (by omega) (by omega) h
      · exact pR3_ok (by omega) (by omega) h
    · cases h
theorem ptsOk_app {P : List Pt} {q : Pt} (h : ptsOk P) (hq : ptOk q) : ptsOk (P ++ [q]) := fun x hx => by
  rcases List.mem_append.mp hx with h1 | h1
  · exact h x h1
  · rw [List.mem_singleton.mp h1]; exact hq
theorem exam_ok {tx : List Int} : ∀ (k : Nat) (acc : List Pt) (p : Int), ptsOk acc → acc.length + k ≤ 12 → 0 ≤ p → p ≤ tx.length → ptsOk (exam tx k acc p).2.2 ∧ (exam tx k acc p).2.2.length ≤ 12 ∧ -1 ≤ (exam tx k acc p).1 ∧ (exam tx k acc p).1 ≤ tx.length := by
  intro k
  induction k with
  | zero =>
    intro acc p ha hl h0 h1
    by_cases h : p < tx.length
    · rw [exam_12 h]; exact ⟨ha, by show acc.length ≤ 12; omega, by show -1 ≤ p; omega, h1⟩
    · rw [exam_end h]; exact ⟨ha, by show acc.length ≤ 12; omega, by show (-1 : Int) ≤ -1; omega, by show (-1 : Int) ≤ tx.length; omega⟩
  | succ k ih =>
    intro acc p ha hl h0 h1
    by_cases h : p < tx.length
    · cases hr : pR1 tx p with
      | inl d => rw [exam_l h hr]; exact ⟨ha, by show acc.length ≤ 12; omega, by show -1 ≤ p; omega, h1⟩
      | inr r =>
        rw [exam_r h hr]
        have := pR1_ok ⟨h0, h1⟩ hr
        exact ih _ _ (ptsOk_app ha this.1) (by simp; omega) this.2.1 this.2.2
    · rw [exam_end h]; exact ⟨ha, by show acc.length ≤ 12; omega, by show (-1 : Int) ≤ -1; omega, by show (-1 : Int) ≤ tx.length; omega⟩
theorem chn_len (n part det : Int) : (chn n part det).length ≤ 3 ∧ 2 ≤ (chn n part det).length := by
  unfold chn
  split <;> simp
theorem exam_chain {tx : List Int} : ∀ (k : Nat) (acc : List Pt) (p : Int), (exam tx k acc p).2.1.length ≤ 3 := by
  intro k
  induction k with
  | zero =>
    intro acc p
    by_cases h : p < tx.length
    · rw [exam_12 h]; exact (chn_len _ _ _).1
    · rw [exam_end h]; exact Nat.zero_le _
  | succ k ih =>
    intro acc p
    by_cases h : p < tx.length
    · cases hr : pR1 tx p with
      | inl d => rw [exam_l h hr]; exact (chn_len _ _ _).1
      | inr r => rw [exam_r h hr]; exact ih _ _
    · rw [exam_end h]; exact Nat.zero_le _
/-! how the class's object holds the text and the chain -/
def TextIs (σ : Mem) (tx : List Int) : Prop := σ 5 3 = tx.length ∧ ∀ i : Int, 0 ≤ i → i < tx.length → σ 6 i = at0 tx i
def ChainIs (σ : Mem) (ch : List Int) : Prop := σ 5 5 = ch.length ∧ ∀ i : Int, 0 ≤ i → i < ch.length → σ 11 i = at0 ch i
def SameX (σ u : Mem) : Prop := ∀ a : Nat, (a < 5 ∨ 11 < a) → u a = σ a
theorem TextIs.eq {σ u : Mem} {tx : List Int} (h : TextIs σ tx) (h1 : u 5 3 = σ 5 3) (h2 : u 6 = σ 6) : TextIs u tx := ⟨by rw [h1]; exact h.1, fun i a b => by rw [h2]; exact h.2 i a b⟩
theorem chain_put {σ : Mem} {n part det m : Int} (hm : m = if det = -1 then 2 else 3) : ChainIs (up (up (up (up σ 11 0 (10 + n)) 11 1 part) 11 2 det) 5 5 m) (chn n part det) := by
  unfold chn
  refine ⟨?_, fun i h0 h1 => ?_⟩
  · rw [up_same, hm]
    split <;> rfl
  · have h2 : i = 0 ∨ i = 1 ∨ (i = 2 ∧ det ≠ -1) := by
      by_cases q : det = -1
      · rw [if_pos q] at h1; simp at h1; omega
      · rw [if_neg q] at h1; simp at h1; omega
    rcases h2 with rfl | rfl | ⟨rfl, q⟩
    · rfl
    · rfl
    · rw [if_neg q]; rfl
theorem text_app {σ : Mem} {tx : List Int} {c : Int} (hT : TextIs σ tx) : TextIs (up (up σ 6 (σ 5 3) c) 5 3 (σ 5 3 + 1)) (tx ++ [c]) := by
  refine ⟨?_, fun i h0 h1 => ?_⟩
  · rw [up_same, hT.1]; simp
  · rw [List.length_append, List.length_singleton] at h1
    rw [up_ne (by omega), up_at, hT.1]
    by_cases q : i = tx.length
    · rw [if_pos ⟨rfl, q⟩, (at0_app h0).2 q]
    · rw [if_neg (by omega), (at0_app h0).1 (by omega)]; exact hT.2 i h0 (by omega)
/-- nothing but the chain has changed -/
def RF (σ u : Mem) : Prop := (∀ a : Nat, a ≠ 11 → a ≠ 5 → u a = σ a) ∧ u 5 3 = σ 5 3 ∧ u 5 4 = σ 5 4
theorem rf_54 {σ u : Mem} (h : RF σ u) : u 5 4 = σ 5 4 := h.2.2
def RPpost (σ u : Mem) (tx : List Int) (p : Int) (acc : List Pt) (z : Int) : Prop := ((∃ d : Int × Int, pR1 tx p = .inl d ∧ z = 0 ∧ ChainIs u (chn acc.length d.1 d.2)) ∨ (∃ r : Pt × Int, pR1 tx p = .inr r ∧ z = 1 ∧ RowIs u 7 (acc ++ [r.1]) ∧ u 5 4 = r.2 ∧ u 5 5 = σ 5 5)) ∧ TextIs u tx ∧ SameX σ u
theorem RPpost.z {σ u : Mem} {tx : List Int} {p : Int} {acc : List Pt} {z : Int} (h : RPpost σ u tx p acc z) : z = 0 ∨ z = 1 := by
  rcases h.1 with ⟨d, -, h, -⟩ | ⟨r, -, h, -⟩
  · exact Or.inl h
  · exact Or.inr h
theorem rp_fail {σ u : Mem} {tx : List Int} {p q z : Int} {acc : List Pt} {d : Int × Int} (hT : TextIs σ tx) (hr : pR1 tx p = .inl d) (hz : z = 0) (hC : ChainIs u (chn acc.length d.1 d.2)) (hF : RF (up σ 5 4 q) u) : RPpost σ u tx p acc z := by
  refine ⟨Or.inl ⟨d, hr, hz, hC⟩, hT.eq (by rw [hF.2.1]; rfl) (by rw [hF.1 6 (by omega) (by omega)]; exact up_ne (by omega)), fun a ha => by rw [hF.1 a (by omega) (by omega)]; exact up_ne (by omega)⟩
theorem rp_good {σ u : Mem} {tx : List Int} {p q z : Int} {acc : List Pt} {pt : Pt} (hT : TextIs σ tx) (hr : pR1 tx p = .inr (pt, q)) (hR : RowIs u 7 (acc ++ [pt])) (hS : Same4 (up σ 5 4 q) u 7) (hz : z = 1 := by rfl) : RPpost σ u tx p acc z := by
  have e5 : u 5 = (up σ 5 4 q) 5 := hS 5 (by omega) (by omega) (by omega) (by omega)
  refine ⟨Or.inr ⟨(pt, q), hr, hz, hR, by rw [e5, up_same], by rw [e5]; exact up_nj (by omega)⟩, hT.eq (by rw [e5]; exact up_nj (by omega)) (by rw [hS 6 (by omega) (by omega) (by omega) (by omega)]; exact up_ne (by omega)), fun a ha => by rw [hS a (by omega) (by omega) (by omega) (by omega)]; exact up_ne (by omega)⟩
theorem exam_0 {σ u : Mem} {tx : List Int} (hT : TextIs σ tx) (hR : RowIs u 7 []) (hS : Same4 σ u 7) : (up (up u 5 5 0) 5 4 0) 5 4 = 0 ∧ (up (up u 5 5 0) 5 4 0) 5 5 = 0 ∧ RowIs (up (up u 5 5 0) 5 4 0) 7 [] ∧ TextIs (up (up u 5 5 0) 5 4 0) tx ∧ SameX σ (up (up u 5 5 0) 5 4 0) := by
  have e5 : u 5 = σ 5 := hS 5 (by omega) (by omega) (by omega) (by omega)
  refine ⟨rfl, rfl, hR.eq rfl rfl rfl rfl, hT.eq ?_ (hS 6 (by omega) (by omega) (by omega) (by omega)), fun a ha => by rw [up_ne (by omega), up_ne (by omega)]; exact hS a (by omega) (by omega) (by omega) (by omega)⟩
  rw [up_nj (by omega), up_nj (by omega), e5]
