/-! what each call answers: functions of the points, the history, the text and the chain -/
noncomputable def grpA (P : List Pt) (x : Int) : Int := Classical.epsilon (fun g : Int => (0 ≤ g ∧ g < ng P) ∧ gX P g = x)
noncomputable def hulD (P : List Pt) (side : Int) : Int → Int → Int → Int := fun i j k => side * sD (gX P) (gW P) (gM P) i j k
noncomputable def hulC (P : List Pt) (side : Int) : List Int := Classical.epsilon (fun C : List Int => HullI (hulD P side) (ng P) C)
noncomputable def blkA (B : List Int) (n g : Int) : Int := Classical.epsilon (fun j : Int => 0 ≤ j ∧ j < B.length ∧ at0 B j ≤ g ∧ g ≤ bEnd B n j)
noncomputable def kdB (P : List Pt) (kind : Int) : List Int := kB (ng P) (gW P) (gM P) (gQ P) kind
theorem grpA_eq {P : List Pt} {g x : Int} (h0 : 0 ≤ g) (h1 : g < ng P) (h : gX P g = x) : grpA P x = g := by
  have := Classical.epsilon_spec (p := fun g : Int => (0 ≤ g ∧ g < ng P) ∧ gX P g = x) ⟨g, ⟨h0, h1⟩, h⟩
  unfold grpA
  generalize Classical.epsilon (fun g : Int => (0 ≤ g ∧ g < ng P) ∧ gX P g = x) = y at *
  by_cases q : g < y
  · have := gsU_asc (P := P) 41 g y h0 q this.1.2; unfold gX at *; omega
  · by_cases r : y < g
    · have := gsU_asc (P := P) 41 y g this.1.1 r h1; unfold gX at *; omega
    · omega
theorem hulC_eq {P : List Pt} {side : Int} {C : List Int} (h : HullI (hulD P side) (ng P) C) : hulC P side = C :=
  HullI.uniq (Classical.epsilon_spec (p := fun C : List Int => HullI (hulD P side) (ng P) C) ⟨C, h⟩) h
theorem blk_uniq {B : List Int} {n g j j' : Int} (hA : Asc n B) (h : 0 ≤ j ∧ j < B.length ∧ at0 B j ≤ g ∧ g ≤ bEnd B n j) (h' : 0 ≤ j' ∧ j' < B.length ∧ at0 B j' ≤ g ∧ g ≤ bEnd B n j') : j = j' := by
  have key : ∀ a b : Int, 0 ≤ a → a < b → b < B.length → at0 B b ≤ g → g ≤ bEnd B n a → False := fun a b h0 h1 h2 h3 h4 => by
    unfold bEnd at h4
    rw [if_pos (by omega)] at h4
    by_cases e : a + 1 = b
    · rw [e] at h4; omega
    · have := hA.2.2.1 (a + 1) b (by omega) (by omega) h2; omega
  by_cases q : j < j'
  · exact absurd (key j j' h.1 q h'.2.1 h'.2.2.1 h.2.2.2) id
  · by_cases r : j' < j
    · exact absurd (key j' j h'.1 r h.2.1 h.2.2.1 h'.2.2.2) id
    · omega
theorem blkA_eq {B : List Int} {n g j : Int} (hA : Asc n B) (h : 0 ≤ j ∧ j < B.length ∧ at0 B j ≤ g ∧ g ≤ bEnd B n j) : blkA B n g = j :=
  blk_uniq hA (Classical.epsilon_spec (p := fun j : Int => 0 ≤ j ∧ j < B.length ∧ at0 B j ≤ g ∧ g ≤ bEnd B n j) ⟨j, h⟩) h
noncomputable def hSide (kind : Int) : Int := if kind = 4 then 1 else -1
noncomputable def tSide (kind : Int) : Int := if kind = 2 then 1 else -1
noncomputable def fitA (P : List Pt) (kind g w : Int) : Int :=
  if ¬ (0 ≤ kind ∧ kind ≤ 5) ∨ ¬ (0 ≤ g ∧ g < ng P) ∨ ¬ (0 ≤ w ∧ w ≤ 1) then -1000001
  else if 4 ≤ kind then low (hNum (gX P) (gW P) (gM P) (hulC P (hSide kind)) g) (hDen (gX P) (gW P) (hulC P (hSide kind)) g) w
  else low (gM P (bEnd (kdB P kind) (ng P) (blkA (kdB P kind) (ng P) g) + 1) - gM P (at0 (kdB P kind) (blkA (kdB P kind) (ng P) g))) (gW P (bEnd (kdB P kind) (ng P) (blkA (kdB P kind) (ng P) g) + 1) - gW P (at0 (kdB P kind) (blkA (kdB P kind) (ng P) g))) w
noncomputable def errA (P : List Pt) (kind w : Int) : Int :=
  if ¬ (0 ≤ kind ∧ kind ≤ 3) ∨ ¬ (0 ≤ w ∧ w ≤ 1) then -1000001 else if ng P = 0 then -1000002
  else low (Err (ng P) (gW P) (gM P) (gQ P) (kdB P kind)) 5354228880 w
noncomputable def turnA (P : List Pt) (kind : Int) : Int :=
  if ¬ (2 ≤ kind ∧ kind ≤ 3) then -1000001 else if ng P = 0 then -1000002 else bTurn (ng P) (gW P) (gM P) (gQ P) (tSide kind)
noncomputable def teA (P : List Pt) (kind g w : Int) : Int :=
  if ¬ (2 ≤ kind ∧ kind ≤ 3) ∨ ¬ (0 ≤ g ∧ g < ng P) ∨ ¬ (0 ≤ w ∧ w ≤ 1) then -1000001
  else low (Err (ng P) (gW P) (gM P) (gQ P) (pkB (ng P) (gW P) (gM P) (tSide kind) g)) 5354228880 w
noncomputable def blocksA (P : List Pt) (kind : Int) : Int := if ¬ (0 ≤ kind ∧ kind ≤ 3) then -1000001 else (kdB P kind).length
noncomputable def binA (P : List Pt) (kind b w : Int) : Int :=
  if ¬ (0 ≤ kind ∧ kind ≤ 3) ∨ b < 0 ∨ ¬ (0 ≤ w ∧ w ≤ 3) then -1000001 else if ((kdB P kind).length : Int) ≤ b then -1000004
  else if w = 0 then at0 (kdB P kind) b else if w = 1 then bEnd (kdB P kind) (ng P) b
  else if w = 2 then gW P (bEnd (kdB P kind) (ng P) b + 1) - gW P (at0 (kdB P kind) b) else gM P (bEnd (kdB P kind) (ng P) b + 1) - gM P (at0 (kdB P kind) b)
noncomputable def kinksA (P : List Pt) (kind : Int) : Int := if ¬ (4 ≤ kind ∧ kind ≤ 5) then -1000001 else if 2 ≤ (hulC P (hSide kind)).length then ((hulC P (hSide kind)).length : Int) - 2 else 0
noncomputable def kinkAtA (P : List Pt) (kind i : Int) : Int := if ¬ (4 ≤ kind ∧ kind ≤ 5) ∨ i < 0 then -1000001 else if i + 2 < (hulC P (hSide kind)).length then at0 (hulC P (hSide kind)) (i + 1) else -1000004
noncomputable def gapN (P : List Pt) (g : Int) : Int := hNum (gX P) (gW P) (gM P) (hulC P (-1)) g * hDen (gX P) (gW P) (hulC P 1) g - hNum (gX P) (gW P) (gM P) (hulC P 1) g * hDen (gX P) (gW P) (hulC P (-1)) g
noncomputable def gapD (P : List Pt) (g : Int) : Int := hDen (gX P) (gW P) (hulC P (-1)) g * hDen (gX P) (gW P) (hulC P 1) g
def WdIs (n : Int) (N D : Int → Int) (z : Int) : Prop := (0 ≤ z ∧ z < n) ∧ ∀ g : Int, 0 ≤ g → g < n → N g * D z ≤ N z * D g ∧ (g < z → N g * D z < N z * D g)
theorem WdIs.uniq {n : Int} {N D : Int → Int} {z z' : Int} (h : WdIs n N D z) (h' : WdIs n N D z') : z = z' := by
  have a := h.2 z' h'.1.1 h'.1.2
  have b := h'.2 z h.1.1 h.1.2
  omega
noncomputable def wdA (P : List Pt) : Int := Classical.epsilon (fun z : Int => WdIs (ng P) (gapN P) (gapD P) z)
theorem wdA_eq {P : List Pt} {z : Int} (h : WdIs (ng P) (gapN P) (gapD P) z) : wdA P = z :=
  WdIs.uniq (Classical.epsilon_spec (p := fun z : Int => WdIs (ng P) (gapN P) (gapD P) z) ⟨z, h⟩) h
noncomputable def gapA (P : List Pt) (w : Int) : Int :=
  if ¬ (0 ≤ w ∧ w ≤ 2) then -1000001 else if ng P = 0 then -1000002 else if w = 2 then wdA P else low (gapN P (wdA P)) (gapD P (wdA P)) w
noncomputable def lE (P : List Pt) (k : Int) : Int := lvE (ng P) (gW P) (gM P) (gQ P) k
noncomputable def leA (P : List Pt) (k w : Int) : Int :=
  if ¬ (1 ≤ k ∧ k ≤ 12) ∨ ¬ (0 ≤ w ∧ w ≤ 1) then -1000001 else if ng P < k then -1000004 else low (lE P k) 5354228880 w
noncomputable def lbA (P : List Pt) (k lv : Int) : Int :=
  if ¬ (1 ≤ k ∧ k ≤ 12) ∨ ¬ (0 ≤ lv ∧ lv ≤ k - 1) then -1000001 else if ng P < k then -1000004 else lvB (ng P) (gW P) (gM P) k lv.toNat
noncomputable def levA (P : List Pt) (num den : Int) : Int :=
  if ¬ (0 ≤ num ∧ num ≤ 1000000) ∨ ¬ (1 ≤ den ∧ den ≤ 100) then -1000001 else if ng P = 0 then -1000002
  else Classical.epsilon (fun z : Int => ChIs (ng P) (lvC (ng P) (gW P) (gM P) (gQ P) num den) z)
theorem levA_eq {P : List Pt} {num den z : Int} (h1 : (0 ≤ num ∧ num ≤ 1000000) ∧ 1 ≤ den ∧ den ≤ 100) (h2 : ng P ≠ 0) (h : ChIs (ng P) (lvC (ng P) (gW P) (gM P) (gQ P) num den) z) : levA P num den = z := by
  unfold levA
  rw [if_neg (by omega), if_neg h2]
  exact ChIs.uniq (Classical.epsilon_spec (p := fun z : Int => ChIs (ng P) (lvC (ng P) (gW P) (gM P) (gQ P) num den) z) ⟨z, h⟩) h
def FPv (E : Int → Int) (most n : Int) (q : Int × Int) : Prop := ∃ f r : Int, (1 ≤ f ∧ f ≤ most) ∧ LYis E most n f r ∧ (∀ j : Int, 1 ≤ j → j ≤ most → ∀ r', LYis E most n j r' → (E f - E r) * (r' - j) ≤ (E j - E r') * (r - f)) ∧ q = (E f - E r, 5354228880 * (r - f))
theorem FPv.low {E : Int → Int} {most n : Int} {q q' : Int × Int} (h : FPv E most n q) (h' : FPv E most n q') (w : Int) : low q.1 q.2 w = low q'.1 q'.2 w := by
  obtain ⟨f, r, a1, a2, a3, rfl⟩ := h
  obtain ⟨f', r', b1, b2, b3, rfl⟩ := h'
  have e : (E f - E r) * (r' - f') = (E f' - E r') * (r - f) := Int.le_antisymm (a3 f' b1.1 b1.2 r' b2) (b3 f a1.1 a1.2 r a2)
  have p := a2.1
  have p' := b2.1
  refine low_eq (show 0 < 5354228880 * (r - f) by omega) (show 0 < 5354228880 * (r' - f') by omega) ?_ w
  show (E f - E r) * (5354228880 * (r' - f')) = (E f' - E r') * (5354228880 * (r - f))
  grind
noncomputable def fpA (E : Int → Int) (most n : Int) : Int × Int := Classical.epsilon (fun q : Int × Int => FPv E most n q)
noncomputable def penA (P : List Pt) (most w : Int) : Int :=
  if ¬ (1 ≤ most ∧ most ≤ 12) ∨ ¬ (0 ≤ w ∧ w ≤ 1) then -1000001 else if ng P = 0 then -1000002 else if ng P ≤ most then low 0 1 w
  else low (fpA (lE P) most (ng P)).1 (fpA (lE P) most (ng P)).2 w
theorem penA_eq {P : List Pt} {most w : Int} {q : Int × Int} (h1 : (1 ≤ most ∧ most ≤ 12) ∧ 0 ≤ w ∧ w ≤ 1) (h2 : ng P ≠ 0) (h3 : most < ng P) (h : FPv (lE P) most (ng P) q) : penA P most w = low q.1 q.2 w := by
  unfold penA
  rw [if_neg (by omega), if_neg h2, if_neg (by omega)]
  exact FPv.low (Classical.epsilon_spec (p := fun q : Int × Int => FPv (lE P) most (ng P) q) ⟨q, h⟩) h w
noncomputable def pinA (P : List Pt) (p w : Int) : Int := if ¬ (0 ≤ p ∧ p < P.length) ∨ ¬ (0 ≤ w ∧ w ≤ 3) then -1000001 else if w = 0 then px P p else if w = 1 then pv P p else if w = 2 then pw P p else grpA P (px P p)
noncomputable def ginA (P : List Pt) (g w : Int) : Int := if ¬ (0 ≤ g ∧ g < ng P) ∨ ¬ (0 ≤ w ∧ w ≤ 3) then -1000001 else if w = 0 then gX P g else if w = 1 then gW P (g + 1) - gW P g else if w = 2 then gM P (g + 1) - gM P g else gC P g
/-! calls that change: the answer, the points, the history -/
abbrev St3 : Type := Int × List Pt × List (List Pt)
noncomputable def stAdd (P : List Pt) (hs : List (List Pt)) (x v w : Int) : St3 :=
  if ¬ (0 ≤ x ∧ x ≤ 40) ∨ ¬ (-99 ≤ v ∧ v ≤ 99 ∧ 1 ≤ w ∧ w ≤ 2) then (-1000001, P, hs) else if 12 ≤ P.length then (-1000003, P, hs) else ((P.length : Int), P ++ [(x, v, w)], recd hs P)
noncomputable def stRem (P : List Pt) (hs : List (List Pt)) (p : Int) : St3 := if ¬ (0 ≤ p ∧ p < P.length) then (-1000001, P, hs) else ((P.length : Int) - 1, P.eraseIdx p.toNat, recd hs P)
noncomputable def stSet (P : List Pt) (hs : List (List Pt)) (p v w : Int) : St3 := if ¬ (0 ≤ p ∧ p < P.length) ∨ ¬ (-99 ≤ v ∧ v ≤ 99 ∧ 1 ≤ w ∧ w ≤ 2) then (-1000001, P, hs) else (10 * pv P p + pw P p, P.set p.toNat (px P p, v, w), recd hs P)
noncomputable def stMir (P : List Pt) (hs : List (List Pt)) (w : Int) : St3 := if ¬ (0 ≤ w ∧ w ≤ 1) then (-1000001, P, hs) else ((P.length : Int), if w = 0 then mirP P else mirV P, recd hs P)
noncomputable def stLay (P : List Pt) (hs : List (List Pt)) (tx : List Int) : St3 := if (exam tx 12 [] 0).1 ≠ -1 then (-1000002, P, hs) else (((exam tx 12 [] 0).2.2.length : Int), (exam tx 12 [] 0).2.2, recd hs P)
noncomputable def stUndo (P : List Pt) (hs : List (List Pt)) : St3 := if hs.length = 0 then (-1000002, P, hs) else ((hs.length : Int) - 1, hAt hs (hs.length - 1), hs.dropLast)
def stType (tx : List Int) (c : Int) : Int × List Int := if ¬ (32 ≤ c ∧ c ≤ 126) then (-1000001, tx) else if 90 ≤ tx.length then (-1000003, tx) else ((tx.length : Int) + 1, tx ++ [c])
noncomputable def faultA (tx : List Int) : Int := if (exam tx 12 [] 0).1 = -1 then -1000004 else (exam tx 12 [] 0).1
def reasonA (ch : List Int) (i : Int) : Int := if i < 0 then -1000001 else if i < ch.length then at0 ch i else -1000004
/-! points stay points -/
theorem ptsOk_era {P : List Pt} (h : ptsOk P) (k : Nat) : ptsOk (P.eraseIdx k) := fun q hq => h q (List.mem_of_mem_eraseIdx hq)
theorem ptsOk_set {P : List Pt} (h : ptsOk P) {k : Nat} {q : Pt} (hq : ptOk q) : ptsOk (P.set k q) := fun x hx => by
  rcases List.mem_or_eq_of_mem_set hx with h1 | h1
  · exact h x h1
  · rw [h1]; exact hq
theorem ptsOk_mirP {P : List Pt} (h : ptsOk P) : ptsOk (mirP P) := fun x hx => by
  obtain ⟨q, hq, rfl⟩ := List.mem_map.mp hx
  obtain ⟨a, b, c⟩ := h q hq
  exact ⟨by show 0 ≤ 40 - q.1; omega, by show 40 - q.1 ≤ 40; omega, c⟩
theorem ptsOk_mirV {P : List Pt} (h : ptsOk P) : ptsOk (mirV P) := fun x hx => by
  obtain ⟨q, hq, rfl⟩ := List.mem_map.mp hx
  obtain ⟨a, b, c, d, e⟩ := h q hq
  exact ⟨a, b, by show -99 ≤ -q.2.1; omega, by show -q.2.1 ≤ 99; omega, e⟩
theorem recd_ok {hs : List (List Pt)} {P : List Pt} (h : ∀ Q ∈ hs, ptsOk Q) (hP : ptsOk P) : ∀ Q ∈ recd hs P, ptsOk Q := fun Q hQ => by
  unfold recd at hQ
  rcases List.mem_append.mp hQ with h1 | h1
  · split at h1
    · exact h Q (List.mem_of_mem_tail h1)
    · exact h Q h1
  · rw [List.mem_singleton.mp h1]; exact hP
theorem hAt_ok {hs : List (List Pt)} (h : ∀ Q ∈ hs, ptsOk Q) {i : Int} (h0 : 0 ≤ i) (h1 : i < hs.length) : ptsOk (hAt hs i) := by
  have h2 : i.toNat < hs.length := by omega
  unfold hAt
  rw [List.getD_eq_getElem?_getD, List.getElem?_eq_getElem h2]
  exact h _ (List.getElem_mem h2)
/-! what the class's object holds between calls -/
def XInv (σ : Mem) (P : List Pt) (hs : List (List Pt)) (tx ch : List Int) : Prop := (RowIs σ 1 P ∧ ptsOk P) ∧ TabIs σ P ∧ (HistIs σ hs ∧ ∀ Q ∈ hs, ptsOk Q) ∧ (TextIs σ tx ∧ txOk tx) ∧ (ChainIs σ ch ∧ ch.length ≤ 3) ∧ σ 45 1 = 1 ∧ σ 47 1 = -1
theorem HistIs.eq {σ u : Mem} {hs : List (List Pt)} (h : HistIs σ hs) (hu : ∀ a : Nat, 12 ≤ a → a ≤ 37 → u a = σ a) : HistIs u hs := by
  obtain ⟨a, b, c, d, e⟩ := id h
  have e13 := hu 13 (by omega) (by omega)
  refine ⟨by rw [hu 12 (by omega) (by omega)]; exact a, b, fun i h0 h1 => by rw [e13]; exact c i h0 h1, fun i j h0 h1 h2 h3 hij => by rw [e13] at hij; exact d i j h0 h1 h2 h3 hij, fun i h0 h1 => ?_⟩
  rw [e13]
  have r := h.row (i := i) h0 (by omega)
  exact (e i h0 h1).eq (hu _ (by omega) (by omega)) (hu _ (by omega) (by omega)) (hu _ (by omega) (by omega)) (hu _ (by omega) (by omega))
theorem ChainIs.eq {σ u : Mem} {ch : List Int} (h : ChainIs σ ch) (h1 : u 5 = σ 5) (h2 : u 11 = σ 11) : ChainIs u ch := by
  unfold ChainIs
  rw [h1, h2]
  exact h
theorem XInv.keep {σ u : Mem} {P : List Pt} {hs : List (List Pt)} {tx ch : List Int} (h : XInv σ P hs tx ch) (hu : ∀ a : Nat, a < 43 → u a = σ a) (h45 : u 45 1 = σ 45 1) (h47 : u 47 1 = σ 47 1) : XInv u P hs tx ch := by
  obtain ⟨⟨hR, hok⟩, hTab, ⟨hH, hHok⟩, ⟨hTx, htok⟩, ⟨hC, hC3⟩, hs45, hs47⟩ := h
  exact ⟨⟨hR.eq (hu 1 (by omega)) (hu 2 (by omega)) (hu 3 (by omega)) (hu 4 (by omega)), hok⟩, Tb.eq hTab (hu 38 (by omega)) (hu 39 (by omega)) (hu 40 (by omega)) (hu 41 (by omega)) (hu 42 (by omega)), ⟨hH.eq (fun a _ h1 => hu a (by omega)), hHok⟩, ⟨hTx.eq (by rw [hu 5 (by omega)]) (hu 6 (by omega)), htok⟩, ⟨hC.eq (hu 5 (by omega)) (hu 11 (by omega)), hC3⟩, h45.trans hs45, h47.trans hs47⟩
theorem XInv.t0 {σ : Mem} {P : List Pt} {hs : List (List Pt)} {tx ch : List Int} (h : XInv σ P hs tx ch) : σ 41 0 = 0 ∧ σ 42 0 = 0 := by
  obtain ⟨⟨hR, hok⟩, ⟨-, -, -, hT⟩, -⟩ := h
  have := hT 0 (Int.le_refl 0) (prof_of hok hR.2.1).1.1
  exact this
theorem xinv_change {σ u1 u2 u3 : Mem} {P P' : List Pt} {hs hs' : List (List Pt)} {tx ch : List Int} (h : XInv σ P hs tx ch) (h1 : HistIs u1 hs' ∧ SameH σ u1) (h2 : RowIs u2 1 P' ∧ Same4 u1 u2 1) (h3 : TabIs u3 P' ∧ SameT u2 u3) (hok : ptsOk P') (hhs : ∀ Q ∈ hs', ptsOk Q) : XInv u3 P' hs' tx ch := by
  obtain ⟨-, -, -, ⟨hTx, htok⟩, ⟨hC, hC3⟩, hs45, hs47⟩ := h
  have e : ∀ a : Nat, ((5 ≤ a ∧ a < 12) ∨ 42 < a) → u3 a = σ a := fun a ha => by
    rw [h3.2 a (by omega), h2.2 a (by omega) (by omega) (by omega) (by omega), h1.2 a (by omega)]
  exact ⟨⟨h2.1.eq (h3.2 1 (by omega)) (h3.2 2 (by omega)) (h3.2 3 (by omega)) (h3.2 4 (by omega)), hok⟩, h3.1, ⟨h1.1.eq (fun a ha hb => by rw [h3.2 a (by omega), h2.2 a (by omega) (by omega) (by omega) (by omega)]), hhs⟩, ⟨hTx.eq (by rw [e 5 (by omega)]) (e 6 (by omega)), htok⟩, ⟨hC.eq (e 5 (by omega)) (e 11 (by omega)), hC3⟩, by rw [e 45 (by omega)]; exact hs45, by rw [e 47 (by omega)]; exact hs47⟩
theorem xinv_undo {σ u1 u3 : Mem} {P P' : List Pt} {hs hs' : List (List Pt)} {tx ch : List Int} (h : XInv σ P hs tx ch) (h1 : HistIs u1 hs' ∧ RowIs u1 1 P' ∧ SameU σ u1) (h3 : TabIs u3 P' ∧ SameT u1 u3) (hok : ptsOk P') (hhs : ∀ Q ∈ hs', ptsOk Q) : XInv u3 P' hs' tx ch := by
  obtain ⟨-, -, -, ⟨hTx, htok⟩, ⟨hC, hC3⟩, hs45, hs47⟩ := h
  have e : ∀ a : Nat, ((5 ≤ a ∧ a < 12) ∨ 42 < a) → u3 a = σ a := fun a ha => by
    rw [h3.2 a (by omega), h1.2.2 a (by omega)]
  exact ⟨⟨h1.2.1.eq (h3.2 1 (by omega)) (h3.2 2 (by omega)) (h3.2 3 (by omega)) (h3.2 4 (by omega)), hok⟩, h3.1, ⟨h1.1.eq (fun a ha hb => h3.2 a (by omega)), hhs⟩, ⟨hTx.eq (by rw [e 5 (by omega)]) (e 6 (by omega)), htok⟩, ⟨hC.eq (e 5 (by omega)) (e 11 (by omega)), hC3⟩, by rw [e 45 (by omega)]; exact hs45, by rw [e 47 (by omega)]; exact hs47⟩
theorem xinv_text {σ u : Mem} {P : List Pt} {hs : List (List Pt)} {tx ch tx' ch' : List Int} (h : XInv σ P hs tx ch) (hT : TextIs u tx' ∧ txOk tx') (hC : ChainIs u ch' ∧ ch'.length ≤ 3) (hS : SameX σ u) : XInv u P hs tx' ch' := by
  obtain ⟨⟨hR, hok⟩, hTab, ⟨hH, hHok⟩, -, -, hs45, hs47⟩ := h
  exact ⟨⟨hR.eq (hS 1 (by omega)) (hS 2 (by omega)) (hS 3 (by omega)) (hS 4 (by omega)), hok⟩, Tb.eq hTab (hS 38 (by omega)) (hS 39 (by omega)) (hS 40 (by omega)) (hS 41 (by omega)) (hS 42 (by omega)), ⟨hH.eq (fun a h0 h1 => hS a (by omega)), hHok⟩, hT, hC, by rw [hS 45 (by omega)]; exact hs45, by rw [hS 47 (by omega)]; exact hs47⟩
theorem xinv_B {σ u : Mem} {P : List Pt} {hs : List (List Pt)} {tx ch : List Int} (h : XInv σ P hs tx ch) (hS : SameB σ u) : XInv u P hs tx ch := h.keep (fun a ha => hS a (by omega) (by omega)) (by rw [hS 45 (by omega) (by omega)]) (by rw [hS 47 (by omega) (by omega)])
theorem xinv_L {σ u : Mem} {P : List Pt} {hs : List (List Pt)} {tx ch : List Int} (h : XInv σ P hs tx ch) (hS : SameL σ u) : XInv u P hs tx ch := h.keep (fun a ha => hS a (by omega)) (by rw [hS 45 (by omega)]) (by rw [hS 47 (by omega)])
theorem xinv_K {σ u : Mem} {P : List Pt} {hs : List (List Pt)} {tx ch : List Int} {k : Nat} (h : XInv σ P hs tx ch) (hk : k = 45 ∨ k = 47) (hS : SameK σ u k) : XInv u P hs tx ch := by
  refine h.keep (fun a ha => hS.1 a (by omega) (by omega)) ?_ ?_
  · rcases hk with rfl | rfl
    · exact hS.2
    · rw [hS.1 45 (by omega) (by omega)]
  · rcases hk with rfl | rfl
    · rw [hS.1 47 (by omega) (by omega)]
    · exact hS.2
theorem ChainIs.ext {σ u : Mem} {ch : List Int} (h : ChainIs σ ch) (h1 : u 5 5 = σ 5 5) (h2 : u 11 = σ 11) : ChainIs u ch := by
  unfold ChainIs
  rw [h1, h2]
  exact h
