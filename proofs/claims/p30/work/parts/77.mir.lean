/-! mirrored values -/
theorem fAt_congr {P P' : List Pt} {f f' : Int → Int} (hl : P'.length = P.length) (h : ∀ i : Int, 0 ≤ i → i < P.length → px P' i = px P i ∧ f' i = f i) (x : Int) : fAt P' f' x = fAt P f x := by
  unfold fAt
  rw [hl]
  refine smI_congr (by omega) (fun i h0 h1 => ?_)
  rw [(h i h0 h1).1, (h i h0 h1).2]
theorem fAt_neg {P : List Pt} {f : Int → Int} (x : Int) : fAt P (fun i => -f i) x = -fAt P f x := by
  unfold fAt
  rw [← smI_neg _ (by omega)]
  refine smI_congr (by omega) (fun i h0 h1 => ?_)
  show (if px P i = x then -f i else 0) = -(if px P i = x then f i else 0)
  split <;> omega
theorem smI_neg_all (f : Int → Int) (n : Int) : smI (fun i => -f i) n = -smI f n := by
  by_cases h : 0 ≤ n
  · exact smI_neg f h
  · unfold smI
    rw [show n.toNat = 0 by omega]
    rfl
theorem mirV_gs (P : List Pt) : gsU (mirV P) = gsU P := by
  funext x
  induction x with
  | zero => rfl
  | succ x ih =>
    show (if (mirV P).any (fun q => q.1 == (x : Int)) = true then gsU (mirV P) x ++ [(x : Int)] else gsU (mirV P) x) = (if P.any (fun q => q.1 == (x : Int)) = true then gsU P x ++ [(x : Int)] else gsU P x)
    rw [ih, show (mirV P).any (fun q => q.1 == (x : Int)) = P.any (fun q => q.1 == (x : Int)) by unfold mirV; rw [List.any_map]; rfl]
theorem mirV_ng (P : List Pt) : ng (mirV P) = ng P := by unfold ng; rw [mirV_gs]
theorem mirV_gX (P : List Pt) : gX (mirV P) = gX P := by funext g; unfold gX; rw [mirV_gs]
theorem mirV_gW (P : List Pt) : gW (mirV P) = gW P := by
  funext g
  unfold gW
  rw [mirV_gX]
  refine congrArg (fun f => smI f g) (funext fun h => ?_)
  exact fAt_congr (mirV_len P) (fun i h0 h1 => ⟨(mirV_at h0 h1).1, (mirV_at h0 h1).2.2⟩) _
theorem mirV_gM (P : List Pt) : gM (mirV P) = fun g => -gM P g := by
  funext g
  unfold gM
  rw [mirV_gX, ← smI_neg_all]
  refine congrArg (fun f => smI f g) (funext fun h => ?_)
  show fAt (mirV P) (fun i => pw (mirV P) i * pv (mirV P) i) (gX P h) = -fAt P (fun i => pw P i * pv P i) (gX P h)
  rw [← fAt_neg]
  refine fAt_congr (mirV_len P) (fun i h0 h1 => ⟨(mirV_at h0 h1).1, ?_⟩) _
  rw [(mirV_at h0 h1).2.1, (mirV_at h0 h1).2.2, Int.mul_neg]
theorem mirV_gQ (P : List Pt) : gQ (mirV P) = gQ P := by
  unfold gQ
  rw [mirV_len]
  refine smI_congr (by omega) (fun i h0 h1 => ?_)
  rw [(mirV_at h0 h1).2.1, (mirV_at h0 h1).2.2]
  grind
theorem cmpM_mir (W M : Int → Int) (s a b c d : Int) : -s * cmpM W (fun g => -M g) a b c d = s * cmpM W M a b c d := by
  unfold cmpM
  grind
theorem popL_mir (W M : Int → Int) (s g : Int) : ∀ (stk : List Int) (x : Int), popL (-s) W (fun g => -M g) stk x g = popL s W M stk x g := by
  intro stk
  induction stk with
  | nil => intro x; rfl
  | cons b bs ih =>
    intro x
    show (if -s * cmpM W (fun g => -M g) b (x - 1) x g < 0 then x :: b :: bs else popL (-s) W (fun g => -M g) bs b g) = (if s * cmpM W M b (x - 1) x g < 0 then x :: b :: bs else popL s W M bs b g)
    rw [cmpM_mir, ih]
theorem poolL_mir (W M : Int → Int) (s a : Int) : ∀ k : Nat, poolL (-s) W (fun g => -M g) a k = poolL s W M a k := by
  intro k
  induction k with
  | zero => rfl
  | succ k ih =>
    show popL (-s) W (fun g => -M g) (poolL (-s) W (fun g => -M g) a k) (a + k) (a + k) = popL s W M (poolL s W M a k) (a + k) (a + k)
    rw [ih, popL_mir]
theorem topIs_mir (n : Int) (W M : Int → Int) (s t F T : Int) : TopIs n W (fun g => -M g) (-s) t F T = TopIs n W M s t F T := by
  unfold TopIs
  simp only [cmpM_mir]
theorem topFT_mir (n : Int) (W M : Int → Int) (s t : Int) : topFT n W (fun g => -M g) (-s) t = topFT n W M s t := by
  unfold topFT
  exact congrArg Classical.epsilon (funext fun q => topIs_mir n W M s t q.1 q.2)
theorem pkB_mir (n : Int) (W M : Int → Int) (s t : Int) : pkB n W (fun g => -M g) (-s) t = pkB n W M s t := by
  unfold pkB peakS
  rw [topFT_mir, poolL_mir, poolL_mir]
theorem gain_mir (W M : Int → Int) (a b : Int) : gain W (fun g => -M g) a b = gain W M a b := by
  unfold gain
  rw [show (-M (b + 1) - -M a) * (-M (b + 1) - -M a) = (M (b + 1) - M a) * (M (b + 1) - M a) by grind]
theorem err_mir (n : Int) (W M : Int → Int) (q : Int) (B : List Int) : Err n W (fun g => -M g) q B = Err n W M q B := by
  unfold Err
  simp only [gain_mir]
theorem bTurn_mir (n : Int) (W M : Int → Int) (q s : Int) : bTurn n W (fun g => -M g) q (-s) = bTurn n W M q s := by
  unfold bTurn
  refine congrArg (fun f => amin f n.toNat) (funext fun t => ?_)
  unfold turnE
  rw [pkB_mir, err_mir]
/-- the kinds that mirrored values exchange -/
def mirK (k : Int) : Int := if k = 0 then 1 else if k = 1 then 0 else if k = 2 then 3 else if k = 3 then 2 else if k = 4 then 5 else 4
theorem kdB_mir (P : List Pt) {k k' : Int} (h : (k = 0 ∧ k' = 1) ∨ (k = 2 ∧ k' = 3)) : kdB (mirV P) k' = kdB P k := by
  unfold kdB
  rw [mirV_ng, mirV_gW, mirV_gM, mirV_gQ]
  rcases h with ⟨rfl, rfl⟩ | ⟨rfl, rfl⟩
  · unfold kB
    rw [if_neg (by omega), if_neg (by omega), if_neg (by omega), if_pos rfl, poolL_mir]
  · unfold kB
    rw [if_pos (show (2 : Int) ≤ 3 by omega), if_pos (show (2 : Int) ≤ 2 by omega), if_neg (show ¬ (3 : Int) = 2 by omega), if_pos (rfl : (2 : Int) = 2), bTurn_mir, pkB_mir]
theorem turn_mir {P : List Pt} : turnA (mirV P) 3 = turnA P 2 := by
  unfold turnA
  have s3 : tSide 3 = -1 := by unfold tSide; rw [if_neg (by omega)]
  have s2 : tSide 2 = 1 := by unfold tSide; rw [if_pos rfl]
  rw [if_neg (show ¬ ¬ ((2 : Int) ≤ 3 ∧ (3 : Int) ≤ 3) by omega), if_neg (show ¬ ¬ ((2 : Int) ≤ 2 ∧ (2 : Int) ≤ 3) by omega), mirV_ng, mirV_gW, mirV_gM, mirV_gQ, s3, s2, bTurn_mir]
theorem hulC_mir (P : List Pt) (s : Int) : hulC (mirV P) (-s) = hulC P s := by
  have e : hulD (mirV P) (-s) = hulD P s := by
    unfold hulD
    rw [mirV_gX, mirV_gW, mirV_gM]
    funext i j k
    unfold sD
    grind
  unfold hulC
  rw [e, mirV_ng]
theorem fN_mir {P : List Pt} {k k' : Int} (h : (k = 0 ∧ k' = 1) ∨ (k = 2 ∧ k' = 3) ∨ (k = 4 ∧ k' = 5)) (g : Int) : fN (mirV P) k' g = -fN P k g ∧ fD (mirV P) k' g = fD P k g := by
  by_cases q : 4 ≤ k
  · have e : k = 4 ∧ k' = 5 := by omega
    obtain ⟨rfl, rfl⟩ := e
    have s5 : hSide 5 = -1 := by unfold hSide; rw [if_neg (by omega)]
    have s4 : hSide 4 = 1 := by unfold hSide; rw [if_pos rfl]
    obtain ⟨n5, d5⟩ := fNh (P := mirV P) (g := g) (kind := 5) (by omega)
    obtain ⟨n4, d4⟩ := fNh (P := P) (g := g) (kind := 4) (by omega)
    rw [n5, d5, n4, d4, s5, s4, hulC_mir, mirV_gX, mirV_gW, mirV_gM]
    refine ⟨?_, rfl⟩
    unfold hNum
    split
    · show -gM P (g + 1) - -gM P g = _
      omega
    · show (-gM P (hA (hulC P 1) g + 1) - -gM P (hA (hulC P 1) g)) * (gW P (hB (hulC P 1) g + 1) - gW P (hB (hulC P 1) g)) * (gX P (hB (hulC P 1) g) - gX P g) + (-gM P (hB (hulC P 1) g + 1) - -gM P (hB (hulC P 1) g)) * (gW P (hA (hulC P 1) g + 1) - gW P (hA (hulC P 1) g)) * (gX P g - gX P (hA (hulC P 1) g)) = _
      grind
  · have e := kdB_mir P (k := k) (k' := k') (by omega)
    unfold fN fD
    rw [if_neg (by omega), if_neg (by omega), if_neg (by omega), if_neg (by omega), e, mirV_ng, mirV_gW, mirV_gM]
    exact ⟨by show -gM P _ - -gM P _ = _; omega, rfl⟩
theorem fit_mir {P : List Pt} {k k' g : Int} (h : (k = 0 ∧ k' = 1) ∨ (k = 2 ∧ k' = 3) ∨ (k = 4 ∧ k' = 5)) (hg : 0 ≤ g ∧ g < ng P) : fitA (mirV P) k' g 0 = -fitA P k g 0 := by
  obtain ⟨a, b⟩ := fN_mir (P := P) h g
  rw [fitA_eq (by omega) (by rw [mirV_ng]; exact hg) (by omega), fitA_eq (by omega) hg (by omega), a, b]
  exact (low_neg _ _).1
/-! mirrored positions -/
noncomputable def oc (P : List Pt) (x : Int) : Int := if P.any (fun q => q.1 == x) = true then 1 else 0
theorem gs_count (P : List Pt) : ∀ x : Nat, ((gsU P x).length : Int) = smI (oc P) x := by
  intro x
  induction x with
  | zero => rfl
  | succ x ih =>
    rw [show ((x + 1 : Nat) : Int) = (x : Int) + 1 by omega, smI_s _ (by omega), ← ih]
    show (((if P.any (fun q => q.1 == (x : Int)) = true then gsU P x ++ [(x : Int)] else gsU P x)).length : Int) = _
    unfold oc
    split
    · simp
    · simp
theorem smI_head (f : Int → Int) : ∀ n : Int, 0 ≤ n → smI f (n + 1) = f 0 + smI (fun i => f (i + 1)) n := fun n hn => by
  refine iInd (p := fun n => smI f (n + 1) = f 0 + smI (fun i => f (i + 1)) n) ?_ (fun n hn ih => ?_) n hn
  · rw [smI_s _ (by omega), smI_0, smI_0]; omega
  · rw [smI_s _ (by omega), ih, smI_s _ hn]; omega
theorem smI_rev (f : Int → Int) : ∀ n : Int, 0 ≤ n → smI (fun i => f (n - 1 - i)) n = smI f n := fun n hn => by
  refine iInd (p := fun n => smI (fun i => f (n - 1 - i)) n = smI f n) rfl (fun n hn ih => ?_) n hn
  rw [smI_head _ n hn, smI_s f hn, ← ih]
  show f (n + 1 - 1 - 0) + smI (fun i => f (n + 1 - 1 - (i + 1))) n = _
  rw [show n + 1 - 1 - 0 = n by omega, show (fun i => f (n + 1 - 1 - (i + 1))) = (fun i => f (n - 1 - i)) from funext fun i => by rw [show n + 1 - 1 - (i + 1) = n - 1 - i by omega]]
  omega
theorem mirP_ng (P : List Pt) : ng (mirP P) = ng P := by
  unfold ng
  have e1 := gs_count (mirP P) 41
  have e2 := gs_count P 41
  rw [e1, e2, ← smI_rev (oc P) _ (by omega)]
  refine smI_congr (by omega) (fun i h0 h1 => ?_)
  show oc (mirP P) i = oc P (((41 : Nat) : Int) - 1 - i)
  unfold oc
  rw [show (mirP P).any (fun q => q.1 == i) = P.any (fun q => q.1 == ((41 : Nat) : Int) - 1 - i) by
    unfold mirP
    rw [List.any_map]
    refine congrArg (fun f => P.any f) (funext fun q => ?_)
    show (40 - q.1 == i) = (q.1 == ((41 : Nat) : Int) - 1 - i)
    rw [Bool.eq_iff_iff, beq_iff_eq, beq_iff_eq]
    omega]
theorem mirP_far {P : List Pt} (h : ∀ i : Int, 0 ≤ i → i < P.length → px P i ≤ 24) {g : Int} (hg : 0 ≤ g ∧ g < ng (mirP P)) : 15 < gX (mirP P) g ∧ gX (mirP P) g ≤ 40 := by
  obtain ⟨a, b, i, i0, i1, i2⟩ := gX_occ hg.1 hg.2
  rw [mirP_len] at i1
  have k := (mirP_at i0 i1).1
  have := h i i0 i1
  omega
/-! two changes are undone -/
theorem hAt_last (hs : List (List Pt)) (P : List Pt) : hAt (hs ++ [P]) (((hs ++ [P]).length : Int) - 1) = P := by
  unfold hAt
  rw [show ((((hs ++ [P]).length : Int) - 1).toNat) = hs.length by simp, List.getD_eq_getElem?_getD]
  simp
theorem recd_snoc (hs : List (List Pt)) (P : List Pt) : ∃ ts : List (List Pt), recd hs P = ts ++ [P] := by
  unfold recd
  exact ⟨_, rfl⟩
theorem undo_snoc (Q : List Pt) (ts : List (List Pt)) (P : List Pt) : stUndo Q (ts ++ [P]) = ((ts.length : Int), P, ts) := by
  unfold stUndo
  rw [if_neg (by simp), hAt_last]
  simp
theorem recd_two (hs : List (List Pt)) (P Q : List Pt) : ∃ ts : List (List Pt), recd (recd hs P) Q = (ts ++ [P]) ++ [Q] := by
  obtain ⟨us, hu⟩ := recd_snoc hs P
  rw [hu]
  by_cases q : (us ++ [P]).length = 6
  · rw [recd_6 q]
    cases us with
    | nil => simp at q
    | cons u us => exact ⟨us, rfl⟩
  · unfold recd
    rw [if_neg q]
    exact ⟨us, rfl⟩
