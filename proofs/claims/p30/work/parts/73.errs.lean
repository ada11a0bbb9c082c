/-! errors -/
theorem amin_least {f : Int → Int} : ∀ k : Nat, ∀ j : Int, 0 ≤ j → j < k → f (amin f k) ≤ f j ∧ (j < amin f k → f (amin f k) < f j) := by
  intro k
  induction k with
  | zero => intro j h0 h1; omega
  | succ k ih =>
    intro j h0 h1
    have hr := amin_rg f k
    unfold amin
    by_cases q : k = 0
    · rw [if_pos q, show j = 0 by omega]
      exact ⟨Int.le_refl _, fun h => by omega⟩
    · rw [if_neg q]
      by_cases r : f k < f (amin f k)
      · rw [if_pos r]
        by_cases z : j = k
        · subst z; exact ⟨Int.le_refl _, fun h => by omega⟩
        · have := (ih j h0 (by omega)).1
          exact ⟨by omega, fun _ => by omega⟩
      · rw [if_neg r]
        by_cases z : j = k
        · subst z
          have := hr.2 (by omega)
          exact ⟨by omega, fun h => by omega⟩
        · exact ih j h0 (by omega)
theorem sq_nonneg (x : Int) : 0 ≤ x * x := by
  rcases Int.le_total 0 x with q | q
  · exact Int.mul_nonneg q q
  · exact Int.mul_nonneg_of_nonpos_of_nonpos q q
theorem cs_fS {P : List Pt} (hP : ptsOk P) (x y X : Int) : ∀ i : Int, 0 ≤ i → (i ≤ P.length → 0 ≤ x * x * fS P (pw P) X i - 2 * x * y * fS P (fm P) X i + y * y * fS P (fq P) X i) := fun i hi => by
  refine iInd (p := fun i => i ≤ P.length → 0 ≤ x * x * fS P (pw P) X i - 2 * x * y * fS P (fm P) X i + y * y * fS P (fq P) X i) (fun _ => by simp [fS_0]) (fun i hi ih q => ?_) i hi
  have h0 := ih (by omega)
  by_cases z : px P i = X
  · rw [fS_hit hi z, fS_hit hi z, fS_hit hi z]
    have w := pw_ok hP hi (show i < P.length by omega)
    have k := Int.mul_nonneg (show 0 ≤ pw P i by omega) (sq_nonneg (x - pv P i * y))
    unfold fm fq at *
    have e : x * x * (fS P (pw P) X i + pw P i) - 2 * x * y * (fS P (fun i => pw P i * pv P i) X i + pw P i * pv P i) + y * y * (fS P (fun i => pw P i * pv P i * pv P i) X i + pw P i * pv P i * pv P i) = (x * x * fS P (pw P) X i - 2 * x * y * fS P (fun i => pw P i * pv P i) X i + y * y * fS P (fun i => pw P i * pv P i * pv P i) X i) + pw P i * ((x - pv P i * y) * (x - pv P i * y)) := by grind
    have e' : x * x * (fS P (pw P) X i + pw P i) - 2 * x * y * (fS P (fun i => pw P i * pv P i) X i + pw P i * pv P i) + y * y * (fS P (fun i => pw P i * pv P i * pv P i) X i + pw P i * pv P i * pv P i) ≥ 0 := by
      rw [e]
      exact Int.add_nonneg h0 k
    exact e'
  · rw [fS_miss hi z, fS_miss hi z, fS_miss hi z]
    exact h0
noncomputable def gq (P : List Pt) (g : Int) : Int := smI (fun h => fAt P (fq P) (gX P h)) g
theorem cs_rng {P : List Pt} (hP : ptsOk P) (x y a : Int) (ha : 0 ≤ a) : ∀ d : Int, 0 ≤ d → 0 ≤ x * x * (gW P (a + d) - gW P a) - 2 * x * y * (gM P (a + d) - gM P a) + y * y * (gq P (a + d) - gq P a) := fun d hd => by
  refine iInd (p := fun d => 0 ≤ x * x * (gW P (a + d) - gW P a) - 2 * x * y * (gM P (a + d) - gM P a) + y * y * (gq P (a + d) - gq P a)) ?_ (fun d hd ih => ?_) d hd
  · rw [show a + 0 = a by omega]; simp
  · have w1 : gW P (a + (d + 1)) = gW P (a + d) + fAt P (pw P) (gX P (a + d)) := by rw [show a + (d + 1) = a + d + 1 by omega]; exact smI_s _ (by omega)
    have w2 : gM P (a + (d + 1)) = gM P (a + d) + fAt P (fm P) (gX P (a + d)) := by rw [show a + (d + 1) = a + d + 1 by omega]; exact smI_s _ (by omega)
    have w3 : gq P (a + (d + 1)) = gq P (a + d) + fAt P (fq P) (gX P (a + d)) := by rw [show a + (d + 1) = a + d + 1 by omega]; exact smI_s _ (by omega)
    have k := cs_fS hP x y (gX P (a + d)) P.length (by omega) (Int.le_refl _)
    rw [fS_all, fS_all, fS_all] at k
    rw [w1, w2, w3]
    have e : x * x * (gW P (a + d) + fAt P (pw P) (gX P (a + d)) - gW P a) - 2 * x * y * (gM P (a + d) + fAt P (fm P) (gX P (a + d)) - gM P a) + y * y * (gq P (a + d) + fAt P (fq P) (gX P (a + d)) - gq P a) = (x * x * (gW P (a + d) - gW P a) - 2 * x * y * (gM P (a + d) - gM P a) + y * y * (gq P (a + d) - gq P a)) + (x * x * fAt P (pw P) (gX P (a + d)) - 2 * x * y * fAt P (fm P) (gX P (a + d)) + y * y * fAt P (fq P) (gX P (a + d))) := by grind
    rw [e]
    exact Int.add_nonneg ih k
theorem com_dvd {w : Int} (h0 : 1 ≤ w) (h1 : w ≤ 24) : 5354228880 / w * w = 5354228880 := by
  rcases (show w = 1 ∨ w = 2 ∨ w = 3 ∨ w = 4 ∨ w = 5 ∨ w = 6 ∨ w = 7 ∨ w = 8 ∨ w = 9 ∨ w = 10 ∨ w = 11 ∨ w = 12 ∨ w = 13 ∨ w = 14 ∨ w = 15 ∨ w = 16 ∨ w = 17 ∨ w = 18 ∨ w = 19 ∨ w = 20 ∨ w = 21 ∨ w = 22 ∨ w = 23 ∨ w = 24 by omega) with rfl | rfl | rfl | rfl | rfl | rfl | rfl | rfl | rfl | rfl | rfl | rfl | rfl | rfl | rfl | rfl | rfl | rfl | rfl | rfl | rfl | rfl | rfl | rfl <;> rfl
theorem gain_wq {n : Int} {X W M : Int → Int} (hP : Prof n X W M) {a b : Int} (h : 0 ≤ a ∧ a ≤ b ∧ b < n) : gain W M a b * (W (b + 1) - W a) = (M (b + 1) - M a) * (M (b + 1) - M a) * 5354228880 := by
  have e1 := prof_w hP h.1 (b := b + 1) (by omega) (by omega)
  have e2 := prof_rg hP h.1 (b := b + 1) (by omega) (by omega)
  unfold gain
  rw [Int.mul_assoc, com_dvd (by omega) (by omega)]
theorem gain_q {P : List Pt} (hP : ptsOk P) (hl : P.length ≤ 12) {a b : Int} (h : 0 ≤ a ∧ a ≤ b ∧ b < ng P) : gain (gW P) (gM P) a b ≤ 5354228880 * (gq P (b + 1) - gq P a) := by
  have hPf := prof_of hP hl
  have e2 := prof_rg hPf h.1 (b := b + 1) (by omega) (by omega)
  have k := cs_rng hP (gM P (b + 1) - gM P a) (gW P (b + 1) - gW P a) a h.1 (b + 1 - a) (by omega)
  rw [show a + (b + 1 - a) = b + 1 by omega] at k
  have g := gain_wq hPf h
  generalize gW P (b + 1) - gW P a = w at *
  generalize gM P (b + 1) - gM P a = m at *
  generalize gq P (b + 1) - gq P a = q at *
  generalize gain (gW P) (gM P) a b = G at *
  have e : m * m * w - 2 * m * w * m + w * w * q = w * (w * q - m * m) := by grind
  rw [e] at k
  have k2 : 0 ≤ w * q - m * m := by
    by_cases z : 0 ≤ w * q - m * m
    · exact z
    · have := Int.mul_neg_of_pos_of_neg (show 0 < w by omega) (show w * q - m * m < 0 by omega)
      omega
  by_cases z : G ≤ 5354228880 * q
  · exact z
  · have k3 := Int.mul_lt_mul_of_pos_right (show 5354228880 * q < G by omega) (show 0 < w by omega)
    rw [g] at k3
    have e3 : 5354228880 * q * w = 5354228880 * (w * q) := by grind
    rw [e3] at k3
    omega
/-- where the k-th block begins, or the end -/
def nb (B : List Int) (n k : Int) : Int := if k < B.length then at0 B k else n
theorem nb_s {B : List Int} {n k : Int} (h : k < B.length) : nb B n (k + 1) = bEnd B n k + 1 := by
  unfold nb bEnd
  by_cases q : k + 1 < B.length
  · rw [if_pos q, if_pos (by omega)]; omega
  · rw [if_neg q, if_neg (by omega)]; omega
theorem nb_0 {B : List Int} {n : Int} (h : Asc n B) (hn : 0 ≤ n) : nb B n 0 = 0 := by
  unfold nb
  by_cases q : 0 < n
  · have := h.1 q
    rw [if_pos (by omega)]; exact this.2
  · have := h.2.2.2
    rw [if_neg (by omega)]; omega
theorem gsum_q {P : List Pt} (hP : ptsOk P) (hl : P.length ≤ 12) {B : List Int} (h : Asc (ng P) B) : ∀ k : Int, 0 ≤ k → (k ≤ B.length → smI (fun j => gain (gW P) (gM P) (at0 B j) (bEnd B (ng P) j)) k ≤ 5354228880 * gq P (nb B (ng P) k)) := fun k hk => by
  have hn := (prof_of hP hl).1.1
  refine iInd (p := fun k => k ≤ B.length → smI (fun j => gain (gW P) (gM P) (at0 B j) (bEnd B (ng P) j)) k ≤ 5354228880 * gq P (nb B (ng P) k)) (fun _ => by rw [nb_0 h hn]; exact Int.le_refl 0) (fun k hk ih q => ?_) k hk
  have k0 := ih (by omega)
  have k1 := gain_q hP hl (bEnd_rg h hk (by omega))
  rw [smI_s _ hk, nb_s (by omega)]
  unfold nb at k0
  rw [if_pos (by omega)] at k0
  omega
theorem gsum_den {n : Int} {X W M : Int → Int} (hP : Prof n X W M) {B : List Int} (h : Asc n B) : ∀ k : Int, 0 ≤ k → (k ≤ B.length → ∃ p : Nat, 0 < p ∧ p ≤ 2 ^ (W (nb B n k)).toNat ∧ (5354228880 : Int) ∣ smI (fun j => gain W M (at0 B j) (bEnd B n j)) k * (p : Int)) := fun k hk => by
  refine iInd (p := fun k => k ≤ B.length → ∃ p : Nat, 0 < p ∧ p ≤ 2 ^ (W (nb B n k)).toNat ∧ (5354228880 : Int) ∣ smI (fun j => gain W M (at0 B j) (bEnd B n j)) k * (p : Int)) (fun _ => ⟨1, by omega, Nat.one_le_two_pow, ⟨0, by rw [smI_0]; rfl⟩⟩) (fun k hk ih q => ?_) k hk
  obtain ⟨p, p0, p1, c, hc⟩ := ih (by omega)
  have r := bEnd_rg h hk (show k < B.length by omega)
  have w1 := prof_w hP r.1 (b := bEnd B n k + 1) (by omega) (by omega)
  have w2 := prof_rg hP r.1 (b := bEnd B n k + 1) (by omega) (by omega)
  have g := gain_wq hP r
  rw [nb_s (by omega), smI_s _ hk]
  unfold nb at p1
  rw [if_pos (by omega)] at p1
  generalize at0 B k = a at *
  generalize bEnd B n k = b at *
  generalize smI (fun j => gain W M (at0 B j) (bEnd B n j)) k = S at *
  obtain ⟨w, hw⟩ : ∃ w : Nat, W (b + 1) - W a = (w : Int) := ⟨(W (b + 1) - W a).toNat, by omega⟩
  have e1 : (W (b + 1)).toNat = (W a).toNat + w := by omega
  refine ⟨p * w, Nat.mul_pos p0 (by omega), ?_, ?_⟩
  · rw [e1, Nat.pow_add]
    exact Nat.mul_le_mul p1 (Nat.le_of_lt Nat.lt_two_pow_self)
  · rw [hw] at g
    generalize gain W M a b = G at *
    generalize M (b + 1) - M a = m at *
    refine ⟨c * w + m * m * p, ?_⟩
    have e2 : (S + G) * ((p * w : Nat) : Int) = (S * (p : Int)) * (w : Int) + (G * (w : Int)) * (p : Int) := by
      rw [show ((p * w : Nat) : Int) = (p : Int) * (w : Int) by simp]
      grind
    show (S + G) * ((p * w : Nat) : Int) = 5354228880 * (c * w + m * m * p)
    rw [e2, hc, g]
    grind
theorem err_ok {P : List Pt} (hP : ptsOk P) (hl : P.length ≤ 12) {B : List Int} (h : Asc (ng P) B) : 0 ≤ Err (ng P) (gW P) (gM P) (gQ P) B ∧ Err (ng P) (gW P) (gM P) (gQ P) B ≤ 1300000000000000 ∧ low (Err (ng P) (gW P) (gM P) (gQ P) B) 5354228880 1 ≤ 16777216 := by
  have hPf := prof_of hP hl
  have hq : gq P (ng P) = gQ P := gs_all hP (fq P)
  have k := gsum_q hP hl h B.length (by omega) (Int.le_refl _)
  have en : nb B (ng P) B.length = ng P := by unfold nb; rw [if_neg (by omega)]
  rw [en, hq] at k
  refine ⟨by unfold Err; omega, (Err_rg hPf (gQ_rg hP hl) h).2, ?_⟩
  obtain ⟨p, p0, p1, c, hc⟩ := gsum_den hPf h B.length (by omega) (Int.le_refl _)
  rw [en] at p1
  have h24 := hPf.1.2.2.2.2
  have p2 : p ≤ 2 ^ 24 := Nat.le_trans p1 (Nat.pow_le_pow_right (by omega) (by omega))
  have := low_den (n := Err (ng P) (gW P) (gM P) (gQ P) B) (d := 5354228880) (k := (p : Int)) (by omega) (by omega) (by
    unfold Err
    generalize smI (fun j => gain (gW P) (gM P) (at0 B j) (bEnd B (ng P) j)) B.length = S at *
    refine ⟨gQ P * p - c, ?_⟩
    have e : (5354228880 * gQ P - S) * (p : Int) = 5354228880 * (gQ P * p) - S * p := by grind
    rw [e, hc]
    grind)
  have e24 : (2 : Nat) ^ 24 = 16777216 := rfl
  rw [e24] at p2
  omega
theorem low_top {n d : Int} (hd : 0 < d) (hn : 0 ≤ n) : 0 ≤ low n d 0 ∧ low n d 0 ≤ n := by
  have k := (low_le (n := n) hd).2.2
  have hp := gcdI_pos (n := n) hd
  refine ⟨?_, ?_⟩
  · unfold low
    rw [if_pos rfl]
    exact Int.ediv_nonneg hn (Int.le_of_lt hp)
  · by_cases z : 0 < n
    · rw [if_pos z] at k; exact k
    · rw [if_neg z] at k; omega
def errOk (a b : Int) : Prop := (0 ≤ a ∧ a ≤ 1300000000000000) ∧ 0 < b ∧ b ≤ 16777216
theorem errOk_of {P : List Pt} (hP : ptsOk P) (hl : P.length ≤ 12) {B : List Int} (h : Asc (ng P) B) : errOk (low (Err (ng P) (gW P) (gM P) (gQ P) B) 5354228880 0) (low (Err (ng P) (gW P) (gM P) (gQ P) B) 5354228880 1) := by
  obtain ⟨a, b, c⟩ := err_ok hP hl h
  have t := low_top (n := Err (ng P) (gW P) (gM P) (gQ P) B) (d := 5354228880) (by omega) a
  exact ⟨⟨t.1, by omega⟩, low_pos (by omega), c⟩
theorem pkB_asc {n : Int} {X W M : Int → Int} (hP : Prof n X W M) (s : Int) {t : Int} (ht : 0 ≤ t ∧ t < n) : Asc n (pkB n W M s t) := by
  obtain ⟨F, T, h⟩ := top_ex hP s ht
  have h1 := h.1
  unfold pkB
  rw [topFT_eq h]
  exact (peakS_stk (by omega)).toAsc
theorem bTurn_rg {n : Int} {W M : Int → Int} {q s : Int} (hn : 0 < n) : 0 ≤ bTurn n W M q s ∧ bTurn n W M q s < n := by
  have := amin_rg (turnE n W M q s) n.toNat
  unfold bTurn
  have := this.2 (by omega)
  omega
theorem kdB_hi {P : List Pt} {kind : Int} (h : 2 ≤ kind) (hn : 0 < ng P) : kdB P kind = pkB (ng P) (gW P) (gM P) (tSide kind) (bTurn (ng P) (gW P) (gM P) (gQ P) (tSide kind)) := by
  unfold kdB kB tSide
  rw [if_pos h, if_pos hn]
theorem kdB_lo {P : List Pt} {kind : Int} (h : kind < 2) : kdB P kind = (poolL (if kind = 0 then 1 else -1) (gW P) (gM P) 0 (ng P).toNat).reverse := by
  unfold kdB kB
  rw [if_neg (by omega)]
theorem kdB_asc {P : List Pt} (hP : ptsOk P) (hl : P.length ≤ 12) {kind : Int} (hn : 0 < ng P) : Asc (ng P) (kdB P kind) := by
  by_cases h : 2 ≤ kind
  · rw [kdB_hi h hn]
    exact pkB_asc (prof_of hP hl) _ (bTurn_rg hn)
  · rw [kdB_lo (by omega)]
    exact pool_asc (by omega)
theorem errA_eq {P : List Pt} {kind w : Int} (hn : 0 < ng P) (hk : 0 ≤ kind ∧ kind ≤ 3) (hw : 0 ≤ w ∧ w ≤ 1) : errA P kind w = low (Err (ng P) (gW P) (gM P) (gQ P) (kdB P kind)) 5354228880 w := by
  unfold errA
  rw [if_neg (by omega), if_neg (by omega)]
theorem teA_eq {P : List Pt} {kind g w : Int} (hk : 2 ≤ kind ∧ kind ≤ 3) (hg : 0 ≤ g ∧ g < ng P) (hw : 0 ≤ w ∧ w ≤ 1) : teA P kind g w = low (turnE (ng P) (gW P) (gM P) (gQ P) (tSide kind) g) 5354228880 w := by
  unfold teA turnE
  rw [if_neg (by omega)]
theorem turnA_eq {P : List Pt} {kind : Int} (hn : 0 < ng P) (hk : 2 ≤ kind ∧ kind ≤ 3) : turnA P kind = bTurn (ng P) (gW P) (gM P) (gQ P) (tSide kind) := by
  unfold turnA
  rw [if_neg (by omega), if_neg (by omega)]
theorem errA_hi {P : List Pt} {kind w : Int} (hn : 0 < ng P) (hk : 2 ≤ kind ∧ kind ≤ 3) (hw : 0 ≤ w ∧ w ≤ 1) : errA P kind w = low (turnE (ng P) (gW P) (gM P) (gQ P) (tSide kind) (turnA P kind)) 5354228880 w := by
  rw [errA_eq hn (by omega) hw, kdB_hi hk.1 hn, turnA_eq hn hk]
  rfl
theorem turnA_rg {P : List Pt} {kind : Int} (hn : 0 < ng P) (hk : 2 ≤ kind ∧ kind ≤ 3) : 0 ≤ turnA P kind ∧ turnA P kind < ng P := by
  rw [turnA_eq hn hk]
  exact bTurn_rg hn
theorem te_turn {P : List Pt} {kind w : Int} (hn : 0 < ng P) (hk : 2 ≤ kind ∧ kind ≤ 3) (hw : 0 ≤ w ∧ w ≤ 1) : teA P kind (turnA P kind) w = errA P kind w := by
  rw [errA_hi hn hk hw, teA_eq hk (turnA_rg hn hk) hw]
theorem errA_ok {P : List Pt} (hP : ptsOk P) (hl : P.length ≤ 12) {kind : Int} (hn : 0 < ng P) (hk : 0 ≤ kind ∧ kind ≤ 3) : errOk (errA P kind 0) (errA P kind 1) := by
  rw [errA_eq hn hk (by omega), errA_eq hn hk (by omega)]
  exact errOk_of hP hl (kdB_asc hP hl hn)
theorem teA_ok {P : List Pt} (hP : ptsOk P) (hl : P.length ≤ 12) {kind g : Int} (hk : 2 ≤ kind ∧ kind ≤ 3) (hg : 0 ≤ g ∧ g < ng P) : errOk (teA P kind g 0) (teA P kind g 1) := by
  rw [teA_eq hk hg (by omega), teA_eq hk hg (by omega)]
  exact errOk_of hP hl (pkB_asc (prof_of hP hl) _ hg)
theorem te_least {P : List Pt} {kind g : Int} (hk : 2 ≤ kind ∧ kind ≤ 3) (hg : 0 ≤ g ∧ g < ng P) : ¬ teA P kind g 0 * errA P kind 1 < errA P kind 0 * teA P kind g 1 ∧ (g < turnA P kind → errA P kind 0 * teA P kind g 1 < teA P kind g 0 * errA P kind 1) := by
  have hn : 0 < ng P := by omega
  have k := amin_least (f := turnE (ng P) (gW P) (gM P) (gQ P) (tSide kind)) (ng P).toNat g hg.1 (by omega)
  have e : amin (turnE (ng P) (gW P) (gM P) (gQ P) (tSide kind)) (ng P).toNat = turnA P kind := by rw [turnA_eq hn hk]; rfl
  rw [e] at k
  rw [errA_hi hn hk (by omega), errA_hi hn hk (by omega), teA_eq hk hg (by omega), teA_eq hk hg (by omega), low_lt (by omega) (by omega), low_lt (by omega) (by omega)]
  exact ⟨by omega, fun h => by have := k.2 h; omega⟩
theorem err_least {P : List Pt} (hP : ptsOk P) (hl : P.length ≤ 12) {k0 kind : Int} (hn : 0 < ng P) (h0 : k0 = 0 ∨ k0 = 1) (hk : kind = 2 ∨ kind = 3) : ¬ errA P k0 0 * errA P kind 1 < errA P kind 0 * errA P k0 1 := by
  have hPf := prof_of hP hl
  have ex : ∃ g : Int, (0 ≤ g ∧ g < ng P) ∧ kdB P k0 = pkB (ng P) (gW P) (gM P) (tSide kind) g := by
    rw [kdB_lo (by omega)]
    rcases h0 with rfl | rfl <;> rcases hk with rfl | rfl
    · exact ⟨ng P - 1, by omega, pool_last hPf 1 hn⟩
    · have r := pool_first hPf (-1) hn
      rw [show (- -1 : Int) = 1 from rfl] at r
      exact ⟨0, by omega, r⟩
    · exact ⟨0, by omega, pool_first hPf 1 hn⟩
    · exact ⟨ng P - 1, by omega, pool_last hPf (-1) hn⟩
  obtain ⟨g, hg, e⟩ := ex
  have k := (amin_least (f := turnE (ng P) (gW P) (gM P) (gQ P) (tSide kind)) (ng P).toNat g hg.1 (by omega)).1
  have e2 : amin (turnE (ng P) (gW P) (gM P) (gQ P) (tSide kind)) (ng P).toNat = turnA P kind := by rw [turnA_eq hn (by omega)]; rfl
  rw [e2] at k
  rw [errA_hi (kind := kind) hn (by omega) (by omega), errA_hi (kind := kind) hn (by omega) (by omega), errA_eq (kind := k0) hn (by omega) (by omega), errA_eq (kind := k0) hn (by omega) (by omega), e, low_lt (by omega) (by omega)]
  unfold turnE at k ⊢
  omega
