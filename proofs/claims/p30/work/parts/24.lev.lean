/-! divisions into levels -/
/-- the greatest of f from a on, m places; of several the last; and where it ends -/
def scU (f : Int → Int) (a : Int) : Nat → Int × Int
  | 0 => (-1, 0)
  | m + 1 => if (scU f a m).1 ≤ f (a + m) then (f (a + m), a + m + 1) else scU f a m
theorem scU_s {f : Int → Int} {a m : Int} (h : 0 ≤ m) : scU f a (m + 1).toNat = if (scU f a m.toNat).1 ≤ f (a + m) then (f (a + m), a + m + 1) else scU f a m.toNat := by
  rw [show (m + 1).toNat = m.toNat + 1 by omega]
  show (if (scU f a m.toNat).1 ≤ f (a + (m.toNat : Int)) then (f (a + (m.toNat : Int)), a + (m.toNat : Int) + 1) else scU f a m.toNat) = _
  rw [show ((m.toNat : Nat) : Int) = m by omega]
theorem scU_rg {f : Int → Int} {a : Int} : ∀ m : Nat, (∀ i : Int, 0 ≤ i → i < m → 0 ≤ f (a + i)) → -1 ≤ (scU f a m).1 ∧ (0 < m → 0 ≤ (scU f a m).1 ∧ a < (scU f a m).2 ∧ (scU f a m).2 ≤ a + m ∧ (scU f a m).1 = f ((scU f a m).2 - 1)) := by
  intro m
  induction m with
  | zero => intro _; exact ⟨by show (-1 : Int) ≤ -1; omega, fun h => by omega⟩
  | succ m ih =>
    intro h
    obtain ⟨a1, a2⟩ := ih (fun i h0 h1 => h i h0 (by omega))
    have hm := h m (by omega) (by omega)
    unfold scU
    split
    · refine ⟨by show -1 ≤ f (a + m); omega, fun _ => ⟨hm, by show a < a + m + 1; omega, by show a + (m : Int) + 1 ≤ a + ((m + 1 : Nat) : Int); omega, ?_⟩⟩
      show f (a + m) = f (a + m + 1 - 1)
      rw [show a + (m : Int) + 1 - 1 = a + m by omega]
    · refine ⟨a1, fun _ => ?_⟩
      by_cases q : m = 0
      · subst q
        have : (scU f a 0).1 = -1 := rfl
        omega
      · have := a2 (by omega)
        exact ⟨this.1, this.2.1, by omega, this.2.2.2⟩
theorem scU_congr {f g : Int → Int} {a : Int} : ∀ m : Nat, (∀ i : Int, 0 ≤ i → i < m → f (a + i) = g (a + i)) → scU f a m = scU g a m := by
  intro m
  induction m with
  | zero => intro _; rfl
  | succ m ih =>
    intro h
    have := ih (fun i h0 h1 => h i h0 (by omega))
    have hm := h m (by omega) (by omega)
    unfold scU
    rw [this, hm]
def lvG (n : Int) (W M : Int → Int) : Nat → Int → Int × Int
  | 0, _ => (0, 0)
  | k + 1, g => scU (fun l => gain W M g l + (if k = 0 then 0 else (lvG n W M k (l + 1)).1)) (if k = 0 then n - 1 else g) (if k = 0 then 1 else (n - k - g).toNat)
theorem gain_w {n : Int} {X W M : Int → Int} (h : Prof n X W M) {a b : Int} (ha : 0 ≤ a ∧ a ≤ b ∧ b < n) : 0 ≤ gain W M a b ∧ gain W M a b ≤ 52476797266880 * (W (b + 1) - W a) := by
  refine ⟨(gain_rg h ha).1, ?_⟩
  have e1 := prof_w h ha.1 (b := b + 1) (by omega) (by omega)
  have e2 := prof_rg h ha.1 (b := b + 1) (by omega) (by omega)
  have f4 : 0 ≤ 5354228880 / (W (b + 1) - W a) := Int.ediv_nonneg (by omega) (by omega)
  have f5 : (W (b + 1) - W a) * (5354228880 / (W (b + 1) - W a)) ≤ 5354228880 := Int.mul_ediv_self_le (by omega)
  unfold gain
  generalize 5354228880 / (W (b + 1) - W a) = d at *
  generalize W (b + 1) - W a = w at *
  generalize M (b + 1) - M a = m at *
  have k1 : 0 ≤ (99 * w - m) * (99 * w + m) := Int.mul_nonneg (by omega) (by omega)
  have k2 : 0 ≤ (99 * w - m) * (99 * w + m) * d := Int.mul_nonneg k1 f4
  have e : (99 * w - m) * (99 * w + m) * d = 9801 * w * (w * d) - m * m * d := by grind
  have k3 : 9801 * w * (w * d) ≤ 9801 * w * 5354228880 := Int.mul_le_mul_of_nonneg_left f5 (by omega)
  omega
theorem lvG_rg {n : Int} {X W M : Int → Int} (h : Prof n X W M) : ∀ (k : Nat) (g : Int), 1 ≤ k → 0 ≤ g → g + k ≤ n → 0 ≤ (lvG n W M k g).1 ∧ (lvG n W M k g).1 ≤ 52476797266880 * (W n - W g) ∧ g < (lvG n W M k g).2 ∧ (lvG n W M k g).2 + ((k : Int) - 1) ≤ n ∧ (k = 1 → (lvG n W M k g).2 = n) := by
  intro k
  induction k with
  | zero => intro g h1; omega
  | succ k ih =>
    intro g h1 h2 h3
    by_cases q : k = 0
    · subst q
      have e : lvG n W M (0 + 1) g = scU (fun l => gain W M g l + 0) (n - 1) 1 := rfl
      have r := scU_rg (f := fun l => gain W M g l + 0) (a := n - 1) 1 (fun i a b => by
        have := (gain_w h (a := g) (b := n - 1 + i) (by omega)).1; show 0 ≤ gain W M g (n - 1 + i) + 0; omega)
      rw [e]
      obtain ⟨r0, r1, r2, r3⟩ := r.2 (by omega)
      have hn : (scU (fun l => gain W M g l + 0) (n - 1) 1).2 = n := by omega
      rw [hn] at r3
      have := (gain_w h (a := g) (b := n - 1) (by omega)).2
      rw [show n - 1 + 1 = n by omega] at this
      refine ⟨r0, by rw [r3]; show gain W M g (n - 1) + 0 ≤ _; omega, by omega, by omega, fun _ => hn⟩
    · have e : lvG n W M (k + 1) g = scU (fun l => gain W M g l + (lvG n W M k (l + 1)).1) g (n - k - g).toNat := by
        show scU (fun l => gain W M g l + (if k = 0 then 0 else (lvG n W M k (l + 1)).1)) (if k = 0 then n - 1 else g) (if k = 0 then 1 else (n - k - g).toNat) = _
        rw [if_neg q, if_neg q]
        exact scU_congr _ (fun i _ _ => by show _ + (if k = 0 then 0 else _) = _; rw [if_neg q])
      have hf : ∀ i : Int, 0 ≤ i → i < ((n - k - g).toNat : Int) → 0 ≤ gain W M g (g + i) + (lvG n W M k (g + i + 1)).1 ∧ gain W M g (g + i) + (lvG n W M k (g + i + 1)).1 ≤ 52476797266880 * (W n - W g) := fun i a b => by
        have u := gain_w h (a := g) (b := g + i) (by omega)
        have v := ih (g + i + 1) (by omega) (by omega) (by omega)
        omega
      have r := scU_rg (f := fun l => gain W M g l + (lvG n W M k (l + 1)).1) (a := g) (n - k - g).toNat (fun i a b => (hf i a b).1)
      rw [e]
      obtain ⟨r0, r1, r2, r3⟩ := r.2 (by omega)
      refine ⟨r0, ?_, by omega, by omega, fun q2 => by omega⟩
      have := hf ((scU (fun l => gain W M g l + (lvG n W M k (l + 1)).1) g (n - k - g).toNat).2 - 1 - g) (by omega) (by omega)
      rw [show g + ((scU (fun l => gain W M g l + (lvG n W M k (l + 1)).1) g (n - k - g).toNat).2 - 1 - g) = (scU (fun l => gain W M g l + (lvG n W M k (l + 1)).1) g (n - k - g).toNat).2 - 1 by omega] at this
      rw [r3]
      exact this.2
theorem lvG_1 (n : Int) (W M : Int → Int) (g : Int) : lvG n W M 1 g = scU (fun l => gain W M g l + 0) (n - 1) 1 := rfl
theorem lvG_s {n : Int} {W M : Int → Int} {k : Nat} (hk : k ≠ 0) (g : Int) : lvG n W M (k + 1) g = scU (fun l => gain W M g l + (lvG n W M k (l + 1)).1) g (n - k - g).toNat := by
  show scU (fun l => gain W M g l + (if k = 0 then 0 else (lvG n W M k (l + 1)).1)) (if k = 0 then n - 1 else g) (if k = 0 then 1 else (n - k - g).toNat) = _
  rw [if_neg hk, if_neg hk]
  exact scU_congr _ (fun i _ _ => by show _ + (if k = 0 then 0 else _) = _; rw [if_neg hk])
/-- what is scanned for the first of k levels from g on -/
def lvF (n : Int) (W M : Int → Int) (k g : Int) (l : Int) : Int := gain W M g l + (if k = 1 then 0 else (lvG n W M (k - 1).toNat (l + 1)).1)
theorem lvG_eq {n : Int} {W M : Int → Int} {k : Int} (hk : 1 ≤ k) (g : Int) : lvG n W M k.toNat g = scU (lvF n W M k g) (if k = 1 then n - 1 else g) (n - (k - 1) - (if k = 1 then n - 1 else g)).toNat := by
  by_cases q : k = 1
  · subst q
    rw [if_pos rfl, show (n - (1 - 1) - (n - 1)).toNat = 1 by omega]
    show lvG n W M 1 g = _
    rw [lvG_1]
    exact scU_congr 1 (fun i _ _ => rfl)
  · rw [if_neg q, show k.toNat = (k - 1).toNat + 1 by omega, lvG_s (by omega), show n - ((k - 1).toNat : Int) - g = n - (k - 1) - g by omega]
    exact scU_congr _ (fun i _ _ => by unfold lvF; rw [if_neg q])
noncomputable def lvE (n : Int) (W M : Int → Int) (q k : Int) : Int := 5354228880 * q - (lvG n W M k.toNat 0).1
theorem lvE_rg {n : Int} {X W M : Int → Int} (h : Prof n X W M) {q k : Int} (hq : 0 ≤ q ∧ q ≤ 235224) (hk : 1 ≤ k ∧ k ≤ n) : -1260000000000000 ≤ lvE n W M q k ∧ lvE n W M q k ≤ 1260000000000000 := by
  have r := lvG_rg h k.toNat 0 (by omega) (by omega) (by omega)
  have := h.1
  unfold lvE
  omega
def lvB (n : Int) (W M : Int → Int) (k : Int) : Nat → Int
  | 0 => 0
  | s + 1 => (lvG n W M (k - s).toNat (lvB n W M k s)).2
theorem lvB_s {n : Int} {W M : Int → Int} {k s : Int} (h : 0 ≤ s) : lvB n W M k (s + 1).toNat = (lvG n W M (k - s).toNat (lvB n W M k s.toNat)).2 := by
  rw [show (s + 1).toNat = s.toNat + 1 by omega]
  show (lvG n W M (k - (s.toNat : Int)).toNat (lvB n W M k s.toNat)).2 = _
  rw [show ((s.toNat : Nat) : Int) = s by omega]
/-- the first of the least costs -/
def ChIs (n : Int) (c : Int → Int) (z : Int) : Prop := (1 ≤ z ∧ z ≤ n) ∧ ∀ k : Int, 1 ≤ k → k ≤ n → c z ≤ c k ∧ (k < z → c z < c k)
theorem ChIs.uniq {n : Int} {c : Int → Int} {z z' : Int} (h : ChIs n c z) (h' : ChIs n c z') : z = z' := by
  have a := h.2 z' h'.1.1 h'.1.2
  have b := h'.2 z h.1.1 h.1.2
  omega
noncomputable def lvC (n : Int) (W M : Int → Int) (q num den k : Int) : Int := lvE n W M q k * den + 5354228880 * num * k
theorem lvC_rg {n : Int} {X W M : Int → Int} (h : Prof n X W M) {q k num den : Int} (hq : 0 ≤ q ∧ q ≤ 235224) (hk : 1 ≤ k ∧ k ≤ n) (hnum : 0 ≤ num ∧ num ≤ 1000000) (hden : 1 ≤ den ∧ den ≤ 100) : -900000000000000000 ≤ lvC n W M q num den k ∧ lvC n W M q num den k ≤ 900000000000000000 := by
  have r := lvE_rg h hq hk
  have a := mul_rg (a := lvE n W M q k) (b := den) (A := 1260000000000000) (B := 100) (by omega) (by omega)
  have b := mul_rg (a := 5354228880 * num) (b := k) (A := 5354228880000000) (B := 12) (by omega) (by have := h.1; omega)
  unfold lvC
  omega
/-- r, above most, needs the greatest penalty to cost no less than f -/
def LYis (E : Int → Int) (most n f r : Int) : Prop := (most < r ∧ r ≤ n) ∧ ∀ m : Int, most < m → m ≤ n → (E f - E m) * (r - f) ≤ (E f - E r) * (m - f)
def FPis (E : Int → Int) (most n z : Int) : Prop := (1 ≤ z ∧ z ≤ most) ∧ ∃ r, LYis E most n z r ∧ ∀ k : Int, 1 ≤ k → k ≤ most → ∃ r', LYis E most n k r' ∧ (E z - E r) * (r' - k) ≤ (E k - E r') * (r - z)
/-- a / b ≤ c / d ≤ e / f -/
theorem fr_trans {a b c d e f : Int} (hb : 0 < b) (hd : 0 < d) (hf : 0 < f) (h1 : a * d ≤ c * b) (h2 : c * f ≤ e * d) : a * f ≤ e * b := by
  have k1 : (a * d) * f ≤ (c * b) * f := Int.mul_le_mul_of_nonneg_right h1 (by omega)
  have k2 : (c * f) * b ≤ (e * d) * b := Int.mul_le_mul_of_nonneg_right h2 (by omega)
  have e1 : (a * d) * f = d * (a * f) := by grind
  have e2 : (c * b) * f = (c * f) * b := by grind
  have e3 : (e * d) * b = d * (e * b) := by grind
  rw [e1, e2] at k1
  rw [e3] at k2
  exact Int.le_of_mul_le_mul_left (Int.le_trans k1 k2) hd
theorem LYis.same {E : Int → Int} {most n f r r' : Int} (h : LYis E most n f r) (h' : LYis E most n f r') : (E f - E r) * (r' - f) = (E f - E r') * (r - f) :=
  Int.le_antisymm (h'.2 r h.1.1 h.1.2) (h.2 r' h'.1.1 h'.1.2)
/-! how the class's object holds them -/
def LvP (σ : Mem) (n : Int) (W M : Int → Int) (k f : Int) : Prop := ∀ k' g : Int, 1 ≤ k' → 0 ≤ g → g + k' ≤ n → (k' < k ∨ (k' = k ∧ f < g)) → σ (51 + k'.toNat) g = (lvG n W M k'.toNat g).1 ∧ σ (65 + k'.toNat) g = (lvG n W M k'.toNat g).2
def SameL (σ u : Mem) : Prop := ∀ a : Nat, (a < 51 ∨ 77 < a) → u a = σ a
def isJ (Y : Yt) (k : Nat) : Prop := k < (LX Y).length ∧ ∀ r, cL LX Y k r = eJ Y 13 r
def isI13 (Y : Yt) (k : Nat) : Prop := k < (LX Y).length ∧ ∀ r, cL LX Y k r = eI Y 13 r
theorem levJ (Y : Yt) {k : Int} (h : 0 ≤ k ∧ k ≤ 12) : isJ Y (51 + k.toNat) := by
  have : k = 0 ∨ k = 1 ∨ k = 2 ∨ k = 3 ∨ k = 4 ∨ k = 5 ∨ k = 6 ∨ k = 7 ∨ k = 8 ∨ k = 9 ∨ k = 10 ∨ k = 11 ∨ k = 12 := by omega
  rcases this with rfl | rfl | rfl | rfl | rfl | rfl | rfl | rfl | rfl | rfl | rfl | rfl | rfl <;> exact ⟨by rw [lenX]; decide, fun _ => rfl⟩
theorem levI (Y : Yt) {k : Int} (h : 0 ≤ k ∧ k ≤ 12) : isI13 Y (65 + k.toNat) := by
  have : k = 0 ∨ k = 1 ∨ k = 2 ∨ k = 3 ∨ k = 4 ∨ k = 5 ∨ k = 6 ∨ k = 7 ∨ k = 8 ∨ k = 9 ∨ k = 10 ∨ k = 11 ∨ k = 12 := by omega
  rcases this with rfl | rfl | rfl | rfl | rfl | rfl | rfl | rfl | rfl | rfl | rfl | rfl | rfl <;> exact ⟨by rw [lenX]; decide, fun _ => rfl⟩
theorem Tb.sameL {σ u : Mem} {n : Int} {X C W M : Int → Int} {q : Int} (h : Tb σ n X C W M q) (hs : SameL σ u) : Tb u n X C W M q := h.eq (hs 38 (by omega)) (hs 39 (by omega)) (hs 40 (by omega)) (hs 41 (by omega)) (hs 42 (by omega))
theorem up_2 {σ : Mem} {a b : Nat} (h : a ≠ b) (i v w v' w' : Int) : up (up (up (up σ a i v) b i w) a i v') b i w' = up (up σ a i v') b i w' := by
  funext x y
  simp only [up_at]
  by_cases p : x = b ∧ y = i
  · simp [p]
  · by_cases q : x = a ∧ y = i
    · simp [q]
    · simp [p, q]
theorem lvP_s {σ : Mem} {n : Int} {W M : Int → Int} {k f : Int} (h : LvP σ n W M k f) (hf : 1 ≤ k ∧ k ≤ 12) : LvP (up (up σ (51 + k.toNat) f (lvG n W M k.toNat f).1) (65 + k.toNat) f (lvG n W M k.toNat f).2) n W M k (f - 1) := fun k' g h1 h2 h3 h4 => by
  simp only [up_at]
  by_cases q : k' = k ∧ g = f
  · obtain ⟨rfl, rfl⟩ := q
    constructor
    · rw [if_neg (by omega), if_pos ⟨rfl, rfl⟩]
    · rw [if_pos ⟨rfl, rfl⟩]
  · have := h k' g h1 h2 h3 (by omega)
    rw [if_neg (by omega), if_neg (by omega), if_neg (by omega), if_neg (by omega)]
    exact this
theorem up_self {σ : Mem} {b : Nat} {i w : Int} (h : σ b i = w) : σ = up σ b i w := by subst h; exact (up_id σ b i).symm
theorem fp_back {E : Int → Int} {most n best k nb r0 rb : Int} (hI : ∀ j : Int, 1 ≤ j → j < k → ∀ r r', LYis E most n best r → LYis E most n j r' → (E best - E r) * (r' - j) ≤ (E j - E r') * (r - best)) (hk : 2 ≤ k ∧ k ≤ most) (hb : 1 ≤ best ∧ best < k) (hr0 : LYis E most n k r0) (hrb : LYis E most n best rb)
    (hc : nb = best ∨ nb = k) (hq : (nb = best ∧ (E best - E rb) * (r0 - k) ≤ (E k - E r0) * (rb - best)) ∨ (nb = k ∧ (E k - E r0) * (rb - best) ≤ (E best - E rb) * (r0 - k))) : ∀ j : Int, 1 ≤ j → j < k + 1 → ∀ r r', LYis E most n nb r → LYis E most n j r' → (E nb - E r) * (r' - j) ≤ (E j - E r') * (r - nb) := by
  intro j j0 j1 r r' h1 h2
  have p0 := hr0.1
  have pb := hrb.1
  have p1 := h1.1
  have p2 := h2.1
  rcases hq with ⟨rfl, q⟩ | ⟨rfl, q⟩
  · by_cases e : j = k
    · subst e
      have s1 := Int.le_of_eq (h1.same hrb)
      have s2 := Int.le_of_eq (hr0.same h2)
      exact fr_trans (b := r - nb) (d := r0 - j) (f := r' - j) (by omega) (by omega) (by omega) (fr_trans (b := r - nb) (d := rb - nb) (f := r0 - j) (by omega) (by omega) (by omega) s1 q) s2
    · exact hI j j0 (by omega) r r' h1 h2
  · by_cases e : j = nb
    · subst e
      exact Int.le_of_eq (h1.same h2)
    · have s1 := Int.le_of_eq (h1.same hr0)
      have s3 := hI j j0 (by omega) rb r' hrb h2
      exact fr_trans (b := r - nb) (d := rb - best) (f := r' - j) (by omega) (by omega) (by omega) (fr_trans (b := r - nb) (d := r0 - nb) (f := rb - best) (by omega) (by omega) (by omega) s1 q) s3
