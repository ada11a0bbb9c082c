/-! lowest terms -/
def gcdI (a b : Int) : Int := (Int.gcd a b : Int)
def low (n d w : Int) : Int := if w = 0 then n / gcdI n d else d / gcdI n d
theorem gcdI_step {g l : Int} (hg : 0 ≤ g) (hl : 0 < l) : gcdI l (g.tmod l) = gcdI g l := by
  obtain ⟨a, rfl⟩ : ∃ a : Nat, g = (a : Int) := ⟨g.toNat, by omega⟩
  obtain ⟨b, rfl⟩ : ∃ b : Nat, l = (b : Int) := ⟨l.toNat, by omega⟩
  unfold gcdI
  rw [← Int.ofNat_tmod, Int.gcd_natCast_natCast, Int.gcd_natCast_natCast, Nat.gcd_comm a b, Nat.gcd_rec b a, Nat.gcd_comm]
theorem gcdI_0 {g : Int} (hg : 0 ≤ g) : gcdI g 0 = g := by
  unfold gcdI
  simp
  omega
theorem gcdI_abs (n d : Int) : gcdI (if 0 < n then n else -n) d = gcdI n d := by
  unfold gcdI
  split
  · rfl
  · rw [Int.neg_gcd]
theorem gcdI_pos {n d : Int} (hd : 0 < d) : 0 < gcdI n d := by
  unfold gcdI
  have := Int.gcd_pos_of_ne_zero_right n (show d ≠ 0 by omega)
  omega
theorem gcdI_l (n d : Int) : gcdI n d ∣ n := Int.gcd_dvd_left n d
theorem gcdI_r (n d : Int) : gcdI n d ∣ d := Int.gcd_dvd_right n d
theorem gcdI_mul {n d c : Int} (hc : 0 ≤ c) : gcdI (c * n) (c * d) = c * gcdI n d := by
  unfold gcdI
  rw [Int.gcd_mul_left]
  rw [show ((c.natAbs * Int.gcd n d : Nat) : Int) = (c.natAbs : Int) * (Int.gcd n d : Int) by simp, Int.natAbs_of_nonneg hc]
theorem low_mul {n d c w : Int} (hc : 0 < c) (hd : 0 < d) : low (c * n) (c * d) w = low n d w := by
  unfold low
  rw [gcdI_mul (by omega), Int.mul_ediv_mul_of_pos _ _ hc, Int.mul_ediv_mul_of_pos _ _ hc]
/-- equal fractions have the same lowest terms -/
theorem low_eq {n d n' d' : Int} (hd : 0 < d) (hd' : 0 < d') (h : n * d' = n' * d) (w : Int) : low n d w = low n' d' w := by
  rw [← low_mul hd' hd (n := n), ← low_mul hd hd' (n := n'), Int.mul_comm d' n, h, Int.mul_comm d' d, Int.mul_comm n' d]
theorem low_pos {n d : Int} (hd : 0 < d) : 0 < low n d 1 := by
  unfold low
  rw [if_neg (by omega)]
  exact Int.ediv_pos_of_pos_of_dvd hd (Int.le_of_lt (gcdI_pos hd)) (gcdI_r n d)
theorem low_val {n d : Int} (hd : 0 < d) : low n d 0 * d = n * low n d 1 := by
  unfold low
  rw [if_pos rfl, if_neg (by omega)]
  obtain ⟨a, ha⟩ := gcdI_l n d
  obtain ⟨b, hb⟩ := gcdI_r n d
  have hp := gcdI_pos (n := n) hd
  generalize gcdI n d = g at *
  rw [ha, hb, Int.mul_ediv_cancel_left _ (by omega), Int.mul_ediv_cancel_left _ (by omega)]
  grind
theorem low_le {n d : Int} (hd : 0 < d) : low n d 1 ≤ d ∧ -(if 0 < n then n else -n) ≤ low n d 0 ∧ low n d 0 ≤ (if 0 < n then n else -n) := by
  have hp := gcdI_pos (n := n) hd
  unfold low
  rw [if_pos rfl, if_neg (by omega)]
  obtain ⟨a, ha⟩ := gcdI_l n d
  refine ⟨Int.ediv_le_self _ (by omega), ?_⟩
  have e : n / gcdI n d = a := by
    generalize hg : gcdI n d = g at *
    rw [ha, Int.mul_ediv_cancel_left _ (by omega)]
  rw [e]
  generalize gcdI n d = g at *
  rcases Int.le_total 0 a with q | q
  · have : a * 1 ≤ a * g := Int.mul_le_mul_of_nonneg_left (by omega) q
    rw [Int.mul_comm a g, ← ha] at this
    split <;> omega
  · have : (-a) * 1 ≤ (-a) * g := Int.mul_le_mul_of_nonneg_left (by omega) (by omega)
    have e2 : (-a) * g = -n := by rw [ha]; grind
    split <;> omega
/-- how far Euclid's steps come -/
theorem eu_step {g l : Int} (hl : 0 < l) (hg : l ≤ g) : 0 ≤ g.tmod l ∧ g.tmod l < l ∧ 2 * (l * g.tmod l) ≤ g * l := by
  rw [Int.tmod_eq_emod_of_nonneg (by omega)]
  have h1 := Int.emod_nonneg g (show l ≠ 0 by omega)
  have h2 := Int.emod_lt_of_pos g hl
  have h3 := Int.mul_ediv_add_emod g l
  have h4 : 1 ≤ g / l := Int.le_ediv_of_mul_le hl (by omega)
  refine ⟨h1, h2, ?_⟩
  have h5 : l * 1 ≤ l * (g / l) := Int.mul_le_mul_of_nonneg_left h4 (by omega)
  have h6 : 2 * (g % l) ≤ g := by omega
  have h7 : l * (2 * (g % l)) ≤ l * g := Int.mul_le_mul_of_nonneg_left h6 (by omega)
  have e1 : l * (2 * (g % l)) = 2 * (l * (g % l)) := by grind
  rw [e1, Int.mul_comm l g] at h7
  exact h7
def EuI (s g l : Int) : Prop := 0 ≤ g ∧ 0 ≤ l ∧ g ≤ 9223372036854775807 ∧ l ≤ 9223372036854775807 ∧ (0 < s → l ≤ g ∧ g * l * 2 ^ (s - 1).toNat ≤ 85070591730234615847396907784232501249)
theorem eu_s {s g l : Int} (hs : 0 ≤ s) (h : EuI s g l) (hl : l ≠ 0) : EuI (s + 1) l (g.tmod l) := by
  obtain ⟨a, b, c, d, e⟩ := h
  have hl0 : 0 < l := by omega
  have t : 0 ≤ g.tmod l ∧ g.tmod l < l := by
    rw [Int.tmod_eq_emod_of_nonneg a]
    exact ⟨Int.emod_nonneg g hl, Int.emod_lt_of_pos g hl0⟩
  refine ⟨b, t.1, d, by omega, fun _ => ⟨by omega, ?_⟩⟩
  by_cases q : s = 0
  · subst q
    rw [show (0 + 1 - 1 : Int).toNat = 0 by omega]
    have k1 : l * g.tmod l ≤ l * l := Int.mul_le_mul_of_nonneg_left (by omega) b
    have k2 := mul_rg (a := l) (b := l) (A := 9223372036854775807) (B := 9223372036854775807) (by omega) (by omega)
    omega
  · obtain ⟨e1, e2⟩ := e (by omega)
    have k := (eu_step hl0 e1).2.2
    rw [show (s + 1 - 1).toNat = (s - 1).toNat + 1 by omega, Int.pow_succ]
    have p : (0 : Int) ≤ 2 ^ (s - 1).toNat := Int.le_of_lt (Int.pow_pos (by omega))
    have k2 : 2 * (l * g.tmod l) * 2 ^ (s - 1).toNat ≤ g * l * 2 ^ (s - 1).toNat := Int.mul_le_mul_of_nonneg_right k p
    have e3 : l * g.tmod l * (2 ^ (s - 1).toNat * 2) = 2 * (l * g.tmod l) * 2 ^ (s - 1).toNat := by grind
    omega
theorem eu_end {s g l : Int} (h : EuI s g l) (hs : 1000 ≤ s) : l = 0 := by
  obtain ⟨a, b, c, d, e⟩ := h
  obtain ⟨e1, e2⟩ := e (by omega)
  by_cases q : l = 0
  · exact q
  · have k1 : 1 ≤ g * l := by
      have := Int.mul_pos (show 0 < g by omega) (show 0 < l by omega)
      omega
    have p0 := Nat.pow_le_pow_right (n := 2) (by decide) (show 200 ≤ (s - 1).toNat by omega)
    have p : (2 : Int) ^ 200 ≤ 2 ^ (s - 1).toNat := by exact_mod_cast p0
    have p1 : (0 : Int) < 2 ^ 200 := by decide
    have k2 : 1 * (2 : Int) ^ (s - 1).toNat ≤ g * l * 2 ^ (s - 1).toNat := Int.mul_le_mul_of_nonneg_right k1 (Int.le_trans (Int.le_of_lt p1) p)
    have k3 : (85070591730234615847396907784232501249 : Int) < 2 ^ 200 := by decide
    rw [Int.one_mul] at k2
    exact absurd (Int.le_trans p (Int.le_trans k2 e2)) (Int.not_le.mpr k3)
