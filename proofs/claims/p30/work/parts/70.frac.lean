/-! fractions -/
theorem sgn_of {x p y q : Int} (hp : 0 < p) (hq : 0 < q) (e : x * p = y * q) : (0 ≤ x ↔ 0 ≤ y) ∧ (0 < x ↔ 0 < y) := by
  have key : ∀ {x p y q : Int}, 0 < p → 0 < q → x * p = y * q → (0 ≤ x → 0 ≤ y) ∧ (0 < x → 0 < y) := fun {x p y q} hp hq e => by
    constructor
    · intro h
      have h1 := Int.mul_nonneg h (Int.le_of_lt hp)
      rw [e] at h1
      by_cases z : 0 ≤ y
      · exact z
      · have := Int.mul_neg_of_neg_of_pos (show y < 0 by omega) hq
        omega
    · intro h
      have h1 := Int.mul_pos h hp
      rw [e] at h1
      by_cases z : 0 < y
      · exact z
      · have := Int.mul_nonpos_of_nonpos_of_nonneg (show y ≤ 0 by omega) (Int.le_of_lt hq)
        omega
  exact ⟨⟨(key hp hq e).1, (key hq hp e.symm).1⟩, ⟨(key hp hq e).2, (key hq hp e.symm).2⟩⟩
theorem sgn_neg {x p y q : Int} (hp : 0 < p) (hq : 0 < q) (e : x * p = y * q) : (x ≤ 0 ↔ y ≤ 0) ∧ (x < 0 ↔ y < 0) ∧ (x = 0 ↔ y = 0) := by
  obtain ⟨a, b⟩ := sgn_of hp hq e
  refine ⟨⟨fun h => ?_, fun h => ?_⟩, ⟨fun h => ?_, fun h => ?_⟩, ⟨fun h => ?_, fun h => ?_⟩⟩
  · by_cases z : 0 < y
    · have := b.mpr z; omega
    · omega
  · by_cases z : 0 < x
    · have := b.mp z; omega
    · omega
  · by_cases z : 0 ≤ y
    · have := a.mpr z; omega
    · omega
  · by_cases z : 0 ≤ x
    · have := a.mp z; omega
    · omega
  · by_cases z : 0 < y
    · have := b.mpr z; omega
    · have := a.mp (by omega); omega
  · by_cases z : 0 < x
    · have := b.mp z; omega
    · have := a.mpr (by omega); omega
/-- a fraction in lowest terms stands to another as the fractions do -/
theorem low_cross {n d n' d' : Int} (hd : 0 < d) (hd' : 0 < d') : (low n' d' 0 * low n d 1 - low n d 0 * low n' d' 1) * (d * d') = (n' * d - n * d') * (low n d 1 * low n' d' 1) := by
  have h := low_val (n := n) hd
  have h' := low_val (n := n') hd'
  generalize low n d 0 = a at *
  generalize low n d 1 = b at *
  generalize low n' d' 0 = a' at *
  generalize low n' d' 1 = b' at *
  have e : (a' * b - a * b') * (d * d') = (a' * d') * (b * d) - (a * d) * (b' * d') := by grind
  rw [e, h, h']
  grind
theorem low_lt {n d n' d' : Int} (hd : 0 < d) (hd' : 0 < d') : low n d 0 * low n' d' 1 < low n' d' 0 * low n d 1 ↔ n * d' < n' * d := by
  have h := (sgn_of (Int.mul_pos hd hd') (Int.mul_pos (low_pos (n := n) hd) (low_pos (n := n') hd')) (low_cross (n := n) (n' := n') hd hd')).2
  constructor
  · intro q
    have := h.mp (by omega)
    omega
  · intro q
    have := h.mpr (by omega)
    omega
theorem low_neg (n d : Int) : low (-n) d 0 = -low n d 0 ∧ low (-n) d 1 = low n d 1 := by
  have e : gcdI (-n) d = gcdI n d := by unfold gcdI; rw [Int.neg_gcd]
  unfold low
  rw [if_pos rfl, if_pos rfl, if_neg (by omega), if_neg (by omega), e]
  refine ⟨?_, rfl⟩
  exact Int.neg_ediv_of_dvd (gcdI_l n d)
/-- the denominator in lowest terms divides each number that makes the fraction whole -/
theorem low_den {n d k : Int} (hd : 0 < d) (hk : 0 < k) (h : d ∣ n * k) : low n d 1 ≤ k := by
  have hp := gcdI_pos (n := n) hd
  unfold low
  rw [if_neg (by omega)]
  obtain ⟨c, hc⟩ := h
  have hg : Int.gcd (n / gcdI n d) (d / gcdI n d) = 1 := by
    unfold gcdI
    exact Int.gcd_ediv_gcd_ediv_gcd (by have : 0 < Int.gcd n d := Int.gcd_pos_of_ne_zero_right n (by omega); exact this)
  have e1 : d / gcdI n d * gcdI n d = d := Int.ediv_mul_cancel (gcdI_r n d)
  have e2 : n / gcdI n d * gcdI n d = n := Int.ediv_mul_cancel (gcdI_l n d)
  generalize hgg : gcdI n d = g at *
  generalize hD : d / g = D at *
  generalize hN : n / g = N at *
  have e3 : (N * k) * g = (D * c) * g := by
    rw [show N * k * g = (N * g) * k by grind, e2, hc, ← e1]
    grind
  have e4 : N * k = D * c := Int.eq_of_mul_eq_mul_right (by omega) e3
  have dv : D ∣ k := by
    have h1 : D ∣ (Int.gcd D (N * k) : Int) := Int.dvd_coe_gcd (Int.dvd_refl D) ⟨c, e4⟩
    rw [Int.gcd_mul_right_right_of_gcd_eq_one (show Int.gcd D N = 1 by rw [Int.gcd_comm]; exact hg)] at h1
    exact Int.dvd_trans h1 (Int.gcd_dvd_right D k)
  exact Int.le_of_dvd hk dv
