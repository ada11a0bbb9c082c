/-! the reference's groups -/
def Fr (lo hi : Nat) (f1 f2 : Int) (σ u : Mem) : Prop := (∀ a : Nat, a ≠ 0 → (a < lo ∨ hi < a) → u a = σ a) ∧ ∀ j : Int, j ≠ f1 → j ≠ f2 → u 0 j = σ 0 j
theorem Fr.rf {lo hi : Nat} {f1 f2 : Int} {σ : Mem} : Fr lo hi f1 f2 σ σ := ⟨fun _ _ _ => rfl, fun _ _ _ => rfl⟩
theorem Fr.trans {lo hi : Nat} {f1 f2 : Int} {σ τ u : Mem} (h : Fr lo hi f1 f2 σ τ) (h' : Fr lo hi f1 f2 τ u) : Fr lo hi f1 f2 σ u := ⟨fun a h0 h1 => (h'.1 a h0 h1).trans (h.1 a h0 h1), fun j h0 h1 => (h'.2 j h0 h1).trans (h.2 j h0 h1)⟩
theorem Fr.pl {lo hi : Nat} {f1 f2 : Int} {σ τ : Mem} (h : Fr lo hi f1 f2 σ τ) {a : Nat} {i v : Int} (ha : a ≠ 0 ∧ lo ≤ a ∧ a ≤ hi) : Fr lo hi f1 f2 σ (up τ a i v) := ⟨fun b h0 h1 => by rw [up_ne (by omega)]; exact h.1 b h0 h1, fun j h0 h1 => by rw [up_ne (by omega)]; exact h.2 j h0 h1⟩
theorem Fr.fl {lo hi : Nat} {f1 f2 : Int} {σ τ : Mem} (h : Fr lo hi f1 f2 σ τ) {j v : Int} (hj : j = f1 ∨ j = f2) : Fr lo hi f1 f2 σ (up τ 0 j v) := ⟨fun b h0 h1 => by rw [up_ne h0]; exact h.1 b h0 h1, fun i h0 h1 => by rw [up_nj (by omega)]; exact h.2 i h0 h1⟩
theorem Fr.C {lo hi : Nat} {f1 f2 : Int} {σ u : Mem} (h : Fr lo hi f1 f2 σ u) (h1 : 4 < lo ∨ hi < 1) (hf : (f1 ≠ 2 ∧ f1 ≠ 4 ∧ f1 ≠ 6) ∧ f2 ≠ 2 ∧ f2 ≠ 4 ∧ f2 ≠ 6) : SameC σ u :=
  ⟨fun a b c => h.1 a (by omega) (by omega), h.2 2 (by omega) (by omega), h.2 4 (by omega) (by omega), h.2 6 (by omega) (by omega)⟩
noncomputable def gLen (P : List Pt) (x : Int) : Int := (gsU P x.toNat).length
theorem gLen_s {P : List Pt} {x : Int} (h : 0 ≤ x) : (occ P x → gLen P (x + 1) = gLen P x + 1 ∧ ∀ g : Int, 0 ≤ g → (g < gLen P x → at0 (gsU P (x + 1).toNat) g = at0 (gsU P x.toNat) g) ∧ (g = gLen P x → at0 (gsU P (x + 1).toNat) g = x)) ∧ (¬ occ P x → gsU P (x + 1).toNat = gsU P x.toNat) := by
  obtain ⟨a, rfl⟩ : ∃ a : Nat, x = (a : Int) := ⟨x.toNat, by omega⟩
  rw [show ((a : Int) + 1).toNat = a + 1 by omega, show (a : Int).toNat = a by omega]
  refine ⟨fun hc => ?_, (gsU_s P a).2⟩
  unfold gLen
  rw [show ((a : Int) + 1).toNat = a + 1 by omega, show (a : Int).toNat = a by omega, (gsU_s P a).1 hc]
  refine ⟨by simp, fun g h0 => at0_app h0⟩
theorem gLen_mono {P : List Pt} {x : Int} (h : 0 ≤ x) : ∀ k : Int, 0 ≤ k → gLen P x ≤ gLen P (x + k) := iInd (by rw [show x + 0 = x by omega]; exact Int.le_refl _) (fun i hi ih => by
  have e := gLen_s (P := P) (x := x + i) (by omega)
  rw [show x + (i + 1) = x + i + 1 by omega]
  by_cases q : occ P (x + i)
  · have := (e.1 q).1; omega
  · have e2 := e.2 q
    unfold gLen at *
    rw [e2]; exact ih)
theorem gLen_lt {P : List Pt} {x : Int} (h0 : 0 ≤ x) (h1 : x ≤ 40) (hc : occ P x) : gLen P x < ng P := by
  have e := ((gLen_s (P := P) h0).1 hc).1
  have e2 := gLen_mono (P := P) (x := x + 1) (by omega) (40 - x) (by omega)
  rw [show x + 1 + (40 - x) = 41 by omega] at e2
  have e3 : gLen P 41 = ng P := rfl
  omega
theorem w_rg {P : List Pt} (hok : ptsOk P) (hl : P.length ≤ 12) (x : Int) : 0 ≤ fAt P (pw P) x ∧ fAt P (pw P) x ≤ 24 ∧ (occ P x → 0 < fAt P (pw P) x) ∧ (¬ occ P x → fAt P (pw P) x = 0) := by
  have hp : ∀ i : Int, 0 ≤ i → i < P.length → 1 ≤ pw P i ∧ pw P i ≤ 2 := fun i a b => pw_ok hok a b
  have h2 : occ P x → 0 < fAt P (pw P) x := fun hc => by have := fAt_pos (f := pw P) (fun i a b => (hp i a b).1) hc; omega
  have h3 : ¬ occ P x → fAt P (pw P) x = 0 := fun hc => fAt_none hc
  refine ⟨?_, ?_, h2, h3⟩
  · by_cases q : occ P x
    · have := h2 q; omega
    · rw [h3 q]; exact Int.le_refl _
  · have e : fAt P (pw P) x ≤ smI (fun _ => 2) P.length := smI_le (by omega) (fun i a b => by have := hp i a b; split <;> omega)
    rw [smI_const 2 (by omega)] at e
    omega
def GrP (τ : Mem) (P : List Pt) (x : Int) : Prop := τ 0 8 = gLen P x ∧ ∀ g : Int, 0 ≤ g → g < gLen P x → τ 6 g = at0 (gsU P x.toNat) g ∧ τ 7 g = fAt P (pw P) (at0 (gsU P x.toNat) g) ∧ τ 8 g = fAt P (fm P) (at0 (gsU P x.toNat) g)
theorem grP_0 {σ : Mem} {P : List Pt} : GrP (up σ 0 8 0) P 0 := ⟨by rw [up_same]; rfl, fun g h0 h1 => by have e : gLen P 0 = 0 := rfl; omega⟩
theorem grP_hit {τ : Mem} {P : List Pt} {x w m : Int} (h : GrP τ P x) (hx : 0 ≤ x) (hc : occ P x) (hw : w = fAt P (pw P) x ∧ m = fAt P (fm P) x) : GrP (up (up (up (up τ 6 (gLen P x) x) 7 (gLen P x) w) 8 (gLen P x) m) 0 8 (gLen P x + 1)) P (x + 1) := by
  obtain ⟨e1, e2⟩ := (gLen_s (P := P) hx).1 hc
  refine ⟨by rw [up_same, e1], fun g h0 h1 => ?_⟩
  rw [e1] at h1
  obtain ⟨e3, e4⟩ := e2 g h0
  simp only [up_at]
  by_cases q : g = gLen P x
  · rw [e4 q, q, ← hw.1, ← hw.2]
    exact ⟨by simp, by simp, by simp⟩
  · rw [e3 (by omega)]
    have e5 := h.2 g h0 (by omega)
    simp [q]
    exact e5
theorem grP_miss {τ : Mem} {P : List Pt} {x : Int} (h : GrP τ P x) (hx : 0 ≤ x) (hc : ¬ occ P x) : GrP τ P (x + 1) := by
  have e := (gLen_s (P := P) hx).2 hc
  unfold GrP gLen at *
  rw [e]
  exact h
def GrIs (τ : Mem) (P : List Pt) : Prop := τ 0 8 = ng P ∧ ∀ g : Int, 0 ≤ g → g < ng P → τ 6 g = gX P g ∧ τ 7 g = gW P (g + 1) - gW P g ∧ τ 8 g = gM P (g + 1) - gM P g
theorem gW_s (P : List Pt) {g : Int} (h : 0 ≤ g) : gW P (g + 1) - gW P g = fAt P (pw P) (gX P g) := by
  have : gW P (g + 1) = gW P g + fAt P (pw P) (gX P g) := smI_s _ h
  omega
theorem gM_s (P : List Pt) {g : Int} (h : 0 ≤ g) : gM P (g + 1) - gM P g = fAt P (fm P) (gX P g) := by
  have : gM P (g + 1) = gM P g + fAt P (fm P) (gX P g) := smI_s _ h
  omega
theorem grP_e {τ : Mem} {P : List Pt} (h : GrP τ P 41) : GrIs τ P := ⟨h.1, fun g h0 h1 => by
  rw [gW_s P h0, gM_s P h0]
  exact h.2 g h0 h1⟩
theorem GrIs.eq {σ u : Mem} {P : List Pt} (h : GrIs σ P) (h0 : u 0 8 = σ 0 8) (h6 : u 6 = σ 6) (h7 : u 7 = σ 7) (h8 : u 8 = σ 8) : GrIs u P := by
  unfold GrIs
  rw [h0, h6, h7, h8]
  exact h
theorem GrIs.fr {σ u : Mem} {P : List Pt} (h : GrIs σ P) {lo hi : Nat} {f1 f2 : Int} (hF : Fr lo hi f1 f2 σ u) (h1 : 8 < lo ∨ hi < 6) (hf : f1 ≠ 8 ∧ f2 ≠ 8) : GrIs u P :=
  h.eq (hF.2 8 (by omega) (by omega)) (hF.1 6 (by omega) (by omega)) (hF.1 7 (by omega) (by omega)) (hF.1 8 (by omega) (by omega))
theorem occ_g {P : List Pt} (hok : ptsOk P) {x : Int} (h : occ P x) : ∃ g : Int, 0 ≤ g ∧ g < ng P ∧ gX P g = x := by
  obtain ⟨i, h0, h1, h2⟩ := id h
  have e := px_ok hok h0 h1
  exact at0_of_mem ((gsU_mem 41 x).mpr ⟨by omega, by omega, h⟩)
theorem ng_0 {P : List Pt} (hok : ptsOk P) : ng P = 0 ↔ P.length = 0 := by
  constructor
  · intro h
    by_cases q : P.length = 0
    · exact q
    · obtain ⟨g, a, b, -⟩ := occ_g hok (x := px P 0) ⟨0, by omega, by omega, rfl⟩
      omega
  · intro h
    by_cases q : ng P = 0
    · exact q
    · have hn : (0 : Int) ≤ ng P := by unfold ng; omega
      obtain ⟨-, -, i, a, b, -⟩ := gX_occ (P := P) (g := 0) (by omega) (by omega)
      omega
theorem pin_read {σ : Mem} {P : List Pt} {p w : Int} (hd : ∀ i : Int, 0 ≤ i → i < P.length → σ 1 (1 + i) = px P i ∧ σ 1 (13 + i) = pv P i ∧ σ 1 (25 + i) = pw P i) (hp : 0 ≤ p ∧ p < P.length) (hw : 0 ≤ w ∧ w ≤ 2) : σ 1 (1 + 12 * w + p) = pinA P p w := by
  obtain ⟨e1, e2, e3⟩ := hd p hp.1 hp.2
  unfold pinA
  rw [if_neg (by omega)]
  rcases (show w = 0 ∨ w = 1 ∨ w = 2 by omega) with q | q | q <;> subst q
  · exact (congrArg (σ 1) (by omega)).trans e1
  · exact (congrArg (σ 1) (by omega)).trans e2
  · exact (congrArg (σ 1) (by omega)).trans e3
theorem pin_3 {P : List Pt} {p : Int} (hp : 0 ≤ p ∧ p < P.length) : pinA P p 3 = grpA P (px P p) := by
  unfold pinA
  rw [if_neg (by omega)]
  rfl
