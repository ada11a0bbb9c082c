set_option maxHeartbeats 4000000 in
set_option maxRecDepth 100000 in
theorem t_X8_fault (l : Launch) (Y : Yt) (σ : Mem) (P : List Pt) (hs : List (List Pt)) (tx : List Int) (ch : List Int) (hI : MInv σ P hs tx ch) : MXi l LM Y yX8_fault wsX8_fault { frames := 4, cells := 0, slots := 0, locals := 93 } [.ref (Y.2.1 (0))] σ (fun z u => (z = faultA tx ∧ MInv u P hs tx (exam tx 12 [] 0).2.1) ∧ (z = -1000004 → RdIs u (exam tx 12 [] 0).2.2 ∧ u 0 23 = (exam tx 12 [] 0).2.2.length)) := by
  obtain ⟨⟨hP, hok⟩, ⟨hW, hHok⟩, ⟨hTx, htok⟩, hC, hC3⟩ := id hI
  obtain ⟨hd0, h12, hd⟩ := hP.d
  have hh6 := hW.2.1
  have hkp := hW.1
  have h90 := htok.1
  have hty := hTx.1
  have hre := hC.1
  have hch := exam_chain (tx := tx) 12 [] 0
  have hT := hTx
  refine g_starti (rty := .int) (fun _ _ _ => rfl) (cc := cX8_fault) (nL := 2) (own := RX8) (by decide) rfl rfl (Nat.le_of_ble_eq_true rfl) ?_
  intro pp ee ss mm bw mt cd AA ZZ ls G hret X hl
  have hl : lv_has ls 2 [(0, .ref (Y.2.1 (0)))] := hl
  have hx := G.1
  have hb := G.2.1
  have hts := G.2.2.2.2.1
  have l_c159 := hts (.constant RX8 159 (-1000004)) (List.mem_of_getElem? (i := 5) rfl)
  have l_f176 := hts (.fieldLink RX8 176 "ShapeFitsModel" "typed" "I") (List.mem_of_getElem? (i := 4) rfl)
  have l_f179 := hts (.fieldLink RX8 179 "ShapeFitsModel" "at" "I") (List.mem_of_getElem? (i := 2) rfl)
  have l_f182 := hts (.fieldLink RX8 182 "ShapeFitsModel" "reasoned" "I") (List.mem_of_getElem? (i := 1) rfl)
  have l_f203 := hts (.fieldLink RX8 203 "ShapeFitsModel" "readPoints" "I") (List.mem_of_getElem? (i := 3) rfl)
  have in_X8 : ∀ w ∈ u_ws RX8 TX8 24, w ∈ wsX8_fault := by decide +kernel
  refine lv_aload_n hx hb dX8_fault_0 rfl (lv_at hl 0 rfl) ?_
  refine lv_iconst (v := iI 0) hx hb dX8_fault_1 rfl ?_
  refine g_puti G X (k := 0) (fs := fM Y) (z := 0) (Nat.le_of_ble_eq_true rfl) (fun _ => rfl) rfl in_X8 tyX8 tyX8_ok nmX8 6 6 (by decide) l_f182 rfl rfl (by decide +kernel) (Nat.le_of_ble_eq_true rfl) (fun _ => rfl) dX8_fault_2 (fun H locs X => ?_)
  refine lv_aload_n hx hb dX8_fault_5 rfl (lv_at hl 0 rfl) ?_
  refine lv_iconst (v := iI 0) hx hb dX8_fault_6 rfl ?_
  refine g_puti G X (k := 0) (fs := fM Y) (z := 0) (Nat.le_of_ble_eq_true rfl) (fun _ => rfl) rfl in_X8 tyX8 tyX8_ok nmX8 22 22 (by decide) l_f179 rfl rfl (by decide +kernel) (Nat.le_of_ble_eq_true rfl) (fun _ => rfl) dX8_fault_7 (fun H locs X => ?_)
  refine lv_aload_n hx hb dX8_fault_10 rfl (lv_at hl 0 rfl) ?_
  refine lv_iconst (v := iI 0) hx hb dX8_fault_11 rfl ?_
  refine g_puti G X (k := 0) (fs := fM Y) (z := 0) (Nat.le_of_ble_eq_true rfl) (fun _ => rfl) rfl in_X8 tyX8 tyX8_ok nmX8 23 23 (by decide) l_f203 rfl rfl (by decide +kernel) (Nat.le_of_ble_eq_true rfl) (fun _ => rfl) dX8_fault_12 (fun H locs X => ?_)
  have hF0 : SameF σ (up (up (up σ 0 6 0) 0 22 0) 0 23 0) := ((SameF.rf.fl (Or.inl rfl)).fl (Or.inr (Or.inl rfl))).fl (Or.inr (Or.inr rfl))
  have lp_15 : ∀ (nn : Nat) (p : Int) (acc : List Pt) (τ : Mem), ∀ hpr : 0 ≤ p ∧ p ≤ tx.length, ∀ hla9 : acc.length ≤ 12, ∀ hp5 : τ 0 22 = p, ∀ h23x : τ 0 23 = acc.length, ∀ h6 : τ 0 6 = 0, ∀ hA : RdIs τ acc, ∀ hF : SameF σ τ, ∀ hE : exam tx 12 [] 0 = exam tx (12 - acc.length) acc p, ∀ hdec : (12 - acc.length) < (nn : Int), ∀ (H : Heap) (locs : List Loc) (ls : Array Slot), wx LM Y τ ss AA H locs → lv_has ls 2 [(0, .ref (Y.2.1 (0)))] → W pp l ee { frames := 4, cells := 0, slots := 0, locals := 93 } ss mm ([.ref (Y.2.1 (0))] : List Value).toArray bw mt cd H locs 0 0 ZZ (F0 mm 15 ls []) := by
    intro nn
    induction nn with
    | zero =>
      intro p acc τ hpr hla9 hp5 h23x h6 hA hF hE hdec
      exact absurd hdec (by omega)
    | succ nn ih_15 =>
      intro p acc τ hpr hla9 hp5 h23x h6 hA hF hE hdec H locs ls X hl
      have hTl := hT.f hF
      have h60 := h6
      refine lv_aload_n hx hb dX8_fault_15 rfl (lv_at hl 0 rfl) ?_
      refine g_get G X (k := 0) (fs := fM Y) (Nat.le_of_ble_eq_true rfl) (fun _ => rfl) rfl in_X8 22 (by decide) l_f179 rfl (v := .int (iI ((τ 0 22)))) rfl dX8_fault_16 ?_
      refine g_topi (z' := p) hp5 ?_
      refine lv_aload_n hx hb dX8_fault_19 rfl (lv_at hl 0 rfl) ?_
      refine g_get G X (k := 0) (fs := fM Y) (Nat.le_of_ble_eq_true rfl) (fun _ => rfl) rfl in_X8 4 (by decide) l_f176 rfl (v := .int (iI ((τ 0 4)))) rfl dX8_fault_20 ?_
      refine g_topi (z' := (tx.length : Int)) hTl.1 ?_
      refine g_icmp_ge (tgt := 57) G dX8_fault_23 (by decide) (by omega) (by omega) (fun h23 => ?_) (fun h23 => ?_)
      ·
        have hE3 : exam tx 12 [] 0 = (-1, [], acc) := by rw [hE]; exact exam_end (by omega)
        refine g_ldc G (z := (-1000004)) l_c159 (by decide +kernel) dX8_fault_57 ?_
        exact hret _ _ _ _ _ _ (⟨⟨by { unfold faultA; rw [hE3]; rfl }, by { rw [hE3]; exact minv_f hI hF ⟨h6, fun i a b => by simp at b; omega⟩ (by simp) }⟩, fun _ => by { rw [hE3]; exact ⟨hA, h23x⟩ }⟩) X dX8_fault_59
      ·
        refine lv_aload_n hx hb dX8_fault_26 rfl (lv_at hl 0 rfl) ?_
        refine g_get G X (k := 0) (fs := fM Y) (Nat.le_of_ble_eq_true rfl) (fun _ => rfl) rfl in_X8 22 (by decide) l_f179 rfl (v := .int (iI ((τ 0 22)))) rfl dX8_fault_27 ?_
        refine g_topi (z' := p) hp5 ?_
        refine lv_istore_n (lv' := [(1, .int (iI (p))), (0, .ref (Y.2.1 (0)))]) hx hb dX8_fault_30 rfl hl (by decide) rfl (fun ls hl => ?_)
        refine lv_aload_n hx hb dX8_fault_31 rfl (lv_at hl 1 rfl) ?_
        refine lv_aload_n hx hb dX8_fault_32 rfl (lv_at hl 1 rfl) ?_
        refine g_get G X (k := 0) (fs := fM Y) (Nat.le_of_ble_eq_true rfl) (fun _ => rfl) rfl in_X8 23 (by decide) l_f203 rfl (v := .int (iI ((τ 0 23)))) rfl dX8_fault_33 ?_
        refine g_topi (z' := (acc.length : Int)) h23x ?_
        refine g_callVi G X (rest := []) (As := [.int (iI ((acc.length : Int)))]) (t_X8_readsPoint l Y (τ) tx ((acc.length : Int)) (p) (acc) hTl htok hp5 (by first | assumption | omega) hA ⟨rfl, by omega⟩) (cwV 1 hts gX8_fault_X8_readsPoint rfl rfl rfl (by decide +kernel) ⟨Nat.le_of_ble_eq_true rfl, Nat.le_of_ble_eq_true rfl⟩) (k := 0) (Nat.le_of_ble_eq_true rfl) rfl rfl rfl rfl hl.1 rfl (Nat.le_of_ble_eq_true rfl) dX8_fault_36 ⟨Nat.le_refl _, Nat.le_refl _⟩ (fun z36 u36 H locs hq36 X => ?_)
        rcases hq36.1 with ⟨d, hd9, hz, hC⟩ | ⟨r, hl9, hr, hz, hA2, h22, h6⟩
        ·
          refine g_topi (z' := 0) hz ?_
          have hE2 : exam tx 12 [] 0 = (p, chn acc.length d.1 d.2, acc) := by { rw [hE]; rcases hd9 with ⟨e1, e2⟩ | ⟨e1, e2⟩; (rw [show 12 - acc.length = 0 by omega, e2]; exact exam_12 (by omega)); (rw [show 12 - acc.length = 12 - (acc.length + 1) + 1 by omega]; exact exam_l (by omega) e2) }
          refine g_if_ne (tgt := 44) G dX8_fault_39 (by decide) (by omega) (fun h39 => ?_) (fun h39 => ?_)
          ·
            exact False.elim (by omega)
          ·
            refine lv_iload_n hx hb dX8_fault_42 rfl (lv_at hl 0 rfl) ?_
            exact hret _ _ _ _ _ _ (⟨⟨by { unfold faultA; rw [hE2]; exact (if_neg (show ¬ p = -1 by omega)).symm }, by { rw [hE2]; exact minv_f hI (hF.trans hq36.2.1) hC (chn_len _ _ _).1 }⟩, fun h => absurd h (by omega)⟩) X dX8_fault_43
        ·
          refine g_topi (z' := 1) hz ?_
          have hF2 := hF.trans hq36.2.1
          have hrr := pR1_ok hpr hr
          have hla : (acc ++ [r.1]).length = acc.length + 1 := by simp
          have hE2 : exam tx 12 [] 0 = exam tx (12 - (acc ++ [r.1]).length) (acc ++ [r.1]) r.2 := by rw [hE, hla, show 12 - acc.length = 12 - (acc.length + 1) + 1 by omega]; exact exam_r (by omega) hr
          refine g_if_ne (tgt := 44) G dX8_fault_39 (by decide) (by omega) (fun h39 => ?_) (fun h39 => ?_)
          ·
            refine lv_aload_n hx hb dX8_fault_44 rfl (lv_at hl 1 rfl) ?_
            refine lv_dup hx hb dX8_fault_45 rfl ?_
            refine g_get G X (k := 0) (fs := fM Y) (Nat.le_of_ble_eq_true rfl) (fun _ => rfl) rfl in_X8 23 (by decide) l_f203 rfl (v := .int (iI ((u36 0 23)))) rfl dX8_fault_46 ?_
            refine g_topi (z' := (acc.length : Int)) (hq36.2.2.trans h23x) ?_
            refine lv_iconst (v := iI 1) hx hb dX8_fault_49 rfl ?_
            refine g_iadd G dX8_fault_50 ?_
            refine g_puti G X (k := 0) (fs := fM Y) (z := ((acc.length : Int) + 1)) (Nat.le_of_ble_eq_true rfl) (fun _ => rfl) rfl in_X8 tyX8 tyX8_ok nmX8 23 23 (by decide) l_f203 rfl rfl (by decide +kernel) (Nat.le_of_ble_eq_true rfl) (fun _ => rfl) dX8_fault_51 (fun H locs X => ?_)
            refine lv_goto (tgt := 15) hx hb dX8_fault_54 (by decide) ?_
            exact ih_15 (r.2) (acc ++ [r.1]) ((up u36 0 23 ((acc.length : Int) + 1))) hrr.2 (by rw [hla]; omega) h22 (by rw [up_same, hla]; omega) ((up_nj (by omega)).trans (h6.trans h60)) (fun i a b => by rw [up_ne (by omega)]; exact hA2 i a b) (hF2.fl (Or.inr (Or.inr rfl))) hE2 (by omega) _ _ _ X (lv_sub hl [1] rfl)
          ·
            exact False.elim (by omega)
  exact lp_15 ((((12 - ([]).length) : Int).toNat + 1)) (0) ([]) ((up (up (up σ 0 6 0) 0 22 0) 0 23 0)) (by omega) (by simp) rfl rfl rfl (fun i a b => by simp at b; omega) hF0 rfl (by omega) _ _ _ X (lv_sub hl [0] rfl)

set_option maxHeartbeats 4000000 in
set_option maxRecDepth 100000 in
theorem t_X8_lay (l : Launch) (Y : Yt) (σ : Mem) (P : List Pt) (hs : List (List Pt)) (tx : List Int) (ch : List Int) (hI : MInv σ P hs tx ch) : MXi l LM Y yX8_lay wsX8_lay { frames := 5, cells := 0, slots := 0, locals := 114 } [.ref (Y.2.1 (0))] σ (fun z u => z = (stLay P hs tx).1 ∧ MInv u (stLay P hs tx).2.1 (stLay P hs tx).2.2 tx (exam tx 12 [] 0).2.1) := by
  obtain ⟨⟨hP, hok⟩, ⟨hW, hHok⟩, ⟨hTx, htok⟩, hC, hC3⟩ := id hI
  obtain ⟨hd0, h12, hd⟩ := hP.d
  have hh6 := hW.2.1
  have hkp := hW.1
  have h90 := htok.1
  have hty := hTx.1
  have hre := hC.1
  have hex := exam_ok (tx := tx) 12 [] 0 (fun q h => by cases h) (by simp) (Int.le_refl 0) (by omega)
  refine g_starti (rty := .int) (fun _ _ _ => rfl) (cc := cX8_lay) (nL := 2) (own := RX8) (by decide) rfl rfl (Nat.le_of_ble_eq_true rfl) ?_
  intro pp ee ss mm bw mt cd AA ZZ ls G hret X hl
  have hl : lv_has ls 2 [(0, .ref (Y.2.1 (0)))] := hl
  have hx := G.1
  have hb := G.2.1
  have hts := G.2.2.2.2.1
  have l_f7 := hts (.fieldLink RX8 7 "ShapeFitsModel" "d" "[I") (List.mem_of_getElem? (i := 3) rfl)
  have l_f23 := hts (.fieldLink RX8 23 "ShapeFitsModel" "read" "[I") (List.mem_of_getElem? (i := 5) rfl)
  have l_c71 := hts (.constant RX8 71 (-1000002)) (List.mem_of_getElem? (i := 2) rfl)
  have l_c159 := hts (.constant RX8 159 (-1000004)) (List.mem_of_getElem? (i := 1) rfl)
  have l_f203 := hts (.fieldLink RX8 203 "ShapeFitsModel" "readPoints" "I") (List.mem_of_getElem? (i := 4) rfl)
  have in_X8 : ∀ w ∈ u_ws RX8 TX8 24, w ∈ wsX8_lay := by decide +kernel
  refine lv_aload_n hx hb dX8_lay_0 rfl (lv_at hl 0 rfl) ?_
  refine g_callVi G X (rest := []) (As := []) (t_X8_fault l Y (σ) P hs tx ch (by first | assumption | omega)) (cwV 0 hts gX8_lay_X8_fault rfl rfl rfl (by decide +kernel) ⟨Nat.le_of_ble_eq_true rfl, Nat.le_of_ble_eq_true rfl⟩) (k := 0) (Nat.le_of_ble_eq_true rfl) rfl rfl rfl rfl hl.1 rfl (Nat.le_of_ble_eq_true rfl) dX8_lay_1 ⟨Nat.le_refl _, Nat.le_refl _⟩ (fun z1 u1 H locs hq1 X => ?_)
  obtain ⟨⟨hz1, hI2⟩, hRd⟩ := id hq1
  have hfr : -1000004 ≤ z1 ∧ z1 ≤ 90 := by rw [hz1]; unfold faultA; split <;> omega
  have hfe : faultA tx = -1000004 ↔ (exam tx 12 [] 0).1 = -1 := by unfold faultA; split <;> omega
  refine g_ldc G (z := (-1000004)) l_c159 (by decide +kernel) dX8_lay_4 ?_
  refine g_icmp_eq (tgt := 12) G dX8_lay_6 (by decide) (by omega) (by omega) (fun h6 => ?_) (fun h6 => ?_)
  ·
    refine lv_aload_n hx hb dX8_lay_12 rfl (lv_at hl 0 rfl) ?_
    refine g_callVv G X (rest := []) (As := []) (t_X8_records l Y (u1) P hs tx ((exam tx 12 [] 0).2.1) hI2) (cwV 0 hts gX8_lay_X8_records rfl rfl rfl (by decide +kernel) ⟨Nat.le_of_ble_eq_true rfl, Nat.le_of_ble_eq_true rfl⟩) (k := 0) (Nat.le_of_ble_eq_true rfl) rfl rfl rfl rfl hl.1 rfl (Nat.le_of_ble_eq_true rfl) dX8_lay_13 ⟨Nat.le_refl _, Nat.le_refl _⟩ (fun u13 H locs hq13 X => ?_)
    have hRd2 := hRd (by omega)
    have h235 : u13 5 = u1 5 := hq13.2.C (by omega) (by omega)
    have h23 : u13 0 23 = (exam tx 12 [] 0).2.2.length := (hq13.2.2 23 (by omega)).trans hRd2.2
    have hRA : RdIs u13 (exam tx 12 [] 0).2.2 := fun i a b => by rw [h235]; exact hRd2.1 i a b
    obtain ⟨acc, hacc⟩ : ∃ acc, acc = (exam tx 12 [] 0).2.2 := ⟨_, rfl⟩
    rw [← hacc] at h23 hRA hex
    refine lv_aload_n hx hb dX8_lay_16 rfl (lv_at hl 0 rfl) ?_
    refine g_get G X (k := 0) (fs := fM Y) (Nat.le_of_ble_eq_true rfl) (fun _ => rfl) rfl in_X8 0 (by decide) l_f7 rfl (v := .ref (Y.2.1 (1))) rfl dX8_lay_17 ?_
    refine lv_iconst (v := iI 0) hx hb dX8_lay_20 rfl ?_
    refine lv_aload_n hx hb dX8_lay_21 rfl (lv_at hl 0 rfl) ?_
    refine g_get G X (k := 0) (fs := fM Y) (Nat.le_of_ble_eq_true rfl) (fun _ => rfl) rfl in_X8 23 (by decide) l_f203 rfl (v := .int (iI ((u13 0 23)))) rfl dX8_lay_22 ?_
    refine g_topi (z' := (acc.length : Int)) h23 ?_
    refine g_iast G X (k := 1) (n := 37) (Nat.le_of_ble_eq_true rfl) (fun _ => rfl) (by decide) (z := 0) (v := (acc.length : Int)) (by omega) dX8_lay_25 (fun H locs X => ?_)
    refine lv_iconst (v := iI 0) hx hb dX8_lay_26 rfl ?_
    refine lv_istore_n (lv' := [(1, .int (iI (0))), (0, .ref (Y.2.1 (0)))]) hx hb dX8_lay_27 rfl hl (by decide) rfl (fun ls hl => ?_)
    have lp_28 : ∀ (nn : Nat) (k : Int) (τ : Mem), ∀ hk : 0 ≤ k ∧ k ≤ 36, ∀ hM : MapO (up u13 1 0 (acc.length : Int)) τ 1 1 (fun i => u13 5 i) k, ∀ hdec : (36 - k) < (nn : Int), ∀ (H : Heap) (locs : List Loc) (ls : Array Slot), wx LM Y τ ss AA H locs → lv_has ls 2 [(0, .ref (Y.2.1 (0))), (1, .int (iI (k)))] → W pp l ee { frames := 5, cells := 0, slots := 0, locals := 114 } ss mm ([.ref (Y.2.1 (0))] : List Value).toArray bw mt cd H locs 0 0 ZZ (F0 mm 28 ls []) := by
      intro nn
      induction nn with
      | zero =>
        intro k τ hk hM hdec
        exact absurd hdec (by omega)
      | succ nn ih_28 =>
        intro k τ hk hM hdec H locs ls X hl
        refine lv_iload_n hx hb dX8_lay_28 rfl (lv_at hl 1 rfl) ?_
        refine lv_bipush (v := iI 36) hx hb dX8_lay_29 (by decide +kernel) ?_
        refine g_icmp_ge (tgt := 54) G dX8_lay_31 (by decide) (by omega) (by omega) (fun h31 => ?_) (fun h31 => ?_)
        ·
          refine lv_aload_n hx hb dX8_lay_54 rfl (lv_at hl 0 rfl) ?_
          refine g_get G X (k := 0) (fs := fM Y) (Nat.le_of_ble_eq_true rfl) (fun _ => rfl) rfl in_X8 0 (by decide) l_f7 rfl (v := .ref (Y.2.1 (1))) rfl dX8_lay_55 ?_
          refine lv_iconst (v := iI 0) hx hb dX8_lay_58 rfl ?_
          refine g_iald G X (k := 1) (n := 37) (Nat.le_of_ble_eq_true rfl) (fun _ => rfl) (by decide) (z := 0) (by omega) dX8_lay_59 ?_
          refine g_topi (z' := (acc.length : Int)) (by rw [hM.2.1 0 (by omega), up_same]) ?_
          exact hret _ _ _ _ _ _ ((by have e : stLay P hs tx = ((acc.length : Int), acc, recd hs P) := (by unfold stLay; rw [hacc]; exact if_neg (by omega)); rw [e]; exact ⟨rfl, minv_change hI2 hq13 (lay_pts hRA hex.2.1 hM (by omega)) (fun b hb => (hM.2.2 b hb).trans (up_ne hb)) hex.1⟩)) X dX8_lay_60
        ·
          refine lv_aload_n hx hb dX8_lay_34 rfl (lv_at hl 0 rfl) ?_
          refine g_get G X (k := 0) (fs := fM Y) (Nat.le_of_ble_eq_true rfl) (fun _ => rfl) rfl in_X8 0 (by decide) l_f7 rfl (v := .ref (Y.2.1 (1))) rfl dX8_lay_35 ?_
          refine lv_iconst (v := iI 1) hx hb dX8_lay_38 rfl ?_
          refine lv_iload_n hx hb dX8_lay_39 rfl (lv_at hl 1 rfl) ?_
          refine g_iadd G dX8_lay_40 ?_
          refine lv_aload_n hx hb dX8_lay_41 rfl (lv_at hl 0 rfl) ?_
          refine g_get G X (k := 0) (fs := fM Y) (Nat.le_of_ble_eq_true rfl) (fun _ => rfl) rfl in_X8 7 (by decide) l_f23 rfl (v := .ref (Y.2.1 (5))) rfl dX8_lay_42 ?_
          refine lv_iload_n hx hb dX8_lay_45 rfl (lv_at hl 1 rfl) ?_
          refine g_iald G X (k := 5) (n := 36) (Nat.le_of_ble_eq_true rfl) (fun _ => rfl) (by decide) (z := k) (by omega) dX8_lay_46 ?_
          refine g_topi (z' := u13 5 k) (by rw [hM.2.2 5 (by omega)]; rfl) ?_
          refine g_iast G X (k := 1) (n := 37) (Nat.le_of_ble_eq_true rfl) (fun _ => rfl) (by decide) (z := (1 + k)) (v := (u13 5 k)) (by omega) dX8_lay_47 (fun H locs X => ?_)
          refine lv_iinc (v := iI (k + 1)) (lv' := [(1, .int (iI ((k + 1)))), (0, .ref (Y.2.1 (0)))]) hx hb dX8_lay_48 hl (k := 1) rfl (iI_add _ _) (by decide) rfl (fun ls hl => ?_)
          refine lv_goto (tgt := 28) hx hb dX8_lay_51 (by decide) ?_
          exact ih_28 ((k + 1)) ((up τ 1 (1 + k) (u13 5 k))) (by omega) (mapO_s hM hk.1 rfl rfl) (by omega) _ _ _ X (lv_sub hl [1, 0] rfl)
    exact lp_28 ((((36 - (0)) : Int).toNat + 1)) (0) ((up u13 1 0 (acc.length : Int))) (by omega) mapO_0 (by omega) _ _ _ X (lv_sub hl [1, 0] rfl)
  ·
    refine g_ldc G (z := (-1000002)) l_c71 (by decide +kernel) dX8_lay_9 ?_
    exact hret _ _ _ _ _ _ ((by have e : stLay P hs tx = (-1000002, P, hs) := (by unfold stLay; exact if_pos (by omega)); rw [e]; exact ⟨rfl, hI2⟩)) X dX8_lay_11

set_option maxHeartbeats 4000000 in
set_option maxRecDepth 100000 in
theorem t_X8_type (l : Launch) (Y : Yt) (σ : Mem) (P : List Pt) (hs : List (List Pt)) (tx : List Int) (ch : List Int) (c : Int) (hI : MInv σ P hs tx ch) (h_c : -2147483648 ≤ c ∧ c ≤ 2147483647) : MXi l LM Y yX8_type wsX8_type { frames := 1, cells := 0, slots := 0, locals := 22 } [.ref (Y.2.1 (0)), .int (iI (c))] σ (fun z u => z = (stType tx c).1 ∧ MInv u P hs (stType tx c).2 ch) := by
  obtain ⟨⟨hP, hok⟩, ⟨hW, hHok⟩, ⟨hTx, htok⟩, hC, hC3⟩ := id hI
  obtain ⟨hd0, h12, hd⟩ := hP.d
  have hh6 := hW.2.1
  have hkp := hW.1
  have h90 := htok.1
  have hty := hTx.1
  have hre := hC.1
  refine g_starti (rty := .int) (fun _ _ _ => rfl) (cc := cX8_type) (nL := 2) (own := RX8) (by decide) rfl rfl (Nat.le_of_ble_eq_true rfl) ?_
  intro pp ee ss mm bw mt cd AA ZZ ls G hret X hl
  have hl : lv_has ls 2 [(0, .ref (Y.2.1 (0))), (1, .int (iI (c)))] := hl
  have hx := G.1
  have hb := G.2.1
  have hts := G.2.2.2.2.1
  have l_f16 := hts (.fieldLink RX8 16 "ShapeFitsModel" "text" "[C") (List.mem_of_getElem? (i := 4) rfl)
  have l_c62 := hts (.constant RX8 62 (-1000001)) (List.mem_of_getElem? (i := 1) rfl)
  have l_c63 := hts (.constant RX8 63 (-1000003)) (List.mem_of_getElem? (i := 3) rfl)
  have l_f176 := hts (.fieldLink RX8 176 "ShapeFitsModel" "typed" "I") (List.mem_of_getElem? (i := 2) rfl)
  have in_X8 : ∀ w ∈ u_ws RX8 TX8 24, w ∈ wsX8_type := by decide +kernel
  refine lv_iload_n hx hb dX8_type_0 rfl (lv_at hl 1 rfl) ?_
  refine lv_bipush (v := iI 32) hx hb dX8_type_1 (by decide +kernel) ?_
  refine lv_bipush (v := iI 126) hx hb dX8_type_3 (by decide +kernel) ?_
  refine g_callSi G X (rest := []) (As := [.int (iI (c)), .int (iI (32)), .int (iI (126))]) (t_X8_in l Y (σ) (c) (32) (126) (by first | assumption | omega) (by first | assumption | omega) (by first | assumption | omega)) (va_cwS 3 hts gX8_type_X8_in rfl rfl rfl (by decide +kernel) ⟨Nat.le_of_ble_eq_true rfl, Nat.le_of_ble_eq_true rfl⟩) rfl hl.1 rfl (Nat.le_of_ble_eq_true rfl) dX8_type_5 ⟨Nat.le_refl _, Nat.le_refl _⟩ (fun z5 u5 H locs hq5 X => ?_)
  rw [hq5.1] at X
  have hq5 := hq5.2
  try dsimp only at hq5
  refine g_if_ne (tgt := 14) G dX8_type_8 (by decide) (by omega) (fun h8 => ?_) (fun h8 => ?_)
  ·
    refine lv_aload_n hx hb dX8_type_14 rfl (lv_at hl 0 rfl) ?_
    refine g_get G X (k := 0) (fs := fM Y) (Nat.le_of_ble_eq_true rfl) (fun _ => rfl) rfl in_X8 4 (by decide) l_f176 rfl (v := .int (iI ((σ 0 4)))) rfl dX8_type_15 ?_
    refine g_topi (z' := (tx.length : Int)) hty ?_
    refine lv_bipush (v := iI 90) hx hb dX8_type_18 (by decide +kernel) ?_
    refine g_icmp_ne (tgt := 26) G dX8_type_20 (by decide) (by omega) (by omega) (fun h20 => ?_) (fun h20 => ?_)
    ·
      refine lv_aload_n hx hb dX8_type_26 rfl (lv_at hl 0 rfl) ?_
      refine g_get G X (k := 0) (fs := fM Y) (Nat.le_of_ble_eq_true rfl) (fun _ => rfl) rfl in_X8 3 (by decide) l_f16 rfl (v := .ref (Y.2.1 (3))) rfl dX8_type_27 ?_
      refine lv_aload_n hx hb dX8_type_30 rfl (lv_at hl 0 rfl) ?_
      refine g_get G X (k := 0) (fs := fM Y) (Nat.le_of_ble_eq_true rfl) (fun _ => rfl) rfl in_X8 4 (by decide) l_f176 rfl (v := .int (iI ((σ 0 4)))) rfl dX8_type_31 ?_
      refine g_topi (z' := (tx.length : Int)) hty ?_
      refine lv_iload_n hx hb dX8_type_34 rfl (lv_at hl 1 rfl) ?_
      refine g_i2c G (by omega) dX8_type_35 ?_
      refine g_cast G X (k := 3) (n := 90) (Nat.le_of_ble_eq_true rfl) (fun _ => rfl) (by decide) (z := (tx.length : Int)) (v := c) (by omega) (by omega) dX8_type_36 (fun H locs X => ?_)
      refine lv_aload_n hx hb dX8_type_37 rfl (lv_at hl 0 rfl) ?_
      refine lv_dup hx hb dX8_type_38 rfl ?_
      refine g_get G X (k := 0) (fs := fM Y) (Nat.le_of_ble_eq_true rfl) (fun _ => rfl) rfl in_X8 4 (by decide) l_f176 rfl (v := .int (iI ((σ 0 4)))) rfl dX8_type_39 ?_
      refine g_topi (z' := (tx.length : Int)) hty ?_
      refine lv_iconst (v := iI 1) hx hb dX8_type_42 rfl ?_
      refine g_iadd G dX8_type_43 ?_
      refine g_puti G X (k := 0) (fs := fM Y) (z := ((tx.length : Int) + 1)) (Nat.le_of_ble_eq_true rfl) (fun _ => rfl) rfl in_X8 tyX8 tyX8_ok nmX8 4 4 (by decide) l_f176 rfl rfl (by decide +kernel) (Nat.le_of_ble_eq_true rfl) (fun _ => rfl) dX8_type_44 (fun H locs X => ?_)
      refine lv_aload_n hx hb dX8_type_47 rfl (lv_at hl 0 rfl) ?_
      refine g_get G X (k := 0) (fs := fM Y) (Nat.le_of_ble_eq_true rfl) (fun _ => rfl) rfl in_X8 4 (by decide) l_f176 rfl (v := .int (iI (((tx.length : Int) + 1)))) rfl dX8_type_48 ?_
      exact hret _ _ _ _ _ _ ((by have e : stType tx c = ((tx.length : Int) + 1, tx ++ [c]) := (by unfold stType; exact (if_neg (by omega)).trans (if_neg (by omega))); rw [e]; exact ⟨rfl, minv_text hI ⟨mtext_app hTx, txOk_app htok (by omega) (by omega)⟩ ⟨fun a h0 h1 => (up_ne h0).trans (up_ne h1), fun j hj => up_nj hj⟩⟩)) X dX8_type_51
    ·
      refine g_ldc G (z := (-1000003)) l_c63 (by decide +kernel) dX8_type_23 ?_
      exact hret _ _ _ _ _ _ ((by have e : stType tx c = (-1000003, tx) := (by unfold stType; exact (if_neg (by omega)).trans (if_pos (by omega))); rw [e]; exact ⟨rfl, hI⟩)) X dX8_type_25
  ·
    refine g_ldc G (z := (-1000001)) l_c62 (by decide +kernel) dX8_type_11 ?_
    exact hret _ _ _ _ _ _ ((by have e : stType tx c = (-1000001, tx) := (by unfold stType; exact if_pos (by omega)); rw [e]; exact ⟨rfl, hI⟩)) X dX8_type_13

set_option maxHeartbeats 4000000 in
set_option maxRecDepth 100000 in
theorem t_X8_clearText (l : Launch) (Y : Yt) (σ : Mem) (P : List Pt) (hs : List (List Pt)) (tx : List Int) (ch : List Int) (hI : MInv σ P hs tx ch) : MXi l LM Y yX8_clearText wsX8_clearText { frames := 0, cells := 0, slots := 0, locals := 0 } [.ref (Y.2.1 (0))] σ (fun z u => z = tx.length ∧ MInv u P hs [] ch) := by
  obtain ⟨⟨hP, hok⟩, ⟨hW, hHok⟩, ⟨hTx, htok⟩, hC, hC3⟩ := id hI
  obtain ⟨hd0, h12, hd⟩ := hP.d
  have hh6 := hW.2.1
  have hkp := hW.1
  have h90 := htok.1
  have hty := hTx.1
  have hre := hC.1
  refine g_starti (rty := .int) (fun _ _ _ => rfl) (cc := cX8_clearText) (nL := 2) (own := RX8) (by decide) rfl rfl (Nat.le_of_ble_eq_true rfl) ?_
  intro pp ee ss mm bw mt cd AA ZZ ls G hret X hl
  have hl : lv_has ls 2 [(0, .ref (Y.2.1 (0)))] := hl
  have hx := G.1
  have hb := G.2.1
  have hts := G.2.2.2.2.1
  have l_f176 := hts (.fieldLink RX8 176 "ShapeFitsModel" "typed" "I") (List.mem_of_getElem? (i := 1) rfl)
  have in_X8 : ∀ w ∈ u_ws RX8 TX8 24, w ∈ wsX8_clearText := by decide +kernel
  refine lv_aload_n hx hb dX8_clearText_0 rfl (lv_at hl 0 rfl) ?_
  refine g_get G X (k := 0) (fs := fM Y) (Nat.le_of_ble_eq_true rfl) (fun _ => rfl) rfl in_X8 4 (by decide) l_f176 rfl (v := .int (iI ((σ 0 4)))) rfl dX8_clearText_1 ?_
  refine g_topi (z' := (tx.length : Int)) hty ?_
  refine lv_istore_n (lv' := [(1, .int (iI ((tx.length : Int)))), (0, .ref (Y.2.1 (0)))]) hx hb dX8_clearText_4 rfl hl (by decide) rfl (fun ls hl => ?_)
  refine lv_aload_n hx hb dX8_clearText_5 rfl (lv_at hl 1 rfl) ?_
  refine lv_iconst (v := iI 0) hx hb dX8_clearText_6 rfl ?_
  refine g_puti G X (k := 0) (fs := fM Y) (z := 0) (Nat.le_of_ble_eq_true rfl) (fun _ => rfl) rfl in_X8 tyX8 tyX8_ok nmX8 4 4 (by decide) l_f176 rfl rfl (by decide +kernel) (Nat.le_of_ble_eq_true rfl) (fun _ => rfl) dX8_clearText_7 (fun H locs X => ?_)
  refine lv_iload_n hx hb dX8_clearText_10 rfl (lv_at hl 0 rfl) ?_
  exact hret _ _ _ _ _ _ (⟨rfl, minv_text hI ⟨⟨up_same _ _ _ _, fun i a b => by simp at b; omega⟩, by simp, fun q h => by cases h⟩ ⟨fun a h0 h1 => up_ne h0, fun j hj => up_nj hj⟩⟩) X dX8_clearText_11

set_option maxHeartbeats 4000000 in
set_option maxRecDepth 100000 in
theorem t_X8_reason (l : Launch) (Y : Yt) (σ : Mem) (P : List Pt) (hs : List (List Pt)) (tx : List Int) (ch : List Int) (i : Int) (hI : MInv σ P hs tx ch) (h_i : -2147483648 ≤ i ∧ i ≤ 2147483647) : MXi l LM Y yX8_reason wsX8_reason { frames := 0, cells := 0, slots := 0, locals := 0 } [.ref (Y.2.1 (0)), .int (iI (i))] σ (fun z u => u = σ ∧ (z = reasonA ch i)) := by
  obtain ⟨⟨hP, hok⟩, ⟨hW, hHok⟩, ⟨hTx, htok⟩, hC, hC3⟩ := id hI
  obtain ⟨hd0, h12, hd⟩ := hP.d
  have hh6 := hW.2.1
  have hkp := hW.1
  have h90 := htok.1
  have hty := hTx.1
  have hre := hC.1
  refine g_starti (rty := .int) (fun _ _ _ => rfl) (cc := cX8_reason) (nL := 2) (own := RX8) (by decide) rfl rfl (Nat.le_of_ble_eq_true rfl) ?_
  intro pp ee ss mm bw mt cd AA ZZ ls G hret X hl
  have hl : lv_has ls 2 [(0, .ref (Y.2.1 (0))), (1, .int (iI (i)))] := hl
  have hx := G.1
  have hb := G.2.1
  have hts := G.2.2.2.2.1
  have l_f20 := hts (.fieldLink RX8 20 "ShapeFitsModel" "reasons" "[I") (List.mem_of_getElem? (i := 3) rfl)
  have l_c62 := hts (.constant RX8 62 (-1000001)) (List.mem_of_getElem? (i := 1) rfl)
  have l_c159 := hts (.constant RX8 159 (-1000004)) (List.mem_of_getElem? (i := 4) rfl)
  have l_f182 := hts (.fieldLink RX8 182 "ShapeFitsModel" "reasoned" "I") (List.mem_of_getElem? (i := 2) rfl)
  have in_X8 : ∀ w ∈ u_ws RX8 TX8 24, w ∈ wsX8_reason := by decide +kernel
  refine lv_iload_n hx hb dX8_reason_0 rfl (lv_at hl 1 rfl) ?_
  refine g_if_ge (tgt := 9) G dX8_reason_1 (by decide) (by omega) (fun h1 => ?_) (fun h1 => ?_)
  ·
    refine lv_iload_n hx hb dX8_reason_9 rfl (lv_at hl 1 rfl) ?_
    refine lv_aload_n hx hb dX8_reason_10 rfl (lv_at hl 0 rfl) ?_
    refine g_get G X (k := 0) (fs := fM Y) (Nat.le_of_ble_eq_true rfl) (fun _ => rfl) rfl in_X8 6 (by decide) l_f182 rfl (v := .int (iI ((σ 0 6)))) rfl dX8_reason_11 ?_
    refine g_topi (z' := (ch.length : Int)) hre ?_
    refine g_icmp_ge (tgt := 26) G dX8_reason_14 (by decide) (by omega) (by omega) (fun h14 => ?_) (fun h14 => ?_)
    ·
      refine g_ldc G (z := (-1000004)) l_c159 (by decide +kernel) dX8_reason_26 ?_
      refine g_topi (z' := reasonA ch i) (by unfold reasonA; exact ((if_neg (by omega)).trans (if_neg (by omega))).symm) ?_
      exact hret _ _ _ _ _ _ (⟨rfl, rfl⟩) X dX8_reason_28
    ·
      refine lv_aload_n hx hb dX8_reason_17 rfl (lv_at hl 0 rfl) ?_
      refine g_get G X (k := 0) (fs := fM Y) (Nat.le_of_ble_eq_true rfl) (fun _ => rfl) rfl in_X8 5 (by decide) l_f20 rfl (v := .ref (Y.2.1 (4))) rfl dX8_reason_18 ?_
      refine lv_iload_n hx hb dX8_reason_21 rfl (lv_at hl 1 rfl) ?_
      refine g_iald G X (k := 4) (n := 3) (Nat.le_of_ble_eq_true rfl) (fun _ => rfl) (by decide) (z := i) (by omega) dX8_reason_22 ?_
      refine g_topi (z' := at0 ch i) (hC.2 i (by omega) (by omega)) ?_
      refine g_topi (z' := reasonA ch i) (by unfold reasonA; exact ((if_neg (by omega)).trans (if_pos (by omega))).symm) ?_
      refine lv_goto (tgt := 28) hx hb dX8_reason_23 (by decide) ?_
      exact hret _ _ _ _ _ _ (⟨rfl, rfl⟩) X dX8_reason_28
  ·
    refine g_ldc G (z := (-1000001)) l_c62 (by decide +kernel) dX8_reason_4 ?_
    refine g_topi (z' := reasonA ch i) (by unfold reasonA; exact (if_pos (by omega)).symm) ?_
    refine lv_goto (tgt := 28) hx hb dX8_reason_6 (by decide) ?_
    exact hret _ _ _ _ _ _ (⟨rfl, rfl⟩) X dX8_reason_28

