set_option maxHeartbeats 4000000 in
set_option maxRecDepth 100000 in
theorem t_X6_size (l : Launch) (Y : Yt) (σ : Mem) (tx : List Int) (hT : TextIs σ tx) (hok : txOk tx) : MXi l LX Y yX6_size wsX6_size { frames := 0, cells := 0, slots := 0, locals := 0 } [.ref (Y.2.1 (5))] σ (fun z u => u = σ ∧ (z = tx.length)) := by
  have hT1 := hT.1
  have hT2 := hT.2
  have hok1 := hok.1
  refine g_starti (rty := .int) (fun _ _ _ => rfl) (cc := cX6_size) (nL := 1) (own := RX6) (by decide) rfl rfl (Nat.le_of_ble_eq_true rfl) ?_
  intro pp ee ss mm bw mt cd AA ZZ ls G hret X hl
  have hl : lv_has ls 1 [(0, .ref (Y.2.1 (5)))] := hl
  have hx := G.1
  have hb := G.2.1
  have hts := G.2.2.2.2.1
  have l_f26 := hts (.fieldLink RX6 26 "ShapeFits$PointText" "length" "I") (List.mem_of_getElem? (i := 1) rfl)
  have in_X6 : ∀ w ∈ u_ws RX6 TX6 6, w ∈ wsX6_size := by decide +kernel
  refine lv_aload_n hx hb dX6_size_0 rfl (lv_at hl 0 rfl) ?_
  refine g_get G X (k := 5) (fs := fText Y) (Nat.le_of_ble_eq_true rfl) (fun _ => rfl) rfl in_X6 3 (by decide) l_f26 rfl (v := .int (iI ((σ 5 3)))) rfl dX6_size_1 ?_
  exact hret _ _ _ _ _ _ (⟨rfl, by omega⟩) X dX6_size_4

set_option maxHeartbeats 4000000 in
set_option maxRecDepth 100000 in
theorem t_X6_append (l : Launch) (Y : Yt) (σ : Mem) (tx : List Int) (c : Int) (hT : TextIs σ tx) (hok : txOk tx) (hl0 : tx.length < 90) (hc0 : 0 ≤ c ∧ c < 65536) : MXv l LX Y yX6_append wsX6_append { frames := 0, cells := 0, slots := 0, locals := 0 } [.ref (Y.2.1 (5)), .int (iI (c))] σ (fun u => TextIs u (tx ++ [c]) ∧ SameX σ u ∧ u 5 5 = σ 5 5 ∧ u 11 = σ 11) := by
  have hT1 := hT.1
  have hT2 := hT.2
  have hok1 := hok.1
  refine g_startv (cc := cX6_append) (nL := 2) (own := RX6) (by decide) rfl rfl (Nat.le_of_ble_eq_true rfl) ?_
  intro pp ee ss mm bw mt cd AA ZZ ls G hret X hl
  have hl : lv_has ls 2 [(0, .ref (Y.2.1 (5))), (1, .int (iI (c)))] := hl
  have hx := G.1
  have hb := G.2.1
  have hts := G.2.2.2.2.1
  have l_f9 := hts (.fieldLink RX6 9 "ShapeFits$PointText" "signs" "[C") (List.mem_of_getElem? (i := 2) rfl)
  have l_f26 := hts (.fieldLink RX6 26 "ShapeFits$PointText" "length" "I") (List.mem_of_getElem? (i := 1) rfl)
  have in_X6 : ∀ w ∈ u_ws RX6 TX6 6, w ∈ wsX6_append := by decide +kernel
  refine lv_aload_n hx hb dX6_append_0 rfl (lv_at hl 0 rfl) ?_
  refine g_get G X (k := 5) (fs := fText Y) (Nat.le_of_ble_eq_true rfl) (fun _ => rfl) rfl in_X6 3 (by decide) l_f26 rfl (v := .int (iI ((σ 5 3)))) rfl dX6_append_1 ?_
  refine lv_bipush (v := iI 90) hx hb dX6_append_4 (by decide +kernel) ?_
  refine g_icmp_ge (tgt := 29) G dX6_append_6 (by decide) (by omega) (by omega) (fun h6 => ?_) (fun h6 => ?_)
  ·
    exact absurd hl0 (by omega)
  ·
    refine lv_aload_n hx hb dX6_append_9 rfl (lv_at hl 0 rfl) ?_
    refine g_get G X (k := 5) (fs := fText Y) (Nat.le_of_ble_eq_true rfl) (fun _ => rfl) rfl in_X6 0 (by decide) l_f9 rfl (v := .ref (Y.2.1 (6))) rfl dX6_append_10 ?_
    refine lv_aload_n hx hb dX6_append_13 rfl (lv_at hl 0 rfl) ?_
    refine g_get G X (k := 5) (fs := fText Y) (Nat.le_of_ble_eq_true rfl) (fun _ => rfl) rfl in_X6 3 (by decide) l_f26 rfl (v := .int (iI ((σ 5 3)))) rfl dX6_append_14 ?_
    refine lv_iload_n hx hb dX6_append_17 rfl (lv_at hl 1 rfl) ?_
    refine g_cast G X (k := 6) (n := 90) (Nat.le_of_ble_eq_true rfl) (fun _ => rfl) (by decide) (z := (σ 5 3)) (v := c) (by omega) (by omega) dX6_append_18 (fun H locs X => ?_)
    refine lv_aload_n hx hb dX6_append_19 rfl (lv_at hl 0 rfl) ?_
    refine lv_dup hx hb dX6_append_20 rfl ?_
    refine g_get G X (k := 5) (fs := fText Y) (Nat.le_of_ble_eq_true rfl) (fun _ => rfl) rfl in_X6 3 (by decide) l_f26 rfl (v := .int (iI ((σ 5 3)))) rfl dX6_append_21 ?_
    refine lv_iconst (v := iI 1) hx hb dX6_append_24 rfl ?_
    refine g_iadd G dX6_append_25 ?_
    refine g_puti G X (k := 5) (fs := fText Y) (z := ((σ 5 3) + 1)) (Nat.le_of_ble_eq_true rfl) (fun _ => rfl) rfl in_X6 tyX6 tyX6_ok nmX6 3 3 (by decide) l_f26 rfl rfl (by decide +kernel) (Nat.le_of_ble_eq_true rfl) (fun _ => rfl) dX6_append_26 (fun H locs X => ?_)
    exact hret _ _ _ _ _ (⟨text_app hT, fun a ha => by rw [up_ne (by omega), up_ne (by omega)], rfl, rfl⟩) X dX6_append_29

set_option maxHeartbeats 4000000 in
set_option maxRecDepth 100000 in
theorem t_X6_empty (l : Launch) (Y : Yt) (σ : Mem) (tx : List Int) (hT : TextIs σ tx) (hok : txOk tx) : MXv l LX Y yX6_empty wsX6_empty { frames := 0, cells := 0, slots := 0, locals := 0 } [.ref (Y.2.1 (5))] σ (fun u => TextIs u [] ∧ SameX σ u ∧ u 5 5 = σ 5 5 ∧ u 11 = σ 11) := by
  have hT1 := hT.1
  have hT2 := hT.2
  have hok1 := hok.1
  refine g_startv (cc := cX6_empty) (nL := 1) (own := RX6) (by decide) rfl rfl (Nat.le_of_ble_eq_true rfl) ?_
  intro pp ee ss mm bw mt cd AA ZZ ls G hret X hl
  have hl : lv_has ls 1 [(0, .ref (Y.2.1 (5)))] := hl
  have hx := G.1
  have hb := G.2.1
  have hts := G.2.2.2.2.1
  have l_f26 := hts (.fieldLink RX6 26 "ShapeFits$PointText" "length" "I") (List.mem_of_getElem? (i := 1) rfl)
  have in_X6 : ∀ w ∈ u_ws RX6 TX6 6, w ∈ wsX6_empty := by decide +kernel
  refine lv_aload_n hx hb dX6_empty_0 rfl (lv_at hl 0 rfl) ?_
  refine lv_iconst (v := iI 0) hx hb dX6_empty_1 rfl ?_
  refine g_puti G X (k := 5) (fs := fText Y) (z := 0) (Nat.le_of_ble_eq_true rfl) (fun _ => rfl) rfl in_X6 tyX6 tyX6_ok nmX6 3 3 (by decide) l_f26 rfl rfl (by decide +kernel) (Nat.le_of_ble_eq_true rfl) (fun _ => rfl) dX6_empty_2 (fun H locs X => ?_)
  exact hret _ _ _ _ _ (⟨⟨rfl, fun i a b => by simp at b; omega⟩, fun a ha => up_ne (by omega), rfl, rfl⟩) X dX6_empty_5

set_option maxHeartbeats 4000000 in
set_option maxRecDepth 100000 in
theorem t_X6_reasons (l : Launch) (Y : Yt) (σ : Mem) (ch : List Int) (hC : ChainIs σ ch) (hc3 : ch.length ≤ 3) : MXi l LX Y yX6_reasons wsX6_reasons { frames := 0, cells := 0, slots := 0, locals := 0 } [.ref (Y.2.1 (5))] σ (fun z u => u = σ ∧ (z = ch.length)) := by
  have hC1 := hC.1
  refine g_starti (rty := .int) (fun _ _ _ => rfl) (cc := cX6_reasons) (nL := 1) (own := RX6) (by decide) rfl rfl (Nat.le_of_ble_eq_true rfl) ?_
  intro pp ee ss mm bw mt cd AA ZZ ls G hret X hl
  have hl : lv_has ls 1 [(0, .ref (Y.2.1 (5)))] := hl
  have hx := G.1
  have hb := G.2.1
  have hts := G.2.2.2.2.1
  have l_f30 := hts (.fieldLink RX6 30 "ShapeFits$PointText" "chainLength" "I") (List.mem_of_getElem? (i := 1) rfl)
  have in_X6 : ∀ w ∈ u_ws RX6 TX6 6, w ∈ wsX6_reasons := by decide +kernel
  refine lv_aload_n hx hb dX6_reasons_0 rfl (lv_at hl 0 rfl) ?_
  refine g_get G X (k := 5) (fs := fText Y) (Nat.le_of_ble_eq_true rfl) (fun _ => rfl) rfl in_X6 5 (by decide) l_f30 rfl (v := .int (iI ((σ 5 5)))) rfl dX6_reasons_1 ?_
  exact hret _ _ _ _ _ _ (⟨rfl, by omega⟩) X dX6_reasons_4

set_option maxHeartbeats 4000000 in
set_option maxRecDepth 100000 in
theorem t_X6_reasonAt (l : Launch) (Y : Yt) (σ : Mem) (ch : List Int) (x : Int) (hC : ChainIs σ ch) (hc3 : ch.length ≤ 3) (hx0 : -2147483648 ≤ x ∧ x ≤ 2147483647) : MXi l LX Y yX6_reasonAt wsX6_reasonAt { frames := 0, cells := 0, slots := 0, locals := 0 } [.ref (Y.2.1 (5)), .int (iI (x))] σ (fun z u => u = σ ∧ ((0 ≤ x ∧ x < ch.length → z = at0 ch x) ∧ (¬ (0 ≤ x ∧ x < ch.length) → z = -1))) := by
  have hC1 := hC.1
  refine g_starti (rty := .int) (fun _ _ _ => rfl) (cc := cX6_reasonAt) (nL := 2) (own := RX6) (by decide) rfl rfl (Nat.le_of_ble_eq_true rfl) ?_
  intro pp ee ss mm bw mt cd AA ZZ ls G hret X hl
  have hl : lv_has ls 2 [(0, .ref (Y.2.1 (5))), (1, .int (iI (x)))] := hl
  have hx := G.1
  have hb := G.2.1
  have hts := G.2.2.2.2.1
  have l_f22 := hts (.fieldLink RX6 22 "ShapeFits$PointText" "chain" "[I") (List.mem_of_getElem? (i := 2) rfl)
  have l_f30 := hts (.fieldLink RX6 30 "ShapeFits$PointText" "chainLength" "I") (List.mem_of_getElem? (i := 1) rfl)
  have in_X6 : ∀ w ∈ u_ws RX6 TX6 6, w ∈ wsX6_reasonAt := by decide +kernel
  refine lv_iload_n hx hb dX6_reasonAt_0 rfl (lv_at hl 1 rfl) ?_
  refine g_if_lt (tgt := 21) G dX6_reasonAt_1 (by decide) (by omega) (fun h1 => ?_) (fun h1 => ?_)
  ·
    refine lv_iconst (v := iI (-1)) hx hb dX6_reasonAt_21 rfl ?_
    exact hret _ _ _ _ _ _ (⟨rfl, by have hh := hC.2 x; omega⟩) X dX6_reasonAt_22
  ·
    refine lv_iload_n hx hb dX6_reasonAt_4 rfl (lv_at hl 1 rfl) ?_
    refine lv_aload_n hx hb dX6_reasonAt_5 rfl (lv_at hl 0 rfl) ?_
    refine g_get G X (k := 5) (fs := fText Y) (Nat.le_of_ble_eq_true rfl) (fun _ => rfl) rfl in_X6 5 (by decide) l_f30 rfl (v := .int (iI ((σ 5 5)))) rfl dX6_reasonAt_6 ?_
    refine g_icmp_ge (tgt := 21) G dX6_reasonAt_9 (by decide) (by omega) (by omega) (fun h9 => ?_) (fun h9 => ?_)
    ·
      refine lv_iconst (v := iI (-1)) hx hb dX6_reasonAt_21 rfl ?_
      exact hret _ _ _ _ _ _ (⟨rfl, by have hh := hC.2 x; omega⟩) X dX6_reasonAt_22
    ·
      refine lv_aload_n hx hb dX6_reasonAt_12 rfl (lv_at hl 0 rfl) ?_
      refine g_get G X (k := 5) (fs := fText Y) (Nat.le_of_ble_eq_true rfl) (fun _ => rfl) rfl in_X6 2 (by decide) l_f22 rfl (v := .ref (Y.2.1 (11))) rfl dX6_reasonAt_13 ?_
      refine lv_iload_n hx hb dX6_reasonAt_16 rfl (lv_at hl 1 rfl) ?_
      refine g_iald G X (k := 11) (n := 3) (Nat.le_of_ble_eq_true rfl) (fun _ => rfl) (by decide) (z := x) (by omega) dX6_reasonAt_17 ?_
      refine lv_goto (tgt := 22) hx hb dX6_reasonAt_18 (by decide) ?_
      exact hret _ _ _ _ _ _ (⟨rfl, by have hh := hC.2 x; omega⟩) X dX6_reasonAt_22

set_option maxHeartbeats 4000000 in
set_option maxRecDepth 100000 in
theorem t_X6_copyPointsTo (l : Launch) (Y : Yt) (σ : Mem) (P : List Pt) (hR : RowIs σ 7 P) : MXv l LX Y yX6_copyPointsTo wsX6_copyPointsTo { frames := 2, cells := 0, slots := 0, locals := 45 } [.ref (Y.2.1 (5)), .ref (Y.2.1 (1))] σ (fun u => RowIs u 1 P ∧ Same4 σ u 1) := by
  have hr7 : isRow Y 7 := isRow_of Y (by omega)
  have hr1 : isRow Y 1 := isRow_of Y (by omega)
  refine g_startv (cc := cX6_copyPointsTo) (nL := 2) (own := RX6) (by decide) rfl rfl (Nat.le_of_ble_eq_true rfl) ?_
  intro pp ee ss mm bw mt cd AA ZZ ls G hret X hl
  have hl : lv_has ls 2 [(0, .ref (Y.2.1 (5))), (1, .ref (Y.2.1 (1)))] := hl
  have hx := G.1
  have hb := G.2.1
  have hts := G.2.2.2.2.1
  have l_f18 := hts (.fieldLink RX6 18 "ShapeFits$PointText" "found" "LShapeFits$PointRow;") (List.mem_of_getElem? (i := 1) rfl)
  have in_X6 : ∀ w ∈ u_ws RX6 TX6 6, w ∈ wsX6_copyPointsTo := by decide +kernel
  refine lv_aload_n hx hb dX6_copyPointsTo_0 rfl (lv_at hl 0 rfl) ?_
  refine g_get G X (k := 5) (fs := fText Y) (Nat.le_of_ble_eq_true rfl) (fun _ => rfl) rfl in_X6 1 (by decide) l_f18 rfl (v := .ref (Y.2.1 (7))) rfl dX6_copyPointsTo_1 ?_
  refine lv_aload_n hx hb dX6_copyPointsTo_4 rfl (lv_at hl 1 rfl) ?_
  refine g_callVv G X (rest := []) (As := [.ref (Y.2.1 (1))]) (t_X5_copyTo l Y (σ) (7) P (1) (by first | assumption | omega) (by first | assumption | omega) (by first | assumption | omega) (by first | assumption | omega)) (cwV 1 hts gX6_copyPointsTo_X5_copyTo rfl rfl rfl (by decide +kernel) ⟨Nat.le_of_ble_eq_true rfl, Nat.le_of_ble_eq_true rfl⟩) (k := 7) (Nat.le_of_ble_eq_true rfl) rfl rfl rfl rfl hl.1 rfl (Nat.le_of_ble_eq_true rfl) dX6_copyPointsTo_5 ⟨Nat.le_refl _, Nat.le_refl _⟩ (fun u5 H locs hq5 X => ?_)
  exact hret _ _ _ _ _ (hq5) X dX6_copyPointsTo_8

set_option maxHeartbeats 4000000 in
set_option maxRecDepth 100000 in
theorem t_X6_digitAhead (l : Launch) (Y : Yt) (σ : Mem) (tx : List Int) (p : Int) (hT : TextIs σ tx) (hok : txOk tx) (hp5 : σ 5 4 = p) (hpr : 0 ≤ p ∧ p ≤ tx.length) : MXi l LX Y yX6_digitAhead wsX6_digitAhead { frames := 0, cells := 0, slots := 0, locals := 0 } [.ref (Y.2.1 (5))] σ (fun z u => u = σ ∧ ((z = 1 ∧ 0 ≤ p ∧ p < tx.length ∧ 48 ≤ at0 tx p ∧ at0 tx p ≤ 57) ∨ (z = 0 ∧ ¬ (0 ≤ p ∧ p < tx.length ∧ 48 ≤ at0 tx p ∧ at0 tx p ≤ 57)))) := by
  have hT1 := hT.1
  have hT2 := hT.2
  have hok1 := hok.1
  refine g_starti (rty := .boolean) (fun z u h => nrZ (by have := h.2; omega)) (cc := cX6_digitAhead) (nL := 1) (own := RX6) (by decide) rfl rfl (Nat.le_of_ble_eq_true rfl) ?_
  intro pp ee ss mm bw mt cd AA ZZ ls G hret X hl
  have hl : lv_has ls 1 [(0, .ref (Y.2.1 (5)))] := hl
  have hx := G.1
  have hb := G.2.1
  have hts := G.2.2.2.2.1
  have l_f9 := hts (.fieldLink RX6 9 "ShapeFits$PointText" "signs" "[C") (List.mem_of_getElem? (i := 3) rfl)
  have l_f26 := hts (.fieldLink RX6 26 "ShapeFits$PointText" "length" "I") (List.mem_of_getElem? (i := 2) rfl)
  have l_f40 := hts (.fieldLink RX6 40 "ShapeFits$PointText" "place" "I") (List.mem_of_getElem? (i := 1) rfl)
  have in_X6 : ∀ w ∈ u_ws RX6 TX6 6, w ∈ wsX6_digitAhead := by decide +kernel
  refine lv_aload_n hx hb dX6_digitAhead_0 rfl (lv_at hl 0 rfl) ?_
  refine g_get G X (k := 5) (fs := fText Y) (Nat.le_of_ble_eq_true rfl) (fun _ => rfl) rfl in_X6 4 (by decide) l_f40 rfl (v := .int (iI ((σ 5 4)))) rfl dX6_digitAhead_1 ?_
  refine g_if_lt (tgt := 50) G dX6_digitAhead_4 (by decide) (by omega) (fun h4 => ?_) (fun h4 => ?_)
  ·
    refine lv_iconst (v := iI 0) hx hb dX6_digitAhead_50 rfl ?_
    exact hret _ _ _ _ _ _ (⟨rfl, by omega⟩) X dX6_digitAhead_51
  ·
    refine lv_aload_n hx hb dX6_digitAhead_7 rfl (lv_at hl 0 rfl) ?_
    refine g_get G X (k := 5) (fs := fText Y) (Nat.le_of_ble_eq_true rfl) (fun _ => rfl) rfl in_X6 4 (by decide) l_f40 rfl (v := .int (iI ((σ 5 4)))) rfl dX6_digitAhead_8 ?_
    refine lv_aload_n hx hb dX6_digitAhead_11 rfl (lv_at hl 0 rfl) ?_
    refine g_get G X (k := 5) (fs := fText Y) (Nat.le_of_ble_eq_true rfl) (fun _ => rfl) rfl in_X6 3 (by decide) l_f26 rfl (v := .int (iI ((σ 5 3)))) rfl dX6_digitAhead_12 ?_
    refine g_icmp_ge (tgt := 50) G dX6_digitAhead_15 (by decide) (by omega) (by omega) (fun h15 => ?_) (fun h15 => ?_)
    ·
      refine lv_iconst (v := iI 0) hx hb dX6_digitAhead_50 rfl ?_
      exact hret _ _ _ _ _ _ (⟨rfl, by omega⟩) X dX6_digitAhead_51
    ·
      have ha := tx_at hok (p := p) (by omega) (by omega)
      have hb6 := hT2 p (by omega) (by omega)
      have hb7 : σ 6 (σ 5 4) = at0 tx p := by rw [hp5]; exact hb6
      refine lv_aload_n hx hb dX6_digitAhead_18 rfl (lv_at hl 0 rfl) ?_
      refine g_get G X (k := 5) (fs := fText Y) (Nat.le_of_ble_eq_true rfl) (fun _ => rfl) rfl in_X6 0 (by decide) l_f9 rfl (v := .ref (Y.2.1 (6))) rfl dX6_digitAhead_19 ?_
      refine lv_aload_n hx hb dX6_digitAhead_22 rfl (lv_at hl 0 rfl) ?_
      refine g_get G X (k := 5) (fs := fText Y) (Nat.le_of_ble_eq_true rfl) (fun _ => rfl) rfl in_X6 4 (by decide) l_f40 rfl (v := .int (iI ((σ 5 4)))) rfl dX6_digitAhead_23 ?_
      refine g_cald G X (k := 6) (n := 90) (Nat.le_of_ble_eq_true rfl) (fun _ => rfl) (by decide) (z := (σ 5 4)) (by omega) dX6_digitAhead_26 ?_
      refine lv_bipush (v := iI 48) hx hb dX6_digitAhead_27 (by decide +kernel) ?_
      refine g_icmp_lt (tgt := 50) G dX6_digitAhead_29 (by decide) (by omega) (by omega) (fun h29 => ?_) (fun h29 => ?_)
      ·
        refine lv_iconst (v := iI 0) hx hb dX6_digitAhead_50 rfl ?_
        exact hret _ _ _ _ _ _ (⟨rfl, by omega⟩) X dX6_digitAhead_51
      ·
        refine lv_aload_n hx hb dX6_digitAhead_32 rfl (lv_at hl 0 rfl) ?_
        refine g_get G X (k := 5) (fs := fText Y) (Nat.le_of_ble_eq_true rfl) (fun _ => rfl) rfl in_X6 0 (by decide) l_f9 rfl (v := .ref (Y.2.1 (6))) rfl dX6_digitAhead_33 ?_
        refine lv_aload_n hx hb dX6_digitAhead_36 rfl (lv_at hl 0 rfl) ?_
        refine g_get G X (k := 5) (fs := fText Y) (Nat.le_of_ble_eq_true rfl) (fun _ => rfl) rfl in_X6 4 (by decide) l_f40 rfl (v := .int (iI ((σ 5 4)))) rfl dX6_digitAhead_37 ?_
        refine g_cald G X (k := 6) (n := 90) (Nat.le_of_ble_eq_true rfl) (fun _ => rfl) (by decide) (z := (σ 5 4)) (by omega) dX6_digitAhead_40 ?_
        refine lv_bipush (v := iI 57) hx hb dX6_digitAhead_41 (by decide +kernel) ?_
        refine g_icmp_gt (tgt := 50) G dX6_digitAhead_43 (by decide) (by omega) (by omega) (fun h43 => ?_) (fun h43 => ?_)
        ·
          refine lv_iconst (v := iI 0) hx hb dX6_digitAhead_50 rfl ?_
          exact hret _ _ _ _ _ _ (⟨rfl, by omega⟩) X dX6_digitAhead_51
        ·
          refine lv_iconst (v := iI 1) hx hb dX6_digitAhead_46 rfl ?_
          refine lv_goto (tgt := 51) hx hb dX6_digitAhead_47 (by decide) ?_
          exact hret _ _ _ _ _ _ (⟨rfl, by omega⟩) X dX6_digitAhead_51

set_option maxHeartbeats 4000000 in
set_option maxRecDepth 100000 in
theorem t_X6_passes (l : Launch) (Y : Yt) (σ : Mem) (tx : List Int) (c : Int) (p : Int) (hT : TextIs σ tx) (hok : txOk tx) (hp5 : σ 5 4 = p) (hpr : 0 ≤ p ∧ p ≤ tx.length) (hc0 : 0 ≤ c ∧ c < 65536) : MXi l LX Y yX6_passes wsX6_passes { frames := 0, cells := 0, slots := 0, locals := 0 } [.ref (Y.2.1 (5)), .int (iI (c))] σ (fun z u => (z = 1 ∧ (p < tx.length ∧ at0 tx p = c) ∧ u = up σ 5 4 (p + 1)) ∨ (z = 0 ∧ ¬ (p < tx.length ∧ at0 tx p = c) ∧ u = σ)) := by
  have hT1 := hT.1
  have hT2 := hT.2
  have hok1 := hok.1
  refine g_starti (rty := .boolean) (fun z u h => nrZ (by omega)) (cc := cX6_passes) (nL := 2) (own := RX6) (by decide) rfl rfl (Nat.le_of_ble_eq_true rfl) ?_
  intro pp ee ss mm bw mt cd AA ZZ ls G hret X hl
  have hl : lv_has ls 2 [(0, .ref (Y.2.1 (5))), (1, .int (iI (c)))] := hl
  have hx := G.1
  have hb := G.2.1
  have hts := G.2.2.2.2.1
  have l_f9 := hts (.fieldLink RX6 9 "ShapeFits$PointText" "signs" "[C") (List.mem_of_getElem? (i := 3) rfl)
  have l_f26 := hts (.fieldLink RX6 26 "ShapeFits$PointText" "length" "I") (List.mem_of_getElem? (i := 2) rfl)
  have l_f40 := hts (.fieldLink RX6 40 "ShapeFits$PointText" "place" "I") (List.mem_of_getElem? (i := 1) rfl)
  have in_X6 : ∀ w ∈ u_ws RX6 TX6 6, w ∈ wsX6_passes := by decide +kernel
  refine lv_aload_n hx hb dX6_passes_0 rfl (lv_at hl 0 rfl) ?_
  refine g_get G X (k := 5) (fs := fText Y) (Nat.le_of_ble_eq_true rfl) (fun _ => rfl) rfl in_X6 4 (by decide) l_f40 rfl (v := .int (iI ((σ 5 4)))) rfl dX6_passes_1 ?_
  refine g_if_lt (tgt := 31) G dX6_passes_4 (by decide) (by omega) (fun h4 => ?_) (fun h4 => ?_)
  ·
    refine lv_iconst (v := iI 0) hx hb dX6_passes_31 rfl ?_
    exact hret _ _ _ _ _ _ (Or.inr ⟨rfl, by omega, rfl⟩) X dX6_passes_32
  ·
    refine lv_aload_n hx hb dX6_passes_7 rfl (lv_at hl 0 rfl) ?_
    refine g_get G X (k := 5) (fs := fText Y) (Nat.le_of_ble_eq_true rfl) (fun _ => rfl) rfl in_X6 4 (by decide) l_f40 rfl (v := .int (iI ((σ 5 4)))) rfl dX6_passes_8 ?_
    refine lv_aload_n hx hb dX6_passes_11 rfl (lv_at hl 0 rfl) ?_
    refine g_get G X (k := 5) (fs := fText Y) (Nat.le_of_ble_eq_true rfl) (fun _ => rfl) rfl in_X6 3 (by decide) l_f26 rfl (v := .int (iI ((σ 5 3)))) rfl dX6_passes_12 ?_
    refine g_icmp_ge (tgt := 31) G dX6_passes_15 (by decide) (by omega) (by omega) (fun h15 => ?_) (fun h15 => ?_)
    ·
      refine lv_iconst (v := iI 0) hx hb dX6_passes_31 rfl ?_
      exact hret _ _ _ _ _ _ (Or.inr ⟨rfl, by omega, rfl⟩) X dX6_passes_32
    ·
      have ha := tx_at hok (p := p) (by omega) (by omega)
      have hb6 := hT2 p (by omega) (by omega)
      have hb7 : σ 6 (σ 5 4) = at0 tx p := by rw [hp5]; exact hb6
      refine lv_aload_n hx hb dX6_passes_18 rfl (lv_at hl 0 rfl) ?_
      refine g_get G X (k := 5) (fs := fText Y) (Nat.le_of_ble_eq_true rfl) (fun _ => rfl) rfl in_X6 0 (by decide) l_f9 rfl (v := .ref (Y.2.1 (6))) rfl dX6_passes_19 ?_
      refine lv_aload_n hx hb dX6_passes_22 rfl (lv_at hl 0 rfl) ?_
      refine g_get G X (k := 5) (fs := fText Y) (Nat.le_of_ble_eq_true rfl) (fun _ => rfl) rfl in_X6 4 (by decide) l_f40 rfl (v := .int (iI ((σ 5 4)))) rfl dX6_passes_23 ?_
      refine g_cald G X (k := 6) (n := 90) (Nat.le_of_ble_eq_true rfl) (fun _ => rfl) (by decide) (z := (σ 5 4)) (by omega) dX6_passes_26 ?_
      refine lv_iload_n hx hb dX6_passes_27 rfl (lv_at hl 1 rfl) ?_
      refine g_icmp_eq (tgt := 33) G dX6_passes_28 (by decide) (by omega) (by omega) (fun h28 => ?_) (fun h28 => ?_)
      ·
        refine lv_aload_n hx hb dX6_passes_33 rfl (lv_at hl 0 rfl) ?_
        refine lv_dup hx hb dX6_passes_34 rfl ?_
        refine g_get G X (k := 5) (fs := fText Y) (Nat.le_of_ble_eq_true rfl) (fun _ => rfl) rfl in_X6 4 (by decide) l_f40 rfl (v := .int (iI ((σ 5 4)))) rfl dX6_passes_35 ?_
        refine lv_iconst (v := iI 1) hx hb dX6_passes_38 rfl ?_
        refine g_iadd G dX6_passes_39 ?_
        refine g_puti G X (k := 5) (fs := fText Y) (z := ((σ 5 4) + 1)) (Nat.le_of_ble_eq_true rfl) (fun _ => rfl) rfl in_X6 tyX6 tyX6_ok nmX6 4 4 (by decide) l_f40 rfl rfl (by decide +kernel) (Nat.le_of_ble_eq_true rfl) (fun _ => rfl) dX6_passes_40 (fun H locs X => ?_)
        refine lv_iconst (v := iI 1) hx hb dX6_passes_43 rfl ?_
        exact hret _ _ _ _ _ _ (Or.inl ⟨rfl, ⟨by omega, by omega⟩, by rw [hp5]⟩) X dX6_passes_44
      ·
        refine lv_iconst (v := iI 0) hx hb dX6_passes_31 rfl ?_
        exact hret _ _ _ _ _ _ (Or.inr ⟨rfl, by omega, rfl⟩) X dX6_passes_32

set_option maxHeartbeats 4000000 in
set_option maxRecDepth 100000 in
theorem t_X6_readNumber (l : Launch) (Y : Yt) (σ : Mem) (tx : List Int) (m : Int) (p : Int) (mN : Nat) (hT : TextIs σ tx) (hok : txOk tx) (hp5 : σ 5 4 = p) (hpr : 0 ≤ p ∧ p ≤ tx.length) (hm : m = (mN : Int) ∧ mN ≤ 2) : MXi l LX Y yX6_readNumber wsX6_readNumber { frames := 1, cells := 0, slots := 0, locals := 21 } [.ref (Y.2.1 (5)), .int (iI (m))] σ (fun z u => z = (rd tx mN (-1) p).1 ∧ u = up σ 5 4 (rd tx mN (-1) p).2) := by
  have hT1 := hT.1
  have hT2 := hT.2
  have hok1 := hok.1
  refine g_starti (rty := .int) (fun _ _ _ => rfl) (cc := cX6_readNumber) (nL := 4) (own := RX6) (by decide) rfl rfl (Nat.le_of_ble_eq_true rfl) ?_
  intro pp ee ss mm bw mt cd AA ZZ ls G hret X hl
  have hl : lv_has ls 4 [(0, .ref (Y.2.1 (5))), (1, .int (iI (m)))] := hl
  have hx := G.1
  have hb := G.2.1
  have hts := G.2.2.2.2.1
  have l_f9 := hts (.fieldLink RX6 9 "ShapeFits$PointText" "signs" "[C") (List.mem_of_getElem? (i := 5) rfl)
  have l_f40 := hts (.fieldLink RX6 40 "ShapeFits$PointText" "place" "I") (List.mem_of_getElem? (i := 6) rfl)
  have in_X6 : ∀ w ∈ u_ws RX6 TX6 6, w ∈ wsX6_readNumber := by decide +kernel
  have X := (show σ = (up σ 5 4 p) from (by rw [← hp5]; exact (up_id σ 5 4).symm)) ▸ X
  refine lv_iconst (v := iI (-1)) hx hb dX6_readNumber_0 rfl ?_
  refine lv_istore_n (lv' := [(2, .int (iI ((-1)))), (0, .ref (Y.2.1 (5))), (1, .int (iI (m)))]) hx hb dX6_readNumber_1 rfl hl (by decide) rfl (fun ls hl => ?_)
  refine lv_iconst (v := iI 0) hx hb dX6_readNumber_2 rfl ?_
  refine lv_istore_n (lv' := [(3, .int (iI (0))), (2, .int (iI ((-1)))), (0, .ref (Y.2.1 (5))), (1, .int (iI (m)))]) hx hb dX6_readNumber_3 rfl hl (by decide) rfl (fun ls hl => ?_)
  have lp_4 : ∀ (nn : Nat) (num dg pl : Int), ∀ hd : 0 ≤ dg ∧ dg ≤ m, ∀ hpl : 0 ≤ pl ∧ pl ≤ tx.length, ∀ hnu : -1 ≤ num ∧ num ≤ 99 ∧ (dg ≤ 1 → num ≤ 9) ∧ (dg = 0 → num ≤ 0), ∀ hE : rd tx mN (-1) p = rd tx (m - dg).toNat num pl, ∀ hdec : (m - dg) < (nn : Int), ∀ (H : Heap) (locs : List Loc) (ls : Array Slot), wx LX Y (up σ 5 4 pl) ss AA H locs → lv_has ls 4 [(0, .ref (Y.2.1 (5))), (1, .int (iI (m))), (2, .int (iI (num))), (3, .int (iI (dg)))] → W pp l ee { frames := 1, cells := 0, slots := 0, locals := 21 } ss mm ([.ref (Y.2.1 (5)), .int (iI (m))] : List Value).toArray bw mt cd H locs 0 0 ZZ (F0 mm 4 ls []) := by
    intro nn
    induction nn with
    | zero =>
      intro num dg pl hd hpl hnu hE hdec
      exact absurd hdec (by omega)
    | succ nn ih_4 =>
      intro num dg pl hd hpl hnu hE hdec H locs ls X hl
      have hTl : TextIs (up σ 5 4 pl) tx := hT.eq rfl rfl
      refine lv_iload_n hx hb dX6_readNumber_4 rfl (lv_at hl 3 rfl) ?_
      refine lv_iload_n hx hb dX6_readNumber_5 rfl (lv_at hl 1 rfl) ?_
      refine g_icmp_ge (tgt := 54) G dX6_readNumber_6 (by decide) (by omega) (by omega) (fun h6 => ?_) (fun h6 => ?_)
      ·
        refine lv_iload_n hx hb dX6_readNumber_54 rfl (lv_at hl 2 rfl) ?_
        exact hret _ _ _ _ _ _ ((by have e : rd tx mN (-1) p = (num, pl) := by { rw [hE]; first | exact rd_stop (by omega) | (rw [show (m - dg).toNat = 0 by omega]; rfl) }; rw [e]; exact ⟨rfl, rfl⟩)) X dX6_readNumber_55
      ·
        refine lv_aload_n hx hb dX6_readNumber_9 rfl (lv_at hl 0 rfl) ?_
        refine g_callVi G X (rest := []) (As := []) (t_X6_digitAhead l Y ((up σ 5 4 pl)) tx (pl) hTl (by first | assumption | omega) rfl (by first | assumption | omega)) (cwV 0 hts gX6_readNumber_X6_digitAhead rfl rfl rfl (by decide +kernel) ⟨Nat.le_of_ble_eq_true rfl, Nat.le_of_ble_eq_true rfl⟩) (k := 5) (Nat.le_of_ble_eq_true rfl) rfl rfl rfl rfl hl.1 rfl (Nat.le_of_ble_eq_true rfl) dX6_readNumber_10 ⟨Nat.le_refl _, Nat.le_refl _⟩ (fun z10 u10 H locs hq10 X => ?_)
        rw [hq10.1] at X
        have hq10 := hq10.2
        try dsimp only at hq10
        refine g_if_eq (tgt := 54) G dX6_readNumber_13 (by decide) (by omega) (fun h13 => ?_) (fun h13 => ?_)
        ·
          refine lv_iload_n hx hb dX6_readNumber_54 rfl (lv_at hl 2 rfl) ?_
          exact hret _ _ _ _ _ _ ((by have e : rd tx mN (-1) p = (num, pl) := by { rw [hE]; first | exact rd_stop (by omega) | (rw [show (m - dg).toNat = 0 by omega]; rfl) }; rw [e]; exact ⟨rfl, rfl⟩)) X dX6_readNumber_55
        ·
          have hdig : 0 ≤ pl ∧ pl < tx.length ∧ 48 ≤ at0 tx pl ∧ at0 tx pl ≤ 57 := by omega
          refine lv_iload_n hx hb dX6_readNumber_16 rfl (lv_at hl 2 rfl) ?_
          refine lv_iconst (v := iI 0) hx hb dX6_readNumber_17 rfl ?_
          refine g_mmax G (a := num) (b := 0) (by omega) (by omega) (hts (.methodLink RX6 73 Lib.Math.max.name) (List.mem_of_getElem? (i := 1) rfl)) (hts (.static Lib.Math.max.name) (List.mem_of_getElem? (i := 2) rfl)) (hts (.initialized "java/lang/Math") (List.mem_of_getElem? (i := 3) rfl)) (hts (.code Lib.Math.max.name Lib.Math.max.code 2 (some .int)) (List.mem_of_getElem? (i := 4) rfl)) hl.1 (Nat.le_of_ble_eq_true rfl) (Nat.le_of_ble_eq_true rfl) ⟨Nat.le_refl _, Nat.le_refl _⟩ dX6_readNumber_18 ?_
          have hmx : (if num < 0 then (0 : Int) else num) = (if num < 0 then 0 else num) := rfl
          have hmr : 0 ≤ (if num < 0 then 0 else num) ∧ (num ≤ 9 → (if num < 0 then 0 else num) ≤ 9) ∧ (num ≤ 0 → (if num < 0 then 0 else num) = 0) ∧ (if num < 0 then 0 else num) ≤ 99 := by rw [← hmx]; split <;> omega
          refine lv_bipush (v := iI 10) hx hb dX6_readNumber_21 (by decide +kernel) ?_
          refine g_imul G dX6_readNumber_23 ?_
          refine lv_aload_n hx hb dX6_readNumber_24 rfl (lv_at hl 0 rfl) ?_
          have ha := tx_at hok (p := pl) (by omega) (by omega)
          have hb6 := hT2 pl (by omega) (by omega)
          refine g_get G X (k := 5) (fs := fText Y) (Nat.le_of_ble_eq_true rfl) (fun _ => rfl) rfl in_X6 0 (by decide) l_f9 rfl (v := .ref (Y.2.1 (6))) rfl dX6_readNumber_25 ?_
          refine lv_aload_n hx hb dX6_readNumber_28 rfl (lv_at hl 0 rfl) ?_
          refine g_get G X (k := 5) (fs := fText Y) (Nat.le_of_ble_eq_true rfl) (fun _ => rfl) rfl in_X6 4 (by decide) l_f40 rfl (v := .int (iI (pl))) rfl dX6_readNumber_29 ?_
          refine g_cald G X (k := 6) (n := 90) (Nat.le_of_ble_eq_true rfl) (fun _ => rfl) (by decide) (z := pl) (by omega) dX6_readNumber_32 ?_
          refine g_topi (z' := (σ 6 pl)) rfl ?_
          refine lv_bipush (v := iI 48) hx hb dX6_readNumber_33 (by decide +kernel) ?_
          refine g_isub G dX6_readNumber_35 ?_
          refine g_iadd G dX6_readNumber_36 ?_
          have hnu2 : -1 ≤ (((if num < 0 then 0 else num) * 10) + ((σ 6 pl) - 48)) ∧ (((if num < 0 then 0 else num) * 10) + ((σ 6 pl) - 48)) ≤ 99 ∧ (dg + 1 ≤ 1 → (((if num < 0 then 0 else num) * 10) + ((σ 6 pl) - 48)) ≤ 9) ∧ (dg + 1 = 0 → (((if num < 0 then 0 else num) * 10) + ((σ 6 pl) - 48)) ≤ 0) := by omega
          refine lv_istore_n (lv' := [(2, .int (iI ((((if num < 0 then 0 else num) * 10) + ((σ 6 pl) - 48))))), (0, .ref (Y.2.1 (5))), (1, .int (iI (m))), (3, .int (iI (dg)))]) hx hb dX6_readNumber_37 rfl hl (by decide) rfl (fun ls hl => ?_)
          refine lv_aload_n hx hb dX6_readNumber_38 rfl (lv_at hl 1 rfl) ?_
          refine lv_dup hx hb dX6_readNumber_39 rfl ?_
          refine g_get G X (k := 5) (fs := fText Y) (Nat.le_of_ble_eq_true rfl) (fun _ => rfl) rfl in_X6 4 (by decide) l_f40 rfl (v := .int (iI (pl))) rfl dX6_readNumber_40 ?_
          refine lv_iconst (v := iI 1) hx hb dX6_readNumber_43 rfl ?_
          refine g_iadd G dX6_readNumber_44 ?_
          refine g_puti G X (k := 5) (fs := fText Y) (z := (pl + 1)) (Nat.le_of_ble_eq_true rfl) (fun _ => rfl) rfl in_X6 tyX6 tyX6_ok nmX6 4 4 (by decide) l_f40 rfl rfl (by decide +kernel) (Nat.le_of_ble_eq_true rfl) (fun _ => rfl) dX6_readNumber_45 (fun H locs X => ?_)
          have X := (show (up (up σ 5 4 pl) 5 4 (pl + 1)) = (up σ 5 4 (pl + 1)) from (up_up _ _ _ _ _)) ▸ X
          refine lv_iinc (v := iI (dg + 1)) (lv' := [(3, .int (iI ((dg + 1)))), (2, .int (iI ((((if num < 0 then 0 else num) * 10) + ((σ 6 pl) - 48))))), (0, .ref (Y.2.1 (5))), (1, .int (iI (m)))]) hx hb dX6_readNumber_48 hl (k := 3) rfl (iI_add _ _) (by decide) rfl (fun ls hl => ?_)
          refine lv_goto (tgt := 4) hx hb dX6_readNumber_51 (by decide) ?_
          exact ih_4 ((((if num < 0 then 0 else num) * 10) + ((σ 6 pl) - 48))) ((dg + 1)) ((pl + 1)) (by omega) (by omega) hnu2 (by rw [hE, show (m - dg).toNat = (m - (dg + 1)).toNat + 1 by omega, rd_dig hdig, hmx, hb6]) (by omega) _ _ _ X (lv_sub hl [2, 3, 1, 0] rfl)
  exact lp_4 ((((m - (0)) : Int).toNat + 1)) ((-1)) (0) (p) (by omega) (by omega) (by omega) (by rw [show (m - 0).toNat = mN by omega]) (by omega) _ _ _ X (lv_sub hl [2, 3, 1, 0] rfl)

set_option maxHeartbeats 4000000 in
set_option maxRecDepth 100000 in
theorem t_X6_refuse (l : Launch) (Y : Yt) (σ : Mem) (tx : List Int) (a : Int) (d : Int) (acc : List Pt) (hT : TextIs σ tx) (hok : txOk tx) (hA : RowIs σ 7 acc) (hd0 : -1 ≤ d ∧ d ≤ 7) : MXi l LX Y yX6_refuse wsX6_refuse { frames := 1, cells := 0, slots := 0, locals := 20 } [.ref (Y.2.1 (5)), .int (iI (a)), .int (iI (d))] σ (fun z u => z = 0 ∧ ChainIs u (chn acc.length a d) ∧ RF σ u) := by
  have hT1 := hT.1
  have hT2 := hT.2
  have hok1 := hok.1
  have hr7 : isRow Y 7 := isRow_of Y (by omega)
  have hA12 := hA.2.1
  refine g_starti (rty := .boolean) (fun z u h => nrZ (by omega)) (cc := cX6_refuse) (nL := 3) (own := RX6) (by decide) rfl rfl (Nat.le_of_ble_eq_true rfl) ?_
  intro pp ee ss mm bw mt cd AA ZZ ls G hret X hl
  have hl : lv_has ls 3 [(0, .ref (Y.2.1 (5))), (1, .int (iI (a))), (2, .int (iI (d)))] := hl
  have hx := G.1
  have hb := G.2.1
  have hts := G.2.2.2.2.1
  have l_f18 := hts (.fieldLink RX6 18 "ShapeFits$PointText" "found" "LShapeFits$PointRow;") (List.mem_of_getElem? (i := 2) rfl)
  have l_f22 := hts (.fieldLink RX6 22 "ShapeFits$PointText" "chain" "[I") (List.mem_of_getElem? (i := 1) rfl)
  have l_f30 := hts (.fieldLink RX6 30 "ShapeFits$PointText" "chainLength" "I") (List.mem_of_getElem? (i := 3) rfl)
  have in_X6 : ∀ w ∈ u_ws RX6 TX6 6, w ∈ wsX6_refuse := by decide +kernel
  refine lv_aload_n hx hb dX6_refuse_0 rfl (lv_at hl 0 rfl) ?_
  refine g_get G X (k := 5) (fs := fText Y) (Nat.le_of_ble_eq_true rfl) (fun _ => rfl) rfl in_X6 2 (by decide) l_f22 rfl (v := .ref (Y.2.1 (11))) rfl dX6_refuse_1 ?_
  refine lv_iconst (v := iI 0) hx hb dX6_refuse_4 rfl ?_
  refine lv_bipush (v := iI 10) hx hb dX6_refuse_5 (by decide +kernel) ?_
  refine lv_aload_n hx hb dX6_refuse_7 rfl (lv_at hl 0 rfl) ?_
  refine g_get G X (k := 5) (fs := fText Y) (Nat.le_of_ble_eq_true rfl) (fun _ => rfl) rfl in_X6 1 (by decide) l_f18 rfl (v := .ref (Y.2.1 (7))) rfl dX6_refuse_8 ?_
  refine g_callVi G X (rest := [.int (iI (10)), .int (iI (0)), .ref (Y.2.1 (11))]) (As := []) (t_X5_size l Y (σ) (7) (acc) (by first | assumption | omega) (by first | assumption | omega)) (cwV 0 hts gX6_refuse_X5_size rfl rfl rfl (by decide +kernel) ⟨Nat.le_of_ble_eq_true rfl, Nat.le_of_ble_eq_true rfl⟩) (k := 7) (Nat.le_of_ble_eq_true rfl) rfl rfl rfl rfl hl.1 rfl (Nat.le_of_ble_eq_true rfl) dX6_refuse_11 ⟨Nat.le_refl _, Nat.le_refl _⟩ (fun z11 u11 H locs hq11 X => ?_)
  rw [hq11.1] at X
  have hq11 := hq11.2
  try dsimp only at hq11
  refine g_topi (z' := (acc.length : Int)) hq11 ?_
  refine g_iadd G dX6_refuse_14 ?_
  refine g_iast G X (k := 11) (n := 3) (Nat.le_of_ble_eq_true rfl) (fun _ => rfl) (by decide) (z := 0) (v := (10 + (acc.length : Int))) (by omega) dX6_refuse_15 (fun H locs X => ?_)
  refine lv_aload_n hx hb dX6_refuse_16 rfl (lv_at hl 0 rfl) ?_
  refine g_get G X (k := 5) (fs := fText Y) (Nat.le_of_ble_eq_true rfl) (fun _ => rfl) rfl in_X6 2 (by decide) l_f22 rfl (v := .ref (Y.2.1 (11))) rfl dX6_refuse_17 ?_
  refine lv_iconst (v := iI 1) hx hb dX6_refuse_20 rfl ?_
  refine lv_iload_n hx hb dX6_refuse_21 rfl (lv_at hl 1 rfl) ?_
  refine g_iast G X (k := 11) (n := 3) (Nat.le_of_ble_eq_true rfl) (fun _ => rfl) (by decide) (z := 1) (v := a) (by omega) dX6_refuse_22 (fun H locs X => ?_)
  refine lv_aload_n hx hb dX6_refuse_23 rfl (lv_at hl 0 rfl) ?_
  refine g_get G X (k := 5) (fs := fText Y) (Nat.le_of_ble_eq_true rfl) (fun _ => rfl) rfl in_X6 2 (by decide) l_f22 rfl (v := .ref (Y.2.1 (11))) rfl dX6_refuse_24 ?_
  refine lv_iconst (v := iI 2) hx hb dX6_refuse_27 rfl ?_
  refine lv_iload_n hx hb dX6_refuse_28 rfl (lv_at hl 2 rfl) ?_
  refine g_iast G X (k := 11) (n := 3) (Nat.le_of_ble_eq_true rfl) (fun _ => rfl) (by decide) (z := 2) (v := d) (by omega) dX6_refuse_29 (fun H locs X => ?_)
  refine lv_aload_n hx hb dX6_refuse_30 rfl (lv_at hl 0 rfl) ?_
  refine lv_iload_n hx hb dX6_refuse_31 rfl (lv_at hl 2 rfl) ?_
  refine lv_iconst (v := iI (-1)) hx hb dX6_refuse_32 rfl ?_
  refine g_icmp_ne (tgt := 40) G dX6_refuse_33 (by decide) (by omega) (by omega) (fun h33 => ?_) (fun h33 => ?_)
  ·
    refine lv_iconst (v := iI 3) hx hb dX6_refuse_40 rfl ?_
    refine g_puti G X (k := 5) (fs := fText Y) (z := 3) (Nat.le_of_ble_eq_true rfl) (fun _ => rfl) rfl in_X6 tyX6 tyX6_ok nmX6 5 5 (by decide) l_f30 rfl rfl (by decide +kernel) (Nat.le_of_ble_eq_true rfl) (fun _ => rfl) dX6_refuse_41 (fun H locs X => ?_)
    refine lv_iconst (v := iI 0) hx hb dX6_refuse_44 rfl ?_
    exact hret _ _ _ _ _ _ (⟨rfl, chain_put (by split <;> omega), fun x h1 h2 => by rw [up_ne h2, up_ne h1, up_ne h1, up_ne h1], rfl, rfl⟩) X dX6_refuse_45
  ·
    refine lv_iconst (v := iI 2) hx hb dX6_refuse_36 rfl ?_
    refine lv_goto (tgt := 41) hx hb dX6_refuse_37 (by decide) ?_
    refine g_puti G X (k := 5) (fs := fText Y) (z := 2) (Nat.le_of_ble_eq_true rfl) (fun _ => rfl) rfl in_X6 tyX6 tyX6_ok nmX6 5 5 (by decide) l_f30 rfl rfl (by decide +kernel) (Nat.le_of_ble_eq_true rfl) (fun _ => rfl) dX6_refuse_41 (fun H locs X => ?_)
    refine lv_iconst (v := iI 0) hx hb dX6_refuse_44 rfl ?_
    exact hret _ _ _ _ _ _ (⟨rfl, chain_put (by split <;> omega), fun x h1 h2 => by rw [up_ne h2, up_ne h1, up_ne h1, up_ne h1], rfl, rfl⟩) X dX6_refuse_45

set_option maxHeartbeats 4000000 in
set_option maxRecDepth 100000 in
theorem t_X6_refuseNumber (l : Launch) (Y : Yt) (σ : Mem) (tx : List Int) (a : Int) (v : Int) (acc : List Pt) (hT : TextIs σ tx) (hok : txOk tx) (hA : RowIs σ 7 acc) (hd0 : -1 ≤ v ∧ v ≤ 99) : MXi l LX Y yX6_refuseNumber wsX6_refuseNumber { frames := 2, cells := 0, slots := 0, locals := 42 } [.ref (Y.2.1 (5)), .int (iI (a)), .int (iI (v))] σ (fun z u => z = 0 ∧ ChainIs u (chn acc.length a (if v = -1 then 6 else 7)) ∧ RF σ u) := by
  have hT1 := hT.1
  have hT2 := hT.2
  have hok1 := hok.1
  refine g_starti (rty := .boolean) (fun z u h => nrZ (by omega)) (cc := cX6_refuseNumber) (nL := 3) (own := RX6) (by decide) rfl rfl (Nat.le_of_ble_eq_true rfl) ?_
  intro pp ee ss mm bw mt cd AA ZZ ls G hret X hl
  have hl : lv_has ls 3 [(0, .ref (Y.2.1 (5))), (1, .int (iI (a))), (2, .int (iI (v)))] := hl
  have hx := G.1
  have hb := G.2.1
  have hts := G.2.2.2.2.1
  refine lv_aload_n hx hb dX6_refuseNumber_0 rfl (lv_at hl 0 rfl) ?_
  refine lv_iload_n hx hb dX6_refuseNumber_1 rfl (lv_at hl 1 rfl) ?_
  refine lv_iload_n hx hb dX6_refuseNumber_2 rfl (lv_at hl 2 rfl) ?_
  refine lv_iconst (v := iI (-1)) hx hb dX6_refuseNumber_3 rfl ?_
  refine g_icmp_ne (tgt := 12) G dX6_refuseNumber_4 (by decide) (by omega) (by omega) (fun h4 => ?_) (fun h4 => ?_)
  ·
    refine lv_bipush (v := iI 7) hx hb dX6_refuseNumber_12 (by decide +kernel) ?_
    refine g_callVi G X (rest := []) (As := [.int (iI (a)), .int (iI (7))]) (t_X6_refuse l Y (σ) tx (a) (7) acc (by first | assumption | omega) (by first | assumption | omega) (by first | assumption | omega) (by first | assumption | omega)) (cwV 2 hts gX6_refuseNumber_X6_refuse rfl rfl rfl (by decide +kernel) ⟨Nat.le_of_ble_eq_true rfl, Nat.le_of_ble_eq_true rfl⟩) (k := 5) (Nat.le_of_ble_eq_true rfl) rfl rfl rfl rfl hl.1 rfl (Nat.le_of_ble_eq_true rfl) dX6_refuseNumber_14 ⟨Nat.le_refl _, Nat.le_refl _⟩ (fun z14 u14 H locs hq14 X => ?_)
    exact hret _ _ _ _ _ _ (⟨hq14.1, by first | (rw [if_pos (by omega)]; exact hq14.2.1) | (rw [if_neg (by omega)]; exact hq14.2.1), hq14.2.2⟩) X dX6_refuseNumber_17
  ·
    refine lv_bipush (v := iI 6) hx hb dX6_refuseNumber_7 (by decide +kernel) ?_
    refine lv_goto (tgt := 14) hx hb dX6_refuseNumber_9 (by decide) ?_
    refine g_callVi G X (rest := []) (As := [.int (iI (a)), .int (iI (6))]) (t_X6_refuse l Y (σ) tx (a) (6) acc (by first | assumption | omega) (by first | assumption | omega) (by first | assumption | omega) (by first | assumption | omega)) (cwV 2 hts gX6_refuseNumber_X6_refuse rfl rfl rfl (by decide +kernel) ⟨Nat.le_of_ble_eq_true rfl, Nat.le_of_ble_eq_true rfl⟩) (k := 5) (Nat.le_of_ble_eq_true rfl) rfl rfl rfl rfl hl.1 rfl (Nat.le_of_ble_eq_true rfl) dX6_refuseNumber_14 ⟨Nat.le_refl _, Nat.le_refl _⟩ (fun z14 u14 H locs hq14 X => ?_)
    exact hret _ _ _ _ _ _ (⟨hq14.1, by first | (rw [if_pos (by omega)]; exact hq14.2.1) | (rw [if_neg (by omega)]; exact hq14.2.1), hq14.2.2⟩) X dX6_refuseNumber_17

set_option maxHeartbeats 4000000 in
set_option maxRecDepth 100000 in
theorem t_X6_readPoint (l : Launch) (Y : Yt) (σ : Mem) (tx : List Int) (p : Int) (acc : List Pt) (hT : TextIs σ tx) (hok : txOk tx) (hp5 : σ 5 4 = p) (hpr : 0 ≤ p ∧ p ≤ tx.length) (hA : RowIs σ 7 acc) (hac : acc.length < 12) : MXi l LX Y yX6_readPoint wsX6_readPoint { frames := 3, cells := 0, slots := 0, locals := 64 } [.ref (Y.2.1 (5))] σ (fun z u => RPpost σ u tx p acc z) := by
  have hT1 := hT.1
  have hT2 := hT.2
  have hok1 := hok.1
  have hr7 : isRow Y 7 := isRow_of Y (by omega)
  have hT0 : ∀ q, TextIs (up σ 5 4 q) tx := fun q => hT.eq rfl rfl
  have hA0 : ∀ q, RowIs (up σ 5 4 q) 7 acc := fun q => hA.eq rfl rfl rfl rfl
  obtain ⟨a1, a2, ea⟩ : ∃ a1 a2, rd tx 2 (-1) p = (a1, a2) := ⟨_, _, rfl⟩
  have ra := rd2_rg (tx := tx) hpr.1 hpr.2
  rw [ea] at ra
  dsimp only at ra
  refine g_starti (rty := .boolean) (fun z u h => nrZ h.z) (cc := cX6_readPoint) (nL := 5) (own := RX6) (by decide) rfl rfl (Nat.le_of_ble_eq_true rfl) ?_
  intro pp ee ss mm bw mt cd AA ZZ ls G hret X hl
  have hl : lv_has ls 5 [(0, .ref (Y.2.1 (5)))] := hl
  have hx := G.1
  have hb := G.2.1
  have hts := G.2.2.2.2.1
  have l_f18 := hts (.fieldLink RX6 18 "ShapeFits$PointText" "found" "LShapeFits$PointRow;") (List.mem_of_getElem? (i := 1) rfl)
  have in_X6 : ∀ w ∈ u_ws RX6 TX6 6, w ∈ wsX6_readPoint := by decide +kernel
  have X := (show σ = (up σ 5 4 p) from (by rw [← hp5]; exact (up_id σ 5 4).symm)) ▸ X
  refine lv_aload_n hx hb dX6_readPoint_0 rfl (lv_at hl 0 rfl) ?_
  refine lv_iconst (v := iI 2) hx hb dX6_readPoint_1 rfl ?_
  refine g_callVi G X (rest := []) (As := [.int (iI (2))]) (t_X6_readNumber l Y ((up σ 5 4 p)) tx (2) (p) (2) (hT0 _) (by first | assumption | omega) rfl (by first | assumption | omega) (by first | assumption | omega)) (cwV 1 hts gX6_readPoint_X6_readNumber rfl rfl rfl (by decide +kernel) ⟨Nat.le_of_ble_eq_true rfl, Nat.le_of_ble_eq_true rfl⟩) (k := 5) (Nat.le_of_ble_eq_true rfl) rfl rfl rfl rfl hl.1 rfl (Nat.le_of_ble_eq_true rfl) dX6_readPoint_2 ⟨Nat.le_refl _, Nat.le_refl _⟩ (fun z2 u2 H locs hq2 X => ?_)
  refine g_topi (z' := a1) (by rw [hq2.1, ea]) ?_
  have X := (show u2 = (up σ 5 4 a2) from (by rw [hq2.2, up_up, ea])) ▸ X
  refine lv_istore_n (lv' := [(1, .int (iI (a1))), (0, .ref (Y.2.1 (5)))]) hx hb dX6_readPoint_5 rfl hl (by decide) rfl (fun ls hl => ?_)
  refine lv_iload_n hx hb dX6_readPoint_6 rfl (lv_at hl 0 rfl) ?_
  refine lv_iconst (v := iI (-1)) hx hb dX6_readPoint_7 rfl ?_
  refine g_icmp_eq (tgt := 17) G dX6_readPoint_8 (by decide) (by omega) (by omega) (fun h8 => ?_) (fun h8 => ?_)
  ·
    refine lv_aload_n hx hb dX6_readPoint_17 rfl (lv_at hl 1 rfl) ?_
    refine lv_iconst (v := iI 1) hx hb dX6_readPoint_18 rfl ?_
    refine lv_iload_n hx hb dX6_readPoint_19 rfl (lv_at hl 0 rfl) ?_
    refine g_callVi G X (rest := []) (As := [.int (iI (1)), .int (iI (a1))]) (t_X6_refuseNumber l Y ((up σ 5 4 a2)) tx (1) (a1) (acc) (hT0 _) (by first | assumption | omega) (hA0 _) (by first | assumption | omega)) (cwV 2 hts gX6_readPoint_X6_refuseNumber rfl rfl rfl (by decide +kernel) ⟨Nat.le_of_ble_eq_true rfl, Nat.le_of_ble_eq_true rfl⟩) (k := 5) (Nat.le_of_ble_eq_true rfl) rfl rfl rfl rfl hl.1 rfl (Nat.le_of_ble_eq_true rfl) dX6_readPoint_20 ⟨Nat.le_refl _, Nat.le_refl _⟩ (fun z20 u20 H locs hq20 X => ?_)
    exact hret _ _ _ _ _ _ (rp_fail hT (by unfold pR1; rw [ea]; exact if_pos (show a1 = -1 ∨ 40 < a1 by omega)) hq20.1 hq20.2.1 hq20.2.2) X dX6_readPoint_23
  ·
    refine lv_iload_n hx hb dX6_readPoint_11 rfl (lv_at hl 0 rfl) ?_
    refine lv_bipush (v := iI 40) hx hb dX6_readPoint_12 (by decide +kernel) ?_
    refine g_icmp_le (tgt := 24) G dX6_readPoint_14 (by decide) (by omega) (by omega) (fun h14 => ?_) (fun h14 => ?_)
    ·
      refine lv_aload_n hx hb dX6_readPoint_24 rfl (lv_at hl 1 rfl) ?_
      refine lv_bipush (v := iI 58) hx hb dX6_readPoint_25 (by decide +kernel) ?_
      refine g_callVi G X (rest := []) (As := [.int (iI (58))]) (t_X6_passes l Y ((up σ 5 4 a2)) tx (58) (a2) (hT0 _) (by first | assumption | omega) rfl (by first | assumption | omega) (by first | assumption | omega)) (cwV 1 hts gX6_readPoint_X6_passes rfl rfl rfl (by decide +kernel) ⟨Nat.le_of_ble_eq_true rfl, Nat.le_of_ble_eq_true rfl⟩) (k := 5) (Nat.le_of_ble_eq_true rfl) rfl rfl rfl rfl hl.1 rfl (Nat.le_of_ble_eq_true rfl) dX6_readPoint_27 ⟨Nat.le_refl _, Nat.le_refl _⟩ (fun z27 u27 H locs hq27 X => ?_)
      rcases hq27 with ⟨hz27, hh27, hu27⟩ | ⟨hz27, hh27, hu27⟩
      ·
        refine g_topi (z' := 1) hz27 ?_
        have X := (show u27 = (up σ 5 4 (a2 + 1)) from (hu27.trans (up_up _ _ _ _ _))) ▸ X
        have e1 : pR1 tx p = pR2 tx a1 (a2 + 1) := by unfold pR1; rw [ea]; exact (if_neg (show ¬ (a1 = -1 ∨ 40 < a1) by omega)).trans (if_pos hh27)
        refine g_if_ne (tgt := 40) G dX6_readPoint_30 (by decide) (by omega) (fun h30 => ?_) (fun h30 => ?_)
        ·
          refine lv_aload_n hx hb dX6_readPoint_40 rfl (lv_at hl 1 rfl) ?_
          refine lv_bipush (v := iI 45) hx hb dX6_readPoint_41 (by decide +kernel) ?_
          refine g_callVi G X (rest := []) (As := [.int (iI (45))]) (t_X6_passes l Y ((up σ 5 4 (a2 + 1))) tx (45) ((a2 + 1)) (hT0 _) (by first | assumption | omega) rfl (by first | assumption | omega) (by first | assumption | omega)) (cwV 1 hts gX6_readPoint_X6_passes rfl rfl rfl (by decide +kernel) ⟨Nat.le_of_ble_eq_true rfl, Nat.le_of_ble_eq_true rfl⟩) (k := 5) (Nat.le_of_ble_eq_true rfl) rfl rfl rfl rfl hl.1 rfl (Nat.le_of_ble_eq_true rfl) dX6_readPoint_43 ⟨Nat.le_refl _, Nat.le_refl _⟩ (fun z43 u43 H locs hq43 X => ?_)
          rcases hq43 with ⟨hz43, hh43, hu43⟩ | ⟨hz43, hh43, hu43⟩
          ·
            obtain ⟨sg, hsg⟩ : ∃ sg : Int, sg = 1 := ⟨_, rfl⟩
            obtain ⟨q3, hq3⟩ : ∃ q3, q3 = a2 + 1 + 1 := ⟨_, rfl⟩
            refine g_topi (z' := sg) (by rw [hz43, hsg]) ?_
            have X := (show u43 = (up σ 5 4 q3) from (by rw [hu43, up_up, hq3])) ▸ X
            have e2 : pR1 tx p = pR3 tx a1 sg q3 := by rw [e1, hsg, hq3]; exact if_pos hh43
            have hsg2 : sg = 0 ∨ sg = 1 := Or.inr hsg
            have hq3r : 0 ≤ q3 ∧ q3 ≤ tx.length := by omega
            refine lv_istore_n (lv' := [(2, .int (iI (sg))), (1, .int (iI (a1))), (0, .ref (Y.2.1 (5)))]) hx hb dX6_readPoint_46 rfl hl (by decide) rfl (fun ls hl => ?_)
            obtain ⟨b1, b2, eb⟩ : ∃ b1 b2, rd tx 2 (-1) q3 = (b1, b2) := ⟨_, _, rfl⟩
            have rb := rd2_rg (tx := tx) hq3r.1 hq3r.2
            rw [eb] at rb
            dsimp only at rb
            refine lv_aload_n hx hb dX6_readPoint_47 rfl (lv_at hl 2 rfl) ?_
            refine lv_iconst (v := iI 2) hx hb dX6_readPoint_48 rfl ?_
            refine g_callVi G X (rest := []) (As := [.int (iI (2))]) (t_X6_readNumber l Y ((up σ 5 4 q3)) tx (2) (q3) (2) (hT0 _) (by first | assumption | omega) rfl (by first | assumption | omega) (by first | assumption | omega)) (cwV 1 hts gX6_readPoint_X6_readNumber rfl rfl rfl (by decide +kernel) ⟨Nat.le_of_ble_eq_true rfl, Nat.le_of_ble_eq_true rfl⟩) (k := 5) (Nat.le_of_ble_eq_true rfl) rfl rfl rfl rfl hl.1 rfl (Nat.le_of_ble_eq_true rfl) dX6_readPoint_49 ⟨Nat.le_refl _, Nat.le_refl _⟩ (fun z49 u49 H locs hq49 X => ?_)
            refine g_topi (z' := b1) (by rw [hq49.1, eb]) ?_
            have X := (show u49 = (up σ 5 4 b2) from (by rw [hq49.2, up_up, eb])) ▸ X
            refine lv_istore_n (lv' := [(3, .int (iI (b1))), (2, .int (iI (sg))), (1, .int (iI (a1))), (0, .ref (Y.2.1 (5)))]) hx hb dX6_readPoint_52 rfl hl (by decide) rfl (fun ls hl => ?_)
            refine lv_iload_n hx hb dX6_readPoint_53 rfl (lv_at hl 0 rfl) ?_
            refine lv_iconst (v := iI (-1)) hx hb dX6_readPoint_54 rfl ?_
            refine g_icmp_ne (tgt := 65) G dX6_readPoint_55 (by decide) (by omega) (by omega) (fun h55 => ?_) (fun h55 => ?_)
            ·
              refine lv_iconst (v := iI 1) hx hb dX6_readPoint_65 rfl ?_
              refine lv_istore (lv' := [(4, .int (iI (1))), (3, .int (iI (b1))), (2, .int (iI (sg))), (1, .int (iI (a1))), (0, .ref (Y.2.1 (5)))]) hx hb dX6_readPoint_66 hl (by decide) rfl (fun ls hl => ?_)
              refine lv_aload_n hx hb dX6_readPoint_68 rfl (lv_at hl 4 rfl) ?_
              refine lv_bipush (v := iI 42) hx hb dX6_readPoint_69 (by decide +kernel) ?_
              refine g_callVi G X (rest := []) (As := [.int (iI (42))]) (t_X6_passes l Y ((up σ 5 4 b2)) tx (42) (b2) (hT0 _) (by first | assumption | omega) rfl (by first | assumption | omega) (by first | assumption | omega)) (cwV 1 hts gX6_readPoint_X6_passes rfl rfl rfl (by decide +kernel) ⟨Nat.le_of_ble_eq_true rfl, Nat.le_of_ble_eq_true rfl⟩) (k := 5) (Nat.le_of_ble_eq_true rfl) rfl rfl rfl rfl hl.1 rfl (Nat.le_of_ble_eq_true rfl) dX6_readPoint_71 ⟨Nat.le_refl _, Nat.le_refl _⟩ (fun z71 u71 H locs hq71 X => ?_)
              rcases hq71 with ⟨hz71, hh71, hu71⟩ | ⟨hz71, hh71, hu71⟩
              ·
                refine g_topi (z' := 1) hz71 ?_
                have X := (show u71 = (up σ 5 4 (b2 + 1)) from (hu71.trans (up_up _ _ _ _ _))) ▸ X
                have e3 : pR1 tx p = pR4 tx a1 (if sg = 1 then -b1 else b1) (b2 + 1) := by rw [e2]; unfold pR3; rw [eb]; exact (if_neg (show ¬ (b1 = -1) by omega)).trans (if_pos hh71)
                obtain ⟨c1, c2, ec⟩ : ∃ c1 c2, rd tx 1 (-1) (b2 + 1) = (c1, c2) := ⟨_, _, rfl⟩
                have rc := rd1_rg (tx := tx) (p := b2 + 1) (by omega) (by omega)
                rw [ec] at rc
                dsimp only at rc
                refine g_if_eq (tgt := 104) G dX6_readPoint_74 (by decide) (by omega) (fun h74 => ?_) (fun h74 => ?_)
                ·
                  exact False.elim (by omega)
                ·
                  refine lv_aload_n hx hb dX6_readPoint_77 rfl (lv_at hl 4 rfl) ?_
                  refine lv_iconst (v := iI 1) hx hb dX6_readPoint_78 rfl ?_
                  refine g_callVi G X (rest := []) (As := [.int (iI (1))]) (t_X6_readNumber l Y ((up σ 5 4 (b2 + 1))) tx (1) ((b2 + 1)) (1) (hT0 _) (by first | assumption | omega) rfl (by first | assumption | omega) (by first | assumption | omega)) (cwV 1 hts gX6_readPoint_X6_readNumber rfl rfl rfl (by decide +kernel) ⟨Nat.le_of_ble_eq_true rfl, Nat.le_of_ble_eq_true rfl⟩) (k := 5) (Nat.le_of_ble_eq_true rfl) rfl rfl rfl rfl hl.1 rfl (Nat.le_of_ble_eq_true rfl) dX6_readPoint_79 ⟨Nat.le_refl _, Nat.le_refl _⟩ (fun z79 u79 H locs hq79 X => ?_)
                  refine g_topi (z' := c1) (by rw [hq79.1, ec]) ?_
                  have X := (show u79 = (up σ 5 4 c2) from (by rw [hq79.2, up_up, ec])) ▸ X
                  refine lv_istore (lv' := [(4, .int (iI (c1))), (3, .int (iI (b1))), (2, .int (iI (sg))), (1, .int (iI (a1))), (0, .ref (Y.2.1 (5)))]) hx hb dX6_readPoint_82 hl (by decide) rfl (fun ls hl => ?_)
                  refine lv_iload hx hb dX6_readPoint_84 (lv_at hl 0 rfl) ?_
                  refine lv_iconst (v := iI 1) hx hb dX6_readPoint_86 rfl ?_
                  refine g_icmp_lt (tgt := 96) G dX6_readPoint_87 (by decide) (by omega) (by omega) (fun h87 => ?_) (fun h87 => ?_)
                  ·
                    refine lv_aload_n hx hb dX6_readPoint_96 rfl (lv_at hl 4 rfl) ?_
                    refine lv_iconst (v := iI 3) hx hb dX6_readPoint_97 rfl ?_
                    refine lv_iload hx hb dX6_readPoint_98 (lv_at hl 0 rfl) ?_
                    refine g_callVi G X (rest := []) (As := [.int (iI (3)), .int (iI (c1))]) (t_X6_refuseNumber l Y ((up σ 5 4 c2)) tx (3) (c1) (acc) (hT0 _) (by first | assumption | omega) (hA0 _) (by first | assumption | omega)) (cwV 2 hts gX6_readPoint_X6_refuseNumber rfl rfl rfl (by decide +kernel) ⟨Nat.le_of_ble_eq_true rfl, Nat.le_of_ble_eq_true rfl⟩) (k := 5) (Nat.le_of_ble_eq_true rfl) rfl rfl rfl rfl hl.1 rfl (Nat.le_of_ble_eq_true rfl) dX6_readPoint_100 ⟨Nat.le_refl _, Nat.le_refl _⟩ (fun z100 u100 H locs hq100 X => ?_)
                    exact hret _ _ _ _ _ _ (rp_fail hT (by rw [e3]; unfold pR4; rw [ec]; exact if_pos (show c1 < 1 ∨ 2 < c1 by omega)) hq100.1 hq100.2.1 hq100.2.2) X dX6_readPoint_103
                  ·
                    refine lv_iload hx hb dX6_readPoint_90 (lv_at hl 0 rfl) ?_
                    refine lv_iconst (v := iI 2) hx hb dX6_readPoint_92 rfl ?_
                    refine g_icmp_le (tgt := 104) G dX6_readPoint_93 (by decide) (by omega) (by omega) (fun h93 => ?_) (fun h93 => ?_)
                    ·
                      have e4 : pR1 tx p = pR5 tx a1 (if sg = 1 then -b1 else b1) c1 c2 := by rw [e3]; unfold pR4; rw [ec]; exact if_neg (show ¬ (c1 < 1 ∨ 2 < c1) by omega)
                      obtain ⟨q5, hq5⟩ : ∃ q5, q5 = c2 := ⟨_, rfl⟩
                      have X := (show (up σ 5 4 c2) = (up σ 5 4 q5) from (by rw [hq5])) ▸ X
                      rw [← hq5] at e4
                      have hq5r : 0 ≤ q5 ∧ q5 ≤ tx.length := by omega
                      refine lv_aload_n hx hb dX6_readPoint_104 rfl (lv_at hl 4 rfl) ?_
                      refine lv_bipush (v := iI 59) hx hb dX6_readPoint_105 (by decide +kernel) ?_
                      refine g_callVi G X (rest := []) (As := [.int (iI (59))]) (t_X6_passes l Y ((up σ 5 4 q5)) tx (59) (q5) (hT0 _) (by first | assumption | omega) rfl (by first | assumption | omega) (by first | assumption | omega)) (cwV 1 hts gX6_readPoint_X6_passes rfl rfl rfl (by decide +kernel) ⟨Nat.le_of_ble_eq_true rfl, Nat.le_of_ble_eq_true rfl⟩) (k := 5) (Nat.le_of_ble_eq_true rfl) rfl rfl rfl rfl hl.1 rfl (Nat.le_of_ble_eq_true rfl) dX6_readPoint_107 ⟨Nat.le_refl _, Nat.le_refl _⟩ (fun z107 u107 H locs hq107 X => ?_)
                      rcases hq107 with ⟨hz107, hh107, hu107⟩ | ⟨hz107, hh107, hu107⟩
                      ·
                        refine g_topi (z' := 1) hz107 ?_
                        have e5 : pR1 tx p = .inr ((a1, (if sg = 1 then -b1 else b1), c1), q5 + 1) := by rw [e4]; exact if_pos hh107
                        have X := (show u107 = (up σ 5 4 (q5 + 1)) from (hu107.trans (up_up _ _ _ _ _))) ▸ X
                        refine g_if_ne (tgt := 120) G dX6_readPoint_110 (by decide) (by omega) (fun h110 => ?_) (fun h110 => ?_)
                        ·
                          refine lv_aload_n hx hb dX6_readPoint_120 rfl (lv_at hl 4 rfl) ?_
                          refine g_get G X (k := 5) (fs := fText Y) (Nat.le_of_ble_eq_true rfl) (fun _ => rfl) rfl in_X6 1 (by decide) l_f18 rfl (v := .ref (Y.2.1 (7))) rfl dX6_readPoint_121 ?_
                          refine lv_iload_n hx hb dX6_readPoint_124 rfl (lv_at hl 3 rfl) ?_
                          refine lv_iload_n hx hb dX6_readPoint_125 rfl (lv_at hl 2 rfl) ?_
                          refine g_if_eq (tgt := 134) G dX6_readPoint_126 (by decide) (by omega) (fun h126 => ?_) (fun h126 => ?_)
                          ·
                            refine lv_iload_n hx hb dX6_readPoint_134 rfl (lv_at hl 1 rfl) ?_
                            refine lv_iload hx hb dX6_readPoint_135 (lv_at hl 0 rfl) ?_
                            refine g_callVv G X (rest := []) (As := [.int (iI (a1)), .int (iI (b1)), .int (iI (c1))]) (t_X5_append l Y ((up σ 5 4 (q5 + 1))) (7) (acc) (a1) (b1) (c1) (by first | assumption | omega) (hA0 _) (by first | assumption | omega)) (cwV 3 hts gX6_readPoint_X5_append rfl rfl rfl (by decide +kernel) ⟨Nat.le_of_ble_eq_true rfl, Nat.le_of_ble_eq_true rfl⟩) (k := 7) (Nat.le_of_ble_eq_true rfl) rfl rfl rfl rfl hl.1 rfl (Nat.le_of_ble_eq_true rfl) dX6_readPoint_137 ⟨Nat.le_refl _, Nat.le_refl _⟩ (fun u137 H locs hq137 X => ?_)
                            refine lv_iconst (v := iI 1) hx hb dX6_readPoint_140 rfl ?_
                            exact hret _ _ _ _ _ _ (rp_good hT e5 (by first | (rw [if_pos (show sg = 1 by omega)]; exact hq137.1) | (rw [if_neg (show ¬ sg = 1 by omega)]; exact hq137.1)) hq137.2) X dX6_readPoint_141
                          ·
                            refine lv_iload_n hx hb dX6_readPoint_129 rfl (lv_at hl 1 rfl) ?_
                            refine g_ineg G dX6_readPoint_130 ?_
                            refine lv_goto (tgt := 135) hx hb dX6_readPoint_131 (by decide) ?_
                            refine lv_iload hx hb dX6_readPoint_135 (lv_at hl 0 rfl) ?_
                            refine g_callVv G X (rest := []) (As := [.int (iI (a1)), .int (iI ((-b1))), .int (iI (c1))]) (t_X5_append l Y ((up σ 5 4 (q5 + 1))) (7) (acc) (a1) ((-b1)) (c1) (by first | assumption | omega) (hA0 _) (by first | assumption | omega)) (cwV 3 hts gX6_readPoint_X5_append rfl rfl rfl (by decide +kernel) ⟨Nat.le_of_ble_eq_true rfl, Nat.le_of_ble_eq_true rfl⟩) (k := 7) (Nat.le_of_ble_eq_true rfl) rfl rfl rfl rfl hl.1 rfl (Nat.le_of_ble_eq_true rfl) dX6_readPoint_137 ⟨Nat.le_refl _, Nat.le_refl _⟩ (fun u137 H locs hq137 X => ?_)
                            refine lv_iconst (v := iI 1) hx hb dX6_readPoint_140 rfl ?_
                            exact hret _ _ _ _ _ _ (rp_good hT e5 (by first | (rw [if_pos (show sg = 1 by omega)]; exact hq137.1) | (rw [if_neg (show ¬ sg = 1 by omega)]; exact hq137.1)) hq137.2) X dX6_readPoint_141
                        ·
                          exact False.elim (by omega)
                      ·
                        refine g_topi (z' := 0) hz107 ?_
                        have e5 : pR1 tx p = .inl (4, -1) := by rw [e4]; exact if_neg hh107
                        have X := (show u107 = (up σ 5 4 q5) from hu107) ▸ X
                        refine g_if_ne (tgt := 120) G dX6_readPoint_110 (by decide) (by omega) (fun h110 => ?_) (fun h110 => ?_)
                        ·
                          exact False.elim (by omega)
                        ·
                          refine lv_aload_n hx hb dX6_readPoint_113 rfl (lv_at hl 4 rfl) ?_
                          refine lv_iconst (v := iI 4) hx hb dX6_readPoint_114 rfl ?_
                          refine lv_iconst (v := iI (-1)) hx hb dX6_readPoint_115 rfl ?_
                          refine g_callVi G X (rest := []) (As := [.int (iI (4)), .int (iI ((-1)))]) (t_X6_refuse l Y ((up σ 5 4 q5)) tx (4) ((-1)) (acc) (hT0 _) (by first | assumption | omega) (hA0 _) (by first | assumption | omega)) (cwV 2 hts gX6_readPoint_X6_refuse rfl rfl rfl (by decide +kernel) ⟨Nat.le_of_ble_eq_true rfl, Nat.le_of_ble_eq_true rfl⟩) (k := 5) (Nat.le_of_ble_eq_true rfl) rfl rfl rfl rfl hl.1 rfl (Nat.le_of_ble_eq_true rfl) dX6_readPoint_116 ⟨Nat.le_refl _, Nat.le_refl _⟩ (fun z116 u116 H locs hq116 X => ?_)
                          exact hret _ _ _ _ _ _ (rp_fail hT e5 hq116.1 hq116.2.1 hq116.2.2) X dX6_readPoint_119
                    ·
                      refine lv_aload_n hx hb dX6_readPoint_96 rfl (lv_at hl 4 rfl) ?_
                      refine lv_iconst (v := iI 3) hx hb dX6_readPoint_97 rfl ?_
                      refine lv_iload hx hb dX6_readPoint_98 (lv_at hl 0 rfl) ?_
                      refine g_callVi G X (rest := []) (As := [.int (iI (3)), .int (iI (c1))]) (t_X6_refuseNumber l Y ((up σ 5 4 c2)) tx (3) (c1) (acc) (hT0 _) (by first | assumption | omega) (hA0 _) (by first | assumption | omega)) (cwV 2 hts gX6_readPoint_X6_refuseNumber rfl rfl rfl (by decide +kernel) ⟨Nat.le_of_ble_eq_true rfl, Nat.le_of_ble_eq_true rfl⟩) (k := 5) (Nat.le_of_ble_eq_true rfl) rfl rfl rfl rfl hl.1 rfl (Nat.le_of_ble_eq_true rfl) dX6_readPoint_100 ⟨Nat.le_refl _, Nat.le_refl _⟩ (fun z100 u100 H locs hq100 X => ?_)
                      exact hret _ _ _ _ _ _ (rp_fail hT (by rw [e3]; unfold pR4; rw [ec]; exact if_pos (show c1 < 1 ∨ 2 < c1 by omega)) hq100.1 hq100.2.1 hq100.2.2) X dX6_readPoint_103
              ·
                refine g_topi (z' := 0) hz71 ?_
                have X := (show u71 = (up σ 5 4 b2) from hu71) ▸ X
                have e4 : pR1 tx p = pR5 tx a1 (if sg = 1 then -b1 else b1) 1 b2 := by rw [e2]; unfold pR3; rw [eb]; exact (if_neg (show ¬ (b1 = -1) by omega)).trans (if_neg hh71)
                refine g_if_eq (tgt := 104) G dX6_readPoint_74 (by decide) (by omega) (fun h74 => ?_) (fun h74 => ?_)
                ·
                  obtain ⟨q5, hq5⟩ : ∃ q5, q5 = b2 := ⟨_, rfl⟩
                  have X := (show (up σ 5 4 b2) = (up σ 5 4 q5) from (by rw [hq5])) ▸ X
                  rw [← hq5] at e4
                  have hq5r : 0 ≤ q5 ∧ q5 ≤ tx.length := by omega
                  refine lv_aload_n hx hb dX6_readPoint_104 rfl (lv_at hl 4 rfl) ?_
                  refine lv_bipush (v := iI 59) hx hb dX6_readPoint_105 (by decide +kernel) ?_
                  refine g_callVi G X (rest := []) (As := [.int (iI (59))]) (t_X6_passes l Y ((up σ 5 4 q5)) tx (59) (q5) (hT0 _) (by first | assumption | omega) rfl (by first | assumption | omega) (by first | assumption | omega)) (cwV 1 hts gX6_readPoint_X6_passes rfl rfl rfl (by decide +kernel) ⟨Nat.le_of_ble_eq_true rfl, Nat.le_of_ble_eq_true rfl⟩) (k := 5) (Nat.le_of_ble_eq_true rfl) rfl rfl rfl rfl hl.1 rfl (Nat.le_of_ble_eq_true rfl) dX6_readPoint_107 ⟨Nat.le_refl _, Nat.le_refl _⟩ (fun z107 u107 H locs hq107 X => ?_)
                  rcases hq107 with ⟨hz107, hh107, hu107⟩ | ⟨hz107, hh107, hu107⟩
                  ·
                    refine g_topi (z' := 1) hz107 ?_
                    have e5 : pR1 tx p = .inr ((a1, (if sg = 1 then -b1 else b1), 1), q5 + 1) := by rw [e4]; exact if_pos hh107
                    have X := (show u107 = (up σ 5 4 (q5 + 1)) from (hu107.trans (up_up _ _ _ _ _))) ▸ X
                    refine g_if_ne (tgt := 120) G dX6_readPoint_110 (by decide) (by omega) (fun h110 => ?_) (fun h110 => ?_)
                    ·
                      refine lv_aload_n hx hb dX6_readPoint_120 rfl (lv_at hl 4 rfl) ?_
                      refine g_get G X (k := 5) (fs := fText Y) (Nat.le_of_ble_eq_true rfl) (fun _ => rfl) rfl in_X6 1 (by decide) l_f18 rfl (v := .ref (Y.2.1 (7))) rfl dX6_readPoint_121 ?_
                      refine lv_iload_n hx hb dX6_readPoint_124 rfl (lv_at hl 3 rfl) ?_
                      refine lv_iload_n hx hb dX6_readPoint_125 rfl (lv_at hl 2 rfl) ?_
                      refine g_if_eq (tgt := 134) G dX6_readPoint_126 (by decide) (by omega) (fun h126 => ?_) (fun h126 => ?_)
                      ·
                        refine lv_iload_n hx hb dX6_readPoint_134 rfl (lv_at hl 1 rfl) ?_
                        refine lv_iload hx hb dX6_readPoint_135 (lv_at hl 0 rfl) ?_
                        refine g_callVv G X (rest := []) (As := [.int (iI (a1)), .int (iI (b1)), .int (iI (1))]) (t_X5_append l Y ((up σ 5 4 (q5 + 1))) (7) (acc) (a1) (b1) (1) (by first | assumption | omega) (hA0 _) (by first | assumption | omega)) (cwV 3 hts gX6_readPoint_X5_append rfl rfl rfl (by decide +kernel) ⟨Nat.le_of_ble_eq_true rfl, Nat.le_of_ble_eq_true rfl⟩) (k := 7) (Nat.le_of_ble_eq_true rfl) rfl rfl rfl rfl hl.1 rfl (Nat.le_of_ble_eq_true rfl) dX6_readPoint_137 ⟨Nat.le_refl _, Nat.le_refl _⟩ (fun u137 H locs hq137 X => ?_)
                        refine lv_iconst (v := iI 1) hx hb dX6_readPoint_140 rfl ?_
                        exact hret _ _ _ _ _ _ (rp_good hT e5 (by first | (rw [if_pos (show sg = 1 by omega)]; exact hq137.1) | (rw [if_neg (show ¬ sg = 1 by omega)]; exact hq137.1)) hq137.2) X dX6_readPoint_141
                      ·
                        refine lv_iload_n hx hb dX6_readPoint_129 rfl (lv_at hl 1 rfl) ?_
                        refine g_ineg G dX6_readPoint_130 ?_
                        refine lv_goto (tgt := 135) hx hb dX6_readPoint_131 (by decide) ?_
                        refine lv_iload hx hb dX6_readPoint_135 (lv_at hl 0 rfl) ?_
                        refine g_callVv G X (rest := []) (As := [.int (iI (a1)), .int (iI ((-b1))), .int (iI (1))]) (t_X5_append l Y ((up σ 5 4 (q5 + 1))) (7) (acc) (a1) ((-b1)) (1) (by first | assumption | omega) (hA0 _) (by first | assumption | omega)) (cwV 3 hts gX6_readPoint_X5_append rfl rfl rfl (by decide +kernel) ⟨Nat.le_of_ble_eq_true rfl, Nat.le_of_ble_eq_true rfl⟩) (k := 7) (Nat.le_of_ble_eq_true rfl) rfl rfl rfl rfl hl.1 rfl (Nat.le_of_ble_eq_true rfl) dX6_readPoint_137 ⟨Nat.le_refl _, Nat.le_refl _⟩ (fun u137 H locs hq137 X => ?_)
                        refine lv_iconst (v := iI 1) hx hb dX6_readPoint_140 rfl ?_
                        exact hret _ _ _ _ _ _ (rp_good hT e5 (by first | (rw [if_pos (show sg = 1 by omega)]; exact hq137.1) | (rw [if_neg (show ¬ sg = 1 by omega)]; exact hq137.1)) hq137.2) X dX6_readPoint_141
                    ·
                      exact False.elim (by omega)
                  ·
                    refine g_topi (z' := 0) hz107 ?_
                    have e5 : pR1 tx p = .inl (4, -1) := by rw [e4]; exact if_neg hh107
                    have X := (show u107 = (up σ 5 4 q5) from hu107) ▸ X
                    refine g_if_ne (tgt := 120) G dX6_readPoint_110 (by decide) (by omega) (fun h110 => ?_) (fun h110 => ?_)
                    ·
                      exact False.elim (by omega)
                    ·
                      refine lv_aload_n hx hb dX6_readPoint_113 rfl (lv_at hl 4 rfl) ?_
                      refine lv_iconst (v := iI 4) hx hb dX6_readPoint_114 rfl ?_
                      refine lv_iconst (v := iI (-1)) hx hb dX6_readPoint_115 rfl ?_
                      refine g_callVi G X (rest := []) (As := [.int (iI (4)), .int (iI ((-1)))]) (t_X6_refuse l Y ((up σ 5 4 q5)) tx (4) ((-1)) (acc) (hT0 _) (by first | assumption | omega) (hA0 _) (by first | assumption | omega)) (cwV 2 hts gX6_readPoint_X6_refuse rfl rfl rfl (by decide +kernel) ⟨Nat.le_of_ble_eq_true rfl, Nat.le_of_ble_eq_true rfl⟩) (k := 5) (Nat.le_of_ble_eq_true rfl) rfl rfl rfl rfl hl.1 rfl (Nat.le_of_ble_eq_true rfl) dX6_readPoint_116 ⟨Nat.le_refl _, Nat.le_refl _⟩ (fun z116 u116 H locs hq116 X => ?_)
                      exact hret _ _ _ _ _ _ (rp_fail hT e5 hq116.1 hq116.2.1 hq116.2.2) X dX6_readPoint_119
                ·
                  exact False.elim (by omega)
            ·
              refine lv_aload_n hx hb dX6_readPoint_58 rfl (lv_at hl 3 rfl) ?_
              refine lv_iconst (v := iI 2) hx hb dX6_readPoint_59 rfl ?_
              refine lv_iload_n hx hb dX6_readPoint_60 rfl (lv_at hl 0 rfl) ?_
              refine g_callVi G X (rest := []) (As := [.int (iI (2)), .int (iI (b1))]) (t_X6_refuseNumber l Y ((up σ 5 4 b2)) tx (2) (b1) (acc) (hT0 _) (by first | assumption | omega) (hA0 _) (by first | assumption | omega)) (cwV 2 hts gX6_readPoint_X6_refuseNumber rfl rfl rfl (by decide +kernel) ⟨Nat.le_of_ble_eq_true rfl, Nat.le_of_ble_eq_true rfl⟩) (k := 5) (Nat.le_of_ble_eq_true rfl) rfl rfl rfl rfl hl.1 rfl (Nat.le_of_ble_eq_true rfl) dX6_readPoint_61 ⟨Nat.le_refl _, Nat.le_refl _⟩ (fun z61 u61 H locs hq61 X => ?_)
              exact hret _ _ _ _ _ _ (rp_fail hT (by rw [e2]; unfold pR3; rw [eb]; exact if_pos (show b1 = -1 by omega)) hq61.1 (by rw [if_pos (show b1 = -1 by omega)] at hq61; exact hq61.2.1) hq61.2.2) X dX6_readPoint_64
          ·
            obtain ⟨sg, hsg⟩ : ∃ sg : Int, sg = 0 := ⟨_, rfl⟩
            obtain ⟨q3, hq3⟩ : ∃ q3, q3 = a2 + 1 := ⟨_, rfl⟩
            refine g_topi (z' := sg) (by rw [hz43, hsg]) ?_
            have X := (show u43 = (up σ 5 4 q3) from (by rw [hu43, hq3])) ▸ X
            have e2 : pR1 tx p = pR3 tx a1 sg q3 := by rw [e1, hsg, hq3]; exact if_neg hh43
            have hsg2 : sg = 0 ∨ sg = 1 := Or.inl hsg
            have hq3r : 0 ≤ q3 ∧ q3 ≤ tx.length := by omega
            refine lv_istore_n (lv' := [(2, .int (iI (sg))), (1, .int (iI (a1))), (0, .ref (Y.2.1 (5)))]) hx hb dX6_readPoint_46 rfl hl (by decide) rfl (fun ls hl => ?_)
            obtain ⟨b1, b2, eb⟩ : ∃ b1 b2, rd tx 2 (-1) q3 = (b1, b2) := ⟨_, _, rfl⟩
            have rb := rd2_rg (tx := tx) hq3r.1 hq3r.2
            rw [eb] at rb
            dsimp only at rb
            refine lv_aload_n hx hb dX6_readPoint_47 rfl (lv_at hl 2 rfl) ?_
            refine lv_iconst (v := iI 2) hx hb dX6_readPoint_48 rfl ?_
            refine g_callVi G X (rest := []) (As := [.int (iI (2))]) (t_X6_readNumber l Y ((up σ 5 4 q3)) tx (2) (q3) (2) (hT0 _) (by first | assumption | omega) rfl (by first | assumption | omega) (by first | assumption | omega)) (cwV 1 hts gX6_readPoint_X6_readNumber rfl rfl rfl (by decide +kernel) ⟨Nat.le_of_ble_eq_true rfl, Nat.le_of_ble_eq_true rfl⟩) (k := 5) (Nat.le_of_ble_eq_true rfl) rfl rfl rfl rfl hl.1 rfl (Nat.le_of_ble_eq_true rfl) dX6_readPoint_49 ⟨Nat.le_refl _, Nat.le_refl _⟩ (fun z49 u49 H locs hq49 X => ?_)
            refine g_topi (z' := b1) (by rw [hq49.1, eb]) ?_
            have X := (show u49 = (up σ 5 4 b2) from (by rw [hq49.2, up_up, eb])) ▸ X
            refine lv_istore_n (lv' := [(3, .int (iI (b1))), (2, .int (iI (sg))), (1, .int (iI (a1))), (0, .ref (Y.2.1 (5)))]) hx hb dX6_readPoint_52 rfl hl (by decide) rfl (fun ls hl => ?_)
            refine lv_iload_n hx hb dX6_readPoint_53 rfl (lv_at hl 0 rfl) ?_
            refine lv_iconst (v := iI (-1)) hx hb dX6_readPoint_54 rfl ?_
            refine g_icmp_ne (tgt := 65) G dX6_readPoint_55 (by decide) (by omega) (by omega) (fun h55 => ?_) (fun h55 => ?_)
            ·
              refine lv_iconst (v := iI 1) hx hb dX6_readPoint_65 rfl ?_
              refine lv_istore (lv' := [(4, .int (iI (1))), (3, .int (iI (b1))), (2, .int (iI (sg))), (1, .int (iI (a1))), (0, .ref (Y.2.1 (5)))]) hx hb dX6_readPoint_66 hl (by decide) rfl (fun ls hl => ?_)
              refine lv_aload_n hx hb dX6_readPoint_68 rfl (lv_at hl 4 rfl) ?_
              refine lv_bipush (v := iI 42) hx hb dX6_readPoint_69 (by decide +kernel) ?_
              refine g_callVi G X (rest := []) (As := [.int (iI (42))]) (t_X6_passes l Y ((up σ 5 4 b2)) tx (42) (b2) (hT0 _) (by first | assumption | omega) rfl (by first | assumption | omega) (by first | assumption | omega)) (cwV 1 hts gX6_readPoint_X6_passes rfl rfl rfl (by decide +kernel) ⟨Nat.le_of_ble_eq_true rfl, Nat.le_of_ble_eq_true rfl⟩) (k := 5) (Nat.le_of_ble_eq_true rfl) rfl rfl rfl rfl hl.1 rfl (Nat.le_of_ble_eq_true rfl) dX6_readPoint_71 ⟨Nat.le_refl _, Nat.le_refl _⟩ (fun z71 u71 H locs hq71 X => ?_)
              rcases hq71 with ⟨hz71, hh71, hu71⟩ | ⟨hz71, hh71, hu71⟩
              ·
                refine g_topi (z' := 1) hz71 ?_
                have X := (show u71 = (up σ 5 4 (b2 + 1)) from (hu71.trans (up_up _ _ _ _ _))) ▸ X
                have e3 : pR1 tx p = pR4 tx a1 (if sg = 1 then -b1 else b1) (b2 + 1) := by rw [e2]; unfold pR3; rw [eb]; exact (if_neg (show ¬ (b1 = -1) by omega)).trans (if_pos hh71)
                obtain ⟨c1, c2, ec⟩ : ∃ c1 c2, rd tx 1 (-1) (b2 + 1) = (c1, c2) := ⟨_, _, rfl⟩
                have rc := rd1_rg (tx := tx) (p := b2 + 1) (by omega) (by omega)
                rw [ec] at rc
                dsimp only at rc
                refine g_if_eq (tgt := 104) G dX6_readPoint_74 (by decide) (by omega) (fun h74 => ?_) (fun h74 => ?_)
                ·
                  exact False.elim (by omega)
                ·
                  refine lv_aload_n hx hb dX6_readPoint_77 rfl (lv_at hl 4 rfl) ?_
                  refine lv_iconst (v := iI 1) hx hb dX6_readPoint_78 rfl ?_
                  refine g_callVi G X (rest := []) (As := [.int (iI (1))]) (t_X6_readNumber l Y ((up σ 5 4 (b2 + 1))) tx (1) ((b2 + 1)) (1) (hT0 _) (by first | assumption | omega) rfl (by first | assumption | omega) (by first | assumption | omega)) (cwV 1 hts gX6_readPoint_X6_readNumber rfl rfl rfl (by decide +kernel) ⟨Nat.le_of_ble_eq_true rfl, Nat.le_of_ble_eq_true rfl⟩) (k := 5) (Nat.le_of_ble_eq_true rfl) rfl rfl rfl rfl hl.1 rfl (Nat.le_of_ble_eq_true rfl) dX6_readPoint_79 ⟨Nat.le_refl _, Nat.le_refl _⟩ (fun z79 u79 H locs hq79 X => ?_)
                  refine g_topi (z' := c1) (by rw [hq79.1, ec]) ?_
                  have X := (show u79 = (up σ 5 4 c2) from (by rw [hq79.2, up_up, ec])) ▸ X
                  refine lv_istore (lv' := [(4, .int (iI (c1))), (3, .int (iI (b1))), (2, .int (iI (sg))), (1, .int (iI (a1))), (0, .ref (Y.2.1 (5)))]) hx hb dX6_readPoint_82 hl (by decide) rfl (fun ls hl => ?_)
                  refine lv_iload hx hb dX6_readPoint_84 (lv_at hl 0 rfl) ?_
                  refine lv_iconst (v := iI 1) hx hb dX6_readPoint_86 rfl ?_
                  refine g_icmp_lt (tgt := 96) G dX6_readPoint_87 (by decide) (by omega) (by omega) (fun h87 => ?_) (fun h87 => ?_)
                  ·
                    refine lv_aload_n hx hb dX6_readPoint_96 rfl (lv_at hl 4 rfl) ?_
                    refine lv_iconst (v := iI 3) hx hb dX6_readPoint_97 rfl ?_
                    refine lv_iload hx hb dX6_readPoint_98 (lv_at hl 0 rfl) ?_
                    refine g_callVi G X (rest := []) (As := [.int (iI (3)), .int (iI (c1))]) (t_X6_refuseNumber l Y ((up σ 5 4 c2)) tx (3) (c1) (acc) (hT0 _) (by first | assumption | omega) (hA0 _) (by first | assumption | omega)) (cwV 2 hts gX6_readPoint_X6_refuseNumber rfl rfl rfl (by decide +kernel) ⟨Nat.le_of_ble_eq_true rfl, Nat.le_of_ble_eq_true rfl⟩) (k := 5) (Nat.le_of_ble_eq_true rfl) rfl rfl rfl rfl hl.1 rfl (Nat.le_of_ble_eq_true rfl) dX6_readPoint_100 ⟨Nat.le_refl _, Nat.le_refl _⟩ (fun z100 u100 H locs hq100 X => ?_)
                    exact hret _ _ _ _ _ _ (rp_fail hT (by rw [e3]; unfold pR4; rw [ec]; exact if_pos (show c1 < 1 ∨ 2 < c1 by omega)) hq100.1 hq100.2.1 hq100.2.2) X dX6_readPoint_103
                  ·
                    refine lv_iload hx hb dX6_readPoint_90 (lv_at hl 0 rfl) ?_
                    refine lv_iconst (v := iI 2) hx hb dX6_readPoint_92 rfl ?_
                    refine g_icmp_le (tgt := 104) G dX6_readPoint_93 (by decide) (by omega) (by omega) (fun h93 => ?_) (fun h93 => ?_)
                    ·
                      have e4 : pR1 tx p = pR5 tx a1 (if sg = 1 then -b1 else b1) c1 c2 := by rw [e3]; unfold pR4; rw [ec]; exact if_neg (show ¬ (c1 < 1 ∨ 2 < c1) by omega)
                      obtain ⟨q5, hq5⟩ : ∃ q5, q5 = c2 := ⟨_, rfl⟩
                      have X := (show (up σ 5 4 c2) = (up σ 5 4 q5) from (by rw [hq5])) ▸ X
                      rw [← hq5] at e4
                      have hq5r : 0 ≤ q5 ∧ q5 ≤ tx.length := by omega
                      refine lv_aload_n hx hb dX6_readPoint_104 rfl (lv_at hl 4 rfl) ?_
                      refine lv_bipush (v := iI 59) hx hb dX6_readPoint_105 (by decide +kernel) ?_
                      refine g_callVi G X (rest := []) (As := [.int (iI (59))]) (t_X6_passes l Y ((up σ 5 4 q5)) tx (59) (q5) (hT0 _) (by first | assumption | omega) rfl (by first | assumption | omega) (by first | assumption | omega)) (cwV 1 hts gX6_readPoint_X6_passes rfl rfl rfl (by decide +kernel) ⟨Nat.le_of_ble_eq_true rfl, Nat.le_of_ble_eq_true rfl⟩) (k := 5) (Nat.le_of_ble_eq_true rfl) rfl rfl rfl rfl hl.1 rfl (Nat.le_of_ble_eq_true rfl) dX6_readPoint_107 ⟨Nat.le_refl _, Nat.le_refl _⟩ (fun z107 u107 H locs hq107 X => ?_)
                      rcases hq107 with ⟨hz107, hh107, hu107⟩ | ⟨hz107, hh107, hu107⟩
                      ·
                        refine g_topi (z' := 1) hz107 ?_
                        have e5 : pR1 tx p = .inr ((a1, (if sg = 1 then -b1 else b1), c1), q5 + 1) := by rw [e4]; exact if_pos hh107
                        have X := (show u107 = (up σ 5 4 (q5 + 1)) from (hu107.trans (up_up _ _ _ _ _))) ▸ X
                        refine g_if_ne (tgt := 120) G dX6_readPoint_110 (by decide) (by omega) (fun h110 => ?_) (fun h110 => ?_)
                        ·
                          refine lv_aload_n hx hb dX6_readPoint_120 rfl (lv_at hl 4 rfl) ?_
                          refine g_get G X (k := 5) (fs := fText Y) (Nat.le_of_ble_eq_true rfl) (fun _ => rfl) rfl in_X6 1 (by decide) l_f18 rfl (v := .ref (Y.2.1 (7))) rfl dX6_readPoint_121 ?_
                          refine lv_iload_n hx hb dX6_readPoint_124 rfl (lv_at hl 3 rfl) ?_
                          refine lv_iload_n hx hb dX6_readPoint_125 rfl (lv_at hl 2 rfl) ?_
                          refine g_if_eq (tgt := 134) G dX6_readPoint_126 (by decide) (by omega) (fun h126 => ?_) (fun h126 => ?_)
                          ·
                            refine lv_iload_n hx hb dX6_readPoint_134 rfl (lv_at hl 1 rfl) ?_
                            refine lv_iload hx hb dX6_readPoint_135 (lv_at hl 0 rfl) ?_
                            refine g_callVv G X (rest := []) (As := [.int (iI (a1)), .int (iI (b1)), .int (iI (c1))]) (t_X5_append l Y ((up σ 5 4 (q5 + 1))) (7) (acc) (a1) (b1) (c1) (by first | assumption | omega) (hA0 _) (by first | assumption | omega)) (cwV 3 hts gX6_readPoint_X5_append rfl rfl rfl (by decide +kernel) ⟨Nat.le_of_ble_eq_true rfl, Nat.le_of_ble_eq_true rfl⟩) (k := 7) (Nat.le_of_ble_eq_true rfl) rfl rfl rfl rfl hl.1 rfl (Nat.le_of_ble_eq_true rfl) dX6_readPoint_137 ⟨Nat.le_refl _, Nat.le_refl _⟩ (fun u137 H locs hq137 X => ?_)
                            refine lv_iconst (v := iI 1) hx hb dX6_readPoint_140 rfl ?_
                            exact hret _ _ _ _ _ _ (rp_good hT e5 (by first | (rw [if_pos (show sg = 1 by omega)]; exact hq137.1) | (rw [if_neg (show ¬ sg = 1 by omega)]; exact hq137.1)) hq137.2) X dX6_readPoint_141
                          ·
                            refine lv_iload_n hx hb dX6_readPoint_129 rfl (lv_at hl 1 rfl) ?_
                            refine g_ineg G dX6_readPoint_130 ?_
                            refine lv_goto (tgt := 135) hx hb dX6_readPoint_131 (by decide) ?_
                            refine lv_iload hx hb dX6_readPoint_135 (lv_at hl 0 rfl) ?_
                            refine g_callVv G X (rest := []) (As := [.int (iI (a1)), .int (iI ((-b1))), .int (iI (c1))]) (t_X5_append l Y ((up σ 5 4 (q5 + 1))) (7) (acc) (a1) ((-b1)) (c1) (by first | assumption | omega) (hA0 _) (by first | assumption | omega)) (cwV 3 hts gX6_readPoint_X5_append rfl rfl rfl (by decide +kernel) ⟨Nat.le_of_ble_eq_true rfl, Nat.le_of_ble_eq_true rfl⟩) (k := 7) (Nat.le_of_ble_eq_true rfl) rfl rfl rfl rfl hl.1 rfl (Nat.le_of_ble_eq_true rfl) dX6_readPoint_137 ⟨Nat.le_refl _, Nat.le_refl _⟩ (fun u137 H locs hq137 X => ?_)
                            refine lv_iconst (v := iI 1) hx hb dX6_readPoint_140 rfl ?_
                            exact hret _ _ _ _ _ _ (rp_good hT e5 (by first | (rw [if_pos (show sg = 1 by omega)]; exact hq137.1) | (rw [if_neg (show ¬ sg = 1 by omega)]; exact hq137.1)) hq137.2) X dX6_readPoint_141
                        ·
                          exact False.elim (by omega)
                      ·
                        refine g_topi (z' := 0) hz107 ?_
                        have e5 : pR1 tx p = .inl (4, -1) := by rw [e4]; exact if_neg hh107
                        have X := (show u107 = (up σ 5 4 q5) from hu107) ▸ X
                        refine g_if_ne (tgt := 120) G dX6_readPoint_110 (by decide) (by omega) (fun h110 => ?_) (fun h110 => ?_)
                        ·
                          exact False.elim (by omega)
                        ·
                          refine lv_aload_n hx hb dX6_readPoint_113 rfl (lv_at hl 4 rfl) ?_
                          refine lv_iconst (v := iI 4) hx hb dX6_readPoint_114 rfl ?_
                          refine lv_iconst (v := iI (-1)) hx hb dX6_readPoint_115 rfl ?_
                          refine g_callVi G X (rest := []) (As := [.int (iI (4)), .int (iI ((-1)))]) (t_X6_refuse l Y ((up σ 5 4 q5)) tx (4) ((-1)) (acc) (hT0 _) (by first | assumption | omega) (hA0 _) (by first | assumption | omega)) (cwV 2 hts gX6_readPoint_X6_refuse rfl rfl rfl (by decide +kernel) ⟨Nat.le_of_ble_eq_true rfl, Nat.le_of_ble_eq_true rfl⟩) (k := 5) (Nat.le_of_ble_eq_true rfl) rfl rfl rfl rfl hl.1 rfl (Nat.le_of_ble_eq_true rfl) dX6_readPoint_116 ⟨Nat.le_refl _, Nat.le_refl _⟩ (fun z116 u116 H locs hq116 X => ?_)
                          exact hret _ _ _ _ _ _ (rp_fail hT e5 hq116.1 hq116.2.1 hq116.2.2) X dX6_readPoint_119
                    ·
                      refine lv_aload_n hx hb dX6_readPoint_96 rfl (lv_at hl 4 rfl) ?_
                      refine lv_iconst (v := iI 3) hx hb dX6_readPoint_97 rfl ?_
                      refine lv_iload hx hb dX6_readPoint_98 (lv_at hl 0 rfl) ?_
                      refine g_callVi G X (rest := []) (As := [.int (iI (3)), .int (iI (c1))]) (t_X6_refuseNumber l Y ((up σ 5 4 c2)) tx (3) (c1) (acc) (hT0 _) (by first | assumption | omega) (hA0 _) (by first | assumption | omega)) (cwV 2 hts gX6_readPoint_X6_refuseNumber rfl rfl rfl (by decide +kernel) ⟨Nat.le_of_ble_eq_true rfl, Nat.le_of_ble_eq_true rfl⟩) (k := 5) (Nat.le_of_ble_eq_true rfl) rfl rfl rfl rfl hl.1 rfl (Nat.le_of_ble_eq_true rfl) dX6_readPoint_100 ⟨Nat.le_refl _, Nat.le_refl _⟩ (fun z100 u100 H locs hq100 X => ?_)
                      exact hret _ _ _ _ _ _ (rp_fail hT (by rw [e3]; unfold pR4; rw [ec]; exact if_pos (show c1 < 1 ∨ 2 < c1 by omega)) hq100.1 hq100.2.1 hq100.2.2) X dX6_readPoint_103
              ·
                refine g_topi (z' := 0) hz71 ?_
                have X := (show u71 = (up σ 5 4 b2) from hu71) ▸ X
                have e4 : pR1 tx p = pR5 tx a1 (if sg = 1 then -b1 else b1) 1 b2 := by rw [e2]; unfold pR3; rw [eb]; exact (if_neg (show ¬ (b1 = -1) by omega)).trans (if_neg hh71)
                refine g_if_eq (tgt := 104) G dX6_readPoint_74 (by decide) (by omega) (fun h74 => ?_) (fun h74 => ?_)
                ·
                  obtain ⟨q5, hq5⟩ : ∃ q5, q5 = b2 := ⟨_, rfl⟩
                  have X := (show (up σ 5 4 b2) = (up σ 5 4 q5) from (by rw [hq5])) ▸ X
                  rw [← hq5] at e4
                  have hq5r : 0 ≤ q5 ∧ q5 ≤ tx.length := by omega
                  refine lv_aload_n hx hb dX6_readPoint_104 rfl (lv_at hl 4 rfl) ?_
                  refine lv_bipush (v := iI 59) hx hb dX6_readPoint_105 (by decide +kernel) ?_
                  refine g_callVi G X (rest := []) (As := [.int (iI (59))]) (t_X6_passes l Y ((up σ 5 4 q5)) tx (59) (q5) (hT0 _) (by first | assumption | omega) rfl (by first | assumption | omega) (by first | assumption | omega)) (cwV 1 hts gX6_readPoint_X6_passes rfl rfl rfl (by decide +kernel) ⟨Nat.le_of_ble_eq_true rfl, Nat.le_of_ble_eq_true rfl⟩) (k := 5) (Nat.le_of_ble_eq_true rfl) rfl rfl rfl rfl hl.1 rfl (Nat.le_of_ble_eq_true rfl) dX6_readPoint_107 ⟨Nat.le_refl _, Nat.le_refl _⟩ (fun z107 u107 H locs hq107 X => ?_)
                  rcases hq107 with ⟨hz107, hh107, hu107⟩ | ⟨hz107, hh107, hu107⟩
                  ·
                    refine g_topi (z' := 1) hz107 ?_
                    have e5 : pR1 tx p = .inr ((a1, (if sg = 1 then -b1 else b1), 1), q5 + 1) := by rw [e4]; exact if_pos hh107
                    have X := (show u107 = (up σ 5 4 (q5 + 1)) from (hu107.trans (up_up _ _ _ _ _))) ▸ X
                    refine g_if_ne (tgt := 120) G dX6_readPoint_110 (by decide) (by omega) (fun h110 => ?_) (fun h110 => ?_)
                    ·
                      refine lv_aload_n hx hb dX6_readPoint_120 rfl (lv_at hl 4 rfl) ?_
                      refine g_get G X (k := 5) (fs := fText Y) (Nat.le_of_ble_eq_true rfl) (fun _ => rfl) rfl in_X6 1 (by decide) l_f18 rfl (v := .ref (Y.2.1 (7))) rfl dX6_readPoint_121 ?_
                      refine lv_iload_n hx hb dX6_readPoint_124 rfl (lv_at hl 3 rfl) ?_
                      refine lv_iload_n hx hb dX6_readPoint_125 rfl (lv_at hl 2 rfl) ?_
                      refine g_if_eq (tgt := 134) G dX6_readPoint_126 (by decide) (by omega) (fun h126 => ?_) (fun h126 => ?_)
                      ·
                        refine lv_iload_n hx hb dX6_readPoint_134 rfl (lv_at hl 1 rfl) ?_
                        refine lv_iload hx hb dX6_readPoint_135 (lv_at hl 0 rfl) ?_
                        refine g_callVv G X (rest := []) (As := [.int (iI (a1)), .int (iI (b1)), .int (iI (1))]) (t_X5_append l Y ((up σ 5 4 (q5 + 1))) (7) (acc) (a1) (b1) (1) (by first | assumption | omega) (hA0 _) (by first | assumption | omega)) (cwV 3 hts gX6_readPoint_X5_append rfl rfl rfl (by decide +kernel) ⟨Nat.le_of_ble_eq_true rfl, Nat.le_of_ble_eq_true rfl⟩) (k := 7) (Nat.le_of_ble_eq_true rfl) rfl rfl rfl rfl hl.1 rfl (Nat.le_of_ble_eq_true rfl) dX6_readPoint_137 ⟨Nat.le_refl _, Nat.le_refl _⟩ (fun u137 H locs hq137 X => ?_)
                        refine lv_iconst (v := iI 1) hx hb dX6_readPoint_140 rfl ?_
                        exact hret _ _ _ _ _ _ (rp_good hT e5 (by first | (rw [if_pos (show sg = 1 by omega)]; exact hq137.1) | (rw [if_neg (show ¬ sg = 1 by omega)]; exact hq137.1)) hq137.2) X dX6_readPoint_141
                      ·
                        refine lv_iload_n hx hb dX6_readPoint_129 rfl (lv_at hl 1 rfl) ?_
                        refine g_ineg G dX6_readPoint_130 ?_
                        refine lv_goto (tgt := 135) hx hb dX6_readPoint_131 (by decide) ?_
                        refine lv_iload hx hb dX6_readPoint_135 (lv_at hl 0 rfl) ?_
                        refine g_callVv G X (rest := []) (As := [.int (iI (a1)), .int (iI ((-b1))), .int (iI (1))]) (t_X5_append l Y ((up σ 5 4 (q5 + 1))) (7) (acc) (a1) ((-b1)) (1) (by first | assumption | omega) (hA0 _) (by first | assumption | omega)) (cwV 3 hts gX6_readPoint_X5_append rfl rfl rfl (by decide +kernel) ⟨Nat.le_of_ble_eq_true rfl, Nat.le_of_ble_eq_true rfl⟩) (k := 7) (Nat.le_of_ble_eq_true rfl) rfl rfl rfl rfl hl.1 rfl (Nat.le_of_ble_eq_true rfl) dX6_readPoint_137 ⟨Nat.le_refl _, Nat.le_refl _⟩ (fun u137 H locs hq137 X => ?_)
                        refine lv_iconst (v := iI 1) hx hb dX6_readPoint_140 rfl ?_
                        exact hret _ _ _ _ _ _ (rp_good hT e5 (by first | (rw [if_pos (show sg = 1 by omega)]; exact hq137.1) | (rw [if_neg (show ¬ sg = 1 by omega)]; exact hq137.1)) hq137.2) X dX6_readPoint_141
                    ·
                      exact False.elim (by omega)
                  ·
                    refine g_topi (z' := 0) hz107 ?_
                    have e5 : pR1 tx p = .inl (4, -1) := by rw [e4]; exact if_neg hh107
                    have X := (show u107 = (up σ 5 4 q5) from hu107) ▸ X
                    refine g_if_ne (tgt := 120) G dX6_readPoint_110 (by decide) (by omega) (fun h110 => ?_) (fun h110 => ?_)
                    ·
                      exact False.elim (by omega)
                    ·
                      refine lv_aload_n hx hb dX6_readPoint_113 rfl (lv_at hl 4 rfl) ?_
                      refine lv_iconst (v := iI 4) hx hb dX6_readPoint_114 rfl ?_
                      refine lv_iconst (v := iI (-1)) hx hb dX6_readPoint_115 rfl ?_
                      refine g_callVi G X (rest := []) (As := [.int (iI (4)), .int (iI ((-1)))]) (t_X6_refuse l Y ((up σ 5 4 q5)) tx (4) ((-1)) (acc) (hT0 _) (by first | assumption | omega) (hA0 _) (by first | assumption | omega)) (cwV 2 hts gX6_readPoint_X6_refuse rfl rfl rfl (by decide +kernel) ⟨Nat.le_of_ble_eq_true rfl, Nat.le_of_ble_eq_true rfl⟩) (k := 5) (Nat.le_of_ble_eq_true rfl) rfl rfl rfl rfl hl.1 rfl (Nat.le_of_ble_eq_true rfl) dX6_readPoint_116 ⟨Nat.le_refl _, Nat.le_refl _⟩ (fun z116 u116 H locs hq116 X => ?_)
                      exact hret _ _ _ _ _ _ (rp_fail hT e5 hq116.1 hq116.2.1 hq116.2.2) X dX6_readPoint_119
                ·
                  exact False.elim (by omega)
            ·
              refine lv_aload_n hx hb dX6_readPoint_58 rfl (lv_at hl 3 rfl) ?_
              refine lv_iconst (v := iI 2) hx hb dX6_readPoint_59 rfl ?_
              refine lv_iload_n hx hb dX6_readPoint_60 rfl (lv_at hl 0 rfl) ?_
              refine g_callVi G X (rest := []) (As := [.int (iI (2)), .int (iI (b1))]) (t_X6_refuseNumber l Y ((up σ 5 4 b2)) tx (2) (b1) (acc) (hT0 _) (by first | assumption | omega) (hA0 _) (by first | assumption | omega)) (cwV 2 hts gX6_readPoint_X6_refuseNumber rfl rfl rfl (by decide +kernel) ⟨Nat.le_of_ble_eq_true rfl, Nat.le_of_ble_eq_true rfl⟩) (k := 5) (Nat.le_of_ble_eq_true rfl) rfl rfl rfl rfl hl.1 rfl (Nat.le_of_ble_eq_true rfl) dX6_readPoint_61 ⟨Nat.le_refl _, Nat.le_refl _⟩ (fun z61 u61 H locs hq61 X => ?_)
              exact hret _ _ _ _ _ _ (rp_fail hT (by rw [e2]; unfold pR3; rw [eb]; exact if_pos (show b1 = -1 by omega)) hq61.1 (by rw [if_pos (show b1 = -1 by omega)] at hq61; exact hq61.2.1) hq61.2.2) X dX6_readPoint_64
        ·
          exact False.elim (by omega)
      ·
        refine g_topi (z' := 0) hz27 ?_
        have X := (show u27 = (up σ 5 4 a2) from hu27) ▸ X
        have e1 : pR1 tx p = .inl (4, -1) := by unfold pR1; rw [ea]; exact (if_neg (show ¬ (a1 = -1 ∨ 40 < a1) by omega)).trans (if_neg hh27)
        refine g_if_ne (tgt := 40) G dX6_readPoint_30 (by decide) (by omega) (fun h30 => ?_) (fun h30 => ?_)
        ·
          exact False.elim (by omega)
        ·
          refine lv_aload_n hx hb dX6_readPoint_33 rfl (lv_at hl 1 rfl) ?_
          refine lv_iconst (v := iI 4) hx hb dX6_readPoint_34 rfl ?_
          refine lv_iconst (v := iI (-1)) hx hb dX6_readPoint_35 rfl ?_
          refine g_callVi G X (rest := []) (As := [.int (iI (4)), .int (iI ((-1)))]) (t_X6_refuse l Y ((up σ 5 4 a2)) tx (4) ((-1)) (acc) (hT0 _) (by first | assumption | omega) (hA0 _) (by first | assumption | omega)) (cwV 2 hts gX6_readPoint_X6_refuse rfl rfl rfl (by decide +kernel) ⟨Nat.le_of_ble_eq_true rfl, Nat.le_of_ble_eq_true rfl⟩) (k := 5) (Nat.le_of_ble_eq_true rfl) rfl rfl rfl rfl hl.1 rfl (Nat.le_of_ble_eq_true rfl) dX6_readPoint_36 ⟨Nat.le_refl _, Nat.le_refl _⟩ (fun z36 u36 H locs hq36 X => ?_)
          exact hret _ _ _ _ _ _ (rp_fail hT e1 hq36.1 hq36.2.1 hq36.2.2) X dX6_readPoint_39
    ·
      refine lv_aload_n hx hb dX6_readPoint_17 rfl (lv_at hl 1 rfl) ?_
      refine lv_iconst (v := iI 1) hx hb dX6_readPoint_18 rfl ?_
      refine lv_iload_n hx hb dX6_readPoint_19 rfl (lv_at hl 0 rfl) ?_
      refine g_callVi G X (rest := []) (As := [.int (iI (1)), .int (iI (a1))]) (t_X6_refuseNumber l Y ((up σ 5 4 a2)) tx (1) (a1) (acc) (hT0 _) (by first | assumption | omega) (hA0 _) (by first | assumption | omega)) (cwV 2 hts gX6_readPoint_X6_refuseNumber rfl rfl rfl (by decide +kernel) ⟨Nat.le_of_ble_eq_true rfl, Nat.le_of_ble_eq_true rfl⟩) (k := 5) (Nat.le_of_ble_eq_true rfl) rfl rfl rfl rfl hl.1 rfl (Nat.le_of_ble_eq_true rfl) dX6_readPoint_20 ⟨Nat.le_refl _, Nat.le_refl _⟩ (fun z20 u20 H locs hq20 X => ?_)
      exact hret _ _ _ _ _ _ (rp_fail hT (by unfold pR1; rw [ea]; exact if_pos (show a1 = -1 ∨ 40 < a1 by omega)) hq20.1 hq20.2.1 hq20.2.2) X dX6_readPoint_23

set_option maxHeartbeats 4000000 in
set_option maxRecDepth 100000 in
theorem t_X6_examine (l : Launch) (Y : Yt) (σ : Mem) (tx : List Int) (hT : TextIs σ tx) (hok : txOk tx) : MXi l LX Y yX6_examine wsX6_examine { frames := 4, cells := 0, slots := 0, locals := 88 } [.ref (Y.2.1 (5))] σ (fun z u => z = (exam tx 12 [] 0).1 ∧ ChainIs u (exam tx 12 [] 0).2.1 ∧ ((exam tx 12 [] 0).1 = -1 → RowIs u 7 (exam tx 12 [] 0).2.2) ∧ TextIs u tx ∧ SameX σ u) := by
  have hT1 := hT.1
  have hT2 := hT.2
  have hok1 := hok.1
  have hr7 : isRow Y 7 := isRow_of Y (by omega)
  refine g_starti (rty := .int) (fun _ _ _ => rfl) (cc := cX6_examine) (nL := 3) (own := RX6) (by decide) rfl rfl (Nat.le_of_ble_eq_true rfl) ?_
  intro pp ee ss mm bw mt cd AA ZZ ls G hret X hl
  have hl : lv_has ls 3 [(0, .ref (Y.2.1 (5)))] := hl
  have hx := G.1
  have hb := G.2.1
  have hts := G.2.2.2.2.1
  have l_f18 := hts (.fieldLink RX6 18 "ShapeFits$PointText" "found" "LShapeFits$PointRow;") (List.mem_of_getElem? (i := 1) rfl)
  have l_f26 := hts (.fieldLink RX6 26 "ShapeFits$PointText" "length" "I") (List.mem_of_getElem? (i := 4) rfl)
  have l_f30 := hts (.fieldLink RX6 30 "ShapeFits$PointText" "chainLength" "I") (List.mem_of_getElem? (i := 2) rfl)
  have l_f40 := hts (.fieldLink RX6 40 "ShapeFits$PointText" "place" "I") (List.mem_of_getElem? (i := 3) rfl)
  have in_X6 : ∀ w ∈ u_ws RX6 TX6 6, w ∈ wsX6_examine := by decide +kernel
  refine lv_aload_n hx hb dX6_examine_0 rfl (lv_at hl 0 rfl) ?_
  refine g_get G X (k := 5) (fs := fText Y) (Nat.le_of_ble_eq_true rfl) (fun _ => rfl) rfl in_X6 1 (by decide) l_f18 rfl (v := .ref (Y.2.1 (7))) rfl dX6_examine_1 ?_
  refine g_callVv G X (rest := []) (As := []) (t_X5_empty l Y (σ) (7) (by first | assumption | omega)) (cwV 0 hts gX6_examine_X5_empty rfl rfl rfl (by decide +kernel) ⟨Nat.le_of_ble_eq_true rfl, Nat.le_of_ble_eq_true rfl⟩) (k := 7) (Nat.le_of_ble_eq_true rfl) rfl rfl rfl rfl hl.1 rfl (Nat.le_of_ble_eq_true rfl) dX6_examine_4 ⟨Nat.le_refl _, Nat.le_refl _⟩ (fun u4 H locs hq4 X => ?_)
  refine lv_aload_n hx hb dX6_examine_7 rfl (lv_at hl 0 rfl) ?_
  refine lv_iconst (v := iI 0) hx hb dX6_examine_8 rfl ?_
  refine g_puti G X (k := 5) (fs := fText Y) (z := 0) (Nat.le_of_ble_eq_true rfl) (fun _ => rfl) rfl in_X6 tyX6 tyX6_ok nmX6 5 5 (by decide) l_f30 rfl rfl (by decide +kernel) (Nat.le_of_ble_eq_true rfl) (fun _ => rfl) dX6_examine_9 (fun H locs X => ?_)
  refine lv_aload_n hx hb dX6_examine_12 rfl (lv_at hl 0 rfl) ?_
  refine lv_iconst (v := iI 0) hx hb dX6_examine_13 rfl ?_
  refine g_puti G X (k := 5) (fs := fText Y) (z := 0) (Nat.le_of_ble_eq_true rfl) (fun _ => rfl) rfl in_X6 tyX6 tyX6_ok nmX6 4 4 (by decide) l_f40 rfl rfl (by decide +kernel) (Nat.le_of_ble_eq_true rfl) (fun _ => rfl) dX6_examine_14 (fun H locs X => ?_)
  refine lv_iconst (v := iI 0) hx hb dX6_examine_17 rfl ?_
  refine lv_istore_n (lv' := [(1, .int (iI (0))), (0, .ref (Y.2.1 (5)))]) hx hb dX6_examine_18 rfl hl (by decide) rfl (fun ls hl => ?_)
  have lp_19 : ∀ (nn : Nat) (pt p : Int) (acc : List Pt) (τ : Mem), ∀ hpt : pt = acc.length ∧ pt ≤ 12, ∀ hp : 0 ≤ p ∧ p ≤ tx.length, ∀ hE : exam tx 12 [] 0 = exam tx (12 - pt).toNat acc p, ∀ hI : τ 5 4 = p ∧ τ 5 5 = 0 ∧ RowIs τ 7 acc ∧ TextIs τ tx ∧ SameX σ τ, ∀ hdec : (12 - pt) < (nn : Int), ∀ (H : Heap) (locs : List Loc) (ls : Array Slot), wx LX Y τ ss AA H locs → lv_has ls 3 [(0, .ref (Y.2.1 (5))), (1, .int (iI (pt)))] → W pp l ee { frames := 4, cells := 0, slots := 0, locals := 88 } ss mm ([.ref (Y.2.1 (5))] : List Value).toArray bw mt cd H locs 0 0 ZZ (F0 mm 19 ls []) := by
    intro nn
    induction nn with
    | zero =>
      intro pt p acc τ hpt hp hE hI hdec
      exact absurd hdec (by omega)
    | succ nn ih_19 =>
      intro pt p acc τ hpt hp hE hI hdec H locs ls X hl
      obtain ⟨hI1, hI2, hI3, hI4, hI5⟩ := id hI
      have hTl := hI4.1
      refine lv_iload_n hx hb dX6_examine_19 rfl (lv_at hl 1 rfl) ?_
      refine lv_bipush (v := iI 12) hx hb dX6_examine_20 (by decide +kernel) ?_
      refine g_icmp_ge (tgt := 56) G dX6_examine_22 (by decide) (by omega) (by omega) (fun h22 => ?_) (fun h22 => ?_)
      ·
        refine lv_aload_n hx hb dX6_examine_56 rfl (lv_at hl 0 rfl) ?_
        refine g_get G X (k := 5) (fs := fText Y) (Nat.le_of_ble_eq_true rfl) (fun _ => rfl) rfl in_X6 4 (by decide) l_f40 rfl (v := .int (iI ((τ 5 4)))) rfl dX6_examine_57 ?_
        refine lv_aload_n hx hb dX6_examine_60 rfl (lv_at hl 0 rfl) ?_
        refine g_get G X (k := 5) (fs := fText Y) (Nat.le_of_ble_eq_true rfl) (fun _ => rfl) rfl in_X6 3 (by decide) l_f26 rfl (v := .int (iI ((τ 5 3)))) rfl dX6_examine_61 ?_
        refine g_icmp_ge (tgt := 79) G dX6_examine_64 (by decide) (by omega) (by omega) (fun h64 => ?_) (fun h64 => ?_)
        ·
          refine lv_iconst (v := iI (-1)) hx hb dX6_examine_79 rfl ?_
          exact hret _ _ _ _ _ _ ((by have e : exam tx 12 [] 0 = (-1, [], acc) := by { rw [hE]; exact exam_end (by omega) }; rw [e]; exact ⟨rfl, ⟨hI2, fun i a b => by simp at b; omega⟩, fun _ => hI3, hI4, hI5⟩)) X dX6_examine_80
        ·
          refine lv_aload_n hx hb dX6_examine_67 rfl (lv_at hl 0 rfl) ?_
          refine lv_iconst (v := iI 5) hx hb dX6_examine_68 rfl ?_
          refine lv_iconst (v := iI (-1)) hx hb dX6_examine_69 rfl ?_
          refine g_callVi G X (rest := []) (As := [.int (iI (5)), .int (iI ((-1)))]) (t_X6_refuse l Y (τ) tx (5) ((-1)) (acc) (by first | assumption | omega) (by first | assumption | omega) hI3 (by first | assumption | omega)) (cwV 2 hts gX6_examine_X6_refuse rfl rfl rfl (by decide +kernel) ⟨Nat.le_of_ble_eq_true rfl, Nat.le_of_ble_eq_true rfl⟩) (k := 5) (Nat.le_of_ble_eq_true rfl) rfl rfl rfl rfl hl.1 rfl (Nat.le_of_ble_eq_true rfl) dX6_examine_70 ⟨Nat.le_refl _, Nat.le_refl _⟩ (fun z70 u70 H locs hq70 X => ?_)
          refine lv_pop hx hb dX6_examine_73 rfl ?_
          refine lv_aload_n hx hb dX6_examine_74 rfl (lv_at hl 0 rfl) ?_
          refine g_get G X (k := 5) (fs := fText Y) (Nat.le_of_ble_eq_true rfl) (fun _ => rfl) rfl in_X6 4 (by decide) l_f40 rfl (v := .int (iI ((u70 5 4)))) rfl dX6_examine_75 ?_
          exact hret _ _ _ _ _ _ ((by have e : exam tx 12 [] 0 = (p, chn acc.length 5 (-1), acc) := by { rw [hE, show (12 - pt).toNat = 0 by omega]; exact exam_12 (by omega) }; rw [e]; exact ⟨(rf_54 hq70.2.2).trans hI1 , hq70.2.1, fun q => absurd q (show ¬ p = -1 by omega), hI4.eq hq70.2.2.2.1 (hq70.2.2.1 6 (by omega) (by omega)), fun a ha => (hq70.2.2.1 a (by omega) (by omega)).trans (hI5 a ha)⟩)) X dX6_examine_78
      ·
        refine lv_aload_n hx hb dX6_examine_25 rfl (lv_at hl 0 rfl) ?_
        refine g_get G X (k := 5) (fs := fText Y) (Nat.le_of_ble_eq_true rfl) (fun _ => rfl) rfl in_X6 4 (by decide) l_f40 rfl (v := .int (iI ((τ 5 4)))) rfl dX6_examine_26 ?_
        refine lv_aload_n hx hb dX6_examine_29 rfl (lv_at hl 0 rfl) ?_
        refine g_get G X (k := 5) (fs := fText Y) (Nat.le_of_ble_eq_true rfl) (fun _ => rfl) rfl in_X6 3 (by decide) l_f26 rfl (v := .int (iI ((τ 5 3)))) rfl dX6_examine_30 ?_
        refine g_icmp_ge (tgt := 56) G dX6_examine_33 (by decide) (by omega) (by omega) (fun h33 => ?_) (fun h33 => ?_)
        ·
          refine lv_aload_n hx hb dX6_examine_56 rfl (lv_at hl 0 rfl) ?_
          refine g_get G X (k := 5) (fs := fText Y) (Nat.le_of_ble_eq_true rfl) (fun _ => rfl) rfl in_X6 4 (by decide) l_f40 rfl (v := .int (iI ((τ 5 4)))) rfl dX6_examine_57 ?_
          refine lv_aload_n hx hb dX6_examine_60 rfl (lv_at hl 0 rfl) ?_
          refine g_get G X (k := 5) (fs := fText Y) (Nat.le_of_ble_eq_true rfl) (fun _ => rfl) rfl in_X6 3 (by decide) l_f26 rfl (v := .int (iI ((τ 5 3)))) rfl dX6_examine_61 ?_
          refine g_icmp_ge (tgt := 79) G dX6_examine_64 (by decide) (by omega) (by omega) (fun h64 => ?_) (fun h64 => ?_)
          ·
            refine lv_iconst (v := iI (-1)) hx hb dX6_examine_79 rfl ?_
            exact hret _ _ _ _ _ _ ((by have e : exam tx 12 [] 0 = (-1, [], acc) := by { rw [hE]; exact exam_end (by omega) }; rw [e]; exact ⟨rfl, ⟨hI2, fun i a b => by simp at b; omega⟩, fun _ => hI3, hI4, hI5⟩)) X dX6_examine_80
          ·
            refine lv_aload_n hx hb dX6_examine_67 rfl (lv_at hl 0 rfl) ?_
            refine lv_iconst (v := iI 5) hx hb dX6_examine_68 rfl ?_
            refine lv_iconst (v := iI (-1)) hx hb dX6_examine_69 rfl ?_
            refine g_callVi G X (rest := []) (As := [.int (iI (5)), .int (iI ((-1)))]) (t_X6_refuse l Y (τ) tx (5) ((-1)) (acc) (by first | assumption | omega) (by first | assumption | omega) hI3 (by first | assumption | omega)) (cwV 2 hts gX6_examine_X6_refuse rfl rfl rfl (by decide +kernel) ⟨Nat.le_of_ble_eq_true rfl, Nat.le_of_ble_eq_true rfl⟩) (k := 5) (Nat.le_of_ble_eq_true rfl) rfl rfl rfl rfl hl.1 rfl (Nat.le_of_ble_eq_true rfl) dX6_examine_70 ⟨Nat.le_refl _, Nat.le_refl _⟩ (fun z70 u70 H locs hq70 X => ?_)
            refine lv_pop hx hb dX6_examine_73 rfl ?_
            refine lv_aload_n hx hb dX6_examine_74 rfl (lv_at hl 0 rfl) ?_
            refine g_get G X (k := 5) (fs := fText Y) (Nat.le_of_ble_eq_true rfl) (fun _ => rfl) rfl in_X6 4 (by decide) l_f40 rfl (v := .int (iI ((u70 5 4)))) rfl dX6_examine_75 ?_
            exact hret _ _ _ _ _ _ ((by have e : exam tx 12 [] 0 = (p, chn acc.length 5 (-1), acc) := by { rw [hE, show (12 - pt).toNat = 0 by omega]; exact exam_12 (by omega) }; rw [e]; exact ⟨(rf_54 hq70.2.2).trans hI1 , hq70.2.1, fun q => absurd q (show ¬ p = -1 by omega), hI4.eq hq70.2.2.2.1 (hq70.2.2.1 6 (by omega) (by omega)), fun a ha => (hq70.2.2.1 a (by omega) (by omega)).trans (hI5 a ha)⟩)) X dX6_examine_78
        ·
          refine lv_aload_n hx hb dX6_examine_36 rfl (lv_at hl 0 rfl) ?_
          refine g_get G X (k := 5) (fs := fText Y) (Nat.le_of_ble_eq_true rfl) (fun _ => rfl) rfl in_X6 4 (by decide) l_f40 rfl (v := .int (iI ((τ 5 4)))) rfl dX6_examine_37 ?_
          refine lv_istore_n (lv' := [(2, .int (iI ((τ 5 4)))), (0, .ref (Y.2.1 (5))), (1, .int (iI (pt)))]) hx hb dX6_examine_40 rfl hl (by decide) rfl (fun ls hl => ?_)
          refine lv_aload_n hx hb dX6_examine_41 rfl (lv_at hl 1 rfl) ?_
          refine g_callVi G X (rest := []) (As := []) (t_X6_readPoint l Y (τ) tx (p) (acc) (by first | assumption | omega) (by first | assumption | omega) (by first | assumption | omega) (by first | assumption | omega) hI3 (by omega)) (cwV 0 hts gX6_examine_X6_readPoint rfl rfl rfl (by decide +kernel) ⟨Nat.le_of_ble_eq_true rfl, Nat.le_of_ble_eq_true rfl⟩) (k := 5) (Nat.le_of_ble_eq_true rfl) rfl rfl rfl rfl hl.1 rfl (Nat.le_of_ble_eq_true rfl) dX6_examine_42 ⟨Nat.le_refl _, Nat.le_refl _⟩ (fun z42 u42 H locs hq42 X => ?_)
          rcases hq42.1 with ⟨d, hr, hz, hC⟩ | ⟨rr, hr, hz, hRr, h54, h55⟩
          ·
            refine g_topi (z' := 0) hz ?_
            refine g_if_ne (tgt := 50) G dX6_examine_45 (by decide) (by omega) (fun h45 => ?_) (fun h45 => ?_)
            ·
              exact False.elim (by omega)
            ·
              refine lv_iload_n hx hb dX6_examine_48 rfl (lv_at hl 0 rfl) ?_
              exact hret _ _ _ _ _ _ ((by have e : exam tx 12 [] 0 = (p, chn acc.length d.1 d.2, acc) := by { rw [hE, show (12 - pt).toNat = (12 - (pt + 1)).toNat + 1 by omega]; exact exam_l (by omega) hr }; rw [e]; exact ⟨hI1, hC, fun q => absurd q (show ¬ p = -1 by omega), hq42.2.1, fun a ha => (hq42.2.2 a ha).trans (hI5 a ha)⟩)) X dX6_examine_49
          ·
            refine g_topi (z' := 1) hz ?_
            have hrok := pR1_ok hp hr
            have hpt2 : pt + 1 = ((acc ++ [rr.1]).length : Int) ∧ pt + 1 ≤ 12 := by rw [List.length_append, List.length_singleton]; omega
            have hp2 : 0 ≤ rr.2 ∧ rr.2 ≤ tx.length := hrok.2
            have hE2 : exam tx 12 [] 0 = exam tx (12 - (pt + 1)).toNat (acc ++ [rr.1]) rr.2 := by rw [hE, show (12 - pt).toNat = (12 - (pt + 1)).toNat + 1 by omega]; exact exam_r (by omega) hr
            have hI2 : u42 5 4 = rr.2 ∧ u42 5 5 = 0 ∧ RowIs u42 7 (acc ++ [rr.1]) ∧ TextIs u42 tx ∧ SameX σ u42 := ⟨h54, by rw [h55]; exact hI2, hRr, hq42.2.1, fun a ha => (hq42.2.2 a ha).trans (hI5 a ha)⟩
            refine g_if_ne (tgt := 50) G dX6_examine_45 (by decide) (by omega) (fun h45 => ?_) (fun h45 => ?_)
            ·
              refine lv_iinc (v := iI (pt + 1)) (lv' := [(1, .int (iI ((pt + 1)))), (2, .int (iI ((τ 5 4)))), (0, .ref (Y.2.1 (5)))]) hx hb dX6_examine_50 hl (k := 2) rfl (iI_add _ _) (by decide) rfl (fun ls hl => ?_)
              refine lv_goto (tgt := 19) hx hb dX6_examine_53 (by decide) ?_
              exact ih_19 ((pt + 1)) (rr.2) (acc ++ [rr.1]) (u42) hpt2 hp2 hE2 hI2 (by omega) _ _ _ X (lv_sub hl [2, 0] rfl)
            ·
              exact False.elim (by omega)
  exact lp_19 ((((12 - (0)) : Int).toNat + 1)) (0) (0) ([]) ((up (up u4 5 5 0) 5 4 0)) (by simp) (by omega) rfl (exam_0 hT hq4.1 hq4.2) (by omega) _ _ _ X (lv_sub hl [1, 0] rfl)

