set_option maxHeartbeats 4000000 in
set_option maxRecDepth 100000 in
theorem t_X1_size (l : Launch) (Y : Yt) (σ : Mem) (n : Int) (Xf : Int → Int) (Cf : Int → Int) (Wf : Int → Int) (Mf : Int → Int) (q : Int) (hT : Tb σ n Xf Cf Wf Mf q) (hPf : Prof n Xf Wf Mf) : MXi l LX Y yX1_size wsX1_size { frames := 0, cells := 0, slots := 0, locals := 0 } [.ref (Y.2.1 (38))] σ (fun z u => u = σ ∧ (z = n)) := by
  obtain ⟨⟨hn0, hn12, hW0, hM0, hW24⟩, hstep, hXa, hXr⟩ := id hPf
  obtain ⟨hTn, hTq, hTx, hTw⟩ := id hT
  refine g_starti (rty := .int) (fun _ _ _ => rfl) (cc := cX1_size) (nL := 1) (own := RX1) (by decide) rfl rfl (Nat.le_of_ble_eq_true rfl) ?_
  intro pp ee ss mm bw mt cd AA ZZ ls G hret X hl
  have hl : lv_has ls 1 [(0, .ref (Y.2.1 (38)))] := hl
  have hx := G.1
  have hb := G.2.1
  have hts := G.2.2.2.2.1
  have l_f24 := hts (.fieldLink RX1 24 "ShapeFits$GroupTable" "count" "I") (List.mem_of_getElem? (i := 1) rfl)
  have in_X1 : ∀ w ∈ u_ws RX1 TX1 6, w ∈ wsX1_size := by decide +kernel
  refine lv_aload_n hx hb dX1_size_0 rfl (lv_at hl 0 rfl) ?_
  refine g_get G X (k := 38) (fs := fTab Y) (Nat.le_of_ble_eq_true rfl) (fun _ => rfl) rfl in_X1 4 (by decide) l_f24 rfl (v := .int (iI ((σ 38 4)))) rfl dX1_size_1 ?_
  exact hret _ _ _ _ _ _ (⟨rfl, by omega⟩) X dX1_size_4

set_option maxHeartbeats 4000000 in
set_option maxRecDepth 100000 in
theorem t_X1_has (l : Launch) (Y : Yt) (σ : Mem) (n : Int) (Xf : Int → Int) (Cf : Int → Int) (Wf : Int → Int) (Mf : Int → Int) (q : Int) (x : Int) (hT : Tb σ n Xf Cf Wf Mf q) (hPf : Prof n Xf Wf Mf) (hx0 : -2147483648 ≤ x ∧ x ≤ 2147483647) : MXi l LX Y yX1_has wsX1_has { frames := 0, cells := 0, slots := 0, locals := 0 } [.ref (Y.2.1 (38)), .int (iI (x))] σ (fun z u => u = σ ∧ ((z = 1 ∧ 0 ≤ x ∧ x < n) ∨ (z = 0 ∧ ¬ (0 ≤ x ∧ x < n)))) := by
  obtain ⟨⟨hn0, hn12, hW0, hM0, hW24⟩, hstep, hXa, hXr⟩ := id hPf
  obtain ⟨hTn, hTq, hTx, hTw⟩ := id hT
  refine g_starti (rty := .boolean) (fun z u h => nrZ (by have := h.2; omega)) (cc := cX1_has) (nL := 2) (own := RX1) (by decide) rfl rfl (Nat.le_of_ble_eq_true rfl) ?_
  intro pp ee ss mm bw mt cd AA ZZ ls G hret X hl
  have hl : lv_has ls 2 [(0, .ref (Y.2.1 (38))), (1, .int (iI (x)))] := hl
  have hx := G.1
  have hb := G.2.1
  have hts := G.2.2.2.2.1
  have l_f24 := hts (.fieldLink RX1 24 "ShapeFits$GroupTable" "count" "I") (List.mem_of_getElem? (i := 1) rfl)
  have in_X1 : ∀ w ∈ u_ws RX1 TX1 6, w ∈ wsX1_has := by decide +kernel
  refine lv_iload_n hx hb dX1_has_0 rfl (lv_at hl 1 rfl) ?_
  refine g_if_lt (tgt := 16) G dX1_has_1 (by decide) (by omega) (fun h1 => ?_) (fun h1 => ?_)
  ·
    refine lv_iconst (v := iI 0) hx hb dX1_has_16 rfl ?_
    exact hret _ _ _ _ _ _ (⟨rfl, by omega⟩) X dX1_has_17
  ·
    refine lv_iload_n hx hb dX1_has_4 rfl (lv_at hl 1 rfl) ?_
    refine lv_aload_n hx hb dX1_has_5 rfl (lv_at hl 0 rfl) ?_
    refine g_get G X (k := 38) (fs := fTab Y) (Nat.le_of_ble_eq_true rfl) (fun _ => rfl) rfl in_X1 4 (by decide) l_f24 rfl (v := .int (iI ((σ 38 4)))) rfl dX1_has_6 ?_
    refine g_icmp_ge (tgt := 16) G dX1_has_9 (by decide) (by omega) (by omega) (fun h9 => ?_) (fun h9 => ?_)
    ·
      refine lv_iconst (v := iI 0) hx hb dX1_has_16 rfl ?_
      exact hret _ _ _ _ _ _ (⟨rfl, by omega⟩) X dX1_has_17
    ·
      refine lv_iconst (v := iI 1) hx hb dX1_has_12 rfl ?_
      refine lv_goto (tgt := 17) hx hb dX1_has_13 (by decide) ?_
      exact hret _ _ _ _ _ _ (⟨rfl, by omega⟩) X dX1_has_17

set_option maxHeartbeats 4000000 in
set_option maxRecDepth 100000 in
theorem t_X1_positionOf (l : Launch) (Y : Yt) (σ : Mem) (n : Int) (Xf : Int → Int) (Cf : Int → Int) (Wf : Int → Int) (Mf : Int → Int) (q : Int) (x : Int) (hT : Tb σ n Xf Cf Wf Mf q) (hPf : Prof n Xf Wf Mf) (hx0 : -2147483648 ≤ x ∧ x ≤ 2147483647) : MXi l LX Y yX1_positionOf wsX1_positionOf { frames := 1, cells := 0, slots := 0, locals := 21 } [.ref (Y.2.1 (38)), .int (iI (x))] σ (fun z u => u = σ ∧ ((0 ≤ x ∧ x < n → z = Xf x) ∧ (¬ (0 ≤ x ∧ x < n) → z = 0))) := by
  obtain ⟨⟨hn0, hn12, hW0, hM0, hW24⟩, hstep, hXa, hXr⟩ := id hPf
  obtain ⟨hTn, hTq, hTx, hTw⟩ := id hT
  refine g_starti (rty := .int) (fun _ _ _ => rfl) (cc := cX1_positionOf) (nL := 2) (own := RX1) (by decide) rfl rfl (Nat.le_of_ble_eq_true rfl) ?_
  intro pp ee ss mm bw mt cd AA ZZ ls G hret X hl
  have hl : lv_has ls 2 [(0, .ref (Y.2.1 (38))), (1, .int (iI (x)))] := hl
  have hx := G.1
  have hb := G.2.1
  have hts := G.2.2.2.2.1
  have l_f9 := hts (.fieldLink RX1 9 "ShapeFits$GroupTable" "position" "[I") (List.mem_of_getElem? (i := 1) rfl)
  have in_X1 : ∀ w ∈ u_ws RX1 TX1 6, w ∈ wsX1_positionOf := by decide +kernel
  refine lv_aload_n hx hb dX1_positionOf_0 rfl (lv_at hl 0 rfl) ?_
  refine lv_iload_n hx hb dX1_positionOf_1 rfl (lv_at hl 1 rfl) ?_
  refine g_callVi G X (rest := []) (As := [.int (iI (x))]) (t_X1_has l Y (σ) n Xf Cf Wf Mf q (x) (by first | assumption | omega) (by first | assumption | omega) (by first | assumption | omega)) (cwV 1 hts gX1_positionOf_X1_has rfl rfl rfl (by decide +kernel) ⟨Nat.le_of_ble_eq_true rfl, Nat.le_of_ble_eq_true rfl⟩) (k := 38) (Nat.le_of_ble_eq_true rfl) rfl rfl rfl rfl hl.1 rfl (Nat.le_of_ble_eq_true rfl) dX1_positionOf_2 ⟨Nat.le_refl _, Nat.le_refl _⟩ (fun z2 u2 H locs hq2 X => ?_)
  rw [hq2.1] at X
  have hq2 := hq2.2
  try dsimp only at hq2
  refine g_if_eq (tgt := 17) G dX1_positionOf_5 (by decide) (by omega) (fun h5 => ?_) (fun h5 => ?_)
  ·
    refine lv_iconst (v := iI 0) hx hb dX1_positionOf_17 rfl ?_
    exact hret _ _ _ _ _ _ (⟨rfl, by have hh := hTx x; omega⟩) X dX1_positionOf_18
  ·
    refine lv_aload_n hx hb dX1_positionOf_8 rfl (lv_at hl 0 rfl) ?_
    refine g_get G X (k := 38) (fs := fTab Y) (Nat.le_of_ble_eq_true rfl) (fun _ => rfl) rfl in_X1 0 (by decide) l_f9 rfl (v := .ref (Y.2.1 (39))) rfl dX1_positionOf_9 ?_
    refine lv_iload_n hx hb dX1_positionOf_12 rfl (lv_at hl 1 rfl) ?_
    refine g_iald G X (k := 39) (n := 12) (Nat.le_of_ble_eq_true rfl) (fun _ => rfl) (by decide) (z := x) (by omega) dX1_positionOf_13 ?_
    refine lv_goto (tgt := 18) hx hb dX1_positionOf_14 (by decide) ?_
    exact hret _ _ _ _ _ _ (⟨rfl, by have hh := hTx x; omega⟩) X dX1_positionOf_18

set_option maxHeartbeats 4000000 in
set_option maxRecDepth 100000 in
theorem t_X1_membersOf (l : Launch) (Y : Yt) (σ : Mem) (n : Int) (Xf : Int → Int) (Cf : Int → Int) (Wf : Int → Int) (Mf : Int → Int) (q : Int) (x : Int) (hT : Tb σ n Xf Cf Wf Mf q) (hPf : Prof n Xf Wf Mf) (hx0 : -2147483648 ≤ x ∧ x ≤ 2147483647) : MXi l LX Y yX1_membersOf wsX1_membersOf { frames := 1, cells := 0, slots := 0, locals := 21 } [.ref (Y.2.1 (38)), .int (iI (x))] σ (fun z u => u = σ ∧ ((0 ≤ x ∧ x < n → z = Cf x) ∧ (¬ (0 ≤ x ∧ x < n) → z = 0))) := by
  obtain ⟨⟨hn0, hn12, hW0, hM0, hW24⟩, hstep, hXa, hXr⟩ := id hPf
  obtain ⟨hTn, hTq, hTx, hTw⟩ := id hT
  refine g_starti (rty := .int) (fun _ _ _ => rfl) (cc := cX1_membersOf) (nL := 2) (own := RX1) (by decide) rfl rfl (Nat.le_of_ble_eq_true rfl) ?_
  intro pp ee ss mm bw mt cd AA ZZ ls G hret X hl
  have hl : lv_has ls 2 [(0, .ref (Y.2.1 (38))), (1, .int (iI (x)))] := hl
  have hx := G.1
  have hb := G.2.1
  have hts := G.2.2.2.2.1
  have l_f15 := hts (.fieldLink RX1 15 "ShapeFits$GroupTable" "members" "[I") (List.mem_of_getElem? (i := 1) rfl)
  have in_X1 : ∀ w ∈ u_ws RX1 TX1 6, w ∈ wsX1_membersOf := by decide +kernel
  refine lv_aload_n hx hb dX1_membersOf_0 rfl (lv_at hl 0 rfl) ?_
  refine lv_iload_n hx hb dX1_membersOf_1 rfl (lv_at hl 1 rfl) ?_
  refine g_callVi G X (rest := []) (As := [.int (iI (x))]) (t_X1_has l Y (σ) n Xf Cf Wf Mf q (x) (by first | assumption | omega) (by first | assumption | omega) (by first | assumption | omega)) (cwV 1 hts gX1_membersOf_X1_has rfl rfl rfl (by decide +kernel) ⟨Nat.le_of_ble_eq_true rfl, Nat.le_of_ble_eq_true rfl⟩) (k := 38) (Nat.le_of_ble_eq_true rfl) rfl rfl rfl rfl hl.1 rfl (Nat.le_of_ble_eq_true rfl) dX1_membersOf_2 ⟨Nat.le_refl _, Nat.le_refl _⟩ (fun z2 u2 H locs hq2 X => ?_)
  rw [hq2.1] at X
  have hq2 := hq2.2
  try dsimp only at hq2
  refine g_if_eq (tgt := 17) G dX1_membersOf_5 (by decide) (by omega) (fun h5 => ?_) (fun h5 => ?_)
  ·
    refine lv_iconst (v := iI 0) hx hb dX1_membersOf_17 rfl ?_
    exact hret _ _ _ _ _ _ (⟨rfl, by have hh := hTx x; omega⟩) X dX1_membersOf_18
  ·
    refine lv_aload_n hx hb dX1_membersOf_8 rfl (lv_at hl 0 rfl) ?_
    refine g_get G X (k := 38) (fs := fTab Y) (Nat.le_of_ble_eq_true rfl) (fun _ => rfl) rfl in_X1 1 (by decide) l_f15 rfl (v := .ref (Y.2.1 (40))) rfl dX1_membersOf_9 ?_
    refine lv_iload_n hx hb dX1_membersOf_12 rfl (lv_at hl 1 rfl) ?_
    refine g_iald G X (k := 40) (n := 12) (Nat.le_of_ble_eq_true rfl) (fun _ => rfl) (by decide) (z := x) (by omega) dX1_membersOf_13 ?_
    refine lv_goto (tgt := 18) hx hb dX1_membersOf_14 (by decide) ?_
    exact hret _ _ _ _ _ _ (⟨rfl, by have hh := hTx x; omega⟩) X dX1_membersOf_18

set_option maxHeartbeats 4000000 in
set_option maxRecDepth 100000 in
theorem t_X1_weightOf (l : Launch) (Y : Yt) (σ : Mem) (n : Int) (Xf : Int → Int) (Cf : Int → Int) (Wf : Int → Int) (Mf : Int → Int) (q : Int) (a : Int) (b : Int) (hT : Tb σ n Xf Cf Wf Mf q) (hPf : Prof n Xf Wf Mf) (ha : -2147483648 ≤ a ∧ a ≤ 2147483647) (hb0 : -2147483648 ≤ b ∧ b ≤ 2147483647) : MXi l LX Y yX1_weightOf wsX1_weightOf { frames := 0, cells := 0, slots := 0, locals := 0 } [.ref (Y.2.1 (38)), .int (iI (a)), .int (iI (b))] σ (fun z u => u = σ ∧ ((0 ≤ a ∧ a ≤ b ∧ b < n → z = Wf (b + 1) - Wf a) ∧ (¬ (0 ≤ a ∧ a ≤ b ∧ b < n) → z = 0))) := by
  obtain ⟨⟨hn0, hn12, hW0, hM0, hW24⟩, hstep, hXa, hXr⟩ := id hPf
  obtain ⟨hTn, hTq, hTx, hTw⟩ := id hT
  refine g_starti (rty := .int) (fun _ _ _ => rfl) (cc := cX1_weightOf) (nL := 3) (own := RX1) (by decide) rfl rfl (Nat.le_of_ble_eq_true rfl) ?_
  intro pp ee ss mm bw mt cd AA ZZ ls G hret X hl
  have hl : lv_has ls 3 [(0, .ref (Y.2.1 (38))), (1, .int (iI (a))), (2, .int (iI (b)))] := hl
  have hx := G.1
  have hb := G.2.1
  have hts := G.2.2.2.2.1
  have l_f18 := hts (.fieldLink RX1 18 "ShapeFits$GroupTable" "weightBefore" "[I") (List.mem_of_getElem? (i := 2) rfl)
  have l_f24 := hts (.fieldLink RX1 24 "ShapeFits$GroupTable" "count" "I") (List.mem_of_getElem? (i := 1) rfl)
  have in_X1 : ∀ w ∈ u_ws RX1 TX1 6, w ∈ wsX1_weightOf := by decide +kernel
  refine lv_iload_n hx hb dX1_weightOf_0 rfl (lv_at hl 1 rfl) ?_
  refine g_if_lt (tgt := 17) G dX1_weightOf_1 (by decide) (by omega) (fun h1 => ?_) (fun h1 => ?_)
  ·
    refine lv_iconst (v := iI 0) hx hb dX1_weightOf_17 rfl ?_
    exact hret _ _ _ _ _ _ (⟨rfl, by omega⟩) X dX1_weightOf_18
  ·
    refine lv_iload_n hx hb dX1_weightOf_4 rfl (lv_at hl 2 rfl) ?_
    refine lv_iload_n hx hb dX1_weightOf_5 rfl (lv_at hl 1 rfl) ?_
    refine g_icmp_lt (tgt := 17) G dX1_weightOf_6 (by decide) (by omega) (by omega) (fun h6 => ?_) (fun h6 => ?_)
    ·
      refine lv_iconst (v := iI 0) hx hb dX1_weightOf_17 rfl ?_
      exact hret _ _ _ _ _ _ (⟨rfl, by omega⟩) X dX1_weightOf_18
    ·
      refine lv_iload_n hx hb dX1_weightOf_9 rfl (lv_at hl 2 rfl) ?_
      refine lv_aload_n hx hb dX1_weightOf_10 rfl (lv_at hl 0 rfl) ?_
      refine g_get G X (k := 38) (fs := fTab Y) (Nat.le_of_ble_eq_true rfl) (fun _ => rfl) rfl in_X1 4 (by decide) l_f24 rfl (v := .int (iI ((σ 38 4)))) rfl dX1_weightOf_11 ?_
      refine g_icmp_lt (tgt := 19) G dX1_weightOf_14 (by decide) (by omega) (by omega) (fun h14 => ?_) (fun h14 => ?_)
      ·
        refine lv_aload_n hx hb dX1_weightOf_19 rfl (lv_at hl 0 rfl) ?_
        refine g_get G X (k := 38) (fs := fTab Y) (Nat.le_of_ble_eq_true rfl) (fun _ => rfl) rfl in_X1 2 (by decide) l_f18 rfl (v := .ref (Y.2.1 (41))) rfl dX1_weightOf_20 ?_
        refine lv_iload_n hx hb dX1_weightOf_23 rfl (lv_at hl 2 rfl) ?_
        refine lv_iconst (v := iI 1) hx hb dX1_weightOf_24 rfl ?_
        refine g_iadd G dX1_weightOf_25 ?_
        refine g_iald G X (k := 41) (n := 13) (Nat.le_of_ble_eq_true rfl) (fun _ => rfl) (by decide) (z := (b + 1)) (by omega) dX1_weightOf_26 ?_
        refine lv_aload_n hx hb dX1_weightOf_27 rfl (lv_at hl 0 rfl) ?_
        refine g_get G X (k := 38) (fs := fTab Y) (Nat.le_of_ble_eq_true rfl) (fun _ => rfl) rfl in_X1 2 (by decide) l_f18 rfl (v := .ref (Y.2.1 (41))) rfl dX1_weightOf_28 ?_
        refine lv_iload_n hx hb dX1_weightOf_31 rfl (lv_at hl 1 rfl) ?_
        refine g_iald G X (k := 41) (n := 13) (Nat.le_of_ble_eq_true rfl) (fun _ => rfl) (by decide) (z := a) (by omega) dX1_weightOf_32 ?_
        refine g_isub G dX1_weightOf_33 ?_
        exact hret _ _ _ _ _ _ (⟨rfl, by have h1 := hTw (b + 1) (by omega) (by omega); have h2 := hTw a (by omega) (by omega); omega⟩) X dX1_weightOf_34
      ·
        refine lv_iconst (v := iI 0) hx hb dX1_weightOf_17 rfl ?_
        exact hret _ _ _ _ _ _ (⟨rfl, by omega⟩) X dX1_weightOf_18

set_option maxHeartbeats 4000000 in
set_option maxRecDepth 100000 in
theorem t_X1_momentOf (l : Launch) (Y : Yt) (σ : Mem) (n : Int) (Xf : Int → Int) (Cf : Int → Int) (Wf : Int → Int) (Mf : Int → Int) (q : Int) (a : Int) (b : Int) (hT : Tb σ n Xf Cf Wf Mf q) (hPf : Prof n Xf Wf Mf) (ha : -2147483648 ≤ a ∧ a ≤ 2147483647) (hb0 : -2147483648 ≤ b ∧ b ≤ 2147483647) : MXi l LX Y yX1_momentOf wsX1_momentOf { frames := 0, cells := 0, slots := 0, locals := 0 } [.ref (Y.2.1 (38)), .int (iI (a)), .int (iI (b))] σ (fun z u => u = σ ∧ ((0 ≤ a ∧ a ≤ b ∧ b < n → z = Mf (b + 1) - Mf a) ∧ (¬ (0 ≤ a ∧ a ≤ b ∧ b < n) → z = 0))) := by
  obtain ⟨⟨hn0, hn12, hW0, hM0, hW24⟩, hstep, hXa, hXr⟩ := id hPf
  obtain ⟨hTn, hTq, hTx, hTw⟩ := id hT
  refine g_starti (rty := .int) (fun _ _ _ => rfl) (cc := cX1_momentOf) (nL := 3) (own := RX1) (by decide) rfl rfl (Nat.le_of_ble_eq_true rfl) ?_
  intro pp ee ss mm bw mt cd AA ZZ ls G hret X hl
  have hl : lv_has ls 3 [(0, .ref (Y.2.1 (38))), (1, .int (iI (a))), (2, .int (iI (b)))] := hl
  have hx := G.1
  have hb := G.2.1
  have hts := G.2.2.2.2.1
  have l_f21 := hts (.fieldLink RX1 21 "ShapeFits$GroupTable" "momentBefore" "[I") (List.mem_of_getElem? (i := 2) rfl)
  have l_f24 := hts (.fieldLink RX1 24 "ShapeFits$GroupTable" "count" "I") (List.mem_of_getElem? (i := 1) rfl)
  have in_X1 : ∀ w ∈ u_ws RX1 TX1 6, w ∈ wsX1_momentOf := by decide +kernel
  refine lv_iload_n hx hb dX1_momentOf_0 rfl (lv_at hl 1 rfl) ?_
  refine g_if_lt (tgt := 17) G dX1_momentOf_1 (by decide) (by omega) (fun h1 => ?_) (fun h1 => ?_)
  ·
    refine lv_iconst (v := iI 0) hx hb dX1_momentOf_17 rfl ?_
    exact hret _ _ _ _ _ _ (⟨rfl, by omega⟩) X dX1_momentOf_18
  ·
    refine lv_iload_n hx hb dX1_momentOf_4 rfl (lv_at hl 2 rfl) ?_
    refine lv_iload_n hx hb dX1_momentOf_5 rfl (lv_at hl 1 rfl) ?_
    refine g_icmp_lt (tgt := 17) G dX1_momentOf_6 (by decide) (by omega) (by omega) (fun h6 => ?_) (fun h6 => ?_)
    ·
      refine lv_iconst (v := iI 0) hx hb dX1_momentOf_17 rfl ?_
      exact hret _ _ _ _ _ _ (⟨rfl, by omega⟩) X dX1_momentOf_18
    ·
      refine lv_iload_n hx hb dX1_momentOf_9 rfl (lv_at hl 2 rfl) ?_
      refine lv_aload_n hx hb dX1_momentOf_10 rfl (lv_at hl 0 rfl) ?_
      refine g_get G X (k := 38) (fs := fTab Y) (Nat.le_of_ble_eq_true rfl) (fun _ => rfl) rfl in_X1 4 (by decide) l_f24 rfl (v := .int (iI ((σ 38 4)))) rfl dX1_momentOf_11 ?_
      refine g_icmp_lt (tgt := 19) G dX1_momentOf_14 (by decide) (by omega) (by omega) (fun h14 => ?_) (fun h14 => ?_)
      ·
        refine lv_aload_n hx hb dX1_momentOf_19 rfl (lv_at hl 0 rfl) ?_
        refine g_get G X (k := 38) (fs := fTab Y) (Nat.le_of_ble_eq_true rfl) (fun _ => rfl) rfl in_X1 3 (by decide) l_f21 rfl (v := .ref (Y.2.1 (42))) rfl dX1_momentOf_20 ?_
        refine lv_iload_n hx hb dX1_momentOf_23 rfl (lv_at hl 2 rfl) ?_
        refine lv_iconst (v := iI 1) hx hb dX1_momentOf_24 rfl ?_
        refine g_iadd G dX1_momentOf_25 ?_
        refine g_iald G X (k := 42) (n := 13) (Nat.le_of_ble_eq_true rfl) (fun _ => rfl) (by decide) (z := (b + 1)) (by omega) dX1_momentOf_26 ?_
        refine lv_aload_n hx hb dX1_momentOf_27 rfl (lv_at hl 0 rfl) ?_
        refine g_get G X (k := 38) (fs := fTab Y) (Nat.le_of_ble_eq_true rfl) (fun _ => rfl) rfl in_X1 3 (by decide) l_f21 rfl (v := .ref (Y.2.1 (42))) rfl dX1_momentOf_28 ?_
        refine lv_iload_n hx hb dX1_momentOf_31 rfl (lv_at hl 1 rfl) ?_
        refine g_iald G X (k := 42) (n := 13) (Nat.le_of_ble_eq_true rfl) (fun _ => rfl) (by decide) (z := a) (by omega) dX1_momentOf_32 ?_
        refine g_isub G dX1_momentOf_33 ?_
        exact hret _ _ _ _ _ _ (⟨rfl, by have h1 := hTw (b + 1) (by omega) (by omega); have h2 := hTw a (by omega) (by omega); omega⟩) X dX1_momentOf_34
      ·
        refine lv_iconst (v := iI 0) hx hb dX1_momentOf_17 rfl ?_
        exact hret _ _ _ _ _ _ (⟨rfl, by omega⟩) X dX1_momentOf_18

set_option maxHeartbeats 4000000 in
set_option maxRecDepth 100000 in
theorem t_X1_compareMeans (l : Launch) (Y : Yt) (σ : Mem) (n : Int) (Xf : Int → Int) (Cf : Int → Int) (Wf : Int → Int) (Mf : Int → Int) (q : Int) (a : Int) (b : Int) (c : Int) (d : Int) (hT : Tb σ n Xf Cf Wf Mf q) (hPf : Prof n Xf Wf Mf) (ha : 0 ≤ a ∧ a ≤ b ∧ b < n) (hc : 0 ≤ c ∧ c ≤ d ∧ d < n) : MXi l LX Y yX1_compareMeans wsX1_compareMeans { frames := 1, cells := 0, slots := 0, locals := 22 } [.ref (Y.2.1 (38)), .int (iI (a)), .int (iI (b)), .int (iI (c)), .int (iI (d))] σ (fun z u => u = σ ∧ (z = cmpM Wf Mf a b c d ∧ -114048 ≤ z ∧ z ≤ 114048)) := by
  obtain ⟨⟨hn0, hn12, hW0, hM0, hW24⟩, hstep, hXa, hXr⟩ := id hPf
  obtain ⟨hTn, hTq, hTx, hTw⟩ := id hT
  refine g_starti (rty := .int) (fun _ _ _ => rfl) (cc := cX1_compareMeans) (nL := 5) (own := RX1) (by decide) rfl rfl (Nat.le_of_ble_eq_true rfl) ?_
  intro pp ee ss mm bw mt cd AA ZZ ls G hret X hl
  have hl : lv_has ls 5 [(0, .ref (Y.2.1 (38))), (1, .int (iI (a))), (2, .int (iI (b))), (3, .int (iI (c))), (4, .int (iI (d)))] := hl
  have hx := G.1
  have hb := G.2.1
  have hts := G.2.2.2.2.1
  refine lv_aload_n hx hb dX1_compareMeans_0 rfl (lv_at hl 0 rfl) ?_
  refine lv_iload_n hx hb dX1_compareMeans_1 rfl (lv_at hl 1 rfl) ?_
  refine lv_iload_n hx hb dX1_compareMeans_2 rfl (lv_at hl 2 rfl) ?_
  refine g_callVi G X (rest := []) (As := [.int (iI (a)), .int (iI (b))]) (t_X1_momentOf l Y (σ) n Xf Cf Wf Mf q (a) (b) (by first | assumption | omega) (by first | assumption | omega) (by first | assumption | omega) (by first | assumption | omega)) (cwV 2 hts gX1_compareMeans_X1_momentOf rfl rfl rfl (by decide +kernel) ⟨Nat.le_of_ble_eq_true rfl, Nat.le_of_ble_eq_true rfl⟩) (k := 38) (Nat.le_of_ble_eq_true rfl) rfl rfl rfl rfl hl.1 rfl (Nat.le_of_ble_eq_true rfl) dX1_compareMeans_3 ⟨Nat.le_refl _, Nat.le_refl _⟩ (fun z3 u3 H locs hq3 X => ?_)
  rw [hq3.1] at X
  have hq3 := hq3.2
  try dsimp only at hq3
  refine g_topi (z' := Mf (b + 1) - Mf a) (hq3.1 ha) ?_
  refine lv_aload_n hx hb dX1_compareMeans_6 rfl (lv_at hl 0 rfl) ?_
  refine lv_iload_n hx hb dX1_compareMeans_7 rfl (lv_at hl 3 rfl) ?_
  refine lv_iload hx hb dX1_compareMeans_8 (lv_at hl 4 rfl) ?_
  refine g_callVi G X (rest := [.int (iI ((Mf (b + 1) - Mf a)))]) (As := [.int (iI (c)), .int (iI (d))]) (t_X1_weightOf l Y (σ) n Xf Cf Wf Mf q (c) (d) (by first | assumption | omega) (by first | assumption | omega) (by first | assumption | omega) (by first | assumption | omega)) (cwV 2 hts gX1_compareMeans_X1_weightOf rfl rfl rfl (by decide +kernel) ⟨Nat.le_of_ble_eq_true rfl, Nat.le_of_ble_eq_true rfl⟩) (k := 38) (Nat.le_of_ble_eq_true rfl) rfl rfl rfl rfl hl.1 rfl (Nat.le_of_ble_eq_true rfl) dX1_compareMeans_10 ⟨Nat.le_refl _, Nat.le_refl _⟩ (fun z10 u10 H locs hq10 X => ?_)
  rw [hq10.1] at X
  have hq10 := hq10.2
  try dsimp only at hq10
  refine g_topi (z' := Wf (d + 1) - Wf c) (hq10.1 hc) ?_
  refine g_imul G dX1_compareMeans_13 ?_
  refine lv_aload_n hx hb dX1_compareMeans_14 rfl (lv_at hl 0 rfl) ?_
  refine lv_iload_n hx hb dX1_compareMeans_15 rfl (lv_at hl 3 rfl) ?_
  refine lv_iload hx hb dX1_compareMeans_16 (lv_at hl 4 rfl) ?_
  refine g_callVi G X (rest := [.int (iI (((Mf (b + 1) - Mf a) * (Wf (d + 1) - Wf c))))]) (As := [.int (iI (c)), .int (iI (d))]) (t_X1_momentOf l Y (σ) n Xf Cf Wf Mf q (c) (d) (by first | assumption | omega) (by first | assumption | omega) (by first | assumption | omega) (by first | assumption | omega)) (cwV 2 hts gX1_compareMeans_X1_momentOf rfl rfl rfl (by decide +kernel) ⟨Nat.le_of_ble_eq_true rfl, Nat.le_of_ble_eq_true rfl⟩) (k := 38) (Nat.le_of_ble_eq_true rfl) rfl rfl rfl rfl hl.1 rfl (Nat.le_of_ble_eq_true rfl) dX1_compareMeans_18 ⟨Nat.le_refl _, Nat.le_refl _⟩ (fun z18 u18 H locs hq18 X => ?_)
  rw [hq18.1] at X
  have hq18 := hq18.2
  try dsimp only at hq18
  refine g_topi (z' := Mf (d + 1) - Mf c) (hq18.1 hc) ?_
  refine lv_aload_n hx hb dX1_compareMeans_21 rfl (lv_at hl 0 rfl) ?_
  refine lv_iload_n hx hb dX1_compareMeans_22 rfl (lv_at hl 1 rfl) ?_
  refine lv_iload_n hx hb dX1_compareMeans_23 rfl (lv_at hl 2 rfl) ?_
  refine g_callVi G X (rest := [.int (iI ((Mf (d + 1) - Mf c))), .int (iI (((Mf (b + 1) - Mf a) * (Wf (d + 1) - Wf c))))]) (As := [.int (iI (a)), .int (iI (b))]) (t_X1_weightOf l Y (σ) n Xf Cf Wf Mf q (a) (b) (by first | assumption | omega) (by first | assumption | omega) (by first | assumption | omega) (by first | assumption | omega)) (cwV 2 hts gX1_compareMeans_X1_weightOf rfl rfl rfl (by decide +kernel) ⟨Nat.le_of_ble_eq_true rfl, Nat.le_of_ble_eq_true rfl⟩) (k := 38) (Nat.le_of_ble_eq_true rfl) rfl rfl rfl rfl hl.1 rfl (Nat.le_of_ble_eq_true rfl) dX1_compareMeans_24 ⟨Nat.le_refl _, Nat.le_refl _⟩ (fun z24 u24 H locs hq24 X => ?_)
  rw [hq24.1] at X
  have hq24 := hq24.2
  try dsimp only at hq24
  refine g_topi (z' := Wf (b + 1) - Wf a) (hq24.1 ha) ?_
  refine g_imul G dX1_compareMeans_27 ?_
  refine g_isub G dX1_compareMeans_28 ?_
  exact hret _ _ _ _ _ _ (⟨rfl, rfl, cmpM_rg hPf ha hc⟩) X dX1_compareMeans_29

set_option maxHeartbeats 4000000 in
set_option maxRecDepth 100000 in
theorem t_X1_gainOf (l : Launch) (Y : Yt) (σ : Mem) (n : Int) (Xf : Int → Int) (Cf : Int → Int) (Wf : Int → Int) (Mf : Int → Int) (q : Int) (a : Int) (b : Int) (hT : Tb σ n Xf Cf Wf Mf q) (hPf : Prof n Xf Wf Mf) (ha : 0 ≤ a ∧ a ≤ b ∧ b < n) : MXl l LX Y yX1_gainOf wsX1_gainOf { frames := 1, cells := 0, slots := 0, locals := 22 } [.ref (Y.2.1 (38)), .int (iI (a)), .int (iI (b))] σ (fun z u => u = σ ∧ (z = gain Wf Mf a b ∧ 0 ≤ z ∧ z ≤ 30226687408834560)) := by
  obtain ⟨⟨hn0, hn12, hW0, hM0, hW24⟩, hstep, hXa, hXr⟩ := id hPf
  obtain ⟨hTn, hTq, hTx, hTw⟩ := id hT
  have hrg := prof_w hPf ha.1 (b := b + 1) (by omega) (by omega)
  have hrg2 := prof_rg hPf ha.1 (b := b + 1) (by omega) (by omega)
  refine g_startl (cc := cX1_gainOf) (nL := 7) (own := RX1) (by decide) rfl rfl (Nat.le_of_ble_eq_true rfl) ?_
  intro pp ee ss mm bw mt cd AA ZZ ls G hret X hl
  have hl : lv_has ls 7 [(0, .ref (Y.2.1 (38))), (1, .int (iI (a))), (2, .int (iI (b)))] := hl
  have hx := G.1
  have hb := G.2.1
  have hts := G.2.2.2.2.1
  have l_k64 := hts (.constantLong RX1 64 (5354228880)) (List.mem_of_getElem? (i := 1) rfl)
  refine lv_aload_n hx hb dX1_gainOf_0 rfl (lv_at hl 0 rfl) ?_
  refine lv_iload_n hx hb dX1_gainOf_1 rfl (lv_at hl 1 rfl) ?_
  refine lv_iload_n hx hb dX1_gainOf_2 rfl (lv_at hl 2 rfl) ?_
  refine g_callVi G X (rest := []) (As := [.int (iI (a)), .int (iI (b))]) (t_X1_weightOf l Y (σ) n Xf Cf Wf Mf q (a) (b) (by first | assumption | omega) (by first | assumption | omega) (by first | assumption | omega) (by first | assumption | omega)) (cwV 2 hts gX1_gainOf_X1_weightOf rfl rfl rfl (by decide +kernel) ⟨Nat.le_of_ble_eq_true rfl, Nat.le_of_ble_eq_true rfl⟩) (k := 38) (Nat.le_of_ble_eq_true rfl) rfl rfl rfl rfl hl.1 rfl (Nat.le_of_ble_eq_true rfl) dX1_gainOf_3 ⟨Nat.le_refl _, Nat.le_refl _⟩ (fun z3 u3 H locs hq3 X => ?_)
  rw [hq3.1] at X
  have hq3 := hq3.2
  try dsimp only at hq3
  refine g_topi (z' := Wf (b + 1) - Wf a) (hq3.1 ha) ?_
  refine g_i2l G (by omega) dX1_gainOf_6 ?_
  refine lv_lstore_n (lv' := [(3, .long (lI ((Wf (b + 1) - Wf a)))), (0, .ref (Y.2.1 (38))), (1, .int (iI (a))), (2, .int (iI (b)))]) hx hb dX1_gainOf_7 rfl hl (by decide) rfl (fun ls hl => ?_)
  refine lv_aload_n hx hb dX1_gainOf_8 rfl (lv_at hl 1 rfl) ?_
  refine lv_iload_n hx hb dX1_gainOf_9 rfl (lv_at hl 2 rfl) ?_
  refine lv_iload_n hx hb dX1_gainOf_10 rfl (lv_at hl 3 rfl) ?_
  refine g_callVi G X (rest := []) (As := [.int (iI (a)), .int (iI (b))]) (t_X1_momentOf l Y (σ) n Xf Cf Wf Mf q (a) (b) (by first | assumption | omega) (by first | assumption | omega) (by first | assumption | omega) (by first | assumption | omega)) (cwV 2 hts gX1_gainOf_X1_momentOf rfl rfl rfl (by decide +kernel) ⟨Nat.le_of_ble_eq_true rfl, Nat.le_of_ble_eq_true rfl⟩) (k := 38) (Nat.le_of_ble_eq_true rfl) rfl rfl rfl rfl hl.1 rfl (Nat.le_of_ble_eq_true rfl) dX1_gainOf_11 ⟨Nat.le_refl _, Nat.le_refl _⟩ (fun z11 u11 H locs hq11 X => ?_)
  rw [hq11.1] at X
  have hq11 := hq11.2
  try dsimp only at hq11
  refine g_topi (z' := Mf (b + 1) - Mf a) (hq11.1 ha) ?_
  refine g_i2l G (by omega) dX1_gainOf_14 ?_
  refine lv_lstore (lv' := [(5, .long (lI ((Mf (b + 1) - Mf a)))), (3, .long (lI ((Wf (b + 1) - Wf a)))), (0, .ref (Y.2.1 (38))), (1, .int (iI (a))), (2, .int (iI (b)))]) hx hb dX1_gainOf_15 hl (by decide) rfl (fun ls hl => ?_)
  refine lv_lload_n hx hb dX1_gainOf_17 rfl (lv_at hl 1 rfl) ?_
  refine lv_lconst (v := lI 0) hx hb dX1_gainOf_18 (by decide +kernel) ?_
  refine g_lif_gt (tgt := 27) G dX1_gainOf_19 dX1_gainOf_20 (by decide) (by omega) (by omega) (fun h19 => ?_) (fun h19 => ?_)
  ·
    refine lv_lload hx hb dX1_gainOf_27 (lv_at hl 0 rfl) ?_
    refine lv_lload hx hb dX1_gainOf_29 (lv_at hl 0 rfl) ?_
    refine g_lmul G dX1_gainOf_31 ?_
    refine g_ldc2 G (z := 5354228880) l_k64 (by decide +kernel) dX1_gainOf_32 ?_
    refine lv_lload_n hx hb dX1_gainOf_35 rfl (lv_at hl 1 rfl) ?_
    refine g_ldiv G (by omega) (by omega) dX1_gainOf_36 ?_
    refine g_lmul G dX1_gainOf_37 ?_
    exact hret _ _ _ _ _ _ (⟨rfl, by rw [Int.tdiv_eq_ediv_of_nonneg (by omega)]; rfl, by rw [Int.tdiv_eq_ediv_of_nonneg (by omega)]; exact gain_rg hPf ha⟩) X dX1_gainOf_38
  ·
    exact absurd h19 (by omega)

set_option maxHeartbeats 4000000 in
set_option maxRecDepth 100000 in
theorem t_X1_errorOfZero (l : Launch) (Y : Yt) (σ : Mem) (n : Int) (Xf : Int → Int) (Cf : Int → Int) (Wf : Int → Int) (Mf : Int → Int) (q : Int) (hT : Tb σ n Xf Cf Wf Mf q) (hPf : Prof n Xf Wf Mf) (hq0 : 0 ≤ q ∧ q ≤ 235224) : MXl l LX Y yX1_errorOfZero wsX1_errorOfZero { frames := 0, cells := 0, slots := 0, locals := 0 } [.ref (Y.2.1 (38))] σ (fun z u => u = σ ∧ (z = 5354228880 * q)) := by
  obtain ⟨⟨hn0, hn12, hW0, hM0, hW24⟩, hstep, hXa, hXr⟩ := id hPf
  obtain ⟨hTn, hTq, hTx, hTw⟩ := id hT
  refine g_startl (cc := cX1_errorOfZero) (nL := 1) (own := RX1) (by decide) rfl rfl (Nat.le_of_ble_eq_true rfl) ?_
  intro pp ee ss mm bw mt cd AA ZZ ls G hret X hl
  have hl : lv_has ls 1 [(0, .ref (Y.2.1 (38)))] := hl
  have hx := G.1
  have hb := G.2.1
  have hts := G.2.2.2.2.1
  have l_f28 := hts (.fieldLink RX1 28 "ShapeFits$GroupTable" "squares" "I") (List.mem_of_getElem? (i := 2) rfl)
  have l_k64 := hts (.constantLong RX1 64 (5354228880)) (List.mem_of_getElem? (i := 1) rfl)
  have in_X1 : ∀ w ∈ u_ws RX1 TX1 6, w ∈ wsX1_errorOfZero := by decide +kernel
  refine g_ldc2 G (z := 5354228880) l_k64 (by decide +kernel) dX1_errorOfZero_0 ?_
  refine lv_aload_n hx hb dX1_errorOfZero_3 rfl (lv_at hl 0 rfl) ?_
  refine g_get G X (k := 38) (fs := fTab Y) (Nat.le_of_ble_eq_true rfl) (fun _ => rfl) rfl in_X1 5 (by decide) l_f28 rfl (v := .int (iI ((σ 38 5)))) rfl dX1_errorOfZero_4 ?_
  refine g_i2l G (by omega) dX1_errorOfZero_7 ?_
  refine g_lmul G dX1_errorOfZero_8 ?_
  exact hret _ _ _ _ _ _ (⟨rfl, by rw [hTq]⟩) X dX1_errorOfZero_9

set_option maxHeartbeats 4000000 in
set_option maxRecDepth 100000 in
theorem t_X1_gatherGroup (l : Launch) (Y : Yt) (σ : Mem) (P : List Pt) (x : Int) (g : Int) (hR : RowIs σ 1 P) (hok : ptsOk P) (hx0 : -2147483648 ≤ x ∧ x ≤ 2147483647) (hg : σ 38 4 = g ∧ 0 ≤ g ∧ g < 12) : MXv l LX Y yX1_gatherGroup wsX1_gatherGroup { frames := 2, cells := 0, slots := 0, locals := 42 } [.ref (Y.2.1 (38)), .ref (Y.2.1 (1)), .int (iI (x))] σ (fun u => u = gUp σ P g x) := by
  have hr1 : isRow Y 1 := isRow_of Y (by omega)
  refine g_startv (cc := cX1_gatherGroup) (nL := 8) (own := RX1) (by decide) rfl rfl (Nat.le_of_ble_eq_true rfl) ?_
  intro pp ee ss mm bw mt cd AA ZZ ls G hret X hl
  have hl : lv_has ls 8 [(0, .ref (Y.2.1 (38))), (1, .ref (Y.2.1 (1))), (2, .int (iI (x)))] := hl
  have hx := G.1
  have hb := G.2.1
  have hts := G.2.2.2.2.1
  have l_f9 := hts (.fieldLink RX1 9 "ShapeFits$GroupTable" "position" "[I") (List.mem_of_getElem? (i := 5) rfl)
  have l_f15 := hts (.fieldLink RX1 15 "ShapeFits$GroupTable" "members" "[I") (List.mem_of_getElem? (i := 6) rfl)
  have l_f18 := hts (.fieldLink RX1 18 "ShapeFits$GroupTable" "weightBefore" "[I") (List.mem_of_getElem? (i := 2) rfl)
  have l_f21 := hts (.fieldLink RX1 21 "ShapeFits$GroupTable" "momentBefore" "[I") (List.mem_of_getElem? (i := 3) rfl)
  have l_f24 := hts (.fieldLink RX1 24 "ShapeFits$GroupTable" "count" "I") (List.mem_of_getElem? (i := 1) rfl)
  have l_f28 := hts (.fieldLink RX1 28 "ShapeFits$GroupTable" "squares" "I") (List.mem_of_getElem? (i := 4) rfl)
  have in_X1 : ∀ w ∈ u_ws RX1 TX1 6, w ∈ wsX1_gatherGroup := by decide +kernel
  refine lv_aload_n hx hb dX1_gatherGroup_0 rfl (lv_at hl 0 rfl) ?_
  refine g_get G X (k := 38) (fs := fTab Y) (Nat.le_of_ble_eq_true rfl) (fun _ => rfl) rfl in_X1 4 (by decide) l_f24 rfl (v := .int (iI ((σ 38 4)))) rfl dX1_gatherGroup_1 ?_
  refine lv_bipush (v := iI 12) hx hb dX1_gatherGroup_4 (by decide +kernel) ?_
  refine g_icmp_lt (tgt := 10) G dX1_gatherGroup_6 (by decide) (by omega) (by omega) (fun h6 => ?_) (fun h6 => ?_)
  ·
    refine lv_aload_n hx hb dX1_gatherGroup_10 rfl (lv_at hl 0 rfl) ?_
    refine g_get G X (k := 38) (fs := fTab Y) (Nat.le_of_ble_eq_true rfl) (fun _ => rfl) rfl in_X1 2 (by decide) l_f18 rfl (v := .ref (Y.2.1 (41))) rfl dX1_gatherGroup_11 ?_
    refine lv_aload_n hx hb dX1_gatherGroup_14 rfl (lv_at hl 0 rfl) ?_
    refine g_get G X (k := 38) (fs := fTab Y) (Nat.le_of_ble_eq_true rfl) (fun _ => rfl) rfl in_X1 4 (by decide) l_f24 rfl (v := .int (iI ((σ 38 4)))) rfl dX1_gatherGroup_15 ?_
    refine g_iald G X (k := 41) (n := 13) (Nat.le_of_ble_eq_true rfl) (fun _ => rfl) (by decide) (z := (σ 38 4)) (by omega) dX1_gatherGroup_18 ?_
    refine lv_istore_n (lv' := [(3, .int (iI ((σ 41 (σ 38 4))))), (0, .ref (Y.2.1 (38))), (1, .ref (Y.2.1 (1))), (2, .int (iI (x)))]) hx hb dX1_gatherGroup_19 rfl hl (by decide) rfl (fun ls hl => ?_)
    refine lv_aload_n hx hb dX1_gatherGroup_20 rfl (lv_at hl 1 rfl) ?_
    refine g_get G X (k := 38) (fs := fTab Y) (Nat.le_of_ble_eq_true rfl) (fun _ => rfl) rfl in_X1 3 (by decide) l_f21 rfl (v := .ref (Y.2.1 (42))) rfl dX1_gatherGroup_21 ?_
    refine lv_aload_n hx hb dX1_gatherGroup_24 rfl (lv_at hl 1 rfl) ?_
    refine g_get G X (k := 38) (fs := fTab Y) (Nat.le_of_ble_eq_true rfl) (fun _ => rfl) rfl in_X1 4 (by decide) l_f24 rfl (v := .int (iI ((σ 38 4)))) rfl dX1_gatherGroup_25 ?_
    refine g_iald G X (k := 42) (n := 13) (Nat.le_of_ble_eq_true rfl) (fun _ => rfl) (by decide) (z := (σ 38 4)) (by omega) dX1_gatherGroup_28 ?_
    refine lv_istore (lv' := [(4, .int (iI ((σ 42 (σ 38 4))))), (3, .int (iI ((σ 41 (σ 38 4))))), (0, .ref (Y.2.1 (38))), (1, .ref (Y.2.1 (1))), (2, .int (iI (x)))]) hx hb dX1_gatherGroup_29 hl (by decide) rfl (fun ls hl => ?_)
    have X := (show σ = (up σ 38 5 (σ 38 5)) from (up_id _ _ _).symm) ▸ X
    refine lv_iconst (v := iI 0) hx hb dX1_gatherGroup_31 rfl ?_
    refine lv_istore (lv' := [(5, .int (iI (0))), (4, .int (iI ((σ 42 (σ 38 4))))), (3, .int (iI ((σ 41 (σ 38 4))))), (0, .ref (Y.2.1 (38))), (1, .ref (Y.2.1 (1))), (2, .int (iI (x)))]) hx hb dX1_gatherGroup_32 hl (by decide) rfl (fun ls hl => ?_)
    refine lv_iconst (v := iI 0) hx hb dX1_gatherGroup_34 rfl ?_
    refine lv_istore (lv' := [(6, .int (iI (0))), (5, .int (iI (0))), (4, .int (iI ((σ 42 (σ 38 4))))), (3, .int (iI ((σ 41 (σ 38 4))))), (0, .ref (Y.2.1 (38))), (1, .ref (Y.2.1 (1))), (2, .int (iI (x)))]) hx hb dX1_gatherGroup_35 hl (by decide) rfl (fun ls hl => ?_)
    have lp_37 : ∀ (nn : Nat) (w m f pt sq : Int), ∀ hp : 0 ≤ pt ∧ pt ≤ P.length, ∀ hw : w = σ 41 g + fS P (pw P) x pt ∧ m = σ 42 g + fS P (fm P) x pt ∧ f = fS P (fun _ => 1) x pt ∧ sq = σ 38 5 + fS P (fq P) x pt, ∀ hdec : (P.length - pt) < (nn : Int), ∀ (H : Heap) (locs : List Loc) (ls : Array Slot), wx LX Y (up σ 38 5 sq) ss AA H locs → lv_has ls 8 [(0, .ref (Y.2.1 (38))), (1, .ref (Y.2.1 (1))), (2, .int (iI (x))), (3, .int (iI (w))), (4, .int (iI (m))), (5, .int (iI (f))), (6, .int (iI (pt)))] → W pp l ee { frames := 2, cells := 0, slots := 0, locals := 42 } ss mm ([.ref (Y.2.1 (38)), .ref (Y.2.1 (1)), .int (iI (x))] : List Value).toArray bw mt cd H locs 0 0 ZZ (F0 mm 37 ls []) := by
      intro nn
      induction nn with
      | zero =>
        intro w m f pt sq hp hw hdec
        exact absurd hdec (by omega)
      | succ nn ih_37 =>
        intro w m f pt sq hp hw hdec H locs ls X hl
        have hR2 : RowIs (up σ 38 5 sq) 1 P := hR.eq rfl rfl rfl rfl
        have hlen := hR.2.1
        obtain ⟨hw1, hw2, hw3, hw4⟩ := id hw
        refine lv_iload hx hb dX1_gatherGroup_37 (lv_at hl 6 rfl) ?_
        refine lv_aload_n hx hb dX1_gatherGroup_39 rfl (lv_at hl 1 rfl) ?_
        refine g_callVi G X (rest := [.int (iI (pt))]) (As := []) (t_X5_size l Y ((up σ 38 5 sq)) (1) P (by first | assumption | omega) (by first | assumption | omega)) (cwV 0 hts gX1_gatherGroup_X5_size rfl rfl rfl (by decide +kernel) ⟨Nat.le_of_ble_eq_true rfl, Nat.le_of_ble_eq_true rfl⟩) (k := 1) (Nat.le_of_ble_eq_true rfl) rfl rfl rfl rfl hl.1 rfl (Nat.le_of_ble_eq_true rfl) dX1_gatherGroup_40 ⟨Nat.le_refl _, Nat.le_refl _⟩ (fun z40 u40 H locs hq40 X => ?_)
        rw [hq40.1] at X
        have hq40 := hq40.2
        try dsimp only at hq40
        refine g_icmp_ge (tgt := 117) G dX1_gatherGroup_43 (by decide) (by omega) (by omega) (fun h43 => ?_) (fun h43 => ?_)
        ·
          refine lv_aload_n hx hb dX1_gatherGroup_117 rfl (lv_at hl 0 rfl) ?_
          refine g_get G X (k := 38) (fs := fTab Y) (Nat.le_of_ble_eq_true rfl) (fun _ => rfl) rfl in_X1 0 (by decide) l_f9 rfl (v := .ref (Y.2.1 (39))) rfl dX1_gatherGroup_118 ?_
          refine lv_aload_n hx hb dX1_gatherGroup_121 rfl (lv_at hl 0 rfl) ?_
          refine g_get G X (k := 38) (fs := fTab Y) (Nat.le_of_ble_eq_true rfl) (fun _ => rfl) rfl in_X1 4 (by decide) l_f24 rfl (v := .int (iI ((σ 38 4)))) rfl dX1_gatherGroup_122 ?_
          refine lv_iload_n hx hb dX1_gatherGroup_125 rfl (lv_at hl 2 rfl) ?_
          refine g_iast G X (k := 39) (n := 12) (Nat.le_of_ble_eq_true rfl) (fun _ => rfl) (by decide) (z := (σ 38 4)) (v := x) (by omega) dX1_gatherGroup_126 (fun H locs X => ?_)
          refine lv_aload_n hx hb dX1_gatherGroup_127 rfl (lv_at hl 0 rfl) ?_
          refine g_get G X (k := 38) (fs := fTab Y) (Nat.le_of_ble_eq_true rfl) (fun _ => rfl) rfl in_X1 1 (by decide) l_f15 rfl (v := .ref (Y.2.1 (40))) rfl dX1_gatherGroup_128 ?_
          refine lv_aload_n hx hb dX1_gatherGroup_131 rfl (lv_at hl 0 rfl) ?_
          refine g_get G X (k := 38) (fs := fTab Y) (Nat.le_of_ble_eq_true rfl) (fun _ => rfl) rfl in_X1 4 (by decide) l_f24 rfl (v := .int (iI ((σ 38 4)))) rfl dX1_gatherGroup_132 ?_
          refine lv_iload hx hb dX1_gatherGroup_135 (lv_at hl 5 rfl) ?_
          refine g_iast G X (k := 40) (n := 12) (Nat.le_of_ble_eq_true rfl) (fun _ => rfl) (by decide) (z := (σ 38 4)) (v := f) (by omega) dX1_gatherGroup_137 (fun H locs X => ?_)
          refine lv_aload_n hx hb dX1_gatherGroup_138 rfl (lv_at hl 0 rfl) ?_
          refine g_get G X (k := 38) (fs := fTab Y) (Nat.le_of_ble_eq_true rfl) (fun _ => rfl) rfl in_X1 2 (by decide) l_f18 rfl (v := .ref (Y.2.1 (41))) rfl dX1_gatherGroup_139 ?_
          refine lv_aload_n hx hb dX1_gatherGroup_142 rfl (lv_at hl 0 rfl) ?_
          refine g_get G X (k := 38) (fs := fTab Y) (Nat.le_of_ble_eq_true rfl) (fun _ => rfl) rfl in_X1 4 (by decide) l_f24 rfl (v := .int (iI ((σ 38 4)))) rfl dX1_gatherGroup_143 ?_
          refine lv_iconst (v := iI 1) hx hb dX1_gatherGroup_146 rfl ?_
          refine g_iadd G dX1_gatherGroup_147 ?_
          refine lv_iload_n hx hb dX1_gatherGroup_148 rfl (lv_at hl 3 rfl) ?_
          refine g_iast G X (k := 41) (n := 13) (Nat.le_of_ble_eq_true rfl) (fun _ => rfl) (by decide) (z := ((σ 38 4) + 1)) (v := w) (by omega) dX1_gatherGroup_149 (fun H locs X => ?_)
          refine lv_aload_n hx hb dX1_gatherGroup_150 rfl (lv_at hl 0 rfl) ?_
          refine g_get G X (k := 38) (fs := fTab Y) (Nat.le_of_ble_eq_true rfl) (fun _ => rfl) rfl in_X1 3 (by decide) l_f21 rfl (v := .ref (Y.2.1 (42))) rfl dX1_gatherGroup_151 ?_
          refine lv_aload_n hx hb dX1_gatherGroup_154 rfl (lv_at hl 0 rfl) ?_
          refine g_get G X (k := 38) (fs := fTab Y) (Nat.le_of_ble_eq_true rfl) (fun _ => rfl) rfl in_X1 4 (by decide) l_f24 rfl (v := .int (iI ((σ 38 4)))) rfl dX1_gatherGroup_155 ?_
          refine lv_iconst (v := iI 1) hx hb dX1_gatherGroup_158 rfl ?_
          refine g_iadd G dX1_gatherGroup_159 ?_
          refine lv_iload hx hb dX1_gatherGroup_160 (lv_at hl 4 rfl) ?_
          refine g_iast G X (k := 42) (n := 13) (Nat.le_of_ble_eq_true rfl) (fun _ => rfl) (by decide) (z := ((σ 38 4) + 1)) (v := m) (by omega) dX1_gatherGroup_162 (fun H locs X => ?_)
          refine lv_aload_n hx hb dX1_gatherGroup_163 rfl (lv_at hl 0 rfl) ?_
          refine lv_dup hx hb dX1_gatherGroup_164 rfl ?_
          refine g_get G X (k := 38) (fs := fTab Y) (Nat.le_of_ble_eq_true rfl) (fun _ => rfl) rfl in_X1 4 (by decide) l_f24 rfl (v := .int (iI ((σ 38 4)))) rfl dX1_gatherGroup_165 ?_
          refine lv_iconst (v := iI 1) hx hb dX1_gatherGroup_168 rfl ?_
          refine g_iadd G dX1_gatherGroup_169 ?_
          refine g_puti G X (k := 38) (fs := fTab Y) (z := ((σ 38 4) + 1)) (Nat.le_of_ble_eq_true rfl) (fun _ => rfl) rfl in_X1 tyX1 tyX1_ok nmX1 4 4 (by decide) l_f24 rfl rfl (by decide +kernel) (Nat.le_of_ble_eq_true rfl) (fun _ => rfl) dX1_gatherGroup_170 (fun H locs X => ?_)
          exact hret _ _ _ _ _ (by rw [show pt = (P.length : Int) by omega, fS_all] at hw1 hw2 hw3 hw4; rw [hw1, hw2, hw3, hw4, hg.1]; rfl) X dX1_gatherGroup_173
        ·
          refine lv_aload_n hx hb dX1_gatherGroup_46 rfl (lv_at hl 1 rfl) ?_
          refine lv_iload hx hb dX1_gatherGroup_47 (lv_at hl 6 rfl) ?_
          refine g_callVi G X (rest := []) (As := [.int (iI (pt))]) (t_X5_positionOf l Y ((up σ 38 5 sq)) (1) P (pt) (by first | assumption | omega) (by first | assumption | omega) (by first | assumption | omega)) (cwV 1 hts gX1_gatherGroup_X5_positionOf rfl rfl rfl (by decide +kernel) ⟨Nat.le_of_ble_eq_true rfl, Nat.le_of_ble_eq_true rfl⟩) (k := 1) (Nat.le_of_ble_eq_true rfl) rfl rfl rfl rfl hl.1 rfl (Nat.le_of_ble_eq_true rfl) dX1_gatherGroup_49 ⟨Nat.le_refl _, Nat.le_refl _⟩ (fun z49 u49 H locs hq49 X => ?_)
          rw [hq49.1] at X
          have hq49 := hq49.2
          try dsimp only at hq49
          have hpr := px_ok hok (i := pt) hp.1 (by omega)
          refine lv_iload_n hx hb dX1_gatherGroup_52 rfl (lv_at hl 2 rfl) ?_
          refine g_icmp_ne (tgt := 111) G dX1_gatherGroup_53 (by decide) (by omega) (by omega) (fun h53 => ?_) (fun h53 => ?_)
          ·
            have hne : px P pt ≠ x := by have := hq49.1 ⟨hp.1, by omega⟩; omega
            refine lv_iinc (v := iI (pt + 1)) (lv' := [(6, .int (iI ((pt + 1)))), (0, .ref (Y.2.1 (38))), (1, .ref (Y.2.1 (1))), (2, .int (iI (x))), (3, .int (iI (w))), (4, .int (iI (m))), (5, .int (iI (f)))]) hx hb dX1_gatherGroup_111 hl (k := 6) rfl (iI_add _ _) (by decide) rfl (fun ls hl => ?_)
            refine lv_goto (tgt := 37) hx hb dX1_gatherGroup_114 (by decide) ?_
            exact ih_37 (w) (m) (f) ((pt + 1)) (sq) (by omega) (by first | exact ⟨by rw [fS_miss hp.1 hne]; exact hw1, by rw [fS_miss hp.1 hne]; exact hw2, by rw [fS_miss hp.1 hne]; exact hw3, by rw [fS_miss hp.1 hne]; exact hw4⟩ | exact ⟨by rw [fS_hit hp.1 heq]; omega, by rw [fS_hit hp.1 heq]; have e : fm P pt = pw P pt * pv P pt := rfl; omega, by rw [fS_hit hp.1 heq]; omega, by rw [fS_hit hp.1 heq]; have e : fq P pt = pw P pt * pv P pt * pv P pt := rfl; omega⟩) (by omega) _ _ _ X (lv_sub hl [1, 2, 3, 4, 5, 6, 0] rfl)
          ·
            have heq : px P pt = x := by have := hq49.1 ⟨hp.1, by omega⟩; omega
            refine lv_aload_n hx hb dX1_gatherGroup_56 rfl (lv_at hl 1 rfl) ?_
            refine lv_iload hx hb dX1_gatherGroup_57 (lv_at hl 6 rfl) ?_
            refine g_callVi G X (rest := []) (As := [.int (iI (pt))]) (t_X5_valueOf l Y ((up σ 38 5 sq)) (1) P (pt) (by first | assumption | omega) (by first | assumption | omega) (by first | assumption | omega)) (cwV 1 hts gX1_gatherGroup_X5_valueOf rfl rfl rfl (by decide +kernel) ⟨Nat.le_of_ble_eq_true rfl, Nat.le_of_ble_eq_true rfl⟩) (k := 1) (Nat.le_of_ble_eq_true rfl) rfl rfl rfl rfl hl.1 rfl (Nat.le_of_ble_eq_true rfl) dX1_gatherGroup_59 ⟨Nat.le_refl _, Nat.le_refl _⟩ (fun z59 u59 H locs hq59 X => ?_)
            rw [hq59.1] at X
            have hq59 := hq59.2
            try dsimp only at hq59
            refine g_topi (z' := pv P pt) (hq59.1 ⟨hp.1, by omega⟩) ?_
            refine lv_istore (lv' := [(7, .int (iI ((pv P pt)))), (0, .ref (Y.2.1 (38))), (1, .ref (Y.2.1 (1))), (2, .int (iI (x))), (3, .int (iI (w))), (4, .int (iI (m))), (5, .int (iI (f))), (6, .int (iI (pt)))]) hx hb dX1_gatherGroup_62 hl (by decide) rfl (fun ls hl => ?_)
            refine lv_iload_n hx hb dX1_gatherGroup_64 rfl (lv_at hl 4 rfl) ?_
            refine lv_aload_n hx hb dX1_gatherGroup_65 rfl (lv_at hl 2 rfl) ?_
            refine lv_iload hx hb dX1_gatherGroup_66 (lv_at hl 7 rfl) ?_
            refine g_callVi G X (rest := [.int (iI (w))]) (As := [.int (iI (pt))]) (t_X5_weightOf l Y ((up σ 38 5 sq)) (1) P (pt) (by first | assumption | omega) (by first | assumption | omega) (by first | assumption | omega)) (cwV 1 hts gX1_gatherGroup_X5_weightOf rfl rfl rfl (by decide +kernel) ⟨Nat.le_of_ble_eq_true rfl, Nat.le_of_ble_eq_true rfl⟩) (k := 1) (Nat.le_of_ble_eq_true rfl) rfl rfl rfl rfl hl.1 rfl (Nat.le_of_ble_eq_true rfl) dX1_gatherGroup_68 ⟨Nat.le_refl _, Nat.le_refl _⟩ (fun z68 u68 H locs hq68 X => ?_)
            rw [hq68.1] at X
            have hq68 := hq68.2
            try dsimp only at hq68
            refine g_topi (z' := pw P pt) (hq68.1 ⟨hp.1, by omega⟩) ?_
            refine g_iadd G dX1_gatherGroup_71 ?_
            refine lv_istore_n (lv' := [(3, .int (iI ((w + (pw P pt))))), (7, .int (iI ((pv P pt)))), (0, .ref (Y.2.1 (38))), (1, .ref (Y.2.1 (1))), (2, .int (iI (x))), (4, .int (iI (m))), (5, .int (iI (f))), (6, .int (iI (pt)))]) hx hb dX1_gatherGroup_72 rfl hl (by decide) rfl (fun ls hl => ?_)
            refine lv_iload hx hb dX1_gatherGroup_73 (lv_at hl 5 rfl) ?_
            refine lv_aload_n hx hb dX1_gatherGroup_75 rfl (lv_at hl 3 rfl) ?_
            refine lv_iload hx hb dX1_gatherGroup_76 (lv_at hl 7 rfl) ?_
            refine g_callVi G X (rest := [.int (iI (m))]) (As := [.int (iI (pt))]) (t_X5_weightOf l Y ((up σ 38 5 sq)) (1) P (pt) (by first | assumption | omega) (by first | assumption | omega) (by first | assumption | omega)) (cwV 1 hts gX1_gatherGroup_X5_weightOf rfl rfl rfl (by decide +kernel) ⟨Nat.le_of_ble_eq_true rfl, Nat.le_of_ble_eq_true rfl⟩) (k := 1) (Nat.le_of_ble_eq_true rfl) rfl rfl rfl rfl hl.1 rfl (Nat.le_of_ble_eq_true rfl) dX1_gatherGroup_78 ⟨Nat.le_refl _, Nat.le_refl _⟩ (fun z78 u78 H locs hq78 X => ?_)
            rw [hq78.1] at X
            have hq78 := hq78.2
            try dsimp only at hq78
            refine g_topi (z' := pw P pt) (hq78.1 ⟨hp.1, by omega⟩) ?_
            refine lv_iload hx hb dX1_gatherGroup_81 (lv_at hl 1 rfl) ?_
            refine g_imul G dX1_gatherGroup_83 ?_
            refine g_iadd G dX1_gatherGroup_84 ?_
            refine lv_istore (lv' := [(4, .int (iI ((m + ((pw P pt) * (pv P pt)))))), (3, .int (iI ((w + (pw P pt))))), (7, .int (iI ((pv P pt)))), (0, .ref (Y.2.1 (38))), (1, .ref (Y.2.1 (1))), (2, .int (iI (x))), (5, .int (iI (f))), (6, .int (iI (pt)))]) hx hb dX1_gatherGroup_85 hl (by decide) rfl (fun ls hl => ?_)
            refine lv_aload_n hx hb dX1_gatherGroup_87 rfl (lv_at hl 3 rfl) ?_
            refine lv_dup hx hb dX1_gatherGroup_88 rfl ?_
            refine g_get G X (k := 38) (fs := fTab Y) (Nat.le_of_ble_eq_true rfl) (fun _ => rfl) rfl in_X1 5 (by decide) l_f28 rfl (v := .int (iI (sq))) rfl dX1_gatherGroup_89 ?_
            refine lv_aload_n hx hb dX1_gatherGroup_92 rfl (lv_at hl 4 rfl) ?_
            refine lv_iload hx hb dX1_gatherGroup_93 (lv_at hl 7 rfl) ?_
            refine g_callVi G X (rest := [.int (iI (sq)), .ref (Y.2.1 (38))]) (As := [.int (iI (pt))]) (t_X5_weightOf l Y ((up σ 38 5 sq)) (1) P (pt) (by first | assumption | omega) (by first | assumption | omega) (by first | assumption | omega)) (cwV 1 hts gX1_gatherGroup_X5_weightOf rfl rfl rfl (by decide +kernel) ⟨Nat.le_of_ble_eq_true rfl, Nat.le_of_ble_eq_true rfl⟩) (k := 1) (Nat.le_of_ble_eq_true rfl) rfl rfl rfl rfl hl.1 rfl (Nat.le_of_ble_eq_true rfl) dX1_gatherGroup_95 ⟨Nat.le_refl _, Nat.le_refl _⟩ (fun z95 u95 H locs hq95 X => ?_)
            rw [hq95.1] at X
            have hq95 := hq95.2
            try dsimp only at hq95
            refine g_topi (z' := pw P pt) (hq95.1 ⟨hp.1, by omega⟩) ?_
            refine lv_iload hx hb dX1_gatherGroup_98 (lv_at hl 2 rfl) ?_
            refine g_imul G dX1_gatherGroup_100 ?_
            refine lv_iload hx hb dX1_gatherGroup_101 (lv_at hl 2 rfl) ?_
            refine g_imul G dX1_gatherGroup_103 ?_
            refine g_iadd G dX1_gatherGroup_104 ?_
            refine g_puti G X (k := 38) (fs := fTab Y) (z := (sq + (((pw P pt) * (pv P pt)) * (pv P pt)))) (Nat.le_of_ble_eq_true rfl) (fun _ => rfl) rfl in_X1 tyX1 tyX1_ok nmX1 5 5 (by decide) l_f28 rfl rfl (by decide +kernel) (Nat.le_of_ble_eq_true rfl) (fun _ => rfl) dX1_gatherGroup_105 (fun H locs X => ?_)
            have X := (show (up (up σ 38 5 sq) 38 5 (sq + (((pw P pt) * (pv P pt)) * (pv P pt)))) = (up σ 38 5 (sq + pw P pt * pv P pt * pv P pt)) from (up_up _ _ _ _ _)) ▸ X
            refine lv_iinc (v := iI (f + 1)) (lv' := [(5, .int (iI ((f + 1)))), (4, .int (iI ((m + ((pw P pt) * (pv P pt)))))), (3, .int (iI ((w + (pw P pt))))), (7, .int (iI ((pv P pt)))), (0, .ref (Y.2.1 (38))), (1, .ref (Y.2.1 (1))), (2, .int (iI (x))), (6, .int (iI (pt)))]) hx hb dX1_gatherGroup_108 hl (k := 6) rfl (iI_add _ _) (by decide) rfl (fun ls hl => ?_)
            refine lv_iinc (v := iI (pt + 1)) (lv' := [(6, .int (iI ((pt + 1)))), (5, .int (iI ((f + 1)))), (4, .int (iI ((m + ((pw P pt) * (pv P pt)))))), (3, .int (iI ((w + (pw P pt))))), (7, .int (iI ((pv P pt)))), (0, .ref (Y.2.1 (38))), (1, .ref (Y.2.1 (1))), (2, .int (iI (x)))]) hx hb dX1_gatherGroup_111 hl (k := 7) rfl (iI_add _ _) (by decide) rfl (fun ls hl => ?_)
            refine lv_goto (tgt := 37) hx hb dX1_gatherGroup_114 (by decide) ?_
            exact ih_37 ((w + (pw P pt))) ((m + ((pw P pt) * (pv P pt)))) ((f + 1)) ((pt + 1)) ((sq + pw P pt * pv P pt * pv P pt)) (by omega) (by first | exact ⟨by rw [fS_miss hp.1 hne]; exact hw1, by rw [fS_miss hp.1 hne]; exact hw2, by rw [fS_miss hp.1 hne]; exact hw3, by rw [fS_miss hp.1 hne]; exact hw4⟩ | exact ⟨by rw [fS_hit hp.1 heq]; omega, by rw [fS_hit hp.1 heq]; have e : fm P pt = pw P pt * pv P pt := rfl; omega, by rw [fS_hit hp.1 heq]; omega, by rw [fS_hit hp.1 heq]; have e : fq P pt = pw P pt * pv P pt * pv P pt := rfl; omega⟩) (by omega) _ _ _ X (lv_sub hl [5, 6, 7, 3, 2, 1, 0] rfl)
    exact lp_37 ((((P.length - (0)) : Int).toNat + 1)) ((σ 41 (σ 38 4))) ((σ 42 (σ 38 4))) (0) (0) ((σ 38 5)) (by omega) ⟨by rw [fS_0, hg.1]; omega, by rw [fS_0, hg.1]; omega, rfl, by rw [fS_0]; omega⟩ (by omega) _ _ _ X (lv_sub hl [4, 5, 6, 3, 2, 1, 0] rfl)
  ·
    exact absurd hg (by omega)

set_option maxHeartbeats 4000000 in
set_option maxRecDepth 100000 in
theorem t_X1_gather (l : Launch) (Y : Yt) (σ : Mem) (P : List Pt) (hR : RowIs σ 1 P) (hok : ptsOk P) (h0 : σ 41 0 = 0 ∧ σ 42 0 = 0) : MXv l LX Y yX1_gather wsX1_gather { frames := 3, cells := 0, slots := 0, locals := 69 } [.ref (Y.2.1 (38)), .ref (Y.2.1 (1))] σ (fun u => TabIs u P ∧ SameT σ u) := by
  have hr1 : isRow Y 1 := isRow_of Y (by omega)
  obtain ⟨⟨hn0, hn12, -⟩, -⟩ := prof_of hok hR.2.1
  refine g_startv (cc := cX1_gather) (nL := 4) (own := RX1) (by decide) rfl rfl (Nat.le_of_ble_eq_true rfl) ?_
  intro pp ee ss mm bw mt cd AA ZZ ls G hret X hl
  have hl : lv_has ls 4 [(0, .ref (Y.2.1 (38))), (1, .ref (Y.2.1 (1)))] := hl
  have hx := G.1
  have hb := G.2.1
  have hts := G.2.2.2.2.1
  have l_f24 := hts (.fieldLink RX1 24 "ShapeFits$GroupTable" "count" "I") (List.mem_of_getElem? (i := 1) rfl)
  have l_f28 := hts (.fieldLink RX1 28 "ShapeFits$GroupTable" "squares" "I") (List.mem_of_getElem? (i := 2) rfl)
  have in_X1 : ∀ w ∈ u_ws RX1 TX1 6, w ∈ wsX1_gather := by decide +kernel
  refine lv_aload_n hx hb dX1_gather_0 rfl (lv_at hl 0 rfl) ?_
  refine lv_iconst (v := iI 0) hx hb dX1_gather_1 rfl ?_
  refine g_puti G X (k := 38) (fs := fTab Y) (z := 0) (Nat.le_of_ble_eq_true rfl) (fun _ => rfl) rfl in_X1 tyX1 tyX1_ok nmX1 4 4 (by decide) l_f24 rfl rfl (by decide +kernel) (Nat.le_of_ble_eq_true rfl) (fun _ => rfl) dX1_gather_2 (fun H locs X => ?_)
  refine lv_aload_n hx hb dX1_gather_5 rfl (lv_at hl 0 rfl) ?_
  refine lv_iconst (v := iI 0) hx hb dX1_gather_6 rfl ?_
  refine g_puti G X (k := 38) (fs := fTab Y) (z := 0) (Nat.le_of_ble_eq_true rfl) (fun _ => rfl) rfl in_X1 tyX1 tyX1_ok nmX1 5 5 (by decide) l_f28 rfl rfl (by decide +kernel) (Nat.le_of_ble_eq_true rfl) (fun _ => rfl) dX1_gather_7 (fun H locs X => ?_)
  have hR2 : RowIs (up (up σ 38 4 0) 38 5 0) 1 P := hR.eq rfl rfl rfl rfl
  refine lv_aload_n hx hb dX1_gather_10 rfl (lv_at hl 1 rfl) ?_
  refine lv_iconst (v := iI (-1)) hx hb dX1_gather_11 rfl ?_
  refine g_callVi G X (rest := []) (As := [.int (iI ((-1)))]) (t_X5_positionBehind l Y ((up (up σ 38 4 0) 38 5 0)) (1) P ((-1)) (by first | assumption | omega) (by first | assumption | omega) (by first | assumption | omega) (by first | assumption | omega)) (cwV 1 hts gX1_gather_X5_positionBehind rfl rfl rfl (by decide +kernel) ⟨Nat.le_of_ble_eq_true rfl, Nat.le_of_ble_eq_true rfl⟩) (k := 1) (Nat.le_of_ble_eq_true rfl) rfl rfl rfl rfl hl.1 rfl (Nat.le_of_ble_eq_true rfl) dX1_gather_12 ⟨Nat.le_refl _, Nat.le_refl _⟩ (fun z12 u12 H locs hq12 X => ?_)
  rw [hq12.1] at X
  have hq12 := hq12.2
  try dsimp only at hq12
  refine lv_istore_n (lv' := [(2, .int (iI (z12))), (0, .ref (Y.2.1 (38))), (1, .ref (Y.2.1 (1)))]) hx hb dX1_gather_15 rfl hl (by decide) rfl (fun ls hl => ?_)
  refine lv_iconst (v := iI 0) hx hb dX1_gather_16 rfl ?_
  refine lv_istore_n (lv' := [(3, .int (iI (0))), (2, .int (iI (z12))), (0, .ref (Y.2.1 (38))), (1, .ref (Y.2.1 (1)))]) hx hb dX1_gather_17 rfl hl (by decide) rfl (fun ls hl => ?_)
  have lp_18 : ∀ (nn : Nat) (x g : Int) (τ : Mem), ∀ hg : 0 ≤ g ∧ g ≤ ng P, ∀ hT : TabPart σ τ P g, ∀ hx0 : -1 ≤ x ∧ x ≤ 40, ∀ hx1 : (x = -1 ∧ g = ng P) ∨ (g < ng P ∧ x = gX P g), ∀ hdec : (ng P - g) < (nn : Int), ∀ (H : Heap) (locs : List Loc) (ls : Array Slot), wx LX Y τ ss AA H locs → lv_has ls 4 [(0, .ref (Y.2.1 (38))), (1, .ref (Y.2.1 (1))), (2, .int (iI (x))), (3, .int (iI (g)))] → W pp l ee { frames := 3, cells := 0, slots := 0, locals := 69 } ss mm ([.ref (Y.2.1 (38)), .ref (Y.2.1 (1))] : List Value).toArray bw mt cd H locs 0 0 ZZ (F0 mm 18 ls []) := by
    intro nn
    induction nn with
    | zero =>
      intro x g τ hg hT hx0 hx1 hdec
      exact absurd hdec (by omega)
    | succ nn ih_18 =>
      intro x g τ hg hT hx0 hx1 hdec H locs ls X hl
      have hR3 : RowIs τ 1 P := hR.eq (hT.2.2.2.2 1 (by omega)) (hT.2.2.2.2 2 (by omega)) (hT.2.2.2.2 3 (by omega)) (hT.2.2.2.2 4 (by omega))
      have hTn := hT.1
      refine lv_iload_n hx hb dX1_gather_18 rfl (lv_at hl 3 rfl) ?_
      refine lv_bipush (v := iI 12) hx hb dX1_gather_19 (by decide +kernel) ?_
      refine g_icmp_ge (tgt := 47) G dX1_gather_21 (by decide) (by omega) (by omega) (fun h21 => ?_) (fun h21 => ?_)
      ·
        exact hret _ _ _ _ _ (tabPart_e hok hT (by rcases hx1 with q | q; exact q.2; have := gX_occ hg.1 q.1; omega)) X dX1_gather_47
      ·
        refine lv_iload_n hx hb dX1_gather_24 rfl (lv_at hl 2 rfl) ?_
        refine lv_iconst (v := iI (-1)) hx hb dX1_gather_25 rfl ?_
        refine g_icmp_eq (tgt := 47) G dX1_gather_26 (by decide) (by omega) (by omega) (fun h26 => ?_) (fun h26 => ?_)
        ·
          exact hret _ _ _ _ _ (tabPart_e hok hT (by rcases hx1 with q | q; exact q.2; have := gX_occ hg.1 q.1; omega)) X dX1_gather_47
        ·
          have hgx : g < ng P ∧ x = gX P g := by omega
          refine lv_aload_n hx hb dX1_gather_29 rfl (lv_at hl 0 rfl) ?_
          refine lv_aload_n hx hb dX1_gather_30 rfl (lv_at hl 1 rfl) ?_
          refine lv_iload_n hx hb dX1_gather_31 rfl (lv_at hl 2 rfl) ?_
          refine g_callVv G X (rest := []) (As := [.ref (Y.2.1 (1)), .int (iI (x))]) (t_X1_gatherGroup l Y (τ) P (x) (g) (by first | assumption | omega) (by first | assumption | omega) (by first | assumption | omega) (by first | assumption | omega)) (cwV 2 hts gX1_gather_X1_gatherGroup rfl rfl rfl (by decide +kernel) ⟨Nat.le_of_ble_eq_true rfl, Nat.le_of_ble_eq_true rfl⟩) (k := 38) (Nat.le_of_ble_eq_true rfl) rfl rfl rfl rfl hl.1 rfl (Nat.le_of_ble_eq_true rfl) dX1_gather_32 ⟨Nat.le_refl _, Nat.le_refl _⟩ (fun u32 H locs hq32 X => ?_)
          have hR4 : RowIs u32 1 P := by rw [hq32]; exact hR3.eq rfl rfl rfl rfl
          refine lv_aload_n hx hb dX1_gather_35 rfl (lv_at hl 1 rfl) ?_
          refine lv_iload_n hx hb dX1_gather_36 rfl (lv_at hl 2 rfl) ?_
          refine g_callVi G X (rest := []) (As := [.int (iI (x))]) (t_X5_positionBehind l Y (u32) (1) P (x) (by first | assumption | omega) (by first | assumption | omega) (by first | assumption | omega) (by first | assumption | omega)) (cwV 1 hts gX1_gather_X5_positionBehind rfl rfl rfl (by decide +kernel) ⟨Nat.le_of_ble_eq_true rfl, Nat.le_of_ble_eq_true rfl⟩) (k := 1) (Nat.le_of_ble_eq_true rfl) rfl rfl rfl rfl hl.1 rfl (Nat.le_of_ble_eq_true rfl) dX1_gather_37 ⟨Nat.le_refl _, Nat.le_refl _⟩ (fun z37 u37 H locs hq37 X => ?_)
          rw [hq37.1] at X
          have hq37 := hq37.2
          try dsimp only at hq37
          refine lv_istore_n (lv' := [(2, .int (iI (z37))), (0, .ref (Y.2.1 (38))), (1, .ref (Y.2.1 (1))), (3, .int (iI (g)))]) hx hb dX1_gather_40 rfl hl (by decide) rfl (fun ls hl => ?_)
          refine lv_iinc (v := iI (g + 1)) (lv' := [(3, .int (iI ((g + 1)))), (2, .int (iI (z37))), (0, .ref (Y.2.1 (38))), (1, .ref (Y.2.1 (1)))]) hx hb dX1_gather_41 hl (k := 3) rfl (iI_add _ _) (by decide) rfl (fun ls hl => ?_)
          refine lv_goto (tgt := 18) hx hb dX1_gather_44 (by decide) ?_
          exact ih_18 (z37) ((g + 1)) (u32) (by omega) (by rw [hq32]; exact tabPart_s hT hg.1 hgx.2) (by omega) (behind_next hok ⟨by omega, by omega⟩ (fun h a b => by by_cases e : h = g; (subst e; omega); have := gsU_asc (P := P) 41 h g a (by omega) hgx.1; unfold gX at *; omega) (fun h a b => by have := gsU_asc (P := P) 41 g h hg.1 (by omega) b; unfold gX at *; omega) hq37.1) (by omega) _ _ _ X (lv_sub hl [2, 3, 1, 0] rfl)
  exact lp_18 ((((ng P - (0)) : Int).toNat + 1)) (z12) (0) ((up (up σ 38 4 0) 38 5 0)) (by omega) (tabPart_0 h0.1 h0.2) (by omega) (behind_next hok ⟨Int.le_refl 0, hn0⟩ (fun h a b => by omega) (fun h a b => by have := gX_occ a b; omega) hq12.1) (by omega) _ _ _ X (lv_sub hl [2, 3, 1, 0] rfl)

