set_option maxHeartbeats 4000000 in
set_option maxRecDepth 100000 in
theorem t_X3_rise (l : Launch) (Y : Yt) (σ : Mem) (n : Int) (Xf : Int → Int) (Cf : Int → Int) (Wf : Int → Int) (Mf : Int → Int) (q : Int) (k : Nat) (a : Int) (b : Int) (hT : Tb σ n Xf Cf Wf Mf q) (hPf : Prof n Xf Wf Mf) (hk : isHull Y k) (ha : 0 ≤ a ∧ a < n) (hb0 : 0 ≤ b ∧ b < n) : MXl l LX Y yX3_rise wsX3_rise { frames := 2, cells := 0, slots := 0, locals := 46 } [.ref (Y.2.1 (k)), .int (iI (a)), .int (iI (b))] σ (fun z u => u = σ ∧ (z = cmpM Wf Mf b b a a ∧ -114048 ≤ z ∧ z ≤ 114048)) := by
  obtain ⟨⟨hn0, hn12, hW0, hM0, hW24⟩, hstep, hXa, hXr⟩ := id hPf
  obtain ⟨hTn, hTq, hTx, hTw⟩ := id hT
  have hkk := hk.1
  refine g_startl (cc := cX3_rise) (nL := 3) (own := RX3) (by decide) rfl rfl (Nat.le_of_ble_eq_true rfl) ?_
  intro pp ee ss mm bw mt cd AA ZZ ls G hret X hl
  have hl : lv_has ls 3 [(0, .ref (Y.2.1 (k))), (1, .int (iI (a))), (2, .int (iI (b)))] := hl
  have hx := G.1
  have hb := G.2.1
  have hts := G.2.2.2.2.1
  have l_f15 := hts (.fieldLink RX3 15 "ShapeFits$Hull" "table" "LShapeFits$GroupTable;") (List.mem_of_getElem? (i := 1) rfl)
  have in_X3 : ∀ w ∈ u_ws RX3 TX3 4, w ∈ wsX3_rise := by decide +kernel
  refine lv_aload_n hx hb dX3_rise_0 rfl (lv_at hl 0 rfl) ?_
  refine g_get G X (k := k) (fs := fHull k Y) hk.k0 hk.2.1 rfl in_X3 0 (by decide) l_f15 rfl (v := .ref (Y.2.1 (38))) rfl dX3_rise_1 ?_
  refine lv_iload_n hx hb dX3_rise_4 rfl (lv_at hl 2 rfl) ?_
  refine lv_iload_n hx hb dX3_rise_5 rfl (lv_at hl 2 rfl) ?_
  refine lv_iload_n hx hb dX3_rise_6 rfl (lv_at hl 1 rfl) ?_
  refine lv_iload_n hx hb dX3_rise_7 rfl (lv_at hl 1 rfl) ?_
  refine g_callVi G X (rest := []) (As := [.int (iI (b)), .int (iI (b)), .int (iI (a)), .int (iI (a))]) (t_X1_compareMeans l Y (σ) n Xf Cf Wf Mf q (b) (b) (a) (a) (by first | assumption | omega) (by first | assumption | omega) (by first | assumption | omega) (by first | assumption | omega)) (cwV 4 hts gX3_rise_X1_compareMeans rfl rfl rfl (by decide +kernel) ⟨Nat.le_of_ble_eq_true rfl, Nat.le_of_ble_eq_true rfl⟩) (k := 38) (Nat.le_of_ble_eq_true rfl) rfl rfl rfl rfl hl.1 rfl (Nat.le_of_ble_eq_true rfl) dX3_rise_8 ⟨Nat.le_refl _, Nat.le_refl _⟩ (fun z8 u8 H locs hq8 X => ?_)
  rw [hq8.1] at X
  have hq8 := hq8.2
  try dsimp only at hq8
  refine g_topi (z' := cmpM Wf Mf b b a a) hq8.1 ?_
  have hcr := cmpM_rg hPf (a := b) (b := b) (c := a) (d := a) (by omega) (by omega)
  refine g_i2l G (by omega) dX3_rise_11 ?_
  exact hret _ _ _ _ _ _ (⟨rfl, rfl, hcr⟩) X dX3_rise_12

set_option maxHeartbeats 4000000 in
set_option maxRecDepth 100000 in
theorem t_X3_weight (l : Launch) (Y : Yt) (σ : Mem) (n : Int) (Xf : Int → Int) (Cf : Int → Int) (Wf : Int → Int) (Mf : Int → Int) (q : Int) (k : Nat) (a : Int) (hT : Tb σ n Xf Cf Wf Mf q) (hPf : Prof n Xf Wf Mf) (hk : isHull Y k) (ha : 0 ≤ a ∧ a < n) : MXl l LX Y yX3_weight wsX3_weight { frames := 1, cells := 0, slots := 0, locals := 22 } [.ref (Y.2.1 (k)), .int (iI (a))] σ (fun z u => u = σ ∧ (z = Wf (a + 1) - Wf a ∧ 1 ≤ z ∧ z ≤ 24)) := by
  obtain ⟨⟨hn0, hn12, hW0, hM0, hW24⟩, hstep, hXa, hXr⟩ := id hPf
  obtain ⟨hTn, hTq, hTx, hTw⟩ := id hT
  have hkk := hk.1
  have hw := prof_w hPf ha.1 (b := a + 1) (by omega) (by omega)
  have hw2 := prof_rg hPf ha.1 (b := a + 1) (by omega) (by omega)
  refine g_startl (cc := cX3_weight) (nL := 2) (own := RX3) (by decide) rfl rfl (Nat.le_of_ble_eq_true rfl) ?_
  intro pp ee ss mm bw mt cd AA ZZ ls G hret X hl
  have hl : lv_has ls 2 [(0, .ref (Y.2.1 (k))), (1, .int (iI (a)))] := hl
  have hx := G.1
  have hb := G.2.1
  have hts := G.2.2.2.2.1
  have l_f15 := hts (.fieldLink RX3 15 "ShapeFits$Hull" "table" "LShapeFits$GroupTable;") (List.mem_of_getElem? (i := 1) rfl)
  have in_X3 : ∀ w ∈ u_ws RX3 TX3 4, w ∈ wsX3_weight := by decide +kernel
  refine lv_aload_n hx hb dX3_weight_0 rfl (lv_at hl 0 rfl) ?_
  refine g_get G X (k := k) (fs := fHull k Y) hk.k0 hk.2.1 rfl in_X3 0 (by decide) l_f15 rfl (v := .ref (Y.2.1 (38))) rfl dX3_weight_1 ?_
  refine lv_iload_n hx hb dX3_weight_4 rfl (lv_at hl 1 rfl) ?_
  refine lv_iload_n hx hb dX3_weight_5 rfl (lv_at hl 1 rfl) ?_
  refine g_callVi G X (rest := []) (As := [.int (iI (a)), .int (iI (a))]) (t_X1_weightOf l Y (σ) n Xf Cf Wf Mf q (a) (a) (by first | assumption | omega) (by first | assumption | omega) (by first | assumption | omega) (by first | assumption | omega)) (cwV 2 hts gX3_weight_X1_weightOf rfl rfl rfl (by decide +kernel) ⟨Nat.le_of_ble_eq_true rfl, Nat.le_of_ble_eq_true rfl⟩) (k := 38) (Nat.le_of_ble_eq_true rfl) rfl rfl rfl rfl hl.1 rfl (Nat.le_of_ble_eq_true rfl) dX3_weight_6 ⟨Nat.le_refl _, Nat.le_refl _⟩ (fun z6 u6 H locs hq6 X => ?_)
  rw [hq6.1] at X
  have hq6 := hq6.2
  try dsimp only at hq6
  refine g_topi (z' := Wf (a + 1) - Wf a) (hq6.1 (by omega)) ?_
  refine g_i2l G (by omega) dX3_weight_9 ?_
  exact hret _ _ _ _ _ _ (⟨rfl, rfl, by omega⟩) X dX3_weight_10

set_option maxHeartbeats 4000000 in
set_option maxRecDepth 100000 in
theorem t_X3_moment (l : Launch) (Y : Yt) (σ : Mem) (n : Int) (Xf : Int → Int) (Cf : Int → Int) (Wf : Int → Int) (Mf : Int → Int) (q : Int) (k : Nat) (a : Int) (hT : Tb σ n Xf Cf Wf Mf q) (hPf : Prof n Xf Wf Mf) (hk : isHull Y k) (ha : 0 ≤ a ∧ a < n) : MXl l LX Y yX3_moment wsX3_moment { frames := 1, cells := 0, slots := 0, locals := 22 } [.ref (Y.2.1 (k)), .int (iI (a))] σ (fun z u => u = σ ∧ (z = Mf (a + 1) - Mf a ∧ -2376 ≤ z ∧ z ≤ 2376)) := by
  obtain ⟨⟨hn0, hn12, hW0, hM0, hW24⟩, hstep, hXa, hXr⟩ := id hPf
  obtain ⟨hTn, hTq, hTx, hTw⟩ := id hT
  have hkk := hk.1
  have hw := prof_w hPf ha.1 (b := a + 1) (by omega) (by omega)
  have hw2 := prof_rg hPf ha.1 (b := a + 1) (by omega) (by omega)
  refine g_startl (cc := cX3_moment) (nL := 2) (own := RX3) (by decide) rfl rfl (Nat.le_of_ble_eq_true rfl) ?_
  intro pp ee ss mm bw mt cd AA ZZ ls G hret X hl
  have hl : lv_has ls 2 [(0, .ref (Y.2.1 (k))), (1, .int (iI (a)))] := hl
  have hx := G.1
  have hb := G.2.1
  have hts := G.2.2.2.2.1
  have l_f15 := hts (.fieldLink RX3 15 "ShapeFits$Hull" "table" "LShapeFits$GroupTable;") (List.mem_of_getElem? (i := 1) rfl)
  have in_X3 : ∀ w ∈ u_ws RX3 TX3 4, w ∈ wsX3_moment := by decide +kernel
  refine lv_aload_n hx hb dX3_moment_0 rfl (lv_at hl 0 rfl) ?_
  refine g_get G X (k := k) (fs := fHull k Y) hk.k0 hk.2.1 rfl in_X3 0 (by decide) l_f15 rfl (v := .ref (Y.2.1 (38))) rfl dX3_moment_1 ?_
  refine lv_iload_n hx hb dX3_moment_4 rfl (lv_at hl 1 rfl) ?_
  refine lv_iload_n hx hb dX3_moment_5 rfl (lv_at hl 1 rfl) ?_
  refine g_callVi G X (rest := []) (As := [.int (iI (a)), .int (iI (a))]) (t_X1_momentOf l Y (σ) n Xf Cf Wf Mf q (a) (a) (by first | assumption | omega) (by first | assumption | omega) (by first | assumption | omega) (by first | assumption | omega)) (cwV 2 hts gX3_moment_X1_momentOf rfl rfl rfl (by decide +kernel) ⟨Nat.le_of_ble_eq_true rfl, Nat.le_of_ble_eq_true rfl⟩) (k := 38) (Nat.le_of_ble_eq_true rfl) rfl rfl rfl rfl hl.1 rfl (Nat.le_of_ble_eq_true rfl) dX3_moment_6 ⟨Nat.le_refl _, Nat.le_refl _⟩ (fun z6 u6 H locs hq6 X => ?_)
  rw [hq6.1] at X
  have hq6 := hq6.2
  try dsimp only at hq6
  refine g_topi (z' := Mf (a + 1) - Mf a) (hq6.1 (by omega)) ?_
  refine g_i2l G (by omega) dX3_moment_9 ?_
  exact hret _ _ _ _ _ _ (⟨rfl, rfl, by omega⟩) X dX3_moment_10

set_option maxHeartbeats 4000000 in
set_option maxRecDepth 100000 in
theorem t_X3_distance (l : Launch) (Y : Yt) (σ : Mem) (n : Int) (Xf : Int → Int) (Cf : Int → Int) (Wf : Int → Int) (Mf : Int → Int) (q : Int) (k : Nat) (a : Int) (b : Int) (hT : Tb σ n Xf Cf Wf Mf q) (hPf : Prof n Xf Wf Mf) (hk : isHull Y k) (ha : 0 ≤ a ∧ a < n) (hb0 : 0 ≤ b ∧ b < n) : MXl l LX Y yX3_distance wsX3_distance { frames := 2, cells := 0, slots := 0, locals := 42 } [.ref (Y.2.1 (k)), .int (iI (a)), .int (iI (b))] σ (fun z u => u = σ ∧ (z = Xf b - Xf a ∧ -40 ≤ z ∧ z ≤ 40)) := by
  obtain ⟨⟨hn0, hn12, hW0, hM0, hW24⟩, hstep, hXa, hXr⟩ := id hPf
  obtain ⟨hTn, hTq, hTx, hTw⟩ := id hT
  have hkk := hk.1
  have hxa := hXr a (by omega) (by omega)
  have hxb := hXr b (by omega) (by omega)
  refine g_startl (cc := cX3_distance) (nL := 3) (own := RX3) (by decide) rfl rfl (Nat.le_of_ble_eq_true rfl) ?_
  intro pp ee ss mm bw mt cd AA ZZ ls G hret X hl
  have hl : lv_has ls 3 [(0, .ref (Y.2.1 (k))), (1, .int (iI (a))), (2, .int (iI (b)))] := hl
  have hx := G.1
  have hb := G.2.1
  have hts := G.2.2.2.2.1
  have l_f15 := hts (.fieldLink RX3 15 "ShapeFits$Hull" "table" "LShapeFits$GroupTable;") (List.mem_of_getElem? (i := 1) rfl)
  have in_X3 : ∀ w ∈ u_ws RX3 TX3 4, w ∈ wsX3_distance := by decide +kernel
  refine lv_aload_n hx hb dX3_distance_0 rfl (lv_at hl 0 rfl) ?_
  refine g_get G X (k := k) (fs := fHull k Y) hk.k0 hk.2.1 rfl in_X3 0 (by decide) l_f15 rfl (v := .ref (Y.2.1 (38))) rfl dX3_distance_1 ?_
  refine lv_iload_n hx hb dX3_distance_4 rfl (lv_at hl 2 rfl) ?_
  refine g_callVi G X (rest := []) (As := [.int (iI (b))]) (t_X1_positionOf l Y (σ) n Xf Cf Wf Mf q (b) (by first | assumption | omega) (by first | assumption | omega) (by first | assumption | omega)) (cwV 1 hts gX3_distance_X1_positionOf rfl rfl rfl (by decide +kernel) ⟨Nat.le_of_ble_eq_true rfl, Nat.le_of_ble_eq_true rfl⟩) (k := 38) (Nat.le_of_ble_eq_true rfl) rfl rfl rfl rfl hl.1 rfl (Nat.le_of_ble_eq_true rfl) dX3_distance_5 ⟨Nat.le_refl _, Nat.le_refl _⟩ (fun z5 u5 H locs hq5 X => ?_)
  rw [hq5.1] at X
  have hq5 := hq5.2
  try dsimp only at hq5
  refine g_topi (z' := Xf b) (hq5.1 (by omega)) ?_
  refine lv_aload_n hx hb dX3_distance_8 rfl (lv_at hl 0 rfl) ?_
  refine g_get G X (k := k) (fs := fHull k Y) hk.k0 hk.2.1 rfl in_X3 0 (by decide) l_f15 rfl (v := .ref (Y.2.1 (38))) rfl dX3_distance_9 ?_
  refine lv_iload_n hx hb dX3_distance_12 rfl (lv_at hl 1 rfl) ?_
  refine g_callVi G X (rest := [.int (iI ((Xf b)))]) (As := [.int (iI (a))]) (t_X1_positionOf l Y (σ) n Xf Cf Wf Mf q (a) (by first | assumption | omega) (by first | assumption | omega) (by first | assumption | omega)) (cwV 1 hts gX3_distance_X1_positionOf rfl rfl rfl (by decide +kernel) ⟨Nat.le_of_ble_eq_true rfl, Nat.le_of_ble_eq_true rfl⟩) (k := 38) (Nat.le_of_ble_eq_true rfl) rfl rfl rfl rfl hl.1 rfl (Nat.le_of_ble_eq_true rfl) dX3_distance_13 ⟨Nat.le_refl _, Nat.le_refl _⟩ (fun z13 u13 H locs hq13 X => ?_)
  rw [hq13.1] at X
  have hq13 := hq13.2
  try dsimp only at hq13
  refine g_topi (z' := Xf a) (hq13.1 (by omega)) ?_
  refine g_isub G dX3_distance_16 ?_
  refine g_i2l G (by omega) dX3_distance_17 ?_
  exact hret _ _ _ _ _ _ (⟨rfl, rfl, by omega⟩) X dX3_distance_18

set_option maxHeartbeats 4000000 in
set_option maxRecDepth 100000 in
theorem t_X3_bends (l : Launch) (Y : Yt) (σ : Mem) (n : Int) (Xf : Int → Int) (Cf : Int → Int) (Wf : Int → Int) (Mf : Int → Int) (q : Int) (k : Nat) (a : Int) (b : Int) (c : Int) (side : Int) (hT : Tb σ n Xf Cf Wf Mf q) (hPf : Prof n Xf Wf Mf) (hk : isHull Y k) (hs : side = 1 ∨ side = -1) (hsd : σ k 1 = side) (ha : 0 ≤ a ∧ a < n) (hb0 : 0 ≤ b ∧ b < n) (hc0 : 0 ≤ c ∧ c < n) : MXi l LX Y yX3_bends wsX3_bends { frames := 3, cells := 0, slots := 0, locals := 68 } [.ref (Y.2.1 (k)), .int (iI (a)), .int (iI (b)), .int (iI (c))] σ (fun z u => u = σ ∧ ((z = 1 ∧ side * sD Xf Wf Mf a b c < 0) ∨ (z = 0 ∧ ¬ side * sD Xf Wf Mf a b c < 0))) := by
  obtain ⟨⟨hn0, hn12, hW0, hM0, hW24⟩, hstep, hXa, hXr⟩ := id hPf
  obtain ⟨hTn, hTq, hTx, hTw⟩ := id hT
  have hkk := hk.1
  have hbd := sD_bd Xf Wf Mf a b c
  refine g_starti (rty := .boolean) (fun z u h => nrZ (by have := h.2; omega)) (cc := cX3_bends) (nL := 8) (own := RX3) (by decide) rfl rfl (Nat.le_of_ble_eq_true rfl) ?_
  intro pp ee ss mm bw mt cd AA ZZ ls G hret X hl
  have hl : lv_has ls 8 [(0, .ref (Y.2.1 (k))), (1, .int (iI (a))), (2, .int (iI (b))), (3, .int (iI (c)))] := hl
  have hx := G.1
  have hb := G.2.1
  have hts := G.2.2.2.2.1
  have l_f19 := hts (.fieldLink RX3 19 "ShapeFits$Hull" "side" "I") (List.mem_of_getElem? (i := 1) rfl)
  have in_X3 : ∀ w ∈ u_ws RX3 TX3 4, w ∈ wsX3_bends := by decide +kernel
  refine lv_aload_n hx hb dX3_bends_0 rfl (lv_at hl 0 rfl) ?_
  refine lv_iload_n hx hb dX3_bends_1 rfl (lv_at hl 1 rfl) ?_
  refine lv_iload_n hx hb dX3_bends_2 rfl (lv_at hl 2 rfl) ?_
  refine g_callVl G X (rest := []) (As := [.int (iI (a)), .int (iI (b))]) (t_X3_rise l Y (σ) n Xf Cf Wf Mf q (k) (a) (b) (by first | assumption | omega) (by first | assumption | omega) (by first | assumption | omega) (by first | assumption | omega) (by first | assumption | omega)) (cwV 2 hts gX3_bends_X3_rise rfl rfl rfl (by decide +kernel) ⟨Nat.le_of_ble_eq_true rfl, Nat.le_of_ble_eq_true rfl⟩) (k := k) hk.k0 rfl (hk.2.1 _) rfl rfl hl.1 rfl (Nat.le_of_ble_eq_true rfl) dX3_bends_3 ⟨Nat.le_refl _, Nat.le_refl _⟩ (fun z3 u3 H locs hq3 X => ?_)
  rw [hq3.1] at X
  have hq3 := hq3.2
  try dsimp only at hq3
  refine g_topl (z' := cmpM Wf Mf b b a a) hq3.1 ?_
  refine lv_aload_n hx hb dX3_bends_6 rfl (lv_at hl 0 rfl) ?_
  refine lv_iload_n hx hb dX3_bends_7 rfl (lv_at hl 3 rfl) ?_
  refine g_callVl G X (rest := [.long (lI ((cmpM Wf Mf b b a a)))]) (As := [.int (iI (c))]) (t_X3_weight l Y (σ) n Xf Cf Wf Mf q (k) (c) (by first | assumption | omega) (by first | assumption | omega) (by first | assumption | omega) (by first | assumption | omega)) (cwV 1 hts gX3_bends_X3_weight rfl rfl rfl (by decide +kernel) ⟨Nat.le_of_ble_eq_true rfl, Nat.le_of_ble_eq_true rfl⟩) (k := k) hk.k0 rfl (hk.2.1 _) rfl rfl hl.1 rfl (Nat.le_of_ble_eq_true rfl) dX3_bends_8 ⟨Nat.le_refl _, Nat.le_refl _⟩ (fun z8 u8 H locs hq8 X => ?_)
  rw [hq8.1] at X
  have hq8 := hq8.2
  try dsimp only at hq8
  refine g_topl (z' := Wf (c + 1) - Wf c) hq8.1 ?_
  refine g_lmul G dX3_bends_11 ?_
  refine lv_aload_n hx hb dX3_bends_12 rfl (lv_at hl 0 rfl) ?_
  refine lv_iload_n hx hb dX3_bends_13 rfl (lv_at hl 2 rfl) ?_
  refine lv_iload_n hx hb dX3_bends_14 rfl (lv_at hl 3 rfl) ?_
  refine g_callVl G X (rest := [.long (lI (((cmpM Wf Mf b b a a) * (Wf (c + 1) - Wf c))))]) (As := [.int (iI (b)), .int (iI (c))]) (t_X3_distance l Y (σ) n Xf Cf Wf Mf q (k) (b) (c) (by first | assumption | omega) (by first | assumption | omega) (by first | assumption | omega) (by first | assumption | omega) (by first | assumption | omega)) (cwV 2 hts gX3_bends_X3_distance rfl rfl rfl (by decide +kernel) ⟨Nat.le_of_ble_eq_true rfl, Nat.le_of_ble_eq_true rfl⟩) (k := k) hk.k0 rfl (hk.2.1 _) rfl rfl hl.1 rfl (Nat.le_of_ble_eq_true rfl) dX3_bends_15 ⟨Nat.le_refl _, Nat.le_refl _⟩ (fun z15 u15 H locs hq15 X => ?_)
  rw [hq15.1] at X
  have hq15 := hq15.2
  try dsimp only at hq15
  refine g_topl (z' := Xf c - Xf b) hq15.1 ?_
  refine g_lmul G dX3_bends_18 ?_
  refine lv_lstore (lv' := [(4, .long (lI ((((cmpM Wf Mf b b a a) * (Wf (c + 1) - Wf c)) * (Xf c - Xf b))))), (0, .ref (Y.2.1 (k))), (1, .int (iI (a))), (2, .int (iI (b))), (3, .int (iI (c)))]) hx hb dX3_bends_19 hl (by decide) rfl (fun ls hl => ?_)
  refine lv_aload_n hx hb dX3_bends_21 rfl (lv_at hl 1 rfl) ?_
  refine lv_iload_n hx hb dX3_bends_22 rfl (lv_at hl 3 rfl) ?_
  refine lv_iload_n hx hb dX3_bends_23 rfl (lv_at hl 4 rfl) ?_
  refine g_callVl G X (rest := []) (As := [.int (iI (b)), .int (iI (c))]) (t_X3_rise l Y (σ) n Xf Cf Wf Mf q (k) (b) (c) (by first | assumption | omega) (by first | assumption | omega) (by first | assumption | omega) (by first | assumption | omega) (by first | assumption | omega)) (cwV 2 hts gX3_bends_X3_rise rfl rfl rfl (by decide +kernel) ⟨Nat.le_of_ble_eq_true rfl, Nat.le_of_ble_eq_true rfl⟩) (k := k) hk.k0 rfl (hk.2.1 _) rfl rfl hl.1 rfl (Nat.le_of_ble_eq_true rfl) dX3_bends_24 ⟨Nat.le_refl _, Nat.le_refl _⟩ (fun z24 u24 H locs hq24 X => ?_)
  rw [hq24.1] at X
  have hq24 := hq24.2
  try dsimp only at hq24
  refine g_topl (z' := cmpM Wf Mf c c b b) hq24.1 ?_
  refine lv_aload_n hx hb dX3_bends_27 rfl (lv_at hl 1 rfl) ?_
  refine lv_iload_n hx hb dX3_bends_28 rfl (lv_at hl 2 rfl) ?_
  refine g_callVl G X (rest := [.long (lI ((cmpM Wf Mf c c b b)))]) (As := [.int (iI (a))]) (t_X3_weight l Y (σ) n Xf Cf Wf Mf q (k) (a) (by first | assumption | omega) (by first | assumption | omega) (by first | assumption | omega) (by first | assumption | omega)) (cwV 1 hts gX3_bends_X3_weight rfl rfl rfl (by decide +kernel) ⟨Nat.le_of_ble_eq_true rfl, Nat.le_of_ble_eq_true rfl⟩) (k := k) hk.k0 rfl (hk.2.1 _) rfl rfl hl.1 rfl (Nat.le_of_ble_eq_true rfl) dX3_bends_29 ⟨Nat.le_refl _, Nat.le_refl _⟩ (fun z29 u29 H locs hq29 X => ?_)
  rw [hq29.1] at X
  have hq29 := hq29.2
  try dsimp only at hq29
  refine g_topl (z' := Wf (a + 1) - Wf a) hq29.1 ?_
  refine g_lmul G dX3_bends_32 ?_
  refine lv_aload_n hx hb dX3_bends_33 rfl (lv_at hl 1 rfl) ?_
  refine lv_iload_n hx hb dX3_bends_34 rfl (lv_at hl 2 rfl) ?_
  refine lv_iload_n hx hb dX3_bends_35 rfl (lv_at hl 3 rfl) ?_
  refine g_callVl G X (rest := [.long (lI (((cmpM Wf Mf c c b b) * (Wf (a + 1) - Wf a))))]) (As := [.int (iI (a)), .int (iI (b))]) (t_X3_distance l Y (σ) n Xf Cf Wf Mf q (k) (a) (b) (by first | assumption | omega) (by first | assumption | omega) (by first | assumption | omega) (by first | assumption | omega) (by first | assumption | omega)) (cwV 2 hts gX3_bends_X3_distance rfl rfl rfl (by decide +kernel) ⟨Nat.le_of_ble_eq_true rfl, Nat.le_of_ble_eq_true rfl⟩) (k := k) hk.k0 rfl (hk.2.1 _) rfl rfl hl.1 rfl (Nat.le_of_ble_eq_true rfl) dX3_bends_36 ⟨Nat.le_refl _, Nat.le_refl _⟩ (fun z36 u36 H locs hq36 X => ?_)
  rw [hq36.1] at X
  have hq36 := hq36.2
  try dsimp only at hq36
  refine g_topl (z' := Xf b - Xf a) hq36.1 ?_
  refine g_lmul G dX3_bends_39 ?_
  refine lv_lstore (lv' := [(6, .long (lI ((((cmpM Wf Mf c c b b) * (Wf (a + 1) - Wf a)) * (Xf b - Xf a))))), (4, .long (lI ((((cmpM Wf Mf b b a a) * (Wf (c + 1) - Wf c)) * (Xf c - Xf b))))), (0, .ref (Y.2.1 (k))), (1, .int (iI (a))), (2, .int (iI (b))), (3, .int (iI (c)))]) hx hb dX3_bends_40 hl (by decide) rfl (fun ls hl => ?_)
  refine lv_aload_n hx hb dX3_bends_42 rfl (lv_at hl 2 rfl) ?_
  refine g_get G X (k := k) (fs := fHull k Y) hk.k0 hk.2.1 rfl in_X3 1 (by decide) l_f19 rfl (v := .int (iI ((σ k 1)))) rfl dX3_bends_43 ?_
  refine g_i2l G (by rw [hsd]; rcases hs with h9 | h9 <;> omega) dX3_bends_46 ?_
  refine lv_lload hx hb dX3_bends_47 (lv_at hl 1 rfl) ?_
  refine g_lmul G dX3_bends_49 ?_
  refine lv_aload_n hx hb dX3_bends_50 rfl (lv_at hl 2 rfl) ?_
  refine g_get G X (k := k) (fs := fHull k Y) hk.k0 hk.2.1 rfl in_X3 1 (by decide) l_f19 rfl (v := .int (iI ((σ k 1)))) rfl dX3_bends_51 ?_
  refine g_i2l G (by rw [hsd]; rcases hs with h9 | h9 <;> omega) dX3_bends_54 ?_
  refine lv_lload hx hb dX3_bends_55 (lv_at hl 0 rfl) ?_
  refine g_lmul G dX3_bends_57 ?_
  rw [hq3.1] at hq3
  rw [hq8.1] at hq8
  rw [hq15.1] at hq15
  rw [hq24.1] at hq24
  rw [hq29.1] at hq29
  rw [hq36.1] at hq36
  have r1 := mul_rg (a := cmpM Wf Mf b b a a) (b := Wf (c + 1) - Wf c) (A := 114048) (B := 24) (by omega) (by omega)
  have r2 := mul_rg (a := cmpM Wf Mf b b a a * (Wf (c + 1) - Wf c)) (b := Xf c - Xf b) (A := 2737152) (B := 40) (by omega) (by omega)
  have r3 := mul_rg (a := cmpM Wf Mf c c b b) (b := Wf (a + 1) - Wf a) (A := 114048) (B := 24) (by omega) (by omega)
  have r4 := mul_rg (a := cmpM Wf Mf c c b b * (Wf (a + 1) - Wf a)) (b := Xf b - Xf a) (A := 2737152) (B := 40) (by omega) (by omega)
  obtain ⟨u1, hu1⟩ : ∃ u1, u1 = cmpM Wf Mf b b a a * (Wf (c + 1) - Wf c) * (Xf c - Xf b) := ⟨_, rfl⟩
  obtain ⟨u2, hu2⟩ : ∃ u2, u2 = cmpM Wf Mf c c b b * (Wf (a + 1) - Wf a) * (Xf b - Xf a) := ⟨_, rfl⟩
  rw [← hu1] at r2 hbd
  rw [← hu2] at r4 hbd
  have s1 : -109486080 ≤ (σ k 1) * u1 ∧ (σ k 1) * u1 ≤ 109486080 := by rw [hsd]; rcases hs with rfl | rfl <;> omega
  have s2 : -109486080 ≤ (σ k 1) * u2 ∧ (σ k 1) * u2 ≤ 109486080 := by rw [hsd]; rcases hs with rfl | rfl <;> omega
  refine g_topl (z' := ((σ k 1) * u2)) (by rw [hu2]) ?_
  have s3 : (σ k 1) * u1 - (σ k 1) * u2 = side * sD Xf Wf Mf a b c := by rw [← hbd, hsd, Int.mul_sub]
  refine g_lif_ge (tgt := 66) G dX3_bends_58 dX3_bends_59 (by decide) (by rw [← hu1]; omega) (by omega) (fun h58 => ?_) (fun h58 => ?_)
  ·
    refine lv_iconst (v := iI 0) hx hb dX3_bends_66 rfl ?_
    exact hret _ _ _ _ _ _ (⟨rfl, by rw [← hu1] at h58; omega⟩) X dX3_bends_67
  ·
    refine lv_iconst (v := iI 1) hx hb dX3_bends_62 rfl ?_
    refine lv_goto (tgt := 67) hx hb dX3_bends_63 (by decide) ?_
    exact hret _ _ _ _ _ _ (⟨rfl, by rw [← hu1] at h58; omega⟩) X dX3_bends_67

set_option maxHeartbeats 4000000 in
set_option maxRecDepth 100000 in
theorem t_X3_innerCorners (l : Launch) (Y : Yt) (σ : Mem) (n : Int) (Xf : Int → Int) (Cf : Int → Int) (Wf : Int → Int) (Mf : Int → Int) (q : Int) (k : Nat) (D : Int → Int → Int → Int) (C : List Int) (hT : Tb σ n Xf Cf Wf Mf q) (hPf : Prof n Xf Wf Mf) (hk : isHull Y k) (hC : HulIs σ k C) (hH : HullI D n C) : MXi l LX Y yX3_innerCorners wsX3_innerCorners { frames := 1, cells := 0, slots := 0, locals := 21 } [.ref (Y.2.1 (k))] σ (fun z u => u = σ ∧ ((2 ≤ C.length → z = C.length - 2) ∧ (C.length < 2 → z = 0))) := by
  obtain ⟨⟨hn0, hn12, hW0, hM0, hW24⟩, hstep, hXa, hXr⟩ := id hPf
  obtain ⟨hTn, hTq, hTx, hTw⟩ := id hT
  have hkk := hk.1
  obtain ⟨hC1, hC2⟩ := id hC
  have hH4 := hH.2.2.2
  refine g_starti (rty := .int) (fun _ _ _ => rfl) (cc := cX3_innerCorners) (nL := 1) (own := RX3) (by decide) rfl rfl (Nat.le_of_ble_eq_true rfl) ?_
  intro pp ee ss mm bw mt cd AA ZZ ls G hret X hl
  have hl : lv_has ls 1 [(0, .ref (Y.2.1 (k)))] := hl
  have hx := G.1
  have hb := G.2.1
  have hts := G.2.2.2.2.1
  have l_f23 := hts (.fieldLink RX3 23 "ShapeFits$Hull" "count" "I") (List.mem_of_getElem? (i := 1) rfl)
  have in_X3 : ∀ w ∈ u_ws RX3 TX3 4, w ∈ wsX3_innerCorners := by decide +kernel
  refine lv_iconst (v := iI 0) hx hb dX3_innerCorners_0 rfl ?_
  refine lv_aload_n hx hb dX3_innerCorners_1 rfl (lv_at hl 0 rfl) ?_
  refine g_get G X (k := k) (fs := fHull k Y) hk.k0 hk.2.1 rfl in_X3 3 (by decide) l_f23 rfl (v := .int (iI ((σ k 3)))) rfl dX3_innerCorners_2 ?_
  refine lv_iconst (v := iI 2) hx hb dX3_innerCorners_5 rfl ?_
  refine g_isub G dX3_innerCorners_6 ?_
  refine g_mmax G (a := 0) (b := ((σ k 3) - 2)) (by omega) (by omega) (hts (.methodLink RX3 36 Lib.Math.max.name) (List.mem_of_getElem? (i := 2) rfl)) (hts (.static Lib.Math.max.name) (List.mem_of_getElem? (i := 3) rfl)) (hts (.initialized "java/lang/Math") (List.mem_of_getElem? (i := 4) rfl)) (hts (.code Lib.Math.max.name Lib.Math.max.code 2 (some .int)) (List.mem_of_getElem? (i := 5) rfl)) hl.1 (Nat.le_of_ble_eq_true rfl) (Nat.le_of_ble_eq_true rfl) ⟨Nat.le_refl _, Nat.le_refl _⟩ dX3_innerCorners_7 ?_
  exact hret _ _ _ _ _ _ (⟨rfl, by split <;> omega⟩) X dX3_innerCorners_10

set_option maxHeartbeats 4000000 in
set_option maxRecDepth 100000 in
theorem t_X3_innerCorner (l : Launch) (Y : Yt) (σ : Mem) (n : Int) (Xf : Int → Int) (Cf : Int → Int) (Wf : Int → Int) (Mf : Int → Int) (q : Int) (k : Nat) (x : Int) (D : Int → Int → Int → Int) (C : List Int) (hT : Tb σ n Xf Cf Wf Mf q) (hPf : Prof n Xf Wf Mf) (hk : isHull Y k) (hC : HulIs σ k C) (hH : HullI D n C) (hx0 : -2147483648 ≤ x ∧ x ≤ 2147483647) : MXi l LX Y yX3_innerCorner wsX3_innerCorner { frames := 2, cells := 0, slots := 0, locals := 41 } [.ref (Y.2.1 (k)), .int (iI (x))] σ (fun z u => u = σ ∧ ((0 ≤ x ∧ x + 2 < C.length → z = at0 C (x + 1)) ∧ (¬ (0 ≤ x ∧ x + 2 < C.length) → z = -1))) := by
  obtain ⟨⟨hn0, hn12, hW0, hM0, hW24⟩, hstep, hXa, hXr⟩ := id hPf
  obtain ⟨hTn, hTq, hTx, hTw⟩ := id hT
  have hkk := hk.1
  obtain ⟨hC1, hC2⟩ := id hC
  have hH4 := hH.2.2.2
  refine g_starti (rty := .int) (fun _ _ _ => rfl) (cc := cX3_innerCorner) (nL := 2) (own := RX3) (by decide) rfl rfl (Nat.le_of_ble_eq_true rfl) ?_
  intro pp ee ss mm bw mt cd AA ZZ ls G hret X hl
  have hl : lv_has ls 2 [(0, .ref (Y.2.1 (k))), (1, .int (iI (x)))] := hl
  have hx := G.1
  have hb := G.2.1
  have hts := G.2.2.2.2.1
  have l_f9 := hts (.fieldLink RX3 9 "ShapeFits$Hull" "corner" "[I") (List.mem_of_getElem? (i := 1) rfl)
  have in_X3 : ∀ w ∈ u_ws RX3 TX3 4, w ∈ wsX3_innerCorner := by decide +kernel
  refine lv_iload_n hx hb dX3_innerCorner_0 rfl (lv_at hl 1 rfl) ?_
  refine g_if_lt (tgt := 23) G dX3_innerCorner_1 (by decide) (by omega) (fun h1 => ?_) (fun h1 => ?_)
  ·
    refine lv_iconst (v := iI (-1)) hx hb dX3_innerCorner_23 rfl ?_
    exact hret _ _ _ _ _ _ (⟨rfl, by have hh := hC2 (x + 1); omega⟩) X dX3_innerCorner_24
  ·
    refine lv_iload_n hx hb dX3_innerCorner_4 rfl (lv_at hl 1 rfl) ?_
    refine lv_aload_n hx hb dX3_innerCorner_5 rfl (lv_at hl 0 rfl) ?_
    refine g_callVi G X (rest := [.int (iI (x))]) (As := []) (t_X3_innerCorners l Y (σ) n Xf Cf Wf Mf q (k) (D) (C) (by first | assumption | omega) (by first | assumption | omega) (by first | assumption | omega) (by first | assumption | omega) (by first | assumption | omega)) (cwV 0 hts gX3_innerCorner_X3_innerCorners rfl rfl rfl (by decide +kernel) ⟨Nat.le_of_ble_eq_true rfl, Nat.le_of_ble_eq_true rfl⟩) (k := k) hk.k0 rfl (hk.2.1 _) rfl rfl hl.1 rfl (Nat.le_of_ble_eq_true rfl) dX3_innerCorner_6 ⟨Nat.le_refl _, Nat.le_refl _⟩ (fun z6 u6 H locs hq6 X => ?_)
    rw [hq6.1] at X
    have hq6 := hq6.2
    try dsimp only at hq6
    refine g_icmp_ge (tgt := 23) G dX3_innerCorner_9 (by decide) (by omega) (by omega) (fun h9 => ?_) (fun h9 => ?_)
    ·
      refine lv_iconst (v := iI (-1)) hx hb dX3_innerCorner_23 rfl ?_
      exact hret _ _ _ _ _ _ (⟨rfl, by have hh := hC2 (x + 1); omega⟩) X dX3_innerCorner_24
    ·
      refine lv_aload_n hx hb dX3_innerCorner_12 rfl (lv_at hl 0 rfl) ?_
      refine g_get G X (k := k) (fs := fHull k Y) hk.k0 hk.2.1 rfl in_X3 2 (by decide) l_f9 rfl (v := .ref (Y.2.1 ((k + 1)))) rfl dX3_innerCorner_13 ?_
      refine lv_iload_n hx hb dX3_innerCorner_16 rfl (lv_at hl 1 rfl) ?_
      refine lv_iconst (v := iI 1) hx hb dX3_innerCorner_17 rfl ?_
      refine g_iadd G dX3_innerCorner_18 ?_
      refine g_iald G X (k := (k + 1)) (n := 12) hk.k1 hk.2.2 (by decide) (z := (x + 1)) (by omega) dX3_innerCorner_19 ?_
      refine lv_goto (tgt := 24) hx hb dX3_innerCorner_20 (by decide) ?_
      exact hret _ _ _ _ _ _ (⟨rfl, by have hh := hC2 (x + 1); omega⟩) X dX3_innerCorner_24

set_option maxHeartbeats 4000000 in
set_option maxRecDepth 100000 in
theorem t_X3_cornerUpTo (l : Launch) (Y : Yt) (σ : Mem) (n : Int) (Xf : Int → Int) (Cf : Int → Int) (Wf : Int → Int) (Mf : Int → Int) (q : Int) (k : Nat) (g : Int) (D : Int → Int → Int → Int) (C : List Int) (hT : Tb σ n Xf Cf Wf Mf q) (hPf : Prof n Xf Wf Mf) (hk : isHull Y k) (hC : HulIs σ k C) (hH : HullI D n C) (hg : 0 ≤ g ∧ g < n) : MXi l LX Y yX3_cornerUpTo wsX3_cornerUpTo { frames := 0, cells := 0, slots := 0, locals := 0 } [.ref (Y.2.1 (k)), .int (iI (g))] σ (fun z u => u = σ ∧ (z = hA C g)) := by
  obtain ⟨⟨hn0, hn12, hW0, hM0, hW24⟩, hstep, hXa, hXr⟩ := id hPf
  obtain ⟨hTn, hTq, hTx, hTw⟩ := id hT
  have hkk := hk.1
  obtain ⟨hC1, hC2⟩ := id hC
  have hH4 := hH.2.2.2
  refine g_starti (rty := .int) (fun _ _ _ => rfl) (cc := cX3_cornerUpTo) (nL := 4) (own := RX3) (by decide) rfl rfl (Nat.le_of_ble_eq_true rfl) ?_
  intro pp ee ss mm bw mt cd AA ZZ ls G hret X hl
  have hl : lv_has ls 4 [(0, .ref (Y.2.1 (k))), (1, .int (iI (g)))] := hl
  have hx := G.1
  have hb := G.2.1
  have hts := G.2.2.2.2.1
  have l_f9 := hts (.fieldLink RX3 9 "ShapeFits$Hull" "corner" "[I") (List.mem_of_getElem? (i := 2) rfl)
  have l_f23 := hts (.fieldLink RX3 23 "ShapeFits$Hull" "count" "I") (List.mem_of_getElem? (i := 1) rfl)
  have in_X3 : ∀ w ∈ u_ws RX3 TX3 4, w ∈ wsX3_cornerUpTo := by decide +kernel
  refine lv_iload_n hx hb dX3_cornerUpTo_0 rfl (lv_at hl 1 rfl) ?_
  refine lv_istore_n (lv' := [(2, .int (iI (g))), (0, .ref (Y.2.1 (k))), (1, .int (iI (g)))]) hx hb dX3_cornerUpTo_1 rfl hl (by decide) rfl (fun ls hl => ?_)
  refine lv_iconst (v := iI 0) hx hb dX3_cornerUpTo_2 rfl ?_
  refine lv_istore_n (lv' := [(3, .int (iI (0))), (2, .int (iI (g))), (0, .ref (Y.2.1 (k))), (1, .int (iI (g)))]) hx hb dX3_cornerUpTo_3 rfl hl (by decide) rfl (fun ls hl => ?_)
  have lp_4 : ∀ (nn : Nat) (fd j : Int), ∀ hj : 0 ≤ j ∧ j ≤ C.length, ∀ hf : fd = uT C g j.toNat, ∀ hdec : (C.length - j) < (nn : Int), ∀ (H : Heap) (locs : List Loc) (ls : Array Slot), wx LX Y σ ss AA H locs → lv_has ls 4 [(0, .ref (Y.2.1 (k))), (1, .int (iI (g))), (2, .int (iI (fd))), (3, .int (iI (j)))] → W pp l ee { frames := 0, cells := 0, slots := 0, locals := 0 } ss mm ([.ref (Y.2.1 (k)), .int (iI (g))] : List Value).toArray bw mt cd H locs 0 0 ZZ (F0 mm 4 ls []) := by
    intro nn
    induction nn with
    | zero =>
      intro fd j hj hf hdec
      exact absurd hdec (by omega)
    | succ nn ih_4 =>
      intro fd j hj hf hdec H locs ls X hl
      refine lv_iload_n hx hb dX3_cornerUpTo_4 rfl (lv_at hl 3 rfl) ?_
      refine lv_aload_n hx hb dX3_cornerUpTo_5 rfl (lv_at hl 0 rfl) ?_
      refine g_get G X (k := k) (fs := fHull k Y) hk.k0 hk.2.1 rfl in_X3 3 (by decide) l_f23 rfl (v := .int (iI ((σ k 3)))) rfl dX3_cornerUpTo_6 ?_
      refine g_icmp_ge (tgt := 35) G dX3_cornerUpTo_9 (by decide) (by omega) (by omega) (fun h9 => ?_) (fun h9 => ?_)
      ·
        refine lv_iload_n hx hb dX3_cornerUpTo_35 rfl (lv_at hl 2 rfl) ?_
        exact hret _ _ _ _ _ _ (⟨rfl, by rw [hf, show j.toNat = C.length by omega]; rfl⟩) X dX3_cornerUpTo_36
      ·
        have hcj := hC2 j (by omega) (by omega)
        have hcr := hull_rg hH (i := j) (by omega) (by omega)
        refine lv_aload_n hx hb dX3_cornerUpTo_12 rfl (lv_at hl 0 rfl) ?_
        refine g_get G X (k := k) (fs := fHull k Y) hk.k0 hk.2.1 rfl in_X3 2 (by decide) l_f9 rfl (v := .ref (Y.2.1 ((k + 1)))) rfl dX3_cornerUpTo_13 ?_
        refine lv_iload_n hx hb dX3_cornerUpTo_16 rfl (lv_at hl 3 rfl) ?_
        refine g_iald G X (k := (k + 1)) (n := 12) hk.k1 hk.2.2 (by decide) (z := j) (by omega) dX3_cornerUpTo_17 ?_
        refine lv_iload_n hx hb dX3_cornerUpTo_18 rfl (lv_at hl 1 rfl) ?_
        refine g_icmp_gt (tgt := 29) G dX3_cornerUpTo_19 (by decide) (by omega) (by omega) (fun h19 => ?_) (fun h19 => ?_)
        ·
          refine lv_iinc (v := iI (j + 1)) (lv' := [(3, .int (iI ((j + 1)))), (0, .ref (Y.2.1 (k))), (1, .int (iI (g))), (2, .int (iI (fd)))]) hx hb dX3_cornerUpTo_29 hl (k := 3) rfl (iI_add _ _) (by decide) rfl (fun ls hl => ?_)
          refine lv_goto (tgt := 4) hx hb dX3_cornerUpTo_32 (by decide) ?_
          exact ih_4 (fd) ((j + 1)) (by omega) (by rw [uT_s hj.1]; first | (rw [if_pos (by omega)]; exact hcj) | (rw [if_neg (by omega)]; exact hf)) (by omega) _ _ _ X (lv_sub hl [1, 2, 3, 0] rfl)
        ·
          refine lv_aload_n hx hb dX3_cornerUpTo_22 rfl (lv_at hl 0 rfl) ?_
          refine g_get G X (k := k) (fs := fHull k Y) hk.k0 hk.2.1 rfl in_X3 2 (by decide) l_f9 rfl (v := .ref (Y.2.1 ((k + 1)))) rfl dX3_cornerUpTo_23 ?_
          refine lv_iload_n hx hb dX3_cornerUpTo_26 rfl (lv_at hl 3 rfl) ?_
          refine g_iald G X (k := (k + 1)) (n := 12) hk.k1 hk.2.2 (by decide) (z := j) (by omega) dX3_cornerUpTo_27 ?_
          refine lv_istore_n (lv' := [(2, .int (iI ((σ (k + 1) j)))), (0, .ref (Y.2.1 (k))), (1, .int (iI (g))), (3, .int (iI (j)))]) hx hb dX3_cornerUpTo_28 rfl hl (by decide) rfl (fun ls hl => ?_)
          refine lv_iinc (v := iI (j + 1)) (lv' := [(3, .int (iI ((j + 1)))), (2, .int (iI ((σ (k + 1) j)))), (0, .ref (Y.2.1 (k))), (1, .int (iI (g)))]) hx hb dX3_cornerUpTo_29 hl (k := 3) rfl (iI_add _ _) (by decide) rfl (fun ls hl => ?_)
          refine lv_goto (tgt := 4) hx hb dX3_cornerUpTo_32 (by decide) ?_
          exact ih_4 ((σ (k + 1) j)) ((j + 1)) (by omega) (by rw [uT_s hj.1]; first | (rw [if_pos (by omega)]; exact hcj) | (rw [if_neg (by omega)]; exact hf)) (by omega) _ _ _ X (lv_sub hl [2, 3, 1, 0] rfl)
  exact lp_4 ((((C.length - (0)) : Int).toNat + 1)) (g) (0) (by omega) rfl (by omega) _ _ _ X (lv_sub hl [2, 3, 1, 0] rfl)

set_option maxHeartbeats 4000000 in
set_option maxRecDepth 100000 in
theorem t_X3_cornerFrom (l : Launch) (Y : Yt) (σ : Mem) (n : Int) (Xf : Int → Int) (Cf : Int → Int) (Wf : Int → Int) (Mf : Int → Int) (q : Int) (k : Nat) (g : Int) (D : Int → Int → Int → Int) (C : List Int) (hT : Tb σ n Xf Cf Wf Mf q) (hPf : Prof n Xf Wf Mf) (hk : isHull Y k) (hC : HulIs σ k C) (hH : HullI D n C) (hg : 0 ≤ g ∧ g < n) : MXi l LX Y yX3_cornerFrom wsX3_cornerFrom { frames := 0, cells := 0, slots := 0, locals := 0 } [.ref (Y.2.1 (k)), .int (iI (g))] σ (fun z u => u = σ ∧ (z = hB C g)) := by
  obtain ⟨⟨hn0, hn12, hW0, hM0, hW24⟩, hstep, hXa, hXr⟩ := id hPf
  obtain ⟨hTn, hTq, hTx, hTw⟩ := id hT
  have hkk := hk.1
  obtain ⟨hC1, hC2⟩ := id hC
  have hH4 := hH.2.2.2
  refine g_starti (rty := .int) (fun _ _ _ => rfl) (cc := cX3_cornerFrom) (nL := 4) (own := RX3) (by decide) rfl rfl (Nat.le_of_ble_eq_true rfl) ?_
  intro pp ee ss mm bw mt cd AA ZZ ls G hret X hl
  have hl : lv_has ls 4 [(0, .ref (Y.2.1 (k))), (1, .int (iI (g)))] := hl
  have hx := G.1
  have hb := G.2.1
  have hts := G.2.2.2.2.1
  have l_f9 := hts (.fieldLink RX3 9 "ShapeFits$Hull" "corner" "[I") (List.mem_of_getElem? (i := 2) rfl)
  have l_f23 := hts (.fieldLink RX3 23 "ShapeFits$Hull" "count" "I") (List.mem_of_getElem? (i := 1) rfl)
  have in_X3 : ∀ w ∈ u_ws RX3 TX3 4, w ∈ wsX3_cornerFrom := by decide +kernel
  refine lv_iload_n hx hb dX3_cornerFrom_0 rfl (lv_at hl 1 rfl) ?_
  refine lv_istore_n (lv' := [(2, .int (iI (g))), (0, .ref (Y.2.1 (k))), (1, .int (iI (g)))]) hx hb dX3_cornerFrom_1 rfl hl (by decide) rfl (fun ls hl => ?_)
  refine lv_aload_n hx hb dX3_cornerFrom_2 rfl (lv_at hl 1 rfl) ?_
  refine g_get G X (k := k) (fs := fHull k Y) hk.k0 hk.2.1 rfl in_X3 3 (by decide) l_f23 rfl (v := .int (iI ((σ k 3)))) rfl dX3_cornerFrom_3 ?_
  refine lv_iconst (v := iI 1) hx hb dX3_cornerFrom_6 rfl ?_
  refine g_isub G dX3_cornerFrom_7 ?_
  refine lv_istore_n (lv' := [(3, .int (iI (((σ k 3) - 1)))), (2, .int (iI (g))), (0, .ref (Y.2.1 (k))), (1, .int (iI (g)))]) hx hb dX3_cornerFrom_8 rfl hl (by decide) rfl (fun ls hl => ?_)
  have lp_9 : ∀ (nn : Nat) (fd j : Int), ∀ hj : -1 ≤ j ∧ j < C.length, ∀ hf : fd = dF C g ((C.length : Int) - 1 - j).toNat, ∀ hdec : (j + 1) < (nn : Int), ∀ (H : Heap) (locs : List Loc) (ls : Array Slot), wx LX Y σ ss AA H locs → lv_has ls 4 [(0, .ref (Y.2.1 (k))), (1, .int (iI (g))), (2, .int (iI (fd))), (3, .int (iI (j)))] → W pp l ee { frames := 0, cells := 0, slots := 0, locals := 0 } ss mm ([.ref (Y.2.1 (k)), .int (iI (g))] : List Value).toArray bw mt cd H locs 0 0 ZZ (F0 mm 9 ls []) := by
    intro nn
    induction nn with
    | zero =>
      intro fd j hj hf hdec
      exact absurd hdec (by omega)
    | succ nn ih_9 =>
      intro fd j hj hf hdec H locs ls X hl
      refine lv_iload_n hx hb dX3_cornerFrom_9 rfl (lv_at hl 3 rfl) ?_
      refine g_if_lt (tgt := 36) G dX3_cornerFrom_10 (by decide) (by omega) (fun h10 => ?_) (fun h10 => ?_)
      ·
        refine lv_iload_n hx hb dX3_cornerFrom_36 rfl (lv_at hl 2 rfl) ?_
        exact hret _ _ _ _ _ _ (⟨rfl, by rw [hf, show ((C.length : Int) - 1 - j).toNat = C.length by omega]; rfl⟩) X dX3_cornerFrom_37
      ·
        have hcj := hC2 j (by omega) (by omega)
        have hcr := hull_rg hH (i := j) (by omega) (by omega)
        refine lv_aload_n hx hb dX3_cornerFrom_13 rfl (lv_at hl 0 rfl) ?_
        refine g_get G X (k := k) (fs := fHull k Y) hk.k0 hk.2.1 rfl in_X3 2 (by decide) l_f9 rfl (v := .ref (Y.2.1 ((k + 1)))) rfl dX3_cornerFrom_14 ?_
        refine lv_iload_n hx hb dX3_cornerFrom_17 rfl (lv_at hl 3 rfl) ?_
        refine g_iald G X (k := (k + 1)) (n := 12) hk.k1 hk.2.2 (by decide) (z := j) (by omega) dX3_cornerFrom_18 ?_
        refine lv_iload_n hx hb dX3_cornerFrom_19 rfl (lv_at hl 1 rfl) ?_
        refine g_icmp_lt (tgt := 30) G dX3_cornerFrom_20 (by decide) (by omega) (by omega) (fun h20 => ?_) (fun h20 => ?_)
        ·
          refine lv_iinc (v := iI (j + (-1))) (lv' := [(3, .int (iI ((j + (-1))))), (0, .ref (Y.2.1 (k))), (1, .int (iI (g))), (2, .int (iI (fd)))]) hx hb dX3_cornerFrom_30 hl (k := 3) rfl (iI_add _ _) (by decide) rfl (fun ls hl => ?_)
          refine lv_goto (tgt := 9) hx hb dX3_cornerFrom_33 (by decide) ?_
          exact ih_9 (fd) ((j + (-1))) (by omega) (by rw [show (C.length : Int) - 1 - (j + (-1)) = ((C.length : Int) - 1 - j) + 1 by omega, dF_s (by omega), show (C.length : Int) - 1 - ((C.length : Int) - 1 - j) = j by omega]; first | (rw [if_pos (by omega)]; exact hcj) | (rw [if_neg (by omega)]; exact hf)) (by omega) _ _ _ X (lv_sub hl [1, 2, 3, 0] rfl)
        ·
          refine lv_aload_n hx hb dX3_cornerFrom_23 rfl (lv_at hl 0 rfl) ?_
          refine g_get G X (k := k) (fs := fHull k Y) hk.k0 hk.2.1 rfl in_X3 2 (by decide) l_f9 rfl (v := .ref (Y.2.1 ((k + 1)))) rfl dX3_cornerFrom_24 ?_
          refine lv_iload_n hx hb dX3_cornerFrom_27 rfl (lv_at hl 3 rfl) ?_
          refine g_iald G X (k := (k + 1)) (n := 12) hk.k1 hk.2.2 (by decide) (z := j) (by omega) dX3_cornerFrom_28 ?_
          refine lv_istore_n (lv' := [(2, .int (iI ((σ (k + 1) j)))), (0, .ref (Y.2.1 (k))), (1, .int (iI (g))), (3, .int (iI (j)))]) hx hb dX3_cornerFrom_29 rfl hl (by decide) rfl (fun ls hl => ?_)
          refine lv_iinc (v := iI (j + (-1))) (lv' := [(3, .int (iI ((j + (-1))))), (2, .int (iI ((σ (k + 1) j)))), (0, .ref (Y.2.1 (k))), (1, .int (iI (g)))]) hx hb dX3_cornerFrom_30 hl (k := 3) rfl (iI_add _ _) (by decide) rfl (fun ls hl => ?_)
          refine lv_goto (tgt := 9) hx hb dX3_cornerFrom_33 (by decide) ?_
          exact ih_9 ((σ (k + 1) j)) ((j + (-1))) (by omega) (by rw [show (C.length : Int) - 1 - (j + (-1)) = ((C.length : Int) - 1 - j) + 1 by omega, dF_s (by omega), show (C.length : Int) - 1 - ((C.length : Int) - 1 - j) = j by omega]; first | (rw [if_pos (by omega)]; exact hcj) | (rw [if_neg (by omega)]; exact hf)) (by omega) _ _ _ X (lv_sub hl [2, 3, 1, 0] rfl)
  exact lp_9 (((((((σ k 3) - 1)) + 1) : Int).toNat + 1)) (g) (((σ k 3) - 1)) (by omega) (by rw [show ((C.length : Int) - 1 - (σ k 3 - 1)).toNat = 0 by omega]; rfl) (by omega) _ _ _ X (lv_sub hl [2, 3, 1, 0] rfl)

set_option maxHeartbeats 4000000 in
set_option maxRecDepth 100000 in
theorem t_X3_numeratorAt (l : Launch) (Y : Yt) (σ : Mem) (n : Int) (Xf : Int → Int) (Cf : Int → Int) (Wf : Int → Int) (Mf : Int → Int) (q : Int) (k : Nat) (g : Int) (D : Int → Int → Int → Int) (C : List Int) (hT : Tb σ n Xf Cf Wf Mf q) (hPf : Prof n Xf Wf Mf) (hk : isHull Y k) (hC : HulIs σ k C) (hH : HullI D n C) (hg : 0 ≤ g ∧ g < n) : MXl l LX Y yX3_numeratorAt wsX3_numeratorAt { frames := 3, cells := 0, slots := 0, locals := 64 } [.ref (Y.2.1 (k)), .int (iI (g))] σ (fun z u => u = σ ∧ (z = hNum Xf Wf Mf C g)) := by
  obtain ⟨⟨hn0, hn12, hW0, hM0, hW24⟩, hstep, hXa, hXr⟩ := id hPf
  obtain ⟨hTn, hTq, hTx, hTw⟩ := id hT
  have hkk := hk.1
  obtain ⟨hC1, hC2⟩ := id hC
  have hH4 := hH.2.2.2
  have hab := hAB_rg hH hg
  have hrg := h_rg hPf hH hg
  refine g_startl (cc := cX3_numeratorAt) (nL := 4) (own := RX3) (by decide) rfl rfl (Nat.le_of_ble_eq_true rfl) ?_
  intro pp ee ss mm bw mt cd AA ZZ ls G hret X hl
  have hl : lv_has ls 4 [(0, .ref (Y.2.1 (k))), (1, .int (iI (g)))] := hl
  have hx := G.1
  have hb := G.2.1
  have hts := G.2.2.2.2.1
  refine lv_aload_n hx hb dX3_numeratorAt_0 rfl (lv_at hl 0 rfl) ?_
  refine lv_iload_n hx hb dX3_numeratorAt_1 rfl (lv_at hl 1 rfl) ?_
  refine g_callVi G X (rest := []) (As := [.int (iI (g))]) (t_X3_cornerUpTo l Y (σ) n Xf Cf Wf Mf q (k) (g) (D) (C) (by first | assumption | omega) (by first | assumption | omega) (by first | assumption | omega) (by first | assumption | omega) (by first | assumption | omega) (by first | assumption | omega)) (cwV 1 hts gX3_numeratorAt_X3_cornerUpTo rfl rfl rfl (by decide +kernel) ⟨Nat.le_of_ble_eq_true rfl, Nat.le_of_ble_eq_true rfl⟩) (k := k) hk.k0 rfl (hk.2.1 _) rfl rfl hl.1 rfl (Nat.le_of_ble_eq_true rfl) dX3_numeratorAt_2 ⟨Nat.le_refl _, Nat.le_refl _⟩ (fun z2 u2 H locs hq2 X => ?_)
  rw [hq2.1] at X
  have hq2 := hq2.2
  try dsimp only at hq2
  refine g_topi (z' := hA C g) hq2 ?_
  refine lv_istore_n (lv' := [(2, .int (iI ((hA C g)))), (0, .ref (Y.2.1 (k))), (1, .int (iI (g)))]) hx hb dX3_numeratorAt_5 rfl hl (by decide) rfl (fun ls hl => ?_)
  refine lv_aload_n hx hb dX3_numeratorAt_6 rfl (lv_at hl 1 rfl) ?_
  refine lv_iload_n hx hb dX3_numeratorAt_7 rfl (lv_at hl 2 rfl) ?_
  refine g_callVi G X (rest := []) (As := [.int (iI (g))]) (t_X3_cornerFrom l Y (σ) n Xf Cf Wf Mf q (k) (g) (D) (C) (by first | assumption | omega) (by first | assumption | omega) (by first | assumption | omega) (by first | assumption | omega) (by first | assumption | omega) (by first | assumption | omega)) (cwV 1 hts gX3_numeratorAt_X3_cornerFrom rfl rfl rfl (by decide +kernel) ⟨Nat.le_of_ble_eq_true rfl, Nat.le_of_ble_eq_true rfl⟩) (k := k) hk.k0 rfl (hk.2.1 _) rfl rfl hl.1 rfl (Nat.le_of_ble_eq_true rfl) dX3_numeratorAt_8 ⟨Nat.le_refl _, Nat.le_refl _⟩ (fun z8 u8 H locs hq8 X => ?_)
  rw [hq8.1] at X
  have hq8 := hq8.2
  try dsimp only at hq8
  refine g_topi (z' := hB C g) hq8 ?_
  refine lv_istore_n (lv' := [(3, .int (iI ((hB C g)))), (2, .int (iI ((hA C g)))), (0, .ref (Y.2.1 (k))), (1, .int (iI (g)))]) hx hb dX3_numeratorAt_11 rfl hl (by decide) rfl (fun ls hl => ?_)
  refine lv_iload_n hx hb dX3_numeratorAt_12 rfl (lv_at hl 1 rfl) ?_
  refine lv_iload_n hx hb dX3_numeratorAt_13 rfl (lv_at hl 0 rfl) ?_
  refine g_icmp_ne (tgt := 23) G dX3_numeratorAt_14 (by decide) (by omega) (by omega) (fun h14 => ?_) (fun h14 => ?_)
  ·
    refine lv_aload_n hx hb dX3_numeratorAt_23 rfl (lv_at hl 2 rfl) ?_
    refine lv_iload_n hx hb dX3_numeratorAt_24 rfl (lv_at hl 1 rfl) ?_
    refine g_callVl G X (rest := []) (As := [.int (iI ((hA C g)))]) (t_X3_moment l Y (σ) n Xf Cf Wf Mf q (k) ((hA C g)) (by first | assumption | omega) (by first | assumption | omega) (by first | assumption | omega) (by first | assumption | omega)) (cwV 1 hts gX3_numeratorAt_X3_moment rfl rfl rfl (by decide +kernel) ⟨Nat.le_of_ble_eq_true rfl, Nat.le_of_ble_eq_true rfl⟩) (k := k) hk.k0 rfl (hk.2.1 _) rfl rfl hl.1 rfl (Nat.le_of_ble_eq_true rfl) dX3_numeratorAt_25 ⟨Nat.le_refl _, Nat.le_refl _⟩ (fun z25 u25 H locs hq25 X => ?_)
    rw [hq25.1] at X
    have hq25 := hq25.2
    try dsimp only at hq25
    refine g_topl (z' := Mf (hA C g + 1) - Mf (hA C g)) hq25.1 ?_
    refine lv_aload_n hx hb dX3_numeratorAt_28 rfl (lv_at hl 2 rfl) ?_
    refine lv_iload_n hx hb dX3_numeratorAt_29 rfl (lv_at hl 0 rfl) ?_
    refine g_callVl G X (rest := [.long (lI ((Mf (hA C g + 1) - Mf (hA C g))))]) (As := [.int (iI ((hB C g)))]) (t_X3_weight l Y (σ) n Xf Cf Wf Mf q (k) ((hB C g)) (by first | assumption | omega) (by first | assumption | omega) (by first | assumption | omega) (by first | assumption | omega)) (cwV 1 hts gX3_numeratorAt_X3_weight rfl rfl rfl (by decide +kernel) ⟨Nat.le_of_ble_eq_true rfl, Nat.le_of_ble_eq_true rfl⟩) (k := k) hk.k0 rfl (hk.2.1 _) rfl rfl hl.1 rfl (Nat.le_of_ble_eq_true rfl) dX3_numeratorAt_30 ⟨Nat.le_refl _, Nat.le_refl _⟩ (fun z30 u30 H locs hq30 X => ?_)
    rw [hq30.1] at X
    have hq30 := hq30.2
    try dsimp only at hq30
    refine g_topl (z' := Wf (hB C g + 1) - Wf (hB C g)) hq30.1 ?_
    refine g_lmul G dX3_numeratorAt_33 ?_
    refine lv_aload_n hx hb dX3_numeratorAt_34 rfl (lv_at hl 2 rfl) ?_
    refine lv_iload_n hx hb dX3_numeratorAt_35 rfl (lv_at hl 3 rfl) ?_
    refine lv_iload_n hx hb dX3_numeratorAt_36 rfl (lv_at hl 0 rfl) ?_
    refine g_callVl G X (rest := [.long (lI (((Mf (hA C g + 1) - Mf (hA C g)) * (Wf (hB C g + 1) - Wf (hB C g)))))]) (As := [.int (iI (g)), .int (iI ((hB C g)))]) (t_X3_distance l Y (σ) n Xf Cf Wf Mf q (k) (g) ((hB C g)) (by first | assumption | omega) (by first | assumption | omega) (by first | assumption | omega) (by first | assumption | omega) (by first | assumption | omega)) (cwV 2 hts gX3_numeratorAt_X3_distance rfl rfl rfl (by decide +kernel) ⟨Nat.le_of_ble_eq_true rfl, Nat.le_of_ble_eq_true rfl⟩) (k := k) hk.k0 rfl (hk.2.1 _) rfl rfl hl.1 rfl (Nat.le_of_ble_eq_true rfl) dX3_numeratorAt_37 ⟨Nat.le_refl _, Nat.le_refl _⟩ (fun z37 u37 H locs hq37 X => ?_)
    rw [hq37.1] at X
    have hq37 := hq37.2
    try dsimp only at hq37
    refine g_topl (z' := Xf (hB C g) - Xf g) hq37.1 ?_
    refine g_lmul G dX3_numeratorAt_40 ?_
    refine lv_aload_n hx hb dX3_numeratorAt_41 rfl (lv_at hl 2 rfl) ?_
    refine lv_iload_n hx hb dX3_numeratorAt_42 rfl (lv_at hl 0 rfl) ?_
    refine g_callVl G X (rest := [.long (lI ((((Mf (hA C g + 1) - Mf (hA C g)) * (Wf (hB C g + 1) - Wf (hB C g))) * (Xf (hB C g) - Xf g))))]) (As := [.int (iI ((hB C g)))]) (t_X3_moment l Y (σ) n Xf Cf Wf Mf q (k) ((hB C g)) (by first | assumption | omega) (by first | assumption | omega) (by first | assumption | omega) (by first | assumption | omega)) (cwV 1 hts gX3_numeratorAt_X3_moment rfl rfl rfl (by decide +kernel) ⟨Nat.le_of_ble_eq_true rfl, Nat.le_of_ble_eq_true rfl⟩) (k := k) hk.k0 rfl (hk.2.1 _) rfl rfl hl.1 rfl (Nat.le_of_ble_eq_true rfl) dX3_numeratorAt_43 ⟨Nat.le_refl _, Nat.le_refl _⟩ (fun z43 u43 H locs hq43 X => ?_)
    rw [hq43.1] at X
    have hq43 := hq43.2
    try dsimp only at hq43
    refine g_topl (z' := Mf (hB C g + 1) - Mf (hB C g)) hq43.1 ?_
    refine lv_aload_n hx hb dX3_numeratorAt_46 rfl (lv_at hl 2 rfl) ?_
    refine lv_iload_n hx hb dX3_numeratorAt_47 rfl (lv_at hl 1 rfl) ?_
    refine g_callVl G X (rest := [.long (lI ((Mf (hB C g + 1) - Mf (hB C g)))), .long (lI ((((Mf (hA C g + 1) - Mf (hA C g)) * (Wf (hB C g + 1) - Wf (hB C g))) * (Xf (hB C g) - Xf g))))]) (As := [.int (iI ((hA C g)))]) (t_X3_weight l Y (σ) n Xf Cf Wf Mf q (k) ((hA C g)) (by first | assumption | omega) (by first | assumption | omega) (by first | assumption | omega) (by first | assumption | omega)) (cwV 1 hts gX3_numeratorAt_X3_weight rfl rfl rfl (by decide +kernel) ⟨Nat.le_of_ble_eq_true rfl, Nat.le_of_ble_eq_true rfl⟩) (k := k) hk.k0 rfl (hk.2.1 _) rfl rfl hl.1 rfl (Nat.le_of_ble_eq_true rfl) dX3_numeratorAt_48 ⟨Nat.le_refl _, Nat.le_refl _⟩ (fun z48 u48 H locs hq48 X => ?_)
    rw [hq48.1] at X
    have hq48 := hq48.2
    try dsimp only at hq48
    refine g_topl (z' := Wf (hA C g + 1) - Wf (hA C g)) hq48.1 ?_
    refine g_lmul G dX3_numeratorAt_51 ?_
    refine lv_aload_n hx hb dX3_numeratorAt_52 rfl (lv_at hl 2 rfl) ?_
    refine lv_iload_n hx hb dX3_numeratorAt_53 rfl (lv_at hl 1 rfl) ?_
    refine lv_iload_n hx hb dX3_numeratorAt_54 rfl (lv_at hl 3 rfl) ?_
    refine g_callVl G X (rest := [.long (lI (((Mf (hB C g + 1) - Mf (hB C g)) * (Wf (hA C g + 1) - Wf (hA C g))))), .long (lI ((((Mf (hA C g + 1) - Mf (hA C g)) * (Wf (hB C g + 1) - Wf (hB C g))) * (Xf (hB C g) - Xf g))))]) (As := [.int (iI ((hA C g))), .int (iI (g))]) (t_X3_distance l Y (σ) n Xf Cf Wf Mf q (k) ((hA C g)) (g) (by first | assumption | omega) (by first | assumption | omega) (by first | assumption | omega) (by first | assumption | omega) (by first | assumption | omega)) (cwV 2 hts gX3_numeratorAt_X3_distance rfl rfl rfl (by decide +kernel) ⟨Nat.le_of_ble_eq_true rfl, Nat.le_of_ble_eq_true rfl⟩) (k := k) hk.k0 rfl (hk.2.1 _) rfl rfl hl.1 rfl (Nat.le_of_ble_eq_true rfl) dX3_numeratorAt_55 ⟨Nat.le_refl _, Nat.le_refl _⟩ (fun z55 u55 H locs hq55 X => ?_)
    rw [hq55.1] at X
    have hq55 := hq55.2
    try dsimp only at hq55
    refine g_topl (z' := Xf g - Xf (hA C g)) hq55.1 ?_
    refine g_lmul G dX3_numeratorAt_58 ?_
    refine g_ladd G dX3_numeratorAt_59 ?_
    exact hret _ _ _ _ _ _ (⟨rfl, by unfold hNum; rw [if_neg h14]⟩) X dX3_numeratorAt_60
  ·
    refine lv_aload_n hx hb dX3_numeratorAt_17 rfl (lv_at hl 2 rfl) ?_
    refine lv_iload_n hx hb dX3_numeratorAt_18 rfl (lv_at hl 3 rfl) ?_
    refine g_callVl G X (rest := []) (As := [.int (iI (g))]) (t_X3_moment l Y (σ) n Xf Cf Wf Mf q (k) (g) (by first | assumption | omega) (by first | assumption | omega) (by first | assumption | omega) (by first | assumption | omega)) (cwV 1 hts gX3_numeratorAt_X3_moment rfl rfl rfl (by decide +kernel) ⟨Nat.le_of_ble_eq_true rfl, Nat.le_of_ble_eq_true rfl⟩) (k := k) hk.k0 rfl (hk.2.1 _) rfl rfl hl.1 rfl (Nat.le_of_ble_eq_true rfl) dX3_numeratorAt_19 ⟨Nat.le_refl _, Nat.le_refl _⟩ (fun z19 u19 H locs hq19 X => ?_)
    rw [hq19.1] at X
    have hq19 := hq19.2
    try dsimp only at hq19
    refine g_topl (z' := Mf (g + 1) - Mf g) hq19.1 ?_
    exact hret _ _ _ _ _ _ (⟨rfl, by unfold hNum; rw [if_pos h14]⟩) X dX3_numeratorAt_22

set_option maxHeartbeats 4000000 in
set_option maxRecDepth 100000 in
theorem t_X3_denominatorAt (l : Launch) (Y : Yt) (σ : Mem) (n : Int) (Xf : Int → Int) (Cf : Int → Int) (Wf : Int → Int) (Mf : Int → Int) (q : Int) (k : Nat) (g : Int) (D : Int → Int → Int → Int) (C : List Int) (hT : Tb σ n Xf Cf Wf Mf q) (hPf : Prof n Xf Wf Mf) (hk : isHull Y k) (hC : HulIs σ k C) (hH : HullI D n C) (hg : 0 ≤ g ∧ g < n) : MXl l LX Y yX3_denominatorAt wsX3_denominatorAt { frames := 3, cells := 0, slots := 0, locals := 64 } [.ref (Y.2.1 (k)), .int (iI (g))] σ (fun z u => u = σ ∧ (z = hDen Xf Wf C g)) := by
  obtain ⟨⟨hn0, hn12, hW0, hM0, hW24⟩, hstep, hXa, hXr⟩ := id hPf
  obtain ⟨hTn, hTq, hTx, hTw⟩ := id hT
  have hkk := hk.1
  obtain ⟨hC1, hC2⟩ := id hC
  have hH4 := hH.2.2.2
  have hab := hAB_rg hH hg
  have hrg := h_rg hPf hH hg
  refine g_startl (cc := cX3_denominatorAt) (nL := 4) (own := RX3) (by decide) rfl rfl (Nat.le_of_ble_eq_true rfl) ?_
  intro pp ee ss mm bw mt cd AA ZZ ls G hret X hl
  have hl : lv_has ls 4 [(0, .ref (Y.2.1 (k))), (1, .int (iI (g)))] := hl
  have hx := G.1
  have hb := G.2.1
  have hts := G.2.2.2.2.1
  refine lv_aload_n hx hb dX3_denominatorAt_0 rfl (lv_at hl 0 rfl) ?_
  refine lv_iload_n hx hb dX3_denominatorAt_1 rfl (lv_at hl 1 rfl) ?_
  refine g_callVi G X (rest := []) (As := [.int (iI (g))]) (t_X3_cornerUpTo l Y (σ) n Xf Cf Wf Mf q (k) (g) (D) (C) (by first | assumption | omega) (by first | assumption | omega) (by first | assumption | omega) (by first | assumption | omega) (by first | assumption | omega) (by first | assumption | omega)) (cwV 1 hts gX3_denominatorAt_X3_cornerUpTo rfl rfl rfl (by decide +kernel) ⟨Nat.le_of_ble_eq_true rfl, Nat.le_of_ble_eq_true rfl⟩) (k := k) hk.k0 rfl (hk.2.1 _) rfl rfl hl.1 rfl (Nat.le_of_ble_eq_true rfl) dX3_denominatorAt_2 ⟨Nat.le_refl _, Nat.le_refl _⟩ (fun z2 u2 H locs hq2 X => ?_)
  rw [hq2.1] at X
  have hq2 := hq2.2
  try dsimp only at hq2
  refine g_topi (z' := hA C g) hq2 ?_
  refine lv_istore_n (lv' := [(2, .int (iI ((hA C g)))), (0, .ref (Y.2.1 (k))), (1, .int (iI (g)))]) hx hb dX3_denominatorAt_5 rfl hl (by decide) rfl (fun ls hl => ?_)
  refine lv_aload_n hx hb dX3_denominatorAt_6 rfl (lv_at hl 1 rfl) ?_
  refine lv_iload_n hx hb dX3_denominatorAt_7 rfl (lv_at hl 2 rfl) ?_
  refine g_callVi G X (rest := []) (As := [.int (iI (g))]) (t_X3_cornerFrom l Y (σ) n Xf Cf Wf Mf q (k) (g) (D) (C) (by first | assumption | omega) (by first | assumption | omega) (by first | assumption | omega) (by first | assumption | omega) (by first | assumption | omega) (by first | assumption | omega)) (cwV 1 hts gX3_denominatorAt_X3_cornerFrom rfl rfl rfl (by decide +kernel) ⟨Nat.le_of_ble_eq_true rfl, Nat.le_of_ble_eq_true rfl⟩) (k := k) hk.k0 rfl (hk.2.1 _) rfl rfl hl.1 rfl (Nat.le_of_ble_eq_true rfl) dX3_denominatorAt_8 ⟨Nat.le_refl _, Nat.le_refl _⟩ (fun z8 u8 H locs hq8 X => ?_)
  rw [hq8.1] at X
  have hq8 := hq8.2
  try dsimp only at hq8
  refine g_topi (z' := hB C g) hq8 ?_
  refine lv_istore_n (lv' := [(3, .int (iI ((hB C g)))), (2, .int (iI ((hA C g)))), (0, .ref (Y.2.1 (k))), (1, .int (iI (g)))]) hx hb dX3_denominatorAt_11 rfl hl (by decide) rfl (fun ls hl => ?_)
  refine lv_iload_n hx hb dX3_denominatorAt_12 rfl (lv_at hl 1 rfl) ?_
  refine lv_iload_n hx hb dX3_denominatorAt_13 rfl (lv_at hl 0 rfl) ?_
  refine g_icmp_ne (tgt := 23) G dX3_denominatorAt_14 (by decide) (by omega) (by omega) (fun h14 => ?_) (fun h14 => ?_)
  ·
    refine lv_aload_n hx hb dX3_denominatorAt_23 rfl (lv_at hl 2 rfl) ?_
    refine lv_iload_n hx hb dX3_denominatorAt_24 rfl (lv_at hl 1 rfl) ?_
    refine g_callVl G X (rest := []) (As := [.int (iI ((hA C g)))]) (t_X3_weight l Y (σ) n Xf Cf Wf Mf q (k) ((hA C g)) (by first | assumption | omega) (by first | assumption | omega) (by first | assumption | omega) (by first | assumption | omega)) (cwV 1 hts gX3_denominatorAt_X3_weight rfl rfl rfl (by decide +kernel) ⟨Nat.le_of_ble_eq_true rfl, Nat.le_of_ble_eq_true rfl⟩) (k := k) hk.k0 rfl (hk.2.1 _) rfl rfl hl.1 rfl (Nat.le_of_ble_eq_true rfl) dX3_denominatorAt_25 ⟨Nat.le_refl _, Nat.le_refl _⟩ (fun z25 u25 H locs hq25 X => ?_)
    rw [hq25.1] at X
    have hq25 := hq25.2
    try dsimp only at hq25
    refine g_topl (z' := Wf (hA C g + 1) - Wf (hA C g)) hq25.1 ?_
    refine lv_aload_n hx hb dX3_denominatorAt_28 rfl (lv_at hl 2 rfl) ?_
    refine lv_iload_n hx hb dX3_denominatorAt_29 rfl (lv_at hl 0 rfl) ?_
    refine g_callVl G X (rest := [.long (lI ((Wf (hA C g + 1) - Wf (hA C g))))]) (As := [.int (iI ((hB C g)))]) (t_X3_weight l Y (σ) n Xf Cf Wf Mf q (k) ((hB C g)) (by first | assumption | omega) (by first | assumption | omega) (by first | assumption | omega) (by first | assumption | omega)) (cwV 1 hts gX3_denominatorAt_X3_weight rfl rfl rfl (by decide +kernel) ⟨Nat.le_of_ble_eq_true rfl, Nat.le_of_ble_eq_true rfl⟩) (k := k) hk.k0 rfl (hk.2.1 _) rfl rfl hl.1 rfl (Nat.le_of_ble_eq_true rfl) dX3_denominatorAt_30 ⟨Nat.le_refl _, Nat.le_refl _⟩ (fun z30 u30 H locs hq30 X => ?_)
    rw [hq30.1] at X
    have hq30 := hq30.2
    try dsimp only at hq30
    refine g_topl (z' := Wf (hB C g + 1) - Wf (hB C g)) hq30.1 ?_
    refine g_lmul G dX3_denominatorAt_33 ?_
    refine lv_aload_n hx hb dX3_denominatorAt_34 rfl (lv_at hl 2 rfl) ?_
    refine lv_iload_n hx hb dX3_denominatorAt_35 rfl (lv_at hl 1 rfl) ?_
    refine lv_iload_n hx hb dX3_denominatorAt_36 rfl (lv_at hl 0 rfl) ?_
    refine g_callVl G X (rest := [.long (lI (((Wf (hA C g + 1) - Wf (hA C g)) * (Wf (hB C g + 1) - Wf (hB C g)))))]) (As := [.int (iI ((hA C g))), .int (iI ((hB C g)))]) (t_X3_distance l Y (σ) n Xf Cf Wf Mf q (k) ((hA C g)) ((hB C g)) (by first | assumption | omega) (by first | assumption | omega) (by first | assumption | omega) (by first | assumption | omega) (by first | assumption | omega)) (cwV 2 hts gX3_denominatorAt_X3_distance rfl rfl rfl (by decide +kernel) ⟨Nat.le_of_ble_eq_true rfl, Nat.le_of_ble_eq_true rfl⟩) (k := k) hk.k0 rfl (hk.2.1 _) rfl rfl hl.1 rfl (Nat.le_of_ble_eq_true rfl) dX3_denominatorAt_37 ⟨Nat.le_refl _, Nat.le_refl _⟩ (fun z37 u37 H locs hq37 X => ?_)
    rw [hq37.1] at X
    have hq37 := hq37.2
    try dsimp only at hq37
    refine g_topl (z' := Xf (hB C g) - Xf (hA C g)) hq37.1 ?_
    refine g_lmul G dX3_denominatorAt_40 ?_
    exact hret _ _ _ _ _ _ (⟨rfl, by unfold hDen; rw [if_neg h14]⟩) X dX3_denominatorAt_41
  ·
    refine lv_aload_n hx hb dX3_denominatorAt_17 rfl (lv_at hl 2 rfl) ?_
    refine lv_iload_n hx hb dX3_denominatorAt_18 rfl (lv_at hl 3 rfl) ?_
    refine g_callVl G X (rest := []) (As := [.int (iI (g))]) (t_X3_weight l Y (σ) n Xf Cf Wf Mf q (k) (g) (by first | assumption | omega) (by first | assumption | omega) (by first | assumption | omega) (by first | assumption | omega)) (cwV 1 hts gX3_denominatorAt_X3_weight rfl rfl rfl (by decide +kernel) ⟨Nat.le_of_ble_eq_true rfl, Nat.le_of_ble_eq_true rfl⟩) (k := k) hk.k0 rfl (hk.2.1 _) rfl rfl hl.1 rfl (Nat.le_of_ble_eq_true rfl) dX3_denominatorAt_19 ⟨Nat.le_refl _, Nat.le_refl _⟩ (fun z19 u19 H locs hq19 X => ?_)
    rw [hq19.1] at X
    have hq19 := hq19.2
    try dsimp only at hq19
    refine g_topl (z' := Wf (g + 1) - Wf g) hq19.1 ?_
    exact hret _ _ _ _ _ _ (⟨rfl, by unfold hDen; rw [if_pos h14]⟩) X dX3_denominatorAt_22

set_option maxHeartbeats 4000000 in
set_option maxRecDepth 100000 in
theorem t_X3_draw (l : Launch) (Y : Yt) (σ : Mem) (n : Int) (Xf : Int → Int) (Cf : Int → Int) (Wf : Int → Int) (Mf : Int → Int) (q : Int) (k : Nat) (side : Int) (hT : Tb σ n Xf Cf Wf Mf q) (hPf : Prof n Xf Wf Mf) (hk : isHull Y k) (hs : side = 1 ∨ side = -1) (hsd : σ k 1 = side) : MXv l LX Y yX3_draw wsX3_draw { frames := 4, cells := 0, slots := 0, locals := 95 } [.ref (Y.2.1 (k))] σ (fun u => ∃ C, HulIs u k C ∧ HullI (fun i j k => side * sD Xf Wf Mf i j k) n C ∧ SameK σ u k) := by
  obtain ⟨⟨hn0, hn12, hW0, hM0, hW24⟩, hstep, hXa, hXr⟩ := id hPf
  obtain ⟨hTn, hTq, hTx, hTw⟩ := id hT
  have hkk := hk.1
  have hDL := dLaw hPf side
  refine g_startv (cc := cX3_draw) (nL := 3) (own := RX3) (by decide) rfl rfl (Nat.le_of_ble_eq_true rfl) ?_
  intro pp ee ss mm bw mt cd AA ZZ ls G hret X hl
  have hl : lv_has ls 3 [(0, .ref (Y.2.1 (k)))] := hl
  have hx := G.1
  have hb := G.2.1
  have hts := G.2.2.2.2.1
  have l_f9 := hts (.fieldLink RX3 9 "ShapeFits$Hull" "corner" "[I") (List.mem_of_getElem? (i := 3) rfl)
  have l_f15 := hts (.fieldLink RX3 15 "ShapeFits$Hull" "table" "LShapeFits$GroupTable;") (List.mem_of_getElem? (i := 2) rfl)
  have l_f23 := hts (.fieldLink RX3 23 "ShapeFits$Hull" "count" "I") (List.mem_of_getElem? (i := 1) rfl)
  have in_X3 : ∀ w ∈ u_ws RX3 TX3 4, w ∈ wsX3_draw := by decide +kernel
  refine lv_aload_n hx hb dX3_draw_0 rfl (lv_at hl 0 rfl) ?_
  refine lv_iconst (v := iI 0) hx hb dX3_draw_1 rfl ?_
  refine g_puti G X (k := k) (fs := fHull k Y) (z := 0) hk.k0 hk.2.1 rfl in_X3 tyX3 tyX3_ok nmX3 3 3 (by decide) l_f23 rfl rfl (by decide +kernel) (Nat.le_of_ble_eq_true rfl) (fun _ => rfl) dX3_draw_2 (fun H locs X => ?_)
  have hK0 : HulIs (up σ k 3 0) k [] := ⟨up_same _ _ _ _, fun j h0 h1 => by simp at h1; omega⟩
  have hS0 : SameK σ (up σ k 3 0) k := ⟨fun a h0 h1 => up_ne h0, up_nj (by omega)⟩
  refine lv_iconst (v := iI 0) hx hb dX3_draw_5 rfl ?_
  refine lv_istore_n (lv' := [(1, .int (iI (0))), (0, .ref (Y.2.1 (k)))]) hx hb dX3_draw_6 rfl hl (by decide) rfl (fun ls hl => ?_)
  have lp_7 : ∀ (nn : Nat) (g : Int) (C : List Int) (τ : Mem), ∀ hg : 0 ≤ g ∧ g ≤ n, ∀ hI : HulIs τ k C, ∀ hHg : HullI (fun i j k => side * sD Xf Wf Mf i j k) g C, ∀ hSg : SameK σ τ k, ∀ hdec : (n - g) < (nn : Int), ∀ (H : Heap) (locs : List Loc) (ls : Array Slot), wx LX Y τ ss AA H locs → lv_has ls 3 [(0, .ref (Y.2.1 (k))), (1, .int (iI (g)))] → W pp l ee { frames := 4, cells := 0, slots := 0, locals := 95 } ss mm ([.ref (Y.2.1 (k))] : List Value).toArray bw mt cd H locs 0 0 ZZ (F0 mm 7 ls []) := by
    intro nn
    induction nn with
    | zero =>
      intro g C τ hg hI hHg hSg hdec
      exact absurd hdec (by omega)
    | succ nn ih_7 =>
      intro g C τ hg hI hHg hSg hdec H locs ls X hl
      have hI1 := hI.1
      have hHl := hHg.2.2.2
      refine lv_iload_n hx hb dX3_draw_7 rfl (lv_at hl 1 rfl) ?_
      refine lv_aload_n hx hb dX3_draw_8 rfl (lv_at hl 0 rfl) ?_
      refine g_get G X (k := k) (fs := fHull k Y) hk.k0 hk.2.1 rfl in_X3 0 (by decide) l_f15 rfl (v := .ref (Y.2.1 (38))) rfl dX3_draw_9 ?_
      refine g_callVi G X (rest := [.int (iI (g))]) (As := []) (t_X1_size l Y (τ) n Xf Cf Wf Mf q (hT.sameK hkk hSg.1) (by first | assumption | omega)) (cwV 0 hts gX3_draw_X1_size rfl rfl rfl (by decide +kernel) ⟨Nat.le_of_ble_eq_true rfl, Nat.le_of_ble_eq_true rfl⟩) (k := 38) (Nat.le_of_ble_eq_true rfl) rfl rfl rfl rfl hl.1 rfl (Nat.le_of_ble_eq_true rfl) dX3_draw_12 ⟨Nat.le_refl _, Nat.le_refl _⟩ (fun z12 u12 H locs hq12 X => ?_)
      rw [hq12.1] at X
      have hq12 := hq12.2
      try dsimp only at hq12
      refine g_topi (z' := n) hq12 ?_
      refine g_icmp_ge (tgt := 100) G dX3_draw_15 (by decide) (by omega) (by omega) (fun h15 => ?_) (fun h15 => ?_)
      ·
        exact hret _ _ _ _ _ (⟨C, hI, by rw [show n = g by omega]; exact hHg, hSg⟩) X dX3_draw_100
      ·
        refine lv_aload_n hx hb dX3_draw_18 rfl (lv_at hl 0 rfl) ?_
        refine g_get G X (k := k) (fs := fHull k Y) hk.k0 hk.2.1 rfl in_X3 3 (by decide) l_f23 rfl (v := .int (iI ((τ k 3)))) rfl dX3_draw_19 ?_
        refine lv_bipush (v := iI 12) hx hb dX3_draw_22 (by decide +kernel) ?_
        refine g_icmp_ge (tgt := 100) G dX3_draw_24 (by decide) (by omega) (by omega) (fun h24 => ?_) (fun h24 => ?_)
        ·
          exact absurd h24 (by omega)
        ·
          refine lv_aload_n hx hb dX3_draw_27 rfl (lv_at hl 0 rfl) ?_
          refine g_get G X (k := k) (fs := fHull k Y) hk.k0 hk.2.1 rfl in_X3 3 (by decide) l_f23 rfl (v := .int (iI ((τ k 3)))) rfl dX3_draw_28 ?_
          refine lv_iconst (v := iI 1) hx hb dX3_draw_31 rfl ?_
          refine g_isub G dX3_draw_32 ?_
          refine lv_istore_n (lv' := [(2, .int (iI (((τ k 3) - 1)))), (0, .ref (Y.2.1 (k))), (1, .int (iI (g)))]) hx hb dX3_draw_33 rfl hl (by decide) rfl (fun ls hl => ?_)
          have lp_34 : ∀ (nn : Nat) (la : Int) (C1 : List Int) (ρ : Mem), ∀ hla : la = C1.length - 1, ∀ hJ : HulIs ρ k C1, ∀ hP3 : HP (fun i j k => side * sD Xf Wf Mf i j k) g C1, ∀ hS2 : SameK σ ρ k, ∀ hdec : (la + 1) < (nn : Int), ∀ (H : Heap) (locs : List Loc) (ls : Array Slot), wx LX Y ρ ss AA H locs → lv_has ls 3 [(0, .ref (Y.2.1 (k))), (1, .int (iI (g))), (2, .int (iI (la)))] → W pp l ee { frames := 4, cells := 0, slots := 0, locals := 95 } ss mm ([.ref (Y.2.1 (k))] : List Value).toArray bw mt cd H locs 0 0 ZZ (F0 mm 34 ls []) := by
            intro nn
            induction nn with
            | zero =>
              intro la C1 ρ hla hJ hP3 hS2 hdec
              exact absurd hdec (by omega)
            | succ nn ih_34 =>
              intro la C1 ρ hla hJ hP3 hS2 hdec H locs ls X hl
              have hP34 := hP3.2.2.2
              refine lv_iload_n hx hb dX3_draw_34 rfl (lv_at hl 2 rfl) ?_
              refine g_if_le (tgt := 74) G dX3_draw_35 (by decide) (by omega) (fun h35 => ?_) (fun h35 => ?_)
              ·
                have hbr : C1.length ≤ 1 ∨ (fun i j k => side * sD Xf Wf Mf i j k) (at0 C1 ((C1.length : Int) - 2)) (at0 C1 ((C1.length : Int) - 1)) g < 0 := Or.inl (by omega)
                have hJ1 := hJ.1
                refine lv_aload_n hx hb dX3_draw_74 rfl (lv_at hl 0 rfl) ?_
                refine g_get G X (k := k) (fs := fHull k Y) hk.k0 hk.2.1 rfl in_X3 2 (by decide) l_f9 rfl (v := .ref (Y.2.1 ((k + 1)))) rfl dX3_draw_75 ?_
                refine lv_aload_n hx hb dX3_draw_78 rfl (lv_at hl 0 rfl) ?_
                refine g_get G X (k := k) (fs := fHull k Y) hk.k0 hk.2.1 rfl in_X3 3 (by decide) l_f23 rfl (v := .int (iI ((ρ k 3)))) rfl dX3_draw_79 ?_
                refine lv_iload_n hx hb dX3_draw_82 rfl (lv_at hl 1 rfl) ?_
                refine g_iast G X (k := (k + 1)) (n := 12) hk.k1 hk.2.2 (by decide) (z := (ρ k 3)) (v := g) (by omega) dX3_draw_83 (fun H locs X => ?_)
                refine lv_aload_n hx hb dX3_draw_84 rfl (lv_at hl 0 rfl) ?_
                refine lv_dup hx hb dX3_draw_85 rfl ?_
                refine g_get G X (k := k) (fs := fHull k Y) hk.k0 hk.2.1 rfl in_X3 3 (by decide) l_f23 rfl (v := .int (iI ((ρ k 3)))) (by simp [up, fRow, fHull]) dX3_draw_86 ?_
                refine lv_iconst (v := iI 1) hx hb dX3_draw_89 rfl ?_
                refine g_iadd G dX3_draw_90 ?_
                refine g_puti G X (k := k) (fs := fHull k Y) (z := ((ρ k 3) + 1)) hk.k0 hk.2.1 rfl in_X3 tyX3 tyX3_ok nmX3 3 3 (by decide) l_f23 rfl rfl (by decide +kernel) (Nat.le_of_ble_eq_true rfl) (fun _ => rfl) dX3_draw_91 (fun H locs X => ?_)
                have hpu := hp_push hDL (by omega) hP3 hbr
                have hhu := hul_push (g := g) hJ
                refine lv_iinc (v := iI (g + 1)) (lv' := [(1, .int (iI ((g + 1)))), (0, .ref (Y.2.1 (k))), (2, .int (iI (la)))]) hx hb dX3_draw_94 hl (k := 1) rfl (iI_add _ _) (by decide) rfl (fun ls hl => ?_)
                refine lv_goto (tgt := 7) hx hb dX3_draw_97 (by decide) ?_
                exact ih_7 ((g + 1)) (C1 ++ [g]) ((up (up ρ (k + 1) (ρ k 3) g) k 3 ((ρ k 3) + 1))) (by omega) hhu hpu ⟨fun a h0 h1 => by rw [up_ne h0, up_ne h1]; exact hS2.1 a h0 h1, by rw [up_nj (by omega), up_ne (by omega)]; exact hS2.2⟩ (by omega) _ _ _ X (lv_sub hl [1, 0] rfl)
              ·
                have hv1 := hJ.2 (la - 1) (by omega) (by omega)
                have hv2 := hJ.2 la (by omega) (by omega)
                have hn1 := (hP3.2.2.1 (la - 1) (by omega) (by omega)).1
                rw [show la - 1 + 1 = la by omega] at hn1
                refine lv_aload_n hx hb dX3_draw_38 rfl (lv_at hl 0 rfl) ?_
                refine lv_aload_n hx hb dX3_draw_39 rfl (lv_at hl 0 rfl) ?_
                refine g_get G X (k := k) (fs := fHull k Y) hk.k0 hk.2.1 rfl in_X3 2 (by decide) l_f9 rfl (v := .ref (Y.2.1 ((k + 1)))) rfl dX3_draw_40 ?_
                refine lv_iload_n hx hb dX3_draw_43 rfl (lv_at hl 2 rfl) ?_
                refine lv_iconst (v := iI 1) hx hb dX3_draw_44 rfl ?_
                refine g_isub G dX3_draw_45 ?_
                refine g_iald G X (k := (k + 1)) (n := 12) hk.k1 hk.2.2 (by decide) (z := (la - 1)) (by omega) dX3_draw_46 ?_
                refine g_topi (z' := at0 C1 (la - 1)) hv1 ?_
                refine lv_aload_n hx hb dX3_draw_47 rfl (lv_at hl 0 rfl) ?_
                refine g_get G X (k := k) (fs := fHull k Y) hk.k0 hk.2.1 rfl in_X3 2 (by decide) l_f9 rfl (v := .ref (Y.2.1 ((k + 1)))) rfl dX3_draw_48 ?_
                refine lv_iload_n hx hb dX3_draw_51 rfl (lv_at hl 2 rfl) ?_
                refine g_iald G X (k := (k + 1)) (n := 12) hk.k1 hk.2.2 (by decide) (z := la) (by omega) dX3_draw_52 ?_
                refine g_topi (z' := at0 C1 la) hv2 ?_
                refine lv_iload_n hx hb dX3_draw_53 rfl (lv_at hl 1 rfl) ?_
                refine g_callVi G X (rest := []) (As := [.int (iI ((at0 C1 (la - 1)))), .int (iI ((at0 C1 la))), .int (iI (g))]) (t_X3_bends l Y (ρ) n Xf Cf Wf Mf q (k) ((at0 C1 (la - 1))) ((at0 C1 la)) (g) (side) (hT.sameK hkk hS2.1) (by first | assumption | omega) (by first | assumption | omega) (by first | assumption | omega) (hS2.2.trans hsd) (by first | assumption | omega) (by first | assumption | omega) (by first | assumption | omega)) (cwV 3 hts gX3_draw_X3_bends rfl rfl rfl (by decide +kernel) ⟨Nat.le_of_ble_eq_true rfl, Nat.le_of_ble_eq_true rfl⟩) (k := k) hk.k0 rfl (hk.2.1 _) rfl rfl hl.1 rfl (Nat.le_of_ble_eq_true rfl) dX3_draw_54 ⟨Nat.le_refl _, Nat.le_refl _⟩ (fun z54 u54 H locs hq54 X => ?_)
                rw [hq54.1] at X
                have hq54 := hq54.2
                try dsimp only at hq54
                refine g_if_eq (tgt := 63) G dX3_draw_57 (by decide) (by omega) (fun h57 => ?_) (fun h57 => ?_)
                ·
                  have hpp := hp_pop hDL (by omega) hP3 (by omega) (by rw [show (C1.length : Int) - 2 = la - 1 by omega, show (C1.length : Int) - 1 = la by omega]; rcases hq54 with h9 | h9; exact absurd h9.1 (by omega); exact Int.not_lt.mp h9.2)
                  have hdl : (C1.dropLast.length : Int) = (C1.length : Int) - 1 := by rw [List.length_dropLast]; omega
                  refine lv_aload_n hx hb dX3_draw_63 rfl (lv_at hl 0 rfl) ?_
                  refine lv_iload_n hx hb dX3_draw_64 rfl (lv_at hl 2 rfl) ?_
                  refine g_puti G X (k := k) (fs := fHull k Y) (z := la) hk.k0 hk.2.1 rfl in_X3 tyX3 tyX3_ok nmX3 3 3 (by decide) l_f23 rfl rfl (by decide +kernel) (Nat.le_of_ble_eq_true rfl) (fun _ => rfl) dX3_draw_65 (fun H locs X => ?_)
                  refine lv_iinc (v := iI (la + (-1))) (lv' := [(2, .int (iI ((la + (-1))))), (0, .ref (Y.2.1 (k))), (1, .int (iI (g)))]) hx hb dX3_draw_68 hl (k := 2) rfl (iI_add _ _) (by decide) rfl (fun ls hl => ?_)
                  refine lv_goto (tgt := 34) hx hb dX3_draw_71 (by decide) ?_
                  exact ih_34 ((la + (-1))) (C1.dropLast) ((up ρ k 3 la)) (by omega) (hul_pop hJ hla (by omega)) hpp ⟨fun a h0 h1 => by rw [up_ne h0]; exact hS2.1 a h0 h1, by rw [up_nj (by omega)]; exact hS2.2⟩ (by omega) _ _ _ X (lv_sub hl [1, 2, 0] rfl)
                ·
                  have hbr : C1.length ≤ 1 ∨ (fun i j k => side * sD Xf Wf Mf i j k) (at0 C1 ((C1.length : Int) - 2)) (at0 C1 ((C1.length : Int) - 1)) g < 0 := Or.inr (by rw [show (C1.length : Int) - 2 = la - 1 by omega, show (C1.length : Int) - 1 = la by omega]; rcases hq54 with h9 | h9; exact h9.2; exact absurd h9.1 (by omega))
                  refine lv_goto (tgt := 74) hx hb dX3_draw_60 (by decide) ?_
                  have hJ1 := hJ.1
                  refine lv_aload_n hx hb dX3_draw_74 rfl (lv_at hl 0 rfl) ?_
                  refine g_get G X (k := k) (fs := fHull k Y) hk.k0 hk.2.1 rfl in_X3 2 (by decide) l_f9 rfl (v := .ref (Y.2.1 ((k + 1)))) rfl dX3_draw_75 ?_
                  refine lv_aload_n hx hb dX3_draw_78 rfl (lv_at hl 0 rfl) ?_
                  refine g_get G X (k := k) (fs := fHull k Y) hk.k0 hk.2.1 rfl in_X3 3 (by decide) l_f23 rfl (v := .int (iI ((ρ k 3)))) rfl dX3_draw_79 ?_
                  refine lv_iload_n hx hb dX3_draw_82 rfl (lv_at hl 1 rfl) ?_
                  refine g_iast G X (k := (k + 1)) (n := 12) hk.k1 hk.2.2 (by decide) (z := (ρ k 3)) (v := g) (by omega) dX3_draw_83 (fun H locs X => ?_)
                  refine lv_aload_n hx hb dX3_draw_84 rfl (lv_at hl 0 rfl) ?_
                  refine lv_dup hx hb dX3_draw_85 rfl ?_
                  refine g_get G X (k := k) (fs := fHull k Y) hk.k0 hk.2.1 rfl in_X3 3 (by decide) l_f23 rfl (v := .int (iI ((ρ k 3)))) (by simp [up, fRow, fHull]) dX3_draw_86 ?_
                  refine lv_iconst (v := iI 1) hx hb dX3_draw_89 rfl ?_
                  refine g_iadd G dX3_draw_90 ?_
                  refine g_puti G X (k := k) (fs := fHull k Y) (z := ((ρ k 3) + 1)) hk.k0 hk.2.1 rfl in_X3 tyX3 tyX3_ok nmX3 3 3 (by decide) l_f23 rfl rfl (by decide +kernel) (Nat.le_of_ble_eq_true rfl) (fun _ => rfl) dX3_draw_91 (fun H locs X => ?_)
                  have hpu := hp_push hDL (by omega) hP3 hbr
                  have hhu := hul_push (g := g) hJ
                  refine lv_iinc (v := iI (g + 1)) (lv' := [(1, .int (iI ((g + 1)))), (0, .ref (Y.2.1 (k))), (2, .int (iI (la)))]) hx hb dX3_draw_94 hl (k := 1) rfl (iI_add _ _) (by decide) rfl (fun ls hl => ?_)
                  refine lv_goto (tgt := 7) hx hb dX3_draw_97 (by decide) ?_
                  exact ih_7 ((g + 1)) (C1 ++ [g]) ((up (up ρ (k + 1) (ρ k 3) g) k 3 ((ρ k 3) + 1))) (by omega) hhu hpu ⟨fun a h0 h1 => by rw [up_ne h0, up_ne h1]; exact hS2.1 a h0 h1, by rw [up_nj (by omega), up_ne (by omega)]; exact hS2.2⟩ (by omega) _ _ _ X (lv_sub hl [1, 0] rfl)
          exact lp_34 (((((((τ k 3) - 1)) + 1) : Int).toNat + 1)) (((τ k 3) - 1)) (C) (τ) (by omega) hI (hp_init hHg) hSg (by omega) _ _ _ X (lv_sub hl [1, 2, 0] rfl)
  exact lp_7 ((((n - (0)) : Int).toNat + 1)) (0) ([]) ((up σ k 3 0)) (by omega) hK0 ⟨fun _ => rfl, fun q => by omega, fun i h0 h1 => by simp at h1; omega, by simp⟩ hS0 (by omega) _ _ _ X (lv_sub hl [1, 0] rfl)

